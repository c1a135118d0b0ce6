/-! copyRow__38 -/
def x_copyRow__38 : Nat → Nat → (Nat → Int32) → MS → Option (Int32 × MS)
  | 0, _, _, _ => none
  | k + 1, 0, L, σ => x_copyRow__38 k 1 (upd L 4 ((L 2))) σ
  | k + 1, 1, L, σ => if ((((L 2)) + ((L 3)))) ≤ ((L 4)) then (x_copyRow__38 k 3 L σ) else (if ¬ (((L 4)) < 0 ∨ 8 ≤ ((L 4)).toNatClampNeg) then (ob (x_copied k 0 (upd (fun _ => 0) 1 ((σ.2.2 38 ((L 4)).toNatClampNeg))) σ) (fun r3 => if ¬ (((L 4)) < 0 ∨ 8 ≤ ((L 4)).toNatClampNeg) then (x_copyRow__38 k 2 L (r3.2.1, r3.2.2.1, updG r3.2.2.2 38 (upd (r3.2.2.2 38) ((L 4)).toNatClampNeg r3.1))) else none)) else none)
  | k + 1, 2, L, σ => x_copyRow__38 k 1 (upd L 4 (((L 4)) + 1)) σ
  | k + 1, 3, L, σ => some (0, σ)
  | _ + 1, _ + 4, _, _ => none
def o_x_copyRow__38 : List Cond := [.methodLink RX12 388 yX12_copied, .instanceMethod yX12_copied, .selects RX12 yX12_copied yX12_copied, .initialized RX12]
theorem o_x_copyRow__38_good : o_x_copyRow__38.all goodWord = true := by decide +kernel
def p_x_copyRow__38 : List Cond := o_x_copyRow__38 ++ ((.code yX12_copied cX12_copied 5 (some .int) :: p_x_copied) ++ [])
theorem p_x_copyRow__38_good : p_x_copyRow__38.all goodWord = true := nb_all2 o_x_copyRow__38_good (nb_all2 (nb_allc (by decide +kernel) p_x_copied_good) rfl)
def w_x_copyRow__38 : List Cond := .code yX12_copyRow cX12_copyRow 5 none :: (p_x_copyRow__38 ++ fM)
theorem w_x_copyRow__38_good : w_x_copyRow__38.all goodWord = true := nb_allc (by decide +kernel) (nb_all2 p_x_copyRow__38_good fM_good)
theorem in_x_copyRow__38 : ∀ w ∈ wsX120, w ∈ w_x_copyRow__38 := fun _ h => List.mem_cons_of_mem _ (List.mem_append_right _ h)
theorem hd_x_copyRow__38 : yX12_copyRow.cls = RX12 ∧ yX12_copyRow.cls ≠ "java/lang/invoke/MethodHandle" ∧ yX12_copyRow.cls ≠ "java/lang/invoke/VarHandle" ∧ (parseMethodDescriptor yX12_copyRow.desc).map (fun d => d.parameters.length) = some 3 := by decide +kernel
theorem gg_x_copyRow__38_copied : GoodIn w_x_copyRow__38 w_x_copied := goodIn_sub (fun w h => (List.mem_cons.mp h).elim (fun e => (List.mem_cons_of_mem _ (List.mem_append_left _ (List.mem_append_right _ (List.mem_append_left _ (List.mem_cons.mpr (Or.inl e))))))) (fun h => (List.mem_append.mp h).elim (fun h => (List.mem_cons_of_mem _ (List.mem_append_left _ (List.mem_append_right _ (List.mem_append_left _ (List.mem_cons_of_mem _ h)))))) (fun h => List.mem_cons_of_mem _ (List.mem_append_right _ h)))) w_x_copied_good
theorem g_x_copyRow__38_copied_388 : GoodIn w_x_copyRow__38 (wsV RX12 388 RX12 yX12_copied w_x_copied) := goodIn_app (nb_g4 (List.mem_cons_of_mem _ (List.mem_append_left _ (List.mem_append_left _ (List.mem_of_getElem? (i := 0) rfl)))) (List.mem_cons_of_mem _ (List.mem_append_left _ (List.mem_append_left _ (List.mem_of_getElem? (i := 1) rfl)))) (List.mem_cons_of_mem _ (List.mem_append_left _ (List.mem_append_left _ (List.mem_of_getElem? (i := 2) rfl)))) (List.mem_cons_of_mem _ (List.mem_append_left _ (List.mem_append_left _ (List.mem_of_getElem? (i := 3) rfl)))) (by decide +kernel)) gg_x_copyRow__38_copied
set_option maxHeartbeats 40000000 in
set_option maxRecDepth 100000 in
theorem c_x_copyRow__38 (l : Launch) (dC : Nat → ClassId) (dI : Nat → Nat → Nat) (cy : Nat → ClassId) (a : Nat → Nat) (k0 : Nat) (L0 : Nat → Int32) (σ0 : MS) (r0 : Int32 × MS) (h0 : x_copyRow__38 k0 0 L0 σ0 = some r0) (sz : Nat) : Met l yX12_copyRow w_x_copyRow__38 ({ frames := 1, cells := 0, slots := 0, locals := 24 }) (va_Pc [.ref (a 0), .ref (a 38), .int (L0 2), .int (L0 3)] (nIn (dC, dI) cy sz (vM cy a σ0))) (va_Qv (fun _ : Unit => True) (fun _ t => nOut (dC, dI) cy (va_A (vM cy a σ0) sz) (vM cy a r0.2) t) (va_A (vM cy a σ0) sz)) 0 0 (va_A (vM cy a σ0) sz) := by
  refine Met.ofW (cc := cX12_copyRow) (maxL := 5) (ret := none) (by decide) rfl ?_
  intro p e s m args below meth c s₁ B hml hv
  obtain ⟨rfl, hsz, hP, hK, hD0, hG⟩ := hv
  have hx := B.exec
  have hb := B.bytes
  have hr := B.returns
  have hts := atoms_spec (ws := w_x_copyRow__38) B.pre
  have hown : s.vm.findClass RX12 = some m.cls := findClass_of_methodNamed B.named
  have hlocks := B.notSynchronized
  subst hsz
  have hD := hD0.self (sz := s.heap.size)
  generalize hAe : va_A (vM cy a σ0) s.heap.size = A at hD ⊢
  have hA : ∀ q : Nat, s.heap.size ≤ q → A q := fun q h => by rw [← hAe]; exact Or.inr h
  have hS : va_S A s.heap s.heap [] := va_S.rf
  have hl := lv_entry ([.ref (a 0), .ref (a 38), .int (L0 2), .int (L0 3)]) (n := 5) (Nat.le_of_ble_eq_true rfl)
  rw [lg_entry_eq]
  generalize (lg_sl ([.ref (a 0), .ref (a 38), .int (L0 2), .int (L0 3)]) ++ List.replicate (5 - (lg_sl ([.ref (a 0), .ref (a 38), .int (L0 2), .int (L0 3)])).length) Slot.unset).toArray = ls at hl ⊢
  have hl : lv_has ls 5 [(0, .ref (a 0)), (1, .ref (a 38)), (2, .int (L0 2)), (3, .int (L0 3))] := hl
  have blk : ∀ k : Nat, (bT p l e (headSpec w_x_copyRow__38 ({ frames := 1, cells := 0, slots := 0, locals := 24 })).room s m #[.ref (a 0), .ref (a 38), .int (L0 2), .int (L0 3)] below meth c dC dI cy a A (qV dC dI cy a A below #[.ref (a 0), .ref (a 38), .int (L0 2), .int (L0 3)] s) 5 (x_copyRow__38 k 0) (fun L => [(0, .ref (a 0)), (1, .ref (a 38)), (2, .int (L 2)), (3, .int (L 3))]) 0 (fun L => [])) ∧ (bT p l e (headSpec w_x_copyRow__38 ({ frames := 1, cells := 0, slots := 0, locals := 24 })).room s m #[.ref (a 0), .ref (a 38), .int (L0 2), .int (L0 3)] below meth c dC dI cy a A (qV dC dI cy a A below #[.ref (a 0), .ref (a 38), .int (L0 2), .int (L0 3)] s) 5 (x_copyRow__38 k 1) (fun L => [(0, .ref (a 0)), (1, .ref (a 38)), (2, .int (L 2)), (3, .int (L 3)), (4, .int (L 4))]) 3 (fun L => [])) ∧ (bT p l e (headSpec w_x_copyRow__38 ({ frames := 1, cells := 0, slots := 0, locals := 24 })).room s m #[.ref (a 0), .ref (a 38), .int (L0 2), .int (L0 3)] below meth c dC dI cy a A (qV dC dI cy a A below #[.ref (a 0), .ref (a 38), .int (L0 2), .int (L0 3)] s) 5 (x_copyRow__38 k 2) (fun L => [(0, .ref (a 0)), (1, .ref (a 38)), (2, .int (L 2)), (3, .int (L 3)), (4, .int (L 4))]) 23 (fun L => [])) ∧ (bT p l e (headSpec w_x_copyRow__38 ({ frames := 1, cells := 0, slots := 0, locals := 24 })).room s m #[.ref (a 0), .ref (a 38), .int (L0 2), .int (L0 3)] below meth c dC dI cy a A (qV dC dI cy a A below #[.ref (a 0), .ref (a 38), .int (L0 2), .int (L0 3)] s) 5 (x_copyRow__38 k 3) (fun L => [(0, .ref (a 0)), (1, .ref (a 38)), (2, .int (L 2)), (3, .int (L 3)), (4, .int (L 4))]) 29 (fun L => [])) := by
    intro k
    induction k with
    | zero => exact ⟨fun L σ r h => (by cases h), fun L σ r h => (by cases h), fun L σ r h => (by cases h), fun L σ r h => (by cases h)⟩
    | succ k ih =>
      refine ⟨?_, ?_, ?_, ?_⟩
      · intro L σ r h H locs ls hP hD hS hl
        rw [x_copyRow__38] at h
        refine lv_iload_n hx hb dX12_copyRow_0 rfl (lv_at hl 2 rfl) ?_
        refine lv_istore (lv' := [(4, .int (L 2)), (0, .ref (a 0)), (1, .ref (a 38)), (2, .int (L 2)), (3, .int (L 3))]) hx hb dX12_copyRow_1 hl (by decide) rfl (fun ls hl => ?_)
        exact ih.2.1 (upd L 4 ((L 2))) σ r h H locs ls hP hD hS (lv_sub hl [1, 2, 3, 4, 0] rfl)
      · intro L σ r h H locs ls hP hD hS hl
        rw [x_copyRow__38] at h
        refine lv_iload hx hb dX12_copyRow_3 (lv_at hl 4 rfl) ?_
        refine lv_iload_n hx hb dX12_copyRow_5 rfl (lv_at hl 2 rfl) ?_
        refine lv_iload_n hx hb dX12_copyRow_6 rfl (lv_at hl 3 rfl) ?_
        refine lv_iadd hx hb dX12_copyRow_7 ?_
        refine lv_icmp_ge (tgt := 29) hx hb dX12_copyRow_8 (by decide) (fun c1 => ?_) (fun c1 => ?_)
        · rw [if_pos c1] at h
          exact ih.2.2.2 L σ r h H locs ls hP hD hS (lv_sub hl [0, 1, 2, 3, 4] rfl)
        · rw [if_neg c1] at h
          refine lv_aload_n hx hb dX12_copyRow_11 rfl (lv_at hl 1 rfl) ?_
          refine lv_iload hx hb dX12_copyRow_12 (lv_at hl 4 rfl) ?_
          refine lv_aload_n hx hb dX12_copyRow_14 rfl (lv_at hl 0 rfl) ?_
          refine lv_aload_n hx hb dX12_copyRow_15 rfl (lv_at hl 1 rfl) ?_
          refine lv_iload hx hb dX12_copyRow_16 (lv_at hl 4 rfl) ?_
          obtain ⟨q2, h⟩ := nb_ite1 h
          refine nl_38 hx hb hK hP q2 dX12_copyRow_18 ?_
          obtain ⟨r3, hc3, h⟩ := ob_ex h
          refine nc_Vi (As := [.int (σ.2.2 38 ((L 4)).toNatClampNeg)]) (rest := [.int (L 4), .ref (a 38)]) ⟨hx, hb, hml, hown, hts⟩ (c_x_copied l dC dI cy a k (upd (fun _ => 0) 1 ((σ.2.2 38 ((L 4)).toNatClampNeg))) σ r3 hc3 H.size) (cwV 1 hts g_x_copyRow__38_copied_388 rfl rfl rfl hd_x_copied ⟨Nat.le_of_ble_eq_true rfl, Nat.le_of_ble_eq_true rfl⟩) hK hG hA hP hD hS rfl hl.1 rfl (Nat.le_of_ble_eq_true rfl) dX12_copyRow_19 ⟨Nat.le_refl _, Nat.le_refl _⟩ (fun H locs hP hD hS => ?_)
          obtain ⟨q4, h⟩ := nb_ite1 h
          refine ns_38 hx hb hK hP hD hS q4 dX12_copyRow_22 (fun H locs hP hD hS => ?_)
          exact ih.2.2.1 L (r3.2.1, r3.2.2.1, updG r3.2.2.2 38 (upd (r3.2.2.2 38) ((L 4)).toNatClampNeg r3.1)) r h H locs ls hP hD hS (lv_sub hl [0, 1, 2, 3, 4] rfl)
      · intro L σ r h H locs ls hP hD hS hl
        rw [x_copyRow__38] at h
        refine lv_iinc (v := ((L 4)) + 1) (lv' := [(4, .int (((L 4)) + 1)), (0, .ref (a 0)), (1, .ref (a 38)), (2, .int (L 2)), (3, .int (L 3))]) hx hb dX12_copyRow_23 hl (k := 4) rfl rfl (by decide) rfl (fun ls hl => ?_)
        refine lv_goto (tgt := 3) hx hb dX12_copyRow_26 (by decide) ?_
        exact ih.2.1 (upd L 4 (((L 4)) + 1)) σ r h H locs ls hP hD hS (lv_sub hl [1, 2, 3, 4, 0] rfl)
      · intro L σ r h H locs ls hP hD hS hl
        rw [x_copyRow__38] at h
        cases h
        exact W.vret hx hb hr (fun t ht hW => ⟨⟨(), rfl, trivial, by rw [ht]; exact hP, va_K.moved hW.alike hK, hD⟩, hS.F ht⟩) hS.2.2 dX12_copyRow_29
  exact (blk k0).1 L0 σ0 r0 h0 s.heap [] ls hP hD hS hl
/-! copyRow__40 -/
def x_copyRow__40 : Nat → Nat → (Nat → Int32) → MS → Option (Int32 × MS)
  | 0, _, _, _ => none
  | k + 1, 0, L, σ => x_copyRow__40 k 1 (upd L 4 ((L 2))) σ
  | k + 1, 1, L, σ => if ((((L 2)) + ((L 3)))) ≤ ((L 4)) then (x_copyRow__40 k 3 L σ) else (if ¬ (((L 4)) < 0 ∨ 2 ≤ ((L 4)).toNatClampNeg) then (ob (x_copied k 0 (upd (fun _ => 0) 1 ((σ.2.2 40 ((L 4)).toNatClampNeg))) σ) (fun r3 => if ¬ (((L 4)) < 0 ∨ 2 ≤ ((L 4)).toNatClampNeg) then (x_copyRow__40 k 2 L (r3.2.1, r3.2.2.1, updG r3.2.2.2 40 (upd (r3.2.2.2 40) ((L 4)).toNatClampNeg r3.1))) else none)) else none)
  | k + 1, 2, L, σ => x_copyRow__40 k 1 (upd L 4 (((L 4)) + 1)) σ
  | k + 1, 3, L, σ => some (0, σ)
  | _ + 1, _ + 4, _, _ => none
def o_x_copyRow__40 : List Cond := [.methodLink RX12 388 yX12_copied, .instanceMethod yX12_copied, .selects RX12 yX12_copied yX12_copied, .initialized RX12]
theorem o_x_copyRow__40_good : o_x_copyRow__40.all goodWord = true := by decide +kernel
def p_x_copyRow__40 : List Cond := o_x_copyRow__40 ++ ((.code yX12_copied cX12_copied 5 (some .int) :: p_x_copied) ++ [])
theorem p_x_copyRow__40_good : p_x_copyRow__40.all goodWord = true := nb_all2 o_x_copyRow__40_good (nb_all2 (nb_allc (by decide +kernel) p_x_copied_good) rfl)
def w_x_copyRow__40 : List Cond := .code yX12_copyRow cX12_copyRow 5 none :: (p_x_copyRow__40 ++ fM)
theorem w_x_copyRow__40_good : w_x_copyRow__40.all goodWord = true := nb_allc (by decide +kernel) (nb_all2 p_x_copyRow__40_good fM_good)
theorem in_x_copyRow__40 : ∀ w ∈ wsX120, w ∈ w_x_copyRow__40 := fun _ h => List.mem_cons_of_mem _ (List.mem_append_right _ h)
theorem hd_x_copyRow__40 : yX12_copyRow.cls = RX12 ∧ yX12_copyRow.cls ≠ "java/lang/invoke/MethodHandle" ∧ yX12_copyRow.cls ≠ "java/lang/invoke/VarHandle" ∧ (parseMethodDescriptor yX12_copyRow.desc).map (fun d => d.parameters.length) = some 3 := by decide +kernel
theorem gg_x_copyRow__40_copied : GoodIn w_x_copyRow__40 w_x_copied := goodIn_sub (fun w h => (List.mem_cons.mp h).elim (fun e => (List.mem_cons_of_mem _ (List.mem_append_left _ (List.mem_append_right _ (List.mem_append_left _ (List.mem_cons.mpr (Or.inl e))))))) (fun h => (List.mem_append.mp h).elim (fun h => (List.mem_cons_of_mem _ (List.mem_append_left _ (List.mem_append_right _ (List.mem_append_left _ (List.mem_cons_of_mem _ h)))))) (fun h => List.mem_cons_of_mem _ (List.mem_append_right _ h)))) w_x_copied_good
theorem g_x_copyRow__40_copied_388 : GoodIn w_x_copyRow__40 (wsV RX12 388 RX12 yX12_copied w_x_copied) := goodIn_app (nb_g4 (List.mem_cons_of_mem _ (List.mem_append_left _ (List.mem_append_left _ (List.mem_of_getElem? (i := 0) rfl)))) (List.mem_cons_of_mem _ (List.mem_append_left _ (List.mem_append_left _ (List.mem_of_getElem? (i := 1) rfl)))) (List.mem_cons_of_mem _ (List.mem_append_left _ (List.mem_append_left _ (List.mem_of_getElem? (i := 2) rfl)))) (List.mem_cons_of_mem _ (List.mem_append_left _ (List.mem_append_left _ (List.mem_of_getElem? (i := 3) rfl)))) (by decide +kernel)) gg_x_copyRow__40_copied
set_option maxHeartbeats 40000000 in
set_option maxRecDepth 100000 in
theorem c_x_copyRow__40 (l : Launch) (dC : Nat → ClassId) (dI : Nat → Nat → Nat) (cy : Nat → ClassId) (a : Nat → Nat) (k0 : Nat) (L0 : Nat → Int32) (σ0 : MS) (r0 : Int32 × MS) (h0 : x_copyRow__40 k0 0 L0 σ0 = some r0) (sz : Nat) : Met l yX12_copyRow w_x_copyRow__40 ({ frames := 1, cells := 0, slots := 0, locals := 24 }) (va_Pc [.ref (a 0), .ref (a 40), .int (L0 2), .int (L0 3)] (nIn (dC, dI) cy sz (vM cy a σ0))) (va_Qv (fun _ : Unit => True) (fun _ t => nOut (dC, dI) cy (va_A (vM cy a σ0) sz) (vM cy a r0.2) t) (va_A (vM cy a σ0) sz)) 0 0 (va_A (vM cy a σ0) sz) := by
  refine Met.ofW (cc := cX12_copyRow) (maxL := 5) (ret := none) (by decide) rfl ?_
  intro p e s m args below meth c s₁ B hml hv
  obtain ⟨rfl, hsz, hP, hK, hD0, hG⟩ := hv
  have hx := B.exec
  have hb := B.bytes
  have hr := B.returns
  have hts := atoms_spec (ws := w_x_copyRow__40) B.pre
  have hown : s.vm.findClass RX12 = some m.cls := findClass_of_methodNamed B.named
  have hlocks := B.notSynchronized
  subst hsz
  have hD := hD0.self (sz := s.heap.size)
  generalize hAe : va_A (vM cy a σ0) s.heap.size = A at hD ⊢
  have hA : ∀ q : Nat, s.heap.size ≤ q → A q := fun q h => by rw [← hAe]; exact Or.inr h
  have hS : va_S A s.heap s.heap [] := va_S.rf
  have hl := lv_entry ([.ref (a 0), .ref (a 40), .int (L0 2), .int (L0 3)]) (n := 5) (Nat.le_of_ble_eq_true rfl)
  rw [lg_entry_eq]
  generalize (lg_sl ([.ref (a 0), .ref (a 40), .int (L0 2), .int (L0 3)]) ++ List.replicate (5 - (lg_sl ([.ref (a 0), .ref (a 40), .int (L0 2), .int (L0 3)])).length) Slot.unset).toArray = ls at hl ⊢
  have hl : lv_has ls 5 [(0, .ref (a 0)), (1, .ref (a 40)), (2, .int (L0 2)), (3, .int (L0 3))] := hl
  have blk : ∀ k : Nat, (bT p l e (headSpec w_x_copyRow__40 ({ frames := 1, cells := 0, slots := 0, locals := 24 })).room s m #[.ref (a 0), .ref (a 40), .int (L0 2), .int (L0 3)] below meth c dC dI cy a A (qV dC dI cy a A below #[.ref (a 0), .ref (a 40), .int (L0 2), .int (L0 3)] s) 5 (x_copyRow__40 k 0) (fun L => [(0, .ref (a 0)), (1, .ref (a 40)), (2, .int (L 2)), (3, .int (L 3))]) 0 (fun L => [])) ∧ (bT p l e (headSpec w_x_copyRow__40 ({ frames := 1, cells := 0, slots := 0, locals := 24 })).room s m #[.ref (a 0), .ref (a 40), .int (L0 2), .int (L0 3)] below meth c dC dI cy a A (qV dC dI cy a A below #[.ref (a 0), .ref (a 40), .int (L0 2), .int (L0 3)] s) 5 (x_copyRow__40 k 1) (fun L => [(0, .ref (a 0)), (1, .ref (a 40)), (2, .int (L 2)), (3, .int (L 3)), (4, .int (L 4))]) 3 (fun L => [])) ∧ (bT p l e (headSpec w_x_copyRow__40 ({ frames := 1, cells := 0, slots := 0, locals := 24 })).room s m #[.ref (a 0), .ref (a 40), .int (L0 2), .int (L0 3)] below meth c dC dI cy a A (qV dC dI cy a A below #[.ref (a 0), .ref (a 40), .int (L0 2), .int (L0 3)] s) 5 (x_copyRow__40 k 2) (fun L => [(0, .ref (a 0)), (1, .ref (a 40)), (2, .int (L 2)), (3, .int (L 3)), (4, .int (L 4))]) 23 (fun L => [])) ∧ (bT p l e (headSpec w_x_copyRow__40 ({ frames := 1, cells := 0, slots := 0, locals := 24 })).room s m #[.ref (a 0), .ref (a 40), .int (L0 2), .int (L0 3)] below meth c dC dI cy a A (qV dC dI cy a A below #[.ref (a 0), .ref (a 40), .int (L0 2), .int (L0 3)] s) 5 (x_copyRow__40 k 3) (fun L => [(0, .ref (a 0)), (1, .ref (a 40)), (2, .int (L 2)), (3, .int (L 3)), (4, .int (L 4))]) 29 (fun L => [])) := by
    intro k
    induction k with
    | zero => exact ⟨fun L σ r h => (by cases h), fun L σ r h => (by cases h), fun L σ r h => (by cases h), fun L σ r h => (by cases h)⟩
    | succ k ih =>
      refine ⟨?_, ?_, ?_, ?_⟩
      · intro L σ r h H locs ls hP hD hS hl
        rw [x_copyRow__40] at h
        refine lv_iload_n hx hb dX12_copyRow_0 rfl (lv_at hl 2 rfl) ?_
        refine lv_istore (lv' := [(4, .int (L 2)), (0, .ref (a 0)), (1, .ref (a 40)), (2, .int (L 2)), (3, .int (L 3))]) hx hb dX12_copyRow_1 hl (by decide) rfl (fun ls hl => ?_)
        exact ih.2.1 (upd L 4 ((L 2))) σ r h H locs ls hP hD hS (lv_sub hl [1, 2, 3, 4, 0] rfl)
      · intro L σ r h H locs ls hP hD hS hl
        rw [x_copyRow__40] at h
        refine lv_iload hx hb dX12_copyRow_3 (lv_at hl 4 rfl) ?_
        refine lv_iload_n hx hb dX12_copyRow_5 rfl (lv_at hl 2 rfl) ?_
        refine lv_iload_n hx hb dX12_copyRow_6 rfl (lv_at hl 3 rfl) ?_
        refine lv_iadd hx hb dX12_copyRow_7 ?_
        refine lv_icmp_ge (tgt := 29) hx hb dX12_copyRow_8 (by decide) (fun c1 => ?_) (fun c1 => ?_)
        · rw [if_pos c1] at h
          exact ih.2.2.2 L σ r h H locs ls hP hD hS (lv_sub hl [0, 1, 2, 3, 4] rfl)
        · rw [if_neg c1] at h
          refine lv_aload_n hx hb dX12_copyRow_11 rfl (lv_at hl 1 rfl) ?_
          refine lv_iload hx hb dX12_copyRow_12 (lv_at hl 4 rfl) ?_
          refine lv_aload_n hx hb dX12_copyRow_14 rfl (lv_at hl 0 rfl) ?_
          refine lv_aload_n hx hb dX12_copyRow_15 rfl (lv_at hl 1 rfl) ?_
          refine lv_iload hx hb dX12_copyRow_16 (lv_at hl 4 rfl) ?_
          obtain ⟨q2, h⟩ := nb_ite1 h
          refine nl_40 hx hb hK hP q2 dX12_copyRow_18 ?_
          obtain ⟨r3, hc3, h⟩ := ob_ex h
          refine nc_Vi (As := [.int (σ.2.2 40 ((L 4)).toNatClampNeg)]) (rest := [.int (L 4), .ref (a 40)]) ⟨hx, hb, hml, hown, hts⟩ (c_x_copied l dC dI cy a k (upd (fun _ => 0) 1 ((σ.2.2 40 ((L 4)).toNatClampNeg))) σ r3 hc3 H.size) (cwV 1 hts g_x_copyRow__40_copied_388 rfl rfl rfl hd_x_copied ⟨Nat.le_of_ble_eq_true rfl, Nat.le_of_ble_eq_true rfl⟩) hK hG hA hP hD hS rfl hl.1 rfl (Nat.le_of_ble_eq_true rfl) dX12_copyRow_19 ⟨Nat.le_refl _, Nat.le_refl _⟩ (fun H locs hP hD hS => ?_)
          obtain ⟨q4, h⟩ := nb_ite1 h
          refine ns_40 hx hb hK hP hD hS q4 dX12_copyRow_22 (fun H locs hP hD hS => ?_)
          exact ih.2.2.1 L (r3.2.1, r3.2.2.1, updG r3.2.2.2 40 (upd (r3.2.2.2 40) ((L 4)).toNatClampNeg r3.1)) r h H locs ls hP hD hS (lv_sub hl [0, 1, 2, 3, 4] rfl)
      · intro L σ r h H locs ls hP hD hS hl
        rw [x_copyRow__40] at h
        refine lv_iinc (v := ((L 4)) + 1) (lv' := [(4, .int (((L 4)) + 1)), (0, .ref (a 0)), (1, .ref (a 40)), (2, .int (L 2)), (3, .int (L 3))]) hx hb dX12_copyRow_23 hl (k := 4) rfl rfl (by decide) rfl (fun ls hl => ?_)
        refine lv_goto (tgt := 3) hx hb dX12_copyRow_26 (by decide) ?_
        exact ih.2.1 (upd L 4 (((L 4)) + 1)) σ r h H locs ls hP hD hS (lv_sub hl [1, 2, 3, 4, 0] rfl)
      · intro L σ r h H locs ls hP hD hS hl
        rw [x_copyRow__40] at h
        cases h
        exact W.vret hx hb hr (fun t ht hW => ⟨⟨(), rfl, trivial, by rw [ht]; exact hP, va_K.moved hW.alike hK, hD⟩, hS.F ht⟩) hS.2.2 dX12_copyRow_29
  exact (blk k0).1 L0 σ0 r0 h0 s.heap [] ls hP hD hS hl
/-! copyRow__28 -/
def x_copyRow__28 : Nat → Nat → (Nat → Int32) → MS → Option (Int32 × MS)
  | 0, _, _, _ => none
  | k + 1, 0, L, σ => x_copyRow__28 k 1 (upd L 4 ((L 2))) σ
  | k + 1, 1, L, σ => if ((((L 2)) + ((L 3)))) ≤ ((L 4)) then (x_copyRow__28 k 3 L σ) else (if ¬ (((L 4)) < 0 ∨ 1740000 ≤ ((L 4)).toNatClampNeg) then (ob (x_copied k 0 (upd (fun _ => 0) 1 ((σ.2.2 28 ((L 4)).toNatClampNeg))) σ) (fun r3 => if ¬ (((L 4)) < 0 ∨ 1740000 ≤ ((L 4)).toNatClampNeg) then (x_copyRow__28 k 2 L (r3.2.1, r3.2.2.1, updG r3.2.2.2 28 (upd (r3.2.2.2 28) ((L 4)).toNatClampNeg r3.1))) else none)) else none)
  | k + 1, 2, L, σ => x_copyRow__28 k 1 (upd L 4 (((L 4)) + 1)) σ
  | k + 1, 3, L, σ => some (0, σ)
  | _ + 1, _ + 4, _, _ => none
def o_x_copyRow__28 : List Cond := [.methodLink RX12 388 yX12_copied, .instanceMethod yX12_copied, .selects RX12 yX12_copied yX12_copied, .initialized RX12]
theorem o_x_copyRow__28_good : o_x_copyRow__28.all goodWord = true := by decide +kernel
def p_x_copyRow__28 : List Cond := o_x_copyRow__28 ++ ((.code yX12_copied cX12_copied 5 (some .int) :: p_x_copied) ++ [])
theorem p_x_copyRow__28_good : p_x_copyRow__28.all goodWord = true := nb_all2 o_x_copyRow__28_good (nb_all2 (nb_allc (by decide +kernel) p_x_copied_good) rfl)
def w_x_copyRow__28 : List Cond := .code yX12_copyRow cX12_copyRow 5 none :: (p_x_copyRow__28 ++ fM)
theorem w_x_copyRow__28_good : w_x_copyRow__28.all goodWord = true := nb_allc (by decide +kernel) (nb_all2 p_x_copyRow__28_good fM_good)
theorem in_x_copyRow__28 : ∀ w ∈ wsX120, w ∈ w_x_copyRow__28 := fun _ h => List.mem_cons_of_mem _ (List.mem_append_right _ h)
theorem hd_x_copyRow__28 : yX12_copyRow.cls = RX12 ∧ yX12_copyRow.cls ≠ "java/lang/invoke/MethodHandle" ∧ yX12_copyRow.cls ≠ "java/lang/invoke/VarHandle" ∧ (parseMethodDescriptor yX12_copyRow.desc).map (fun d => d.parameters.length) = some 3 := by decide +kernel
theorem gg_x_copyRow__28_copied : GoodIn w_x_copyRow__28 w_x_copied := goodIn_sub (fun w h => (List.mem_cons.mp h).elim (fun e => (List.mem_cons_of_mem _ (List.mem_append_left _ (List.mem_append_right _ (List.mem_append_left _ (List.mem_cons.mpr (Or.inl e))))))) (fun h => (List.mem_append.mp h).elim (fun h => (List.mem_cons_of_mem _ (List.mem_append_left _ (List.mem_append_right _ (List.mem_append_left _ (List.mem_cons_of_mem _ h)))))) (fun h => List.mem_cons_of_mem _ (List.mem_append_right _ h)))) w_x_copied_good
theorem g_x_copyRow__28_copied_388 : GoodIn w_x_copyRow__28 (wsV RX12 388 RX12 yX12_copied w_x_copied) := goodIn_app (nb_g4 (List.mem_cons_of_mem _ (List.mem_append_left _ (List.mem_append_left _ (List.mem_of_getElem? (i := 0) rfl)))) (List.mem_cons_of_mem _ (List.mem_append_left _ (List.mem_append_left _ (List.mem_of_getElem? (i := 1) rfl)))) (List.mem_cons_of_mem _ (List.mem_append_left _ (List.mem_append_left _ (List.mem_of_getElem? (i := 2) rfl)))) (List.mem_cons_of_mem _ (List.mem_append_left _ (List.mem_append_left _ (List.mem_of_getElem? (i := 3) rfl)))) (by decide +kernel)) gg_x_copyRow__28_copied
set_option maxHeartbeats 40000000 in
set_option maxRecDepth 100000 in
theorem c_x_copyRow__28 (l : Launch) (dC : Nat → ClassId) (dI : Nat → Nat → Nat) (cy : Nat → ClassId) (a : Nat → Nat) (k0 : Nat) (L0 : Nat → Int32) (σ0 : MS) (r0 : Int32 × MS) (h0 : x_copyRow__28 k0 0 L0 σ0 = some r0) (sz : Nat) : Met l yX12_copyRow w_x_copyRow__28 ({ frames := 1, cells := 0, slots := 0, locals := 24 }) (va_Pc [.ref (a 0), .ref (a 28), .int (L0 2), .int (L0 3)] (nIn (dC, dI) cy sz (vM cy a σ0))) (va_Qv (fun _ : Unit => True) (fun _ t => nOut (dC, dI) cy (va_A (vM cy a σ0) sz) (vM cy a r0.2) t) (va_A (vM cy a σ0) sz)) 0 0 (va_A (vM cy a σ0) sz) := by
  refine Met.ofW (cc := cX12_copyRow) (maxL := 5) (ret := none) (by decide) rfl ?_
  intro p e s m args below meth c s₁ B hml hv
  obtain ⟨rfl, hsz, hP, hK, hD0, hG⟩ := hv
  have hx := B.exec
  have hb := B.bytes
  have hr := B.returns
  have hts := atoms_spec (ws := w_x_copyRow__28) B.pre
  have hown : s.vm.findClass RX12 = some m.cls := findClass_of_methodNamed B.named
  have hlocks := B.notSynchronized
  subst hsz
  have hD := hD0.self (sz := s.heap.size)
  generalize hAe : va_A (vM cy a σ0) s.heap.size = A at hD ⊢
  have hA : ∀ q : Nat, s.heap.size ≤ q → A q := fun q h => by rw [← hAe]; exact Or.inr h
  have hS : va_S A s.heap s.heap [] := va_S.rf
  have hl := lv_entry ([.ref (a 0), .ref (a 28), .int (L0 2), .int (L0 3)]) (n := 5) (Nat.le_of_ble_eq_true rfl)
  rw [lg_entry_eq]
  generalize (lg_sl ([.ref (a 0), .ref (a 28), .int (L0 2), .int (L0 3)]) ++ List.replicate (5 - (lg_sl ([.ref (a 0), .ref (a 28), .int (L0 2), .int (L0 3)])).length) Slot.unset).toArray = ls at hl ⊢
  have hl : lv_has ls 5 [(0, .ref (a 0)), (1, .ref (a 28)), (2, .int (L0 2)), (3, .int (L0 3))] := hl
  have blk : ∀ k : Nat, (bT p l e (headSpec w_x_copyRow__28 ({ frames := 1, cells := 0, slots := 0, locals := 24 })).room s m #[.ref (a 0), .ref (a 28), .int (L0 2), .int (L0 3)] below meth c dC dI cy a A (qV dC dI cy a A below #[.ref (a 0), .ref (a 28), .int (L0 2), .int (L0 3)] s) 5 (x_copyRow__28 k 0) (fun L => [(0, .ref (a 0)), (1, .ref (a 28)), (2, .int (L 2)), (3, .int (L 3))]) 0 (fun L => [])) ∧ (bT p l e (headSpec w_x_copyRow__28 ({ frames := 1, cells := 0, slots := 0, locals := 24 })).room s m #[.ref (a 0), .ref (a 28), .int (L0 2), .int (L0 3)] below meth c dC dI cy a A (qV dC dI cy a A below #[.ref (a 0), .ref (a 28), .int (L0 2), .int (L0 3)] s) 5 (x_copyRow__28 k 1) (fun L => [(0, .ref (a 0)), (1, .ref (a 28)), (2, .int (L 2)), (3, .int (L 3)), (4, .int (L 4))]) 3 (fun L => [])) ∧ (bT p l e (headSpec w_x_copyRow__28 ({ frames := 1, cells := 0, slots := 0, locals := 24 })).room s m #[.ref (a 0), .ref (a 28), .int (L0 2), .int (L0 3)] below meth c dC dI cy a A (qV dC dI cy a A below #[.ref (a 0), .ref (a 28), .int (L0 2), .int (L0 3)] s) 5 (x_copyRow__28 k 2) (fun L => [(0, .ref (a 0)), (1, .ref (a 28)), (2, .int (L 2)), (3, .int (L 3)), (4, .int (L 4))]) 23 (fun L => [])) ∧ (bT p l e (headSpec w_x_copyRow__28 ({ frames := 1, cells := 0, slots := 0, locals := 24 })).room s m #[.ref (a 0), .ref (a 28), .int (L0 2), .int (L0 3)] below meth c dC dI cy a A (qV dC dI cy a A below #[.ref (a 0), .ref (a 28), .int (L0 2), .int (L0 3)] s) 5 (x_copyRow__28 k 3) (fun L => [(0, .ref (a 0)), (1, .ref (a 28)), (2, .int (L 2)), (3, .int (L 3)), (4, .int (L 4))]) 29 (fun L => [])) := by
    intro k
    induction k with
    | zero => exact ⟨fun L σ r h => (by cases h), fun L σ r h => (by cases h), fun L σ r h => (by cases h), fun L σ r h => (by cases h)⟩
    | succ k ih =>
      refine ⟨?_, ?_, ?_, ?_⟩
      · intro L σ r h H locs ls hP hD hS hl
        rw [x_copyRow__28] at h
        refine lv_iload_n hx hb dX12_copyRow_0 rfl (lv_at hl 2 rfl) ?_
        refine lv_istore (lv' := [(4, .int (L 2)), (0, .ref (a 0)), (1, .ref (a 28)), (2, .int (L 2)), (3, .int (L 3))]) hx hb dX12_copyRow_1 hl (by decide) rfl (fun ls hl => ?_)
        exact ih.2.1 (upd L 4 ((L 2))) σ r h H locs ls hP hD hS (lv_sub hl [1, 2, 3, 4, 0] rfl)
      · intro L σ r h H locs ls hP hD hS hl
        rw [x_copyRow__28] at h
        refine lv_iload hx hb dX12_copyRow_3 (lv_at hl 4 rfl) ?_
        refine lv_iload_n hx hb dX12_copyRow_5 rfl (lv_at hl 2 rfl) ?_
        refine lv_iload_n hx hb dX12_copyRow_6 rfl (lv_at hl 3 rfl) ?_
        refine lv_iadd hx hb dX12_copyRow_7 ?_
        refine lv_icmp_ge (tgt := 29) hx hb dX12_copyRow_8 (by decide) (fun c1 => ?_) (fun c1 => ?_)
        · rw [if_pos c1] at h
          exact ih.2.2.2 L σ r h H locs ls hP hD hS (lv_sub hl [0, 1, 2, 3, 4] rfl)
        · rw [if_neg c1] at h
          refine lv_aload_n hx hb dX12_copyRow_11 rfl (lv_at hl 1 rfl) ?_
          refine lv_iload hx hb dX12_copyRow_12 (lv_at hl 4 rfl) ?_
          refine lv_aload_n hx hb dX12_copyRow_14 rfl (lv_at hl 0 rfl) ?_
          refine lv_aload_n hx hb dX12_copyRow_15 rfl (lv_at hl 1 rfl) ?_
          refine lv_iload hx hb dX12_copyRow_16 (lv_at hl 4 rfl) ?_
          obtain ⟨q2, h⟩ := nb_ite1 h
          refine nl_28 hx hb hK hP q2 dX12_copyRow_18 ?_
          obtain ⟨r3, hc3, h⟩ := ob_ex h
          refine nc_Vi (As := [.int (σ.2.2 28 ((L 4)).toNatClampNeg)]) (rest := [.int (L 4), .ref (a 28)]) ⟨hx, hb, hml, hown, hts⟩ (c_x_copied l dC dI cy a k (upd (fun _ => 0) 1 ((σ.2.2 28 ((L 4)).toNatClampNeg))) σ r3 hc3 H.size) (cwV 1 hts g_x_copyRow__28_copied_388 rfl rfl rfl hd_x_copied ⟨Nat.le_of_ble_eq_true rfl, Nat.le_of_ble_eq_true rfl⟩) hK hG hA hP hD hS rfl hl.1 rfl (Nat.le_of_ble_eq_true rfl) dX12_copyRow_19 ⟨Nat.le_refl _, Nat.le_refl _⟩ (fun H locs hP hD hS => ?_)
          obtain ⟨q4, h⟩ := nb_ite1 h
          refine ns_28 hx hb hK hP hD hS q4 dX12_copyRow_22 (fun H locs hP hD hS => ?_)
          exact ih.2.2.1 L (r3.2.1, r3.2.2.1, updG r3.2.2.2 28 (upd (r3.2.2.2 28) ((L 4)).toNatClampNeg r3.1)) r h H locs ls hP hD hS (lv_sub hl [0, 1, 2, 3, 4] rfl)
      · intro L σ r h H locs ls hP hD hS hl
        rw [x_copyRow__28] at h
        refine lv_iinc (v := ((L 4)) + 1) (lv' := [(4, .int (((L 4)) + 1)), (0, .ref (a 0)), (1, .ref (a 28)), (2, .int (L 2)), (3, .int (L 3))]) hx hb dX12_copyRow_23 hl (k := 4) rfl rfl (by decide) rfl (fun ls hl => ?_)
        refine lv_goto (tgt := 3) hx hb dX12_copyRow_26 (by decide) ?_
        exact ih.2.1 (upd L 4 (((L 4)) + 1)) σ r h H locs ls hP hD hS (lv_sub hl [1, 2, 3, 4, 0] rfl)
      · intro L σ r h H locs ls hP hD hS hl
        rw [x_copyRow__28] at h
        cases h
        exact W.vret hx hb hr (fun t ht hW => ⟨⟨(), rfl, trivial, by rw [ht]; exact hP, va_K.moved hW.alike hK, hD⟩, hS.F ht⟩) hS.2.2 dX12_copyRow_29
  exact (blk k0).1 L0 σ0 r0 h0 s.heap [] ls hP hD hS hl
/-! sweep -/
def x_sweep : Nat → Nat → (Nat → Int32) → MS → Option (Int32 × MS)
  | 0, _, _, _ => none
  | k + 1, 0, L, σ => if ((L 1)) ≤ ((((σ.1 55)) - ((σ.1 54)))) then (x_sweep k 1 L σ) else (some (0, σ))
  | k + 1, 1, L, σ => if ((σ.1 54)) = 0 then (x_sweep k 3 (upd L 100 870000) σ) else (x_sweep k 2 L σ)
  | k + 1, 2, L, σ => x_sweep k 3 (upd L 100 0) σ
  | k + 1, 3, L, σ => x_sweep k 4 L (upd σ.1 54 ((L 100)), σ.2.1, σ.2.2)
  | k + 1, 4, L, σ => x_sweep k 5 L (upd σ.1 55 ((((σ.1 54)) + 4)), σ.2.1, σ.2.2)
  | k + 1, 5, L, σ => ob (x_copyRow__29 k 0 (upd (upd (fun _ => 0) 2 0) 3 ((σ.1 59))) σ) (fun r1 => ob (x_copyState__30 k 0 (upd (fun _ => 0) 2 0) r1.2) (fun r2 => x_sweep k 6 (upd L 2 0) r2.2))
  | k + 1, 6, L, σ => if ((σ.1 63)) ≤ ((L 2)) then (x_sweep k 7 L σ) else (ob (x_copyState__31 k 0 (upd (fun _ => 0) 2 ((11514 * ((L 2))))) σ) (fun r2 => x_sweep k 6 (upd L 2 (((L 2)) + 1)) r2.2))
  | k + 1, 7, L, σ => ob (x_copyRow__33 k 0 (upd (upd (fun _ => 0) 2 0) 3 1380) σ) (fun r1 => ob (x_copyRow__34 k 0 (upd (upd (fun _ => 0) 2 0) 3 ((r1.2.1 72))) r1.2) (fun r2 => ob (x_copyRow__36 k 0 (upd (upd (fun _ => 0) 2 0) 3 8) r2.2) (fun r3 => ob (x_copyRow__37 k 0 (upd (upd (fun _ => 0) 2 0) 3 8) r3.2) (fun r4 => ob (x_copyRow__38 k 0 (upd (upd (fun _ => 0) 2 0) 3 8) r4.2) (fun r5 => ob (x_copyRow__40 k 0 (upd (upd (fun _ => 0) 2 0) 3 2) r5.2) (fun r6 => x_sweep k 8 (upd L 2 ((((r6.2.1 54)) + 4))) r6.2))))))
  | k + 1, 8, L, σ => if ((σ.1 55)) ≤ ((L 2)) then (x_sweep k 11 L σ) else (if ¬ (((L 2)) < 0 ∨ 1740000 ≤ ((L 2)).toNatClampNeg) then (if ¬ (((((L 2)) + 1)) < 0 ∨ 1740000 ≤ ((((L 2)) + 1)).toNatClampNeg) then (if ((σ.2.2 28 ((L 2)).toNatClampNeg)) = 5 then (x_sweep k 9 (upd (upd L 3 ((σ.2.2 28 ((L 2)).toNatClampNeg))) 4 ((σ.2.2 28 ((((L 2)) + 1)).toNatClampNeg))) σ) else (if ((σ.2.2 28 ((L 2)).toNatClampNeg)) = 6 then (x_sweep k 9 (upd (upd L 3 ((σ.2.2 28 ((L 2)).toNatClampNeg))) 4 ((σ.2.2 28 ((((L 2)) + 1)).toNatClampNeg))) σ) else (x_sweep k 10 (upd (upd L 3 ((σ.2.2 28 ((L 2)).toNatClampNeg))) 4 ((σ.2.2 28 ((((L 2)) + 1)).toNatClampNeg))) σ))) else none) else none)
  | k + 1, 9, L, σ => ob (x_copyRow__28 k 0 (upd (upd (fun _ => 0) 2 ((((L 2)) + 4))) 3 ((L 4))) σ) (fun r1 => x_sweep k 10 L r1.2)
  | k + 1, 10, L, σ => x_sweep k 8 (upd L 2 ((((L 2)) + ((4 + ((L 4))))))) σ
  | k + 1, 11, L, σ => some (0, σ)
  | _ + 1, _ + 12, _, _ => none
def o_x_sweep : List Cond := [.fieldLink RX12 375 "SetHouseModel" "high" "I", .fieldLink RX12 378 "SetHouseModel" "base" "I", .constant RX12 381 (870000), .fieldLink RX12 382 "SetHouseModel" "pile" "[I", .fieldLink RX12 385 "SetHouseModel" "top" "I", .methodLink RX12 391 yX12_copyRow, .instanceMethod yX12_copyRow, .selects RX12 yX12_copyRow yX12_copyRow, .initialized RX12, .fieldLink RX12 395 "SetHouseModel" "st" "[I", .methodLink RX12 398 yX12_copyState, .instanceMethod yX12_copyState, .selects RX12 yX12_copyState yX12_copyState, .fieldLink RX12 402 "SetHouseModel" "points" "I", .fieldLink RX12 405 "SetHouseModel" "saved" "[I", .fieldLink RX12 408 "SetHouseModel" "frames" "[I", .fieldLink RX12 411 "SetHouseModel" "evValue" "[I", .fieldLink RX12 414 "SetHouseModel" "evTop" "I", .fieldLink RX12 417 "SetHouseModel" "viewValue" "[I", .fieldLink RX12 420 "SetHouseModel" "viewCame" "[I", .fieldLink RX12 423 "SetHouseModel" "viewWent" "[I", .fieldLink RX12 426 "SetHouseModel" "showns" "[I", .fieldLink RX12 372 "SetHouseModel" "heap" "[I"]
theorem o_x_sweep_good : o_x_sweep.all goodWord = true := by decide +kernel
def p_x_sweep : List Cond := o_x_sweep ++ ((.code yX12_copyRow cX12_copyRow 5 none :: p_x_copyRow__29) ++ ((.code yX12_copyState cX12_copyState 3 none :: p_x_copyState__30) ++ ((.code yX12_copyState cX12_copyState 3 none :: p_x_copyState__31) ++ ((.code yX12_copyRow cX12_copyRow 5 none :: p_x_copyRow__33) ++ ((.code yX12_copyRow cX12_copyRow 5 none :: p_x_copyRow__34) ++ ((.code yX12_copyRow cX12_copyRow 5 none :: p_x_copyRow__36) ++ ((.code yX12_copyRow cX12_copyRow 5 none :: p_x_copyRow__37) ++ ((.code yX12_copyRow cX12_copyRow 5 none :: p_x_copyRow__38) ++ ((.code yX12_copyRow cX12_copyRow 5 none :: p_x_copyRow__40) ++ ((.code yX12_copyRow cX12_copyRow 5 none :: p_x_copyRow__28) ++ []))))))))))
theorem p_x_sweep_good : p_x_sweep.all goodWord = true := nb_all2 o_x_sweep_good (nb_all2 (nb_allc (by decide +kernel) p_x_copyRow__29_good) (nb_all2 (nb_allc (by decide +kernel) p_x_copyState__30_good) (nb_all2 (nb_allc (by decide +kernel) p_x_copyState__31_good) (nb_all2 (nb_allc (by decide +kernel) p_x_copyRow__33_good) (nb_all2 (nb_allc (by decide +kernel) p_x_copyRow__34_good) (nb_all2 (nb_allc (by decide +kernel) p_x_copyRow__36_good) (nb_all2 (nb_allc (by decide +kernel) p_x_copyRow__37_good) (nb_all2 (nb_allc (by decide +kernel) p_x_copyRow__38_good) (nb_all2 (nb_allc (by decide +kernel) p_x_copyRow__40_good) (nb_all2 (nb_allc (by decide +kernel) p_x_copyRow__28_good) rfl))))))))))
def w_x_sweep : List Cond := .code yX12_sweep cX12_sweep 5 none :: (p_x_sweep ++ fM)
theorem w_x_sweep_good : w_x_sweep.all goodWord = true := nb_allc (by decide +kernel) (nb_all2 p_x_sweep_good fM_good)
theorem in_x_sweep : ∀ w ∈ wsX120, w ∈ w_x_sweep := fun _ h => List.mem_cons_of_mem _ (List.mem_append_right _ h)
theorem hd_x_sweep : yX12_sweep.cls = RX12 ∧ yX12_sweep.cls ≠ "java/lang/invoke/MethodHandle" ∧ yX12_sweep.cls ≠ "java/lang/invoke/VarHandle" ∧ (parseMethodDescriptor yX12_sweep.desc).map (fun d => d.parameters.length) = some 1 := by decide +kernel
theorem gg_x_sweep_copyRow__28 : GoodIn w_x_sweep w_x_copyRow__28 := goodIn_sub (fun w h => (List.mem_cons.mp h).elim (fun e => (List.mem_cons_of_mem _ (List.mem_append_left _ (List.mem_append_right _ (List.mem_append_right _ (List.mem_append_right _ (List.mem_append_right _ (List.mem_append_right _ (List.mem_append_right _ (List.mem_append_right _ (List.mem_append_right _ (List.mem_append_right _ (List.mem_append_right _ (List.mem_append_left _ (List.mem_cons.mpr (Or.inl e)))))))))))))))) (fun h => (List.mem_append.mp h).elim (fun h => (List.mem_cons_of_mem _ (List.mem_append_left _ (List.mem_append_right _ (List.mem_append_right _ (List.mem_append_right _ (List.mem_append_right _ (List.mem_append_right _ (List.mem_append_right _ (List.mem_append_right _ (List.mem_append_right _ (List.mem_append_right _ (List.mem_append_right _ (List.mem_append_left _ (List.mem_cons_of_mem _ h))))))))))))))) (fun h => List.mem_cons_of_mem _ (List.mem_append_right _ h)))) w_x_copyRow__28_good
theorem g_x_sweep_copyRow__28_391 : GoodIn w_x_sweep (wsV RX12 391 RX12 yX12_copyRow w_x_copyRow__28) := goodIn_app (nb_g4 (List.mem_cons_of_mem _ (List.mem_append_left _ (List.mem_append_left _ (List.mem_of_getElem? (i := 5) rfl)))) (List.mem_cons_of_mem _ (List.mem_append_left _ (List.mem_append_left _ (List.mem_of_getElem? (i := 6) rfl)))) (List.mem_cons_of_mem _ (List.mem_append_left _ (List.mem_append_left _ (List.mem_of_getElem? (i := 7) rfl)))) (List.mem_cons_of_mem _ (List.mem_append_left _ (List.mem_append_left _ (List.mem_of_getElem? (i := 8) rfl)))) (by decide +kernel)) gg_x_sweep_copyRow__28
theorem gg_x_sweep_copyRow__29 : GoodIn w_x_sweep w_x_copyRow__29 := goodIn_sub (fun w h => (List.mem_cons.mp h).elim (fun e => (List.mem_cons_of_mem _ (List.mem_append_left _ (List.mem_append_right _ (List.mem_append_left _ (List.mem_cons.mpr (Or.inl e))))))) (fun h => (List.mem_append.mp h).elim (fun h => (List.mem_cons_of_mem _ (List.mem_append_left _ (List.mem_append_right _ (List.mem_append_left _ (List.mem_cons_of_mem _ h)))))) (fun h => List.mem_cons_of_mem _ (List.mem_append_right _ h)))) w_x_copyRow__29_good
theorem g_x_sweep_copyRow__29_391 : GoodIn w_x_sweep (wsV RX12 391 RX12 yX12_copyRow w_x_copyRow__29) := goodIn_app (nb_g4 (List.mem_cons_of_mem _ (List.mem_append_left _ (List.mem_append_left _ (List.mem_of_getElem? (i := 5) rfl)))) (List.mem_cons_of_mem _ (List.mem_append_left _ (List.mem_append_left _ (List.mem_of_getElem? (i := 6) rfl)))) (List.mem_cons_of_mem _ (List.mem_append_left _ (List.mem_append_left _ (List.mem_of_getElem? (i := 7) rfl)))) (List.mem_cons_of_mem _ (List.mem_append_left _ (List.mem_append_left _ (List.mem_of_getElem? (i := 8) rfl)))) (by decide +kernel)) gg_x_sweep_copyRow__29
theorem gg_x_sweep_copyRow__33 : GoodIn w_x_sweep w_x_copyRow__33 := goodIn_sub (fun w h => (List.mem_cons.mp h).elim (fun e => (List.mem_cons_of_mem _ (List.mem_append_left _ (List.mem_append_right _ (List.mem_append_right _ (List.mem_append_right _ (List.mem_append_right _ (List.mem_append_left _ (List.mem_cons.mpr (Or.inl e)))))))))) (fun h => (List.mem_append.mp h).elim (fun h => (List.mem_cons_of_mem _ (List.mem_append_left _ (List.mem_append_right _ (List.mem_append_right _ (List.mem_append_right _ (List.mem_append_right _ (List.mem_append_left _ (List.mem_cons_of_mem _ h))))))))) (fun h => List.mem_cons_of_mem _ (List.mem_append_right _ h)))) w_x_copyRow__33_good
theorem g_x_sweep_copyRow__33_391 : GoodIn w_x_sweep (wsV RX12 391 RX12 yX12_copyRow w_x_copyRow__33) := goodIn_app (nb_g4 (List.mem_cons_of_mem _ (List.mem_append_left _ (List.mem_append_left _ (List.mem_of_getElem? (i := 5) rfl)))) (List.mem_cons_of_mem _ (List.mem_append_left _ (List.mem_append_left _ (List.mem_of_getElem? (i := 6) rfl)))) (List.mem_cons_of_mem _ (List.mem_append_left _ (List.mem_append_left _ (List.mem_of_getElem? (i := 7) rfl)))) (List.mem_cons_of_mem _ (List.mem_append_left _ (List.mem_append_left _ (List.mem_of_getElem? (i := 8) rfl)))) (by decide +kernel)) gg_x_sweep_copyRow__33
theorem gg_x_sweep_copyRow__34 : GoodIn w_x_sweep w_x_copyRow__34 := goodIn_sub (fun w h => (List.mem_cons.mp h).elim (fun e => (List.mem_cons_of_mem _ (List.mem_append_left _ (List.mem_append_right _ (List.mem_append_right _ (List.mem_append_right _ (List.mem_append_right _ (List.mem_append_right _ (List.mem_append_left _ (List.mem_cons.mpr (Or.inl e))))))))))) (fun h => (List.mem_append.mp h).elim (fun h => (List.mem_cons_of_mem _ (List.mem_append_left _ (List.mem_append_right _ (List.mem_append_right _ (List.mem_append_right _ (List.mem_append_right _ (List.mem_append_right _ (List.mem_append_left _ (List.mem_cons_of_mem _ h)))))))))) (fun h => List.mem_cons_of_mem _ (List.mem_append_right _ h)))) w_x_copyRow__34_good
theorem g_x_sweep_copyRow__34_391 : GoodIn w_x_sweep (wsV RX12 391 RX12 yX12_copyRow w_x_copyRow__34) := goodIn_app (nb_g4 (List.mem_cons_of_mem _ (List.mem_append_left _ (List.mem_append_left _ (List.mem_of_getElem? (i := 5) rfl)))) (List.mem_cons_of_mem _ (List.mem_append_left _ (List.mem_append_left _ (List.mem_of_getElem? (i := 6) rfl)))) (List.mem_cons_of_mem _ (List.mem_append_left _ (List.mem_append_left _ (List.mem_of_getElem? (i := 7) rfl)))) (List.mem_cons_of_mem _ (List.mem_append_left _ (List.mem_append_left _ (List.mem_of_getElem? (i := 8) rfl)))) (by decide +kernel)) gg_x_sweep_copyRow__34
theorem gg_x_sweep_copyRow__36 : GoodIn w_x_sweep w_x_copyRow__36 := goodIn_sub (fun w h => (List.mem_cons.mp h).elim (fun e => (List.mem_cons_of_mem _ (List.mem_append_left _ (List.mem_append_right _ (List.mem_append_right _ (List.mem_append_right _ (List.mem_append_right _ (List.mem_append_right _ (List.mem_append_right _ (List.mem_append_left _ (List.mem_cons.mpr (Or.inl e)))))))))))) (fun h => (List.mem_append.mp h).elim (fun h => (List.mem_cons_of_mem _ (List.mem_append_left _ (List.mem_append_right _ (List.mem_append_right _ (List.mem_append_right _ (List.mem_append_right _ (List.mem_append_right _ (List.mem_append_right _ (List.mem_append_left _ (List.mem_cons_of_mem _ h))))))))))) (fun h => List.mem_cons_of_mem _ (List.mem_append_right _ h)))) w_x_copyRow__36_good
theorem g_x_sweep_copyRow__36_391 : GoodIn w_x_sweep (wsV RX12 391 RX12 yX12_copyRow w_x_copyRow__36) := goodIn_app (nb_g4 (List.mem_cons_of_mem _ (List.mem_append_left _ (List.mem_append_left _ (List.mem_of_getElem? (i := 5) rfl)))) (List.mem_cons_of_mem _ (List.mem_append_left _ (List.mem_append_left _ (List.mem_of_getElem? (i := 6) rfl)))) (List.mem_cons_of_mem _ (List.mem_append_left _ (List.mem_append_left _ (List.mem_of_getElem? (i := 7) rfl)))) (List.mem_cons_of_mem _ (List.mem_append_left _ (List.mem_append_left _ (List.mem_of_getElem? (i := 8) rfl)))) (by decide +kernel)) gg_x_sweep_copyRow__36
theorem gg_x_sweep_copyRow__37 : GoodIn w_x_sweep w_x_copyRow__37 := goodIn_sub (fun w h => (List.mem_cons.mp h).elim (fun e => (List.mem_cons_of_mem _ (List.mem_append_left _ (List.mem_append_right _ (List.mem_append_right _ (List.mem_append_right _ (List.mem_append_right _ (List.mem_append_right _ (List.mem_append_right _ (List.mem_append_right _ (List.mem_append_left _ (List.mem_cons.mpr (Or.inl e))))))))))))) (fun h => (List.mem_append.mp h).elim (fun h => (List.mem_cons_of_mem _ (List.mem_append_left _ (List.mem_append_right _ (List.mem_append_right _ (List.mem_append_right _ (List.mem_append_right _ (List.mem_append_right _ (List.mem_append_right _ (List.mem_append_right _ (List.mem_append_left _ (List.mem_cons_of_mem _ h)))))))))))) (fun h => List.mem_cons_of_mem _ (List.mem_append_right _ h)))) w_x_copyRow__37_good
theorem g_x_sweep_copyRow__37_391 : GoodIn w_x_sweep (wsV RX12 391 RX12 yX12_copyRow w_x_copyRow__37) := goodIn_app (nb_g4 (List.mem_cons_of_mem _ (List.mem_append_left _ (List.mem_append_left _ (List.mem_of_getElem? (i := 5) rfl)))) (List.mem_cons_of_mem _ (List.mem_append_left _ (List.mem_append_left _ (List.mem_of_getElem? (i := 6) rfl)))) (List.mem_cons_of_mem _ (List.mem_append_left _ (List.mem_append_left _ (List.mem_of_getElem? (i := 7) rfl)))) (List.mem_cons_of_mem _ (List.mem_append_left _ (List.mem_append_left _ (List.mem_of_getElem? (i := 8) rfl)))) (by decide +kernel)) gg_x_sweep_copyRow__37
theorem gg_x_sweep_copyRow__38 : GoodIn w_x_sweep w_x_copyRow__38 := goodIn_sub (fun w h => (List.mem_cons.mp h).elim (fun e => (List.mem_cons_of_mem _ (List.mem_append_left _ (List.mem_append_right _ (List.mem_append_right _ (List.mem_append_right _ (List.mem_append_right _ (List.mem_append_right _ (List.mem_append_right _ (List.mem_append_right _ (List.mem_append_right _ (List.mem_append_left _ (List.mem_cons.mpr (Or.inl e)))))))))))))) (fun h => (List.mem_append.mp h).elim (fun h => (List.mem_cons_of_mem _ (List.mem_append_left _ (List.mem_append_right _ (List.mem_append_right _ (List.mem_append_right _ (List.mem_append_right _ (List.mem_append_right _ (List.mem_append_right _ (List.mem_append_right _ (List.mem_append_right _ (List.mem_append_left _ (List.mem_cons_of_mem _ h))))))))))))) (fun h => List.mem_cons_of_mem _ (List.mem_append_right _ h)))) w_x_copyRow__38_good
theorem g_x_sweep_copyRow__38_391 : GoodIn w_x_sweep (wsV RX12 391 RX12 yX12_copyRow w_x_copyRow__38) := goodIn_app (nb_g4 (List.mem_cons_of_mem _ (List.mem_append_left _ (List.mem_append_left _ (List.mem_of_getElem? (i := 5) rfl)))) (List.mem_cons_of_mem _ (List.mem_append_left _ (List.mem_append_left _ (List.mem_of_getElem? (i := 6) rfl)))) (List.mem_cons_of_mem _ (List.mem_append_left _ (List.mem_append_left _ (List.mem_of_getElem? (i := 7) rfl)))) (List.mem_cons_of_mem _ (List.mem_append_left _ (List.mem_append_left _ (List.mem_of_getElem? (i := 8) rfl)))) (by decide +kernel)) gg_x_sweep_copyRow__38
theorem gg_x_sweep_copyRow__40 : GoodIn w_x_sweep w_x_copyRow__40 := goodIn_sub (fun w h => (List.mem_cons.mp h).elim (fun e => (List.mem_cons_of_mem _ (List.mem_append_left _ (List.mem_append_right _ (List.mem_append_right _ (List.mem_append_right _ (List.mem_append_right _ (List.mem_append_right _ (List.mem_append_right _ (List.mem_append_right _ (List.mem_append_right _ (List.mem_append_right _ (List.mem_append_left _ (List.mem_cons.mpr (Or.inl e))))))))))))))) (fun h => (List.mem_append.mp h).elim (fun h => (List.mem_cons_of_mem _ (List.mem_append_left _ (List.mem_append_right _ (List.mem_append_right _ (List.mem_append_right _ (List.mem_append_right _ (List.mem_append_right _ (List.mem_append_right _ (List.mem_append_right _ (List.mem_append_right _ (List.mem_append_right _ (List.mem_append_left _ (List.mem_cons_of_mem _ h)))))))))))))) (fun h => List.mem_cons_of_mem _ (List.mem_append_right _ h)))) w_x_copyRow__40_good
theorem g_x_sweep_copyRow__40_391 : GoodIn w_x_sweep (wsV RX12 391 RX12 yX12_copyRow w_x_copyRow__40) := goodIn_app (nb_g4 (List.mem_cons_of_mem _ (List.mem_append_left _ (List.mem_append_left _ (List.mem_of_getElem? (i := 5) rfl)))) (List.mem_cons_of_mem _ (List.mem_append_left _ (List.mem_append_left _ (List.mem_of_getElem? (i := 6) rfl)))) (List.mem_cons_of_mem _ (List.mem_append_left _ (List.mem_append_left _ (List.mem_of_getElem? (i := 7) rfl)))) (List.mem_cons_of_mem _ (List.mem_append_left _ (List.mem_append_left _ (List.mem_of_getElem? (i := 8) rfl)))) (by decide +kernel)) gg_x_sweep_copyRow__40
theorem gg_x_sweep_copyState__30 : GoodIn w_x_sweep w_x_copyState__30 := goodIn_sub (fun w h => (List.mem_cons.mp h).elim (fun e => (List.mem_cons_of_mem _ (List.mem_append_left _ (List.mem_append_right _ (List.mem_append_right _ (List.mem_append_left _ (List.mem_cons.mpr (Or.inl e)))))))) (fun h => (List.mem_append.mp h).elim (fun h => (List.mem_cons_of_mem _ (List.mem_append_left _ (List.mem_append_right _ (List.mem_append_right _ (List.mem_append_left _ (List.mem_cons_of_mem _ h))))))) (fun h => List.mem_cons_of_mem _ (List.mem_append_right _ h)))) w_x_copyState__30_good
theorem g_x_sweep_copyState__30_398 : GoodIn w_x_sweep (wsV RX12 398 RX12 yX12_copyState w_x_copyState__30) := goodIn_app (nb_g4 (List.mem_cons_of_mem _ (List.mem_append_left _ (List.mem_append_left _ (List.mem_of_getElem? (i := 10) rfl)))) (List.mem_cons_of_mem _ (List.mem_append_left _ (List.mem_append_left _ (List.mem_of_getElem? (i := 11) rfl)))) (List.mem_cons_of_mem _ (List.mem_append_left _ (List.mem_append_left _ (List.mem_of_getElem? (i := 12) rfl)))) (List.mem_cons_of_mem _ (List.mem_append_left _ (List.mem_append_left _ (List.mem_of_getElem? (i := 8) rfl)))) (by decide +kernel)) gg_x_sweep_copyState__30
theorem gg_x_sweep_copyState__31 : GoodIn w_x_sweep w_x_copyState__31 := goodIn_sub (fun w h => (List.mem_cons.mp h).elim (fun e => (List.mem_cons_of_mem _ (List.mem_append_left _ (List.mem_append_right _ (List.mem_append_right _ (List.mem_append_right _ (List.mem_append_left _ (List.mem_cons.mpr (Or.inl e))))))))) (fun h => (List.mem_append.mp h).elim (fun h => (List.mem_cons_of_mem _ (List.mem_append_left _ (List.mem_append_right _ (List.mem_append_right _ (List.mem_append_right _ (List.mem_append_left _ (List.mem_cons_of_mem _ h)))))))) (fun h => List.mem_cons_of_mem _ (List.mem_append_right _ h)))) w_x_copyState__31_good
theorem g_x_sweep_copyState__31_398 : GoodIn w_x_sweep (wsV RX12 398 RX12 yX12_copyState w_x_copyState__31) := goodIn_app (nb_g4 (List.mem_cons_of_mem _ (List.mem_append_left _ (List.mem_append_left _ (List.mem_of_getElem? (i := 10) rfl)))) (List.mem_cons_of_mem _ (List.mem_append_left _ (List.mem_append_left _ (List.mem_of_getElem? (i := 11) rfl)))) (List.mem_cons_of_mem _ (List.mem_append_left _ (List.mem_append_left _ (List.mem_of_getElem? (i := 12) rfl)))) (List.mem_cons_of_mem _ (List.mem_append_left _ (List.mem_append_left _ (List.mem_of_getElem? (i := 8) rfl)))) (by decide +kernel)) gg_x_sweep_copyState__31
set_option maxHeartbeats 40000000 in
set_option maxRecDepth 100000 in
theorem c_x_sweep (l : Launch) (dC : Nat → ClassId) (dI : Nat → Nat → Nat) (cy : Nat → ClassId) (a : Nat → Nat) (k0 : Nat) (L0 : Nat → Int32) (σ0 : MS) (r0 : Int32 × MS) (h0 : x_sweep k0 0 L0 σ0 = some r0) (sz : Nat) : Met l yX12_sweep w_x_sweep ({ frames := 3, cells := 0, slots := 0, locals := 70 }) (va_Pc [.ref (a 0), .int (L0 1)] (nIn (dC, dI) cy sz (vM cy a σ0))) (va_Qv (fun _ : Unit => True) (fun _ t => nOut (dC, dI) cy (va_A (vM cy a σ0) sz) (vM cy a r0.2) t) (va_A (vM cy a σ0) sz)) 0 0 (va_A (vM cy a σ0) sz) := by
  refine Met.ofW (cc := cX12_sweep) (maxL := 5) (ret := none) (by decide) rfl ?_
  intro p e s m args below meth c s₁ B hml hv
  obtain ⟨rfl, hsz, hP, hK, hD0, hG⟩ := hv
  have hx := B.exec
  have hb := B.bytes
  have hr := B.returns
  have hts := atoms_spec (ws := w_x_sweep) B.pre
  have hown : s.vm.findClass RX12 = some m.cls := findClass_of_methodNamed B.named
  have hlocks := B.notSynchronized
  subst hsz
  have hD := hD0.self (sz := s.heap.size)
  generalize hAe : va_A (vM cy a σ0) s.heap.size = A at hD ⊢
  have hA : ∀ q : Nat, s.heap.size ≤ q → A q := fun q h => by rw [← hAe]; exact Or.inr h
  have hS : va_S A s.heap s.heap [] := va_S.rf
  have hl := lv_entry ([.ref (a 0), .int (L0 1)]) (n := 5) (Nat.le_of_ble_eq_true rfl)
  rw [lg_entry_eq]
  generalize (lg_sl ([.ref (a 0), .int (L0 1)]) ++ List.replicate (5 - (lg_sl ([.ref (a 0), .int (L0 1)])).length) Slot.unset).toArray = ls at hl ⊢
  have hl : lv_has ls 5 [(0, .ref (a 0)), (1, .int (L0 1))] := hl
  have blk : ∀ k : Nat, (bT p l e (headSpec w_x_sweep ({ frames := 3, cells := 0, slots := 0, locals := 70 })).room s m #[.ref (a 0), .int (L0 1)] below meth c dC dI cy a A (qV dC dI cy a A below #[.ref (a 0), .int (L0 1)] s) 5 (x_sweep k 0) (fun L => [(0, .ref (a 0)), (1, .int (L 1))]) 0 (fun L => [])) ∧ (bT p l e (headSpec w_x_sweep ({ frames := 3, cells := 0, slots := 0, locals := 70 })).room s m #[.ref (a 0), .int (L0 1)] below meth c dC dI cy a A (qV dC dI cy a A below #[.ref (a 0), .int (L0 1)] s) 5 (x_sweep k 1) (fun L => [(0, .ref (a 0)), (1, .int (L 1))]) 14 (fun L => [])) ∧ (bT p l e (headSpec w_x_sweep ({ frames := 3, cells := 0, slots := 0, locals := 70 })).room s m #[.ref (a 0), .int (L0 1)] below meth c dC dI cy a A (qV dC dI cy a A below #[.ref (a 0), .int (L0 1)] s) 5 (x_sweep k 2) (fun L => [(0, .ref (a 0)), (1, .int (L 1))]) 28 (fun L => [.ref (a 0)])) ∧ (bT p l e (headSpec w_x_sweep ({ frames := 3, cells := 0, slots := 0, locals := 70 })).room s m #[.ref (a 0), .int (L0 1)] below meth c dC dI cy a A (qV dC dI cy a A below #[.ref (a 0), .int (L0 1)] s) 5 (x_sweep k 3) (fun L => [(0, .ref (a 0)), (1, .int (L 1))]) 29 (fun L => [.int (L 100), .ref (a 0)])) ∧ (bT p l e (headSpec w_x_sweep ({ frames := 3, cells := 0, slots := 0, locals := 70 })).room s m #[.ref (a 0), .int (L0 1)] below meth c dC dI cy a A (qV dC dI cy a A below #[.ref (a 0), .int (L0 1)] s) 5 (x_sweep k 4) (fun L => [(0, .ref (a 0)), (1, .int (L 1))]) 32 (fun L => [])) ∧ (bT p l e (headSpec w_x_sweep ({ frames := 3, cells := 0, slots := 0, locals := 70 })).room s m #[.ref (a 0), .int (L0 1)] below meth c dC dI cy a A (qV dC dI cy a A below #[.ref (a 0), .int (L0 1)] s) 5 (x_sweep k 5) (fun L => [(0, .ref (a 0)), (1, .int (L 1))]) 42 (fun L => [])) ∧ (bT p l e (headSpec w_x_sweep ({ frames := 3, cells := 0, slots := 0, locals := 70 })).room s m #[.ref (a 0), .int (L0 1)] below meth c dC dI cy a A (qV dC dI cy a A below #[.ref (a 0), .int (L0 1)] s) 5 (x_sweep k 6) (fun L => [(0, .ref (a 0)), (1, .int (L 1)), (2, .int (L 2))]) 66 (fun L => [])) ∧ (bT p l e (headSpec w_x_sweep ({ frames := 3, cells := 0, slots := 0, locals := 70 })).room s m #[.ref (a 0), .int (L0 1)] below meth c dC dI cy a A (qV dC dI cy a A below #[.ref (a 0), .int (L0 1)] s) 5 (x_sweep k 7) (fun L => [(0, .ref (a 0)), (1, .int (L 1)), (2, .int (L 2))]) 93 (fun L => [])) ∧ (bT p l e (headSpec w_x_sweep ({ frames := 3, cells := 0, slots := 0, locals := 70 })).room s m #[.ref (a 0), .int (L0 1)] below meth c dC dI cy a A (qV dC dI cy a A below #[.ref (a 0), .int (L0 1)] s) 5 (x_sweep k 8) (fun L => [(0, .ref (a 0)), (1, .int (L 1)), (2, .int (L 2))]) 168 (fun L => [])) ∧ (bT p l e (headSpec w_x_sweep ({ frames := 3, cells := 0, slots := 0, locals := 70 })).room s m #[.ref (a 0), .int (L0 1)] below meth c dC dI cy a A (qV dC dI cy a A below #[.ref (a 0), .int (L0 1)] s) 5 (x_sweep k 9) (fun L => [(0, .ref (a 0)), (1, .int (L 1)), (2, .int (L 2)), (3, .int (L 3)), (4, .int (L 4))]) 204 (fun L => [])) ∧ (bT p l e (headSpec w_x_sweep ({ frames := 3, cells := 0, slots := 0, locals := 70 })).room s m #[.ref (a 0), .int (L0 1)] below meth c dC dI cy a A (qV dC dI cy a A below #[.ref (a 0), .int (L0 1)] s) 5 (x_sweep k 10) (fun L => [(0, .ref (a 0)), (1, .int (L 1)), (2, .int (L 2)), (3, .int (L 3)), (4, .int (L 4))]) 217 (fun L => [])) ∧ (bT p l e (headSpec w_x_sweep ({ frames := 3, cells := 0, slots := 0, locals := 70 })).room s m #[.ref (a 0), .int (L0 1)] below meth c dC dI cy a A (qV dC dI cy a A below #[.ref (a 0), .int (L0 1)] s) 5 (x_sweep k 11) (fun L => [(0, .ref (a 0)), (1, .int (L 1)), (2, .int (L 2))]) 227 (fun L => [])) := by
    intro k
    induction k with
    | zero => exact ⟨fun L σ r h => (by cases h), fun L σ r h => (by cases h), fun L σ r h => (by cases h), fun L σ r h => (by cases h), fun L σ r h => (by cases h), fun L σ r h => (by cases h), fun L σ r h => (by cases h), fun L σ r h => (by cases h), fun L σ r h => (by cases h), fun L σ r h => (by cases h), fun L σ r h => (by cases h), fun L σ r h => (by cases h)⟩
    | succ k ih =>
      refine ⟨?_, ?_, ?_, ?_, ?_, ?_, ?_, ?_, ?_, ?_, ?_, ?_⟩
      · intro L σ r h H locs ls hP hD hS hl
        rw [x_sweep] at h
        refine lv_aload_n hx hb dX12_sweep_0 rfl (lv_at hl 0 rfl) ?_
        refine ng_55 hx hb hts in_x_sweep hown hK hP (hts _ (List.mem_cons_of_mem _ (List.mem_append_left _ (List.mem_append_left _ (List.mem_of_getElem? (i := 0) rfl))))) dX12_sweep_1 ?_
        refine lv_aload_n hx hb dX12_sweep_4 rfl (lv_at hl 0 rfl) ?_
        refine ng_54 hx hb hts in_x_sweep hown hK hP (hts _ (List.mem_cons_of_mem _ (List.mem_append_left _ (List.mem_append_left _ (List.mem_of_getElem? (i := 1) rfl))))) dX12_sweep_5 ?_
        refine lv_isub hx hb dX12_sweep_8 ?_
        refine lv_iload_n hx hb dX12_sweep_9 rfl (lv_at hl 1 rfl) ?_
        refine lv_icmp_ge (tgt := 14) hx hb dX12_sweep_10 (by decide) (fun c1 => ?_) (fun c1 => ?_)
        · rw [if_pos c1] at h
          exact ih.2.1 L σ r h H locs ls hP hD hS (lv_sub hl [0, 1] rfl)
        · rw [if_neg c1] at h
          cases h
          exact W.vret hx hb hr (fun t ht hW => ⟨⟨(), rfl, trivial, by rw [ht]; exact hP, va_K.moved hW.alike hK, hD⟩, hS.F ht⟩) hS.2.2 dX12_sweep_13
      · intro L σ r h H locs ls hP hD hS hl
        rw [x_sweep] at h
        refine lv_aload_n hx hb dX12_sweep_14 rfl (lv_at hl 0 rfl) ?_
        refine lv_aload_n hx hb dX12_sweep_15 rfl (lv_at hl 0 rfl) ?_
        refine ng_54 hx hb hts in_x_sweep hown hK hP (hts _ (List.mem_cons_of_mem _ (List.mem_append_left _ (List.mem_append_left _ (List.mem_of_getElem? (i := 1) rfl))))) dX12_sweep_16 ?_
        refine lv_if_ne (tgt := 28) hx hb dX12_sweep_19 (by decide) (fun c1 => ?_) (fun c1 => ?_)
        · rw [if_neg c1] at h
          exact ih.2.2.1 L σ r h H locs ls hP hD hS (lv_sub hl [0, 1] rfl)
        · rw [if_pos c1] at h
          refine lv_ldcw (v := 870000) hx hb hown (hts _ (List.mem_cons_of_mem _ (List.mem_append_left _ (List.mem_append_left _ (List.mem_of_getElem? (i := 2) rfl))))) dX12_sweep_22 ?_
          refine lv_goto (tgt := 29) hx hb dX12_sweep_25 (by decide) ?_
          exact ih.2.2.2.1 (upd L 100 870000) σ r h H locs ls hP hD hS (lv_sub hl [0, 1] rfl)
      · intro L σ r h H locs ls hP hD hS hl
        rw [x_sweep] at h
        refine lv_iconst (v := 0) hx hb dX12_sweep_28 (by decide) ?_
        exact ih.2.2.2.1 (upd L 100 0) σ r h H locs ls hP hD hS (lv_sub hl [0, 1] rfl)
      · intro L σ r h H locs ls hP hD hS hl
        rw [x_sweep] at h
        refine np_54 hx hb hts in_x_sweep hown hK hP hD hS (hts _ (List.mem_cons_of_mem _ (List.mem_append_left _ (List.mem_append_left _ (List.mem_of_getElem? (i := 1) rfl))))) dX12_sweep_29 (fun H locs hP hD hS => ?_)
        exact ih.2.2.2.2.1 L (upd σ.1 54 ((L 100)), σ.2.1, σ.2.2) r h H locs ls hP hD hS (lv_sub hl [0, 1] rfl)
      · intro L σ r h H locs ls hP hD hS hl
        rw [x_sweep] at h
        refine lv_aload_n hx hb dX12_sweep_32 rfl (lv_at hl 0 rfl) ?_
        refine lv_aload_n hx hb dX12_sweep_33 rfl (lv_at hl 0 rfl) ?_
        refine ng_54 hx hb hts in_x_sweep hown hK hP (hts _ (List.mem_cons_of_mem _ (List.mem_append_left _ (List.mem_append_left _ (List.mem_of_getElem? (i := 1) rfl))))) dX12_sweep_34 ?_
        refine lv_iconst (v := 4) hx hb dX12_sweep_37 (by decide) ?_
        refine lv_iadd hx hb dX12_sweep_38 ?_
        refine np_55 hx hb hts in_x_sweep hown hK hP hD hS (hts _ (List.mem_cons_of_mem _ (List.mem_append_left _ (List.mem_append_left _ (List.mem_of_getElem? (i := 0) rfl))))) dX12_sweep_39 (fun H locs hP hD hS => ?_)
        exact ih.2.2.2.2.2.1 L (upd σ.1 55 ((((σ.1 54)) + 4)), σ.2.1, σ.2.2) r h H locs ls hP hD hS (lv_sub hl [0, 1] rfl)
      · intro L σ r h H locs ls hP hD hS hl
        rw [x_sweep] at h
        refine lv_aload_n hx hb dX12_sweep_42 rfl (lv_at hl 0 rfl) ?_
        refine lv_aload_n hx hb dX12_sweep_43 rfl (lv_at hl 0 rfl) ?_
        refine ng_58 hx hb hts in_x_sweep hown hK hP (hts _ (List.mem_cons_of_mem _ (List.mem_append_left _ (List.mem_append_left _ (List.mem_of_getElem? (i := 3) rfl))))) dX12_sweep_44 ?_
        refine lv_iconst (v := 0) hx hb dX12_sweep_47 (by decide) ?_
        refine lv_aload_n hx hb dX12_sweep_48 rfl (lv_at hl 0 rfl) ?_
        refine ng_59 hx hb hts in_x_sweep hown hK hP (hts _ (List.mem_cons_of_mem _ (List.mem_append_left _ (List.mem_append_left _ (List.mem_of_getElem? (i := 4) rfl))))) dX12_sweep_49 ?_
        obtain ⟨r1, hc1, h⟩ := ob_ex h
        refine nc_Vv (As := [.ref (a 29), .int 0, .int (σ.1 59)]) (rest := []) ⟨hx, hb, hml, hown, hts⟩ (c_x_copyRow__29 l dC dI cy a k (upd (upd (fun _ => 0) 2 0) 3 ((σ.1 59))) σ r1 hc1 H.size) (cwV 3 hts g_x_sweep_copyRow__29_391 rfl rfl rfl hd_x_copyRow__29 ⟨Nat.le_of_ble_eq_true rfl, Nat.le_of_ble_eq_true rfl⟩) hK hG hA hP hD hS rfl hl.1 rfl (Nat.le_of_ble_eq_true rfl) dX12_sweep_52 ⟨Nat.le_refl _, Nat.le_refl _⟩ (fun H locs hP hD hS => ?_)
        refine lv_aload_n hx hb dX12_sweep_55 rfl (lv_at hl 0 rfl) ?_
        refine lv_aload_n hx hb dX12_sweep_56 rfl (lv_at hl 0 rfl) ?_
        refine ng_60 hx hb hts in_x_sweep hown hK hP (hts _ (List.mem_cons_of_mem _ (List.mem_append_left _ (List.mem_append_left _ (List.mem_of_getElem? (i := 9) rfl))))) dX12_sweep_57 ?_
        refine lv_iconst (v := 0) hx hb dX12_sweep_60 (by decide) ?_
        obtain ⟨r2, hc2, h⟩ := ob_ex h
        refine nc_Vv (As := [.ref (a 30), .int 0]) (rest := []) ⟨hx, hb, hml, hown, hts⟩ (c_x_copyState__30 l dC dI cy a k (upd (fun _ => 0) 2 0) r1.2 r2 hc2 H.size) (cwV 2 hts g_x_sweep_copyState__30_398 rfl rfl rfl hd_x_copyState__30 ⟨Nat.le_of_ble_eq_true rfl, Nat.le_of_ble_eq_true rfl⟩) hK hG hA hP hD hS rfl hl.1 rfl (Nat.le_of_ble_eq_true rfl) dX12_sweep_61 ⟨Nat.le_refl _, Nat.le_refl _⟩ (fun H locs hP hD hS => ?_)
        refine lv_iconst (v := 0) hx hb dX12_sweep_64 (by decide) ?_
        refine lv_istore_n (lv' := [(2, .int 0), (0, .ref (a 0)), (1, .int (L 1))]) hx hb dX12_sweep_65 rfl hl (by decide) rfl (fun ls hl => ?_)
        exact ih.2.2.2.2.2.2.1 (upd L 2 0) r2.2 r h H locs ls hP hD hS (lv_sub hl [1, 2, 0] rfl)
      · intro L σ r h H locs ls hP hD hS hl
        rw [x_sweep] at h
        refine lv_iload_n hx hb dX12_sweep_66 rfl (lv_at hl 2 rfl) ?_
        refine lv_aload_n hx hb dX12_sweep_67 rfl (lv_at hl 0 rfl) ?_
        refine ng_63 hx hb hts in_x_sweep hown hK hP (hts _ (List.mem_cons_of_mem _ (List.mem_append_left _ (List.mem_append_left _ (List.mem_of_getElem? (i := 13) rfl))))) dX12_sweep_68 ?_
        refine lv_icmp_ge (tgt := 93) hx hb dX12_sweep_71 (by decide) (fun c1 => ?_) (fun c1 => ?_)
        · rw [if_pos c1] at h
          exact ih.2.2.2.2.2.2.2.1 L σ r h H locs ls hP hD hS (lv_sub hl [0, 1, 2] rfl)
        · rw [if_neg c1] at h
          refine lv_aload_n hx hb dX12_sweep_74 rfl (lv_at hl 0 rfl) ?_
          refine lv_aload_n hx hb dX12_sweep_75 rfl (lv_at hl 0 rfl) ?_
          refine ng_61 hx hb hts in_x_sweep hown hK hP (hts _ (List.mem_cons_of_mem _ (List.mem_append_left _ (List.mem_append_left _ (List.mem_of_getElem? (i := 14) rfl))))) dX12_sweep_76 ?_
          refine lv_sipush (v := 11514) hx hb dX12_sweep_79 (by decide) ?_
          refine lv_iload_n hx hb dX12_sweep_82 rfl (lv_at hl 2 rfl) ?_
          refine lv_imul hx hb dX12_sweep_83 ?_
          obtain ⟨r2, hc2, h⟩ := ob_ex h
          refine nc_Vv (As := [.ref (a 31), .int (11514 * ((L 2)))]) (rest := []) ⟨hx, hb, hml, hown, hts⟩ (c_x_copyState__31 l dC dI cy a k (upd (fun _ => 0) 2 ((11514 * ((L 2))))) σ r2 hc2 H.size) (cwV 2 hts g_x_sweep_copyState__31_398 rfl rfl rfl hd_x_copyState__31 ⟨Nat.le_of_ble_eq_true rfl, Nat.le_of_ble_eq_true rfl⟩) hK hG hA hP hD hS rfl hl.1 rfl (Nat.le_of_ble_eq_true rfl) dX12_sweep_84 ⟨Nat.le_refl _, Nat.le_refl _⟩ (fun H locs hP hD hS => ?_)
          refine lv_iinc (v := ((L 2)) + 1) (lv' := [(2, .int (((L 2)) + 1)), (0, .ref (a 0)), (1, .int (L 1))]) hx hb dX12_sweep_87 hl (k := 2) rfl rfl (by decide) rfl (fun ls hl => ?_)
          refine lv_goto (tgt := 66) hx hb dX12_sweep_90 (by decide) ?_
          exact ih.2.2.2.2.2.2.1 (upd L 2 (((L 2)) + 1)) r2.2 r h H locs ls hP hD hS (lv_sub hl [1, 2, 0] rfl)
      · intro L σ r h H locs ls hP hD hS hl
        rw [x_sweep] at h
        refine lv_aload_n hx hb dX12_sweep_93 rfl (lv_at hl 0 rfl) ?_
        refine lv_aload_n hx hb dX12_sweep_94 rfl (lv_at hl 0 rfl) ?_
        refine ng_66 hx hb hts in_x_sweep hown hK hP (hts _ (List.mem_cons_of_mem _ (List.mem_append_left _ (List.mem_append_left _ (List.mem_of_getElem? (i := 15) rfl))))) dX12_sweep_95 ?_
        refine lv_iconst (v := 0) hx hb dX12_sweep_98 (by decide) ?_
        refine lv_sipush (v := 1380) hx hb dX12_sweep_99 (by decide) ?_
        obtain ⟨r1, hc1, h⟩ := ob_ex h
        refine nc_Vv (As := [.ref (a 33), .int 0, .int 1380]) (rest := []) ⟨hx, hb, hml, hown, hts⟩ (c_x_copyRow__33 l dC dI cy a k (upd (upd (fun _ => 0) 2 0) 3 1380) σ r1 hc1 H.size) (cwV 3 hts g_x_sweep_copyRow__33_391 rfl rfl rfl hd_x_copyRow__33 ⟨Nat.le_of_ble_eq_true rfl, Nat.le_of_ble_eq_true rfl⟩) hK hG hA hP hD hS rfl hl.1 rfl (Nat.le_of_ble_eq_true rfl) dX12_sweep_102 ⟨Nat.le_refl _, Nat.le_refl _⟩ (fun H locs hP hD hS => ?_)
        refine lv_aload_n hx hb dX12_sweep_105 rfl (lv_at hl 0 rfl) ?_
        refine lv_aload_n hx hb dX12_sweep_106 rfl (lv_at hl 0 rfl) ?_
        refine ng_70 hx hb hts in_x_sweep hown hK hP (hts _ (List.mem_cons_of_mem _ (List.mem_append_left _ (List.mem_append_left _ (List.mem_of_getElem? (i := 16) rfl))))) dX12_sweep_107 ?_
        refine lv_iconst (v := 0) hx hb dX12_sweep_110 (by decide) ?_
        refine lv_aload_n hx hb dX12_sweep_111 rfl (lv_at hl 0 rfl) ?_
        refine ng_72 hx hb hts in_x_sweep hown hK hP (hts _ (List.mem_cons_of_mem _ (List.mem_append_left _ (List.mem_append_left _ (List.mem_of_getElem? (i := 17) rfl))))) dX12_sweep_112 ?_
        obtain ⟨r2, hc2, h⟩ := ob_ex h
        refine nc_Vv (As := [.ref (a 34), .int 0, .int (r1.2.1 72)]) (rest := []) ⟨hx, hb, hml, hown, hts⟩ (c_x_copyRow__34 l dC dI cy a k (upd (upd (fun _ => 0) 2 0) 3 ((r1.2.1 72))) r1.2 r2 hc2 H.size) (cwV 3 hts g_x_sweep_copyRow__34_391 rfl rfl rfl hd_x_copyRow__34 ⟨Nat.le_of_ble_eq_true rfl, Nat.le_of_ble_eq_true rfl⟩) hK hG hA hP hD hS rfl hl.1 rfl (Nat.le_of_ble_eq_true rfl) dX12_sweep_115 ⟨Nat.le_refl _, Nat.le_refl _⟩ (fun H locs hP hD hS => ?_)
        refine lv_aload_n hx hb dX12_sweep_118 rfl (lv_at hl 0 rfl) ?_
        refine lv_aload_n hx hb dX12_sweep_119 rfl (lv_at hl 0 rfl) ?_
        refine ng_74 hx hb hts in_x_sweep hown hK hP (hts _ (List.mem_cons_of_mem _ (List.mem_append_left _ (List.mem_append_left _ (List.mem_of_getElem? (i := 18) rfl))))) dX12_sweep_120 ?_
        refine lv_iconst (v := 0) hx hb dX12_sweep_123 (by decide) ?_
        refine lv_bipush (v := 8) hx hb dX12_sweep_124 (by decide) ?_
        obtain ⟨r3, hc3, h⟩ := ob_ex h
        refine nc_Vv (As := [.ref (a 36), .int 0, .int 8]) (rest := []) ⟨hx, hb, hml, hown, hts⟩ (c_x_copyRow__36 l dC dI cy a k (upd (upd (fun _ => 0) 2 0) 3 8) r2.2 r3 hc3 H.size) (cwV 3 hts g_x_sweep_copyRow__36_391 rfl rfl rfl hd_x_copyRow__36 ⟨Nat.le_of_ble_eq_true rfl, Nat.le_of_ble_eq_true rfl⟩) hK hG hA hP hD hS rfl hl.1 rfl (Nat.le_of_ble_eq_true rfl) dX12_sweep_126 ⟨Nat.le_refl _, Nat.le_refl _⟩ (fun H locs hP hD hS => ?_)
        refine lv_aload_n hx hb dX12_sweep_129 rfl (lv_at hl 0 rfl) ?_
        refine lv_aload_n hx hb dX12_sweep_130 rfl (lv_at hl 0 rfl) ?_
        refine ng_75 hx hb hts in_x_sweep hown hK hP (hts _ (List.mem_cons_of_mem _ (List.mem_append_left _ (List.mem_append_left _ (List.mem_of_getElem? (i := 19) rfl))))) dX12_sweep_131 ?_
        refine lv_iconst (v := 0) hx hb dX12_sweep_134 (by decide) ?_
        refine lv_bipush (v := 8) hx hb dX12_sweep_135 (by decide) ?_
        obtain ⟨r4, hc4, h⟩ := ob_ex h
        refine nc_Vv (As := [.ref (a 37), .int 0, .int 8]) (rest := []) ⟨hx, hb, hml, hown, hts⟩ (c_x_copyRow__37 l dC dI cy a k (upd (upd (fun _ => 0) 2 0) 3 8) r3.2 r4 hc4 H.size) (cwV 3 hts g_x_sweep_copyRow__37_391 rfl rfl rfl hd_x_copyRow__37 ⟨Nat.le_of_ble_eq_true rfl, Nat.le_of_ble_eq_true rfl⟩) hK hG hA hP hD hS rfl hl.1 rfl (Nat.le_of_ble_eq_true rfl) dX12_sweep_137 ⟨Nat.le_refl _, Nat.le_refl _⟩ (fun H locs hP hD hS => ?_)
        refine lv_aload_n hx hb dX12_sweep_140 rfl (lv_at hl 0 rfl) ?_
        refine lv_aload_n hx hb dX12_sweep_141 rfl (lv_at hl 0 rfl) ?_
        refine ng_76 hx hb hts in_x_sweep hown hK hP (hts _ (List.mem_cons_of_mem _ (List.mem_append_left _ (List.mem_append_left _ (List.mem_of_getElem? (i := 20) rfl))))) dX12_sweep_142 ?_
        refine lv_iconst (v := 0) hx hb dX12_sweep_145 (by decide) ?_
        refine lv_bipush (v := 8) hx hb dX12_sweep_146 (by decide) ?_
        obtain ⟨r5, hc5, h⟩ := ob_ex h
        refine nc_Vv (As := [.ref (a 38), .int 0, .int 8]) (rest := []) ⟨hx, hb, hml, hown, hts⟩ (c_x_copyRow__38 l dC dI cy a k (upd (upd (fun _ => 0) 2 0) 3 8) r4.2 r5 hc5 H.size) (cwV 3 hts g_x_sweep_copyRow__38_391 rfl rfl rfl hd_x_copyRow__38 ⟨Nat.le_of_ble_eq_true rfl, Nat.le_of_ble_eq_true rfl⟩) hK hG hA hP hD hS rfl hl.1 rfl (Nat.le_of_ble_eq_true rfl) dX12_sweep_148 ⟨Nat.le_refl _, Nat.le_refl _⟩ (fun H locs hP hD hS => ?_)
        refine lv_aload_n hx hb dX12_sweep_151 rfl (lv_at hl 0 rfl) ?_
        refine lv_aload_n hx hb dX12_sweep_152 rfl (lv_at hl 0 rfl) ?_
        refine ng_78 hx hb hts in_x_sweep hown hK hP (hts _ (List.mem_cons_of_mem _ (List.mem_append_left _ (List.mem_append_left _ (List.mem_of_getElem? (i := 21) rfl))))) dX12_sweep_153 ?_
        refine lv_iconst (v := 0) hx hb dX12_sweep_156 (by decide) ?_
        refine lv_iconst (v := 2) hx hb dX12_sweep_157 (by decide) ?_
        obtain ⟨r6, hc6, h⟩ := ob_ex h
        refine nc_Vv (As := [.ref (a 40), .int 0, .int 2]) (rest := []) ⟨hx, hb, hml, hown, hts⟩ (c_x_copyRow__40 l dC dI cy a k (upd (upd (fun _ => 0) 2 0) 3 2) r5.2 r6 hc6 H.size) (cwV 3 hts g_x_sweep_copyRow__40_391 rfl rfl rfl hd_x_copyRow__40 ⟨Nat.le_of_ble_eq_true rfl, Nat.le_of_ble_eq_true rfl⟩) hK hG hA hP hD hS rfl hl.1 rfl (Nat.le_of_ble_eq_true rfl) dX12_sweep_158 ⟨Nat.le_refl _, Nat.le_refl _⟩ (fun H locs hP hD hS => ?_)
        refine lv_aload_n hx hb dX12_sweep_161 rfl (lv_at hl 0 rfl) ?_
        refine ng_54 hx hb hts in_x_sweep hown hK hP (hts _ (List.mem_cons_of_mem _ (List.mem_append_left _ (List.mem_append_left _ (List.mem_of_getElem? (i := 1) rfl))))) dX12_sweep_162 ?_
        refine lv_iconst (v := 4) hx hb dX12_sweep_165 (by decide) ?_
        refine lv_iadd hx hb dX12_sweep_166 ?_
        refine lv_istore_n (lv' := [(2, .int (((r6.2.1 54)) + 4)), (0, .ref (a 0)), (1, .int (L 1))]) hx hb dX12_sweep_167 rfl hl (by decide) rfl (fun ls hl => ?_)
        exact ih.2.2.2.2.2.2.2.2.1 (upd L 2 ((((r6.2.1 54)) + 4))) r6.2 r h H locs ls hP hD hS (lv_sub hl [1, 2, 0] rfl)
      · intro L σ r h H locs ls hP hD hS hl
        rw [x_sweep] at h
        refine lv_iload_n hx hb dX12_sweep_168 rfl (lv_at hl 2 rfl) ?_
        refine lv_aload_n hx hb dX12_sweep_169 rfl (lv_at hl 0 rfl) ?_
        refine ng_55 hx hb hts in_x_sweep hown hK hP (hts _ (List.mem_cons_of_mem _ (List.mem_append_left _ (List.mem_append_left _ (List.mem_of_getElem? (i := 0) rfl))))) dX12_sweep_170 ?_
        refine lv_icmp_ge (tgt := 227) hx hb dX12_sweep_173 (by decide) (fun c1 => ?_) (fun c1 => ?_)
        · rw [if_pos c1] at h
          exact ih.2.2.2.2.2.2.2.2.2.2.2 L σ r h H locs ls hP hD hS (lv_sub hl [0, 1, 2] rfl)
        · rw [if_neg c1] at h
          refine lv_aload_n hx hb dX12_sweep_176 rfl (lv_at hl 0 rfl) ?_
          refine ng_53 hx hb hts in_x_sweep hown hK hP (hts _ (List.mem_cons_of_mem _ (List.mem_append_left _ (List.mem_append_left _ (List.mem_of_getElem? (i := 22) rfl))))) dX12_sweep_177 ?_
          refine lv_iload_n hx hb dX12_sweep_180 rfl (lv_at hl 2 rfl) ?_
          obtain ⟨q2, h⟩ := nb_ite1 h
          refine nl_28 hx hb hK hP q2 dX12_sweep_181 ?_
          refine lv_istore_n (lv' := [(3, .int (σ.2.2 28 ((L 2)).toNatClampNeg)), (0, .ref (a 0)), (1, .int (L 1)), (2, .int (L 2))]) hx hb dX12_sweep_182 rfl hl (by decide) rfl (fun ls hl => ?_)
          refine lv_aload_n hx hb dX12_sweep_183 rfl (lv_at hl 1 rfl) ?_
          refine ng_53 hx hb hts in_x_sweep hown hK hP (hts _ (List.mem_cons_of_mem _ (List.mem_append_left _ (List.mem_append_left _ (List.mem_of_getElem? (i := 22) rfl))))) dX12_sweep_184 ?_
          refine lv_iload_n hx hb dX12_sweep_187 rfl (lv_at hl 3 rfl) ?_
          refine lv_iconst (v := 1) hx hb dX12_sweep_188 (by decide) ?_
          refine lv_iadd hx hb dX12_sweep_189 ?_
          obtain ⟨q3, h⟩ := nb_ite1 h
          refine nl_28 hx hb hK hP q3 dX12_sweep_190 ?_
          refine lv_istore (lv' := [(4, .int (σ.2.2 28 ((((L 2)) + 1)).toNatClampNeg)), (3, .int (σ.2.2 28 ((L 2)).toNatClampNeg)), (0, .ref (a 0)), (1, .int (L 1)), (2, .int (L 2))]) hx hb dX12_sweep_191 hl (by decide) rfl (fun ls hl => ?_)
          refine lv_iload_n hx hb dX12_sweep_193 rfl (lv_at hl 1 rfl) ?_
          refine lv_iconst (v := 5) hx hb dX12_sweep_194 (by decide) ?_
          refine lv_icmp_eq (tgt := 204) hx hb dX12_sweep_195 (by decide) (fun c4 => ?_) (fun c4 => ?_)
          · rw [if_pos c4] at h
            exact ih.2.2.2.2.2.2.2.2.2.1 (upd (upd L 3 ((σ.2.2 28 ((L 2)).toNatClampNeg))) 4 ((σ.2.2 28 ((((L 2)) + 1)).toNatClampNeg))) σ r h H locs ls hP hD hS (lv_sub hl [2, 3, 4, 1, 0] rfl)
          · rw [if_neg c4] at h
            refine lv_iload_n hx hb dX12_sweep_198 rfl (lv_at hl 1 rfl) ?_
            refine lv_bipush (v := 6) hx hb dX12_sweep_199 (by decide) ?_
            refine lv_icmp_ne (tgt := 217) hx hb dX12_sweep_201 (by decide) (fun c5 => ?_) (fun c5 => ?_)
            · rw [if_neg c5] at h
              exact ih.2.2.2.2.2.2.2.2.2.2.1 (upd (upd L 3 ((σ.2.2 28 ((L 2)).toNatClampNeg))) 4 ((σ.2.2 28 ((((L 2)) + 1)).toNatClampNeg))) σ r h H locs ls hP hD hS (lv_sub hl [2, 3, 4, 1, 0] rfl)
            · rw [if_pos c5] at h
              exact ih.2.2.2.2.2.2.2.2.2.1 (upd (upd L 3 ((σ.2.2 28 ((L 2)).toNatClampNeg))) 4 ((σ.2.2 28 ((((L 2)) + 1)).toNatClampNeg))) σ r h H locs ls hP hD hS (lv_sub hl [2, 3, 4, 1, 0] rfl)
      · intro L σ r h H locs ls hP hD hS hl
        rw [x_sweep] at h
        refine lv_aload_n hx hb dX12_sweep_204 rfl (lv_at hl 0 rfl) ?_
        refine lv_aload_n hx hb dX12_sweep_205 rfl (lv_at hl 0 rfl) ?_
        refine ng_53 hx hb hts in_x_sweep hown hK hP (hts _ (List.mem_cons_of_mem _ (List.mem_append_left _ (List.mem_append_left _ (List.mem_of_getElem? (i := 22) rfl))))) dX12_sweep_206 ?_
        refine lv_iload_n hx hb dX12_sweep_209 rfl (lv_at hl 2 rfl) ?_
        refine lv_iconst (v := 4) hx hb dX12_sweep_210 (by decide) ?_
        refine lv_iadd hx hb dX12_sweep_211 ?_
        refine lv_iload hx hb dX12_sweep_212 (lv_at hl 4 rfl) ?_
        obtain ⟨r1, hc1, h⟩ := ob_ex h
        refine nc_Vv (As := [.ref (a 28), .int (((L 2)) + 4), .int (L 4)]) (rest := []) ⟨hx, hb, hml, hown, hts⟩ (c_x_copyRow__28 l dC dI cy a k (upd (upd (fun _ => 0) 2 ((((L 2)) + 4))) 3 ((L 4))) σ r1 hc1 H.size) (cwV 3 hts g_x_sweep_copyRow__28_391 rfl rfl rfl hd_x_copyRow__28 ⟨Nat.le_of_ble_eq_true rfl, Nat.le_of_ble_eq_true rfl⟩) hK hG hA hP hD hS rfl hl.1 rfl (Nat.le_of_ble_eq_true rfl) dX12_sweep_214 ⟨Nat.le_refl _, Nat.le_refl _⟩ (fun H locs hP hD hS => ?_)
        exact ih.2.2.2.2.2.2.2.2.2.2.1 L r1.2 r h H locs ls hP hD hS (lv_sub hl [0, 1, 2, 3, 4] rfl)
      · intro L σ r h H locs ls hP hD hS hl
        rw [x_sweep] at h
        refine lv_iload_n hx hb dX12_sweep_217 rfl (lv_at hl 2 rfl) ?_
        refine lv_iconst (v := 4) hx hb dX12_sweep_218 (by decide) ?_
        refine lv_iload hx hb dX12_sweep_219 (lv_at hl 4 rfl) ?_
        refine lv_iadd hx hb dX12_sweep_221 ?_
        refine lv_iadd hx hb dX12_sweep_222 ?_
        refine lv_istore_n (lv' := [(2, .int (((L 2)) + ((4 + ((L 4)))))), (0, .ref (a 0)), (1, .int (L 1)), (3, .int (L 3)), (4, .int (L 4))]) hx hb dX12_sweep_223 rfl hl (by decide) rfl (fun ls hl => ?_)
        refine lv_goto (tgt := 168) hx hb dX12_sweep_224 (by decide) ?_
        exact ih.2.2.2.2.2.2.2.2.1 (upd L 2 ((((L 2)) + ((4 + ((L 4))))))) σ r h H locs ls hP hD hS (lv_sub hl [1, 2, 0] rfl)
      · intro L σ r h H locs ls hP hD hS hl
        rw [x_sweep] at h
        cases h
        exact W.vret hx hb hr (fun t ht hW => ⟨⟨(), rfl, trivial, by rw [ht]; exact hP, va_K.moved hW.alike hK, hD⟩, hS.F ht⟩) hS.2.2 dX12_sweep_227
  exact (blk k0).1 L0 σ0 r0 h0 s.heap [] ls hP hD hS hl
/-! checked -/
def x_checked : Nat → Nat → (Nat → Int32) → MS → Option (Int32 × MS)
  | 0, _, _, _ => none
  | k + 1, 0, L, σ => if ((σ.1 56)) = 0 then (if ¬ (((((L 1)) + 2)) < 0 ∨ 1740000 ≤ ((((L 1)) + 2)).toNatClampNeg) then (if 1000 < ((σ.2.2 28 ((((L 1)) + 2)).toNatClampNeg)) then (x_checked k 1 L σ) else (if ¬ (((((L 1)) + 3)) < 0 ∨ 1740000 ≤ ((((L 1)) + 3)).toNatClampNeg) then (if ((σ.2.2 28 ((((L 1)) + 3)).toNatClampNeg)) ≤ 30 then (x_checked k 2 L σ) else (x_checked k 1 L σ)) else none)) else none) else (x_checked k 2 L σ)
  | k + 1, 1, L, σ => ob (x_fail k 0 (upd (fun _ => 0) 1 5) σ) (fun r1 => x_checked k 2 L r1.2)
  | k + 1, 2, L, σ => if ((σ.1 56)) = 0 then (x_checked k 4 (upd L 100 ((L 1))) σ) else (x_checked k 3 L σ)
  | k + 1, 3, L, σ => x_checked k 4 (upd L 100 0) σ
  | k + 1, 4, L, σ => some ((L 100), σ)
  | _ + 1, _ + 5, _, _ => none
def o_x_checked : List Cond := [.fieldLink RX12 362 "SetHouseModel" "err" "I", .fieldLink RX12 372 "SetHouseModel" "heap" "[I", .methodLink RX12 369 yX12_fail, .instanceMethod yX12_fail, .selects RX12 yX12_fail yX12_fail, .initialized RX12]
theorem o_x_checked_good : o_x_checked.all goodWord = true := by decide +kernel
def p_x_checked : List Cond := o_x_checked ++ ((.code yX12_fail cX12_fail 2 none :: p_x_fail) ++ [])
theorem p_x_checked_good : p_x_checked.all goodWord = true := nb_all2 o_x_checked_good (nb_all2 (nb_allc (by decide +kernel) p_x_fail_good) rfl)
def w_x_checked : List Cond := .code yX12_checked cX12_checked 2 (some .int) :: (p_x_checked ++ fM)
theorem w_x_checked_good : w_x_checked.all goodWord = true := nb_allc (by decide +kernel) (nb_all2 p_x_checked_good fM_good)
theorem in_x_checked : ∀ w ∈ wsX120, w ∈ w_x_checked := fun _ h => List.mem_cons_of_mem _ (List.mem_append_right _ h)
theorem hd_x_checked : yX12_checked.cls = RX12 ∧ yX12_checked.cls ≠ "java/lang/invoke/MethodHandle" ∧ yX12_checked.cls ≠ "java/lang/invoke/VarHandle" ∧ (parseMethodDescriptor yX12_checked.desc).map (fun d => d.parameters.length) = some 1 := by decide +kernel
theorem gg_x_checked_fail : GoodIn w_x_checked w_x_fail := goodIn_sub (fun w h => (List.mem_cons.mp h).elim (fun e => (List.mem_cons_of_mem _ (List.mem_append_left _ (List.mem_append_right _ (List.mem_append_left _ (List.mem_cons.mpr (Or.inl e))))))) (fun h => (List.mem_append.mp h).elim (fun h => (List.mem_cons_of_mem _ (List.mem_append_left _ (List.mem_append_right _ (List.mem_append_left _ (List.mem_cons_of_mem _ h)))))) (fun h => List.mem_cons_of_mem _ (List.mem_append_right _ h)))) w_x_fail_good
theorem g_x_checked_fail_369 : GoodIn w_x_checked (wsV RX12 369 RX12 yX12_fail w_x_fail) := goodIn_app (nb_g4 (List.mem_cons_of_mem _ (List.mem_append_left _ (List.mem_append_left _ (List.mem_of_getElem? (i := 2) rfl)))) (List.mem_cons_of_mem _ (List.mem_append_left _ (List.mem_append_left _ (List.mem_of_getElem? (i := 3) rfl)))) (List.mem_cons_of_mem _ (List.mem_append_left _ (List.mem_append_left _ (List.mem_of_getElem? (i := 4) rfl)))) (List.mem_cons_of_mem _ (List.mem_append_left _ (List.mem_append_left _ (List.mem_of_getElem? (i := 5) rfl)))) (by decide +kernel)) gg_x_checked_fail
set_option maxHeartbeats 40000000 in
set_option maxRecDepth 100000 in
theorem c_x_checked (l : Launch) (dC : Nat → ClassId) (dI : Nat → Nat → Nat) (cy : Nat → ClassId) (a : Nat → Nat) (k0 : Nat) (L0 : Nat → Int32) (σ0 : MS) (r0 : Int32 × MS) (h0 : x_checked k0 0 L0 σ0 = some r0) (sz : Nat) : Met l yX12_checked w_x_checked ({ frames := 1, cells := 0, slots := 0, locals := 21 }) (va_Pc [.ref (a 0), .int (L0 1)] (nIn (dC, dI) cy sz (vM cy a σ0))) (va_Qi (fun (z : Int32) (_ : Unit) => z = r0.1) (fun _ t => nOut (dC, dI) cy (va_A (vM cy a σ0) sz) (vM cy a r0.2) t) (va_A (vM cy a σ0) sz)) 0 0 (va_A (vM cy a σ0) sz) := by
  refine Met.ofW (cc := cX12_checked) (maxL := 2) (ret := (some .int)) (by decide) rfl ?_
  intro p e s m args below meth c s₁ B hml hv
  obtain ⟨rfl, hsz, hP, hK, hD0, hG⟩ := hv
  have hx := B.exec
  have hb := B.bytes
  have hr := B.returns
  have hts := atoms_spec (ws := w_x_checked) B.pre
  have hown : s.vm.findClass RX12 = some m.cls := findClass_of_methodNamed B.named
  have hlocks := B.notSynchronized
  subst hsz
  have hD := hD0.self (sz := s.heap.size)
  generalize hAe : va_A (vM cy a σ0) s.heap.size = A at hD ⊢
  have hA : ∀ q : Nat, s.heap.size ≤ q → A q := fun q h => by rw [← hAe]; exact Or.inr h
  have hS : va_S A s.heap s.heap [] := va_S.rf
  have hl := lv_entry ([.ref (a 0), .int (L0 1)]) (n := 2) (Nat.le_of_ble_eq_true rfl)
  rw [lg_entry_eq]
  generalize (lg_sl ([.ref (a 0), .int (L0 1)]) ++ List.replicate (2 - (lg_sl ([.ref (a 0), .int (L0 1)])).length) Slot.unset).toArray = ls at hl ⊢
  have hl : lv_has ls 2 [(0, .ref (a 0)), (1, .int (L0 1))] := hl
  have blk : ∀ k : Nat, (bT p l e (headSpec w_x_checked ({ frames := 1, cells := 0, slots := 0, locals := 21 })).room s m #[.ref (a 0), .int (L0 1)] below meth c dC dI cy a A (qI dC dI cy a A below #[.ref (a 0), .int (L0 1)] s) 2 (x_checked k 0) (fun L => [(0, .ref (a 0)), (1, .int (L 1))]) 0 (fun L => [])) ∧ (bT p l e (headSpec w_x_checked ({ frames := 1, cells := 0, slots := 0, locals := 21 })).room s m #[.ref (a 0), .int (L0 1)] below meth c dC dI cy a A (qI dC dI cy a A below #[.ref (a 0), .int (L0 1)] s) 2 (x_checked k 1) (fun L => [(0, .ref (a 0)), (1, .int (L 1))]) 34 (fun L => [])) ∧ (bT p l e (headSpec w_x_checked ({ frames := 1, cells := 0, slots := 0, locals := 21 })).room s m #[.ref (a 0), .int (L0 1)] below meth c dC dI cy a A (qI dC dI cy a A below #[.ref (a 0), .int (L0 1)] s) 2 (x_checked k 2) (fun L => [(0, .ref (a 0)), (1, .int (L 1))]) 39 (fun L => [])) ∧ (bT p l e (headSpec w_x_checked ({ frames := 1, cells := 0, slots := 0, locals := 21 })).room s m #[.ref (a 0), .int (L0 1)] below meth c dC dI cy a A (qI dC dI cy a A below #[.ref (a 0), .int (L0 1)] s) 2 (x_checked k 3) (fun L => [(0, .ref (a 0)), (1, .int (L 1))]) 50 (fun L => [])) ∧ (bT p l e (headSpec w_x_checked ({ frames := 1, cells := 0, slots := 0, locals := 21 })).room s m #[.ref (a 0), .int (L0 1)] below meth c dC dI cy a A (qI dC dI cy a A below #[.ref (a 0), .int (L0 1)] s) 2 (x_checked k 4) (fun L => [(0, .ref (a 0)), (1, .int (L 1))]) 51 (fun L => [.int (L 100)])) := by
    intro k
    induction k with
    | zero => exact ⟨fun L σ r h => (by cases h), fun L σ r h => (by cases h), fun L σ r h => (by cases h), fun L σ r h => (by cases h), fun L σ r h => (by cases h)⟩
    | succ k ih =>
      refine ⟨?_, ?_, ?_, ?_, ?_⟩
      · intro L σ r h H locs ls hP hD hS hl
        rw [x_checked] at h
        refine lv_aload_n hx hb dX12_checked_0 rfl (lv_at hl 0 rfl) ?_
        refine ng_56 hx hb hts in_x_checked hown hK hP (hts _ (List.mem_cons_of_mem _ (List.mem_append_left _ (List.mem_append_left _ (List.mem_of_getElem? (i := 0) rfl))))) dX12_checked_1 ?_
        refine lv_if_ne (tgt := 39) hx hb dX12_checked_4 (by decide) (fun c1 => ?_) (fun c1 => ?_)
        · rw [if_neg c1] at h
          exact ih.2.2.1 L σ r h H locs ls hP hD hS (lv_sub hl [0, 1] rfl)
        · rw [if_pos c1] at h
          refine lv_aload_n hx hb dX12_checked_7 rfl (lv_at hl 0 rfl) ?_
          refine ng_53 hx hb hts in_x_checked hown hK hP (hts _ (List.mem_cons_of_mem _ (List.mem_append_left _ (List.mem_append_left _ (List.mem_of_getElem? (i := 1) rfl))))) dX12_checked_8 ?_
          refine lv_iload_n hx hb dX12_checked_11 rfl (lv_at hl 1 rfl) ?_
          refine lv_iconst (v := 2) hx hb dX12_checked_12 (by decide) ?_
          refine lv_iadd hx hb dX12_checked_13 ?_
          obtain ⟨q2, h⟩ := nb_ite1 h
          refine nl_28 hx hb hK hP q2 dX12_checked_14 ?_
          refine lv_sipush (v := 1000) hx hb dX12_checked_15 (by decide) ?_
          refine lv_icmp_gt (tgt := 34) hx hb dX12_checked_18 (by decide) (fun c3 => ?_) (fun c3 => ?_)
          · rw [if_pos c3] at h
            exact ih.2.1 L σ r h H locs ls hP hD hS (lv_sub hl [0, 1] rfl)
          · rw [if_neg c3] at h
            refine lv_aload_n hx hb dX12_checked_21 rfl (lv_at hl 0 rfl) ?_
            refine ng_53 hx hb hts in_x_checked hown hK hP (hts _ (List.mem_cons_of_mem _ (List.mem_append_left _ (List.mem_append_left _ (List.mem_of_getElem? (i := 1) rfl))))) dX12_checked_22 ?_
            refine lv_iload_n hx hb dX12_checked_25 rfl (lv_at hl 1 rfl) ?_
            refine lv_iconst (v := 3) hx hb dX12_checked_26 (by decide) ?_
            refine lv_iadd hx hb dX12_checked_27 ?_
            obtain ⟨q4, h⟩ := nb_ite1 h
            refine nl_28 hx hb hK hP q4 dX12_checked_28 ?_
            refine lv_bipush (v := 30) hx hb dX12_checked_29 (by decide) ?_
            refine lv_icmp_le (tgt := 39) hx hb dX12_checked_31 (by decide) (fun c5 => ?_) (fun c5 => ?_)
            · rw [if_pos c5] at h
              exact ih.2.2.1 L σ r h H locs ls hP hD hS (lv_sub hl [0, 1] rfl)
            · rw [if_neg c5] at h
              exact ih.2.1 L σ r h H locs ls hP hD hS (lv_sub hl [0, 1] rfl)
      · intro L σ r h H locs ls hP hD hS hl
        rw [x_checked] at h
        refine lv_aload_n hx hb dX12_checked_34 rfl (lv_at hl 0 rfl) ?_
        refine lv_iconst (v := 5) hx hb dX12_checked_35 (by decide) ?_
        obtain ⟨r1, hc1, h⟩ := ob_ex h
        refine nc_Vv (As := [.int 5]) (rest := []) ⟨hx, hb, hml, hown, hts⟩ (c_x_fail l dC dI cy a k (upd (fun _ => 0) 1 5) σ r1 hc1 H.size) (cwV 1 hts g_x_checked_fail_369 rfl rfl rfl hd_x_fail ⟨Nat.le_of_ble_eq_true rfl, Nat.le_of_ble_eq_true rfl⟩) hK hG hA hP hD hS rfl hl.1 rfl (Nat.le_of_ble_eq_true rfl) dX12_checked_36 ⟨Nat.le_refl _, Nat.le_refl _⟩ (fun H locs hP hD hS => ?_)
        exact ih.2.2.1 L r1.2 r h H locs ls hP hD hS (lv_sub hl [0, 1] rfl)
      · intro L σ r h H locs ls hP hD hS hl
        rw [x_checked] at h
        refine lv_aload_n hx hb dX12_checked_39 rfl (lv_at hl 0 rfl) ?_
        refine ng_56 hx hb hts in_x_checked hown hK hP (hts _ (List.mem_cons_of_mem _ (List.mem_append_left _ (List.mem_append_left _ (List.mem_of_getElem? (i := 0) rfl))))) dX12_checked_40 ?_
        refine lv_if_ne (tgt := 50) hx hb dX12_checked_43 (by decide) (fun c1 => ?_) (fun c1 => ?_)
        · rw [if_neg c1] at h
          exact ih.2.2.2.1 L σ r h H locs ls hP hD hS (lv_sub hl [0, 1] rfl)
        · rw [if_pos c1] at h
          refine lv_iload_n hx hb dX12_checked_46 rfl (lv_at hl 1 rfl) ?_
          refine lv_goto (tgt := 51) hx hb dX12_checked_47 (by decide) ?_
          exact ih.2.2.2.2 (upd L 100 ((L 1))) σ r h H locs ls hP hD hS (lv_sub hl [0, 1] rfl)
      · intro L σ r h H locs ls hP hD hS hl
        rw [x_checked] at h
        refine lv_iconst (v := 0) hx hb dX12_checked_50 (by decide) ?_
        exact ih.2.2.2.2 (upd L 100 0) σ r h H locs ls hP hD hS (lv_sub hl [0, 1] rfl)
      · intro L σ r h H locs ls hP hD hS hl
        rw [x_checked] at h
        cases h
        exact W.iret (v := (L 100)) hx hb hr (fun t ht hW => ⟨⟨(L 100), (), rfl, rfl, by rw [ht]; exact hP, va_K.moved hW.alike hK, hD⟩, hS.F ht⟩) hS.2.2 dX12_checked_51
  exact (blk k0).1 L0 σ0 r0 h0 s.heap [] ls hP hD hS hl
/-! byteString -/
def x_byteString : Nat → Nat → (Nat → Int32) → MS → Option (Int32 × MS)
  | 0, _, _, _ => none
  | k + 1, 0, L, σ => ob (x_make k 0 (upd (upd (fun _ => 0) 1 4) 2 1) σ) (fun r1 => if ((r1.2.1 56)) ≤ 0 then (x_byteString k 1 (upd L 2 r1.1) r1.2) else (some (0, r1.2)))
  | k + 1, 1, L, σ => if ¬ (((((L 2)) + 4)) < 0 ∨ 1740000 ≤ ((((L 2)) + 4)).toNatClampNeg) then (x_byteString k 2 L (σ.1, σ.2.1, updG σ.2.2 28 (upd (σ.2.2 28) ((((L 2)) + 4)).toNatClampNeg ((L 1))))) else none
  | k + 1, 2, L, σ => if ¬ (((((L 2)) + 2)) < 0 ∨ 1740000 ≤ ((((L 2)) + 2)).toNatClampNeg) then (x_byteString k 3 L (σ.1, σ.2.1, updG σ.2.2 28 (upd (σ.2.2 28) ((((L 2)) + 2)).toNatClampNeg 2))) else none
  | k + 1, 3, L, σ => some ((L 2), σ)
  | _ + 1, _ + 4, _, _ => none
def o_x_byteString : List Cond := [.methodLink RX12 429 yX12_make, .instanceMethod yX12_make, .selects RX12 yX12_make yX12_make, .initialized RX12, .fieldLink RX12 362 "SetHouseModel" "err" "I", .fieldLink RX12 372 "SetHouseModel" "heap" "[I"]
theorem o_x_byteString_good : o_x_byteString.all goodWord = true := by decide +kernel
def p_x_byteString : List Cond := o_x_byteString ++ ((.code yX12_make cX12_make 4 (some .int) :: p_x_make) ++ [])
theorem p_x_byteString_good : p_x_byteString.all goodWord = true := nb_all2 o_x_byteString_good (nb_all2 (nb_allc (by decide +kernel) p_x_make_good) rfl)
def w_x_byteString : List Cond := .code yX12_byteString cX12_byteString 3 (some .int) :: (p_x_byteString ++ fM)
theorem w_x_byteString_good : w_x_byteString.all goodWord = true := nb_allc (by decide +kernel) (nb_all2 p_x_byteString_good fM_good)
theorem in_x_byteString : ∀ w ∈ wsX120, w ∈ w_x_byteString := fun _ h => List.mem_cons_of_mem _ (List.mem_append_right _ h)
theorem hd_x_byteString : yX12_byteString.cls = RX12 ∧ yX12_byteString.cls ≠ "java/lang/invoke/MethodHandle" ∧ yX12_byteString.cls ≠ "java/lang/invoke/VarHandle" ∧ (parseMethodDescriptor yX12_byteString.desc).map (fun d => d.parameters.length) = some 1 := by decide +kernel
theorem gg_x_byteString_make : GoodIn w_x_byteString w_x_make := goodIn_sub (fun w h => (List.mem_cons.mp h).elim (fun e => (List.mem_cons_of_mem _ (List.mem_append_left _ (List.mem_append_right _ (List.mem_append_left _ (List.mem_cons.mpr (Or.inl e))))))) (fun h => (List.mem_append.mp h).elim (fun h => (List.mem_cons_of_mem _ (List.mem_append_left _ (List.mem_append_right _ (List.mem_append_left _ (List.mem_cons_of_mem _ h)))))) (fun h => List.mem_cons_of_mem _ (List.mem_append_right _ h)))) w_x_make_good
theorem g_x_byteString_make_429 : GoodIn w_x_byteString (wsV RX12 429 RX12 yX12_make w_x_make) := goodIn_app (nb_g4 (List.mem_cons_of_mem _ (List.mem_append_left _ (List.mem_append_left _ (List.mem_of_getElem? (i := 0) rfl)))) (List.mem_cons_of_mem _ (List.mem_append_left _ (List.mem_append_left _ (List.mem_of_getElem? (i := 1) rfl)))) (List.mem_cons_of_mem _ (List.mem_append_left _ (List.mem_append_left _ (List.mem_of_getElem? (i := 2) rfl)))) (List.mem_cons_of_mem _ (List.mem_append_left _ (List.mem_append_left _ (List.mem_of_getElem? (i := 3) rfl)))) (by decide +kernel)) gg_x_byteString_make
set_option maxHeartbeats 40000000 in
set_option maxRecDepth 100000 in
theorem c_x_byteString (l : Launch) (dC : Nat → ClassId) (dI : Nat → Nat → Nat) (cy : Nat → ClassId) (a : Nat → Nat) (k0 : Nat) (L0 : Nat → Int32) (σ0 : MS) (r0 : Int32 × MS) (h0 : x_byteString k0 0 L0 σ0 = some r0) (sz : Nat) : Met l yX12_byteString w_x_byteString ({ frames := 2, cells := 0, slots := 0, locals := 44 }) (va_Pc [.ref (a 0), .int (L0 1)] (nIn (dC, dI) cy sz (vM cy a σ0))) (va_Qi (fun (z : Int32) (_ : Unit) => z = r0.1) (fun _ t => nOut (dC, dI) cy (va_A (vM cy a σ0) sz) (vM cy a r0.2) t) (va_A (vM cy a σ0) sz)) 0 0 (va_A (vM cy a σ0) sz) := by
  refine Met.ofW (cc := cX12_byteString) (maxL := 3) (ret := (some .int)) (by decide) rfl ?_
  intro p e s m args below meth c s₁ B hml hv
  obtain ⟨rfl, hsz, hP, hK, hD0, hG⟩ := hv
  have hx := B.exec
  have hb := B.bytes
  have hr := B.returns
  have hts := atoms_spec (ws := w_x_byteString) B.pre
  have hown : s.vm.findClass RX12 = some m.cls := findClass_of_methodNamed B.named
  have hlocks := B.notSynchronized
  subst hsz
  have hD := hD0.self (sz := s.heap.size)
  generalize hAe : va_A (vM cy a σ0) s.heap.size = A at hD ⊢
  have hA : ∀ q : Nat, s.heap.size ≤ q → A q := fun q h => by rw [← hAe]; exact Or.inr h
  have hS : va_S A s.heap s.heap [] := va_S.rf
  have hl := lv_entry ([.ref (a 0), .int (L0 1)]) (n := 3) (Nat.le_of_ble_eq_true rfl)
  rw [lg_entry_eq]
  generalize (lg_sl ([.ref (a 0), .int (L0 1)]) ++ List.replicate (3 - (lg_sl ([.ref (a 0), .int (L0 1)])).length) Slot.unset).toArray = ls at hl ⊢
  have hl : lv_has ls 3 [(0, .ref (a 0)), (1, .int (L0 1))] := hl
  have blk : ∀ k : Nat, (bT p l e (headSpec w_x_byteString ({ frames := 2, cells := 0, slots := 0, locals := 44 })).room s m #[.ref (a 0), .int (L0 1)] below meth c dC dI cy a A (qI dC dI cy a A below #[.ref (a 0), .int (L0 1)] s) 3 (x_byteString k 0) (fun L => [(0, .ref (a 0)), (1, .int (L 1))]) 0 (fun L => [])) ∧ (bT p l e (headSpec w_x_byteString ({ frames := 2, cells := 0, slots := 0, locals := 44 })).room s m #[.ref (a 0), .int (L0 1)] below meth c dC dI cy a A (qI dC dI cy a A below #[.ref (a 0), .int (L0 1)] s) 3 (x_byteString k 1) (fun L => [(0, .ref (a 0)), (1, .int (L 1)), (2, .int (L 2))]) 16 (fun L => [])) ∧ (bT p l e (headSpec w_x_byteString ({ frames := 2, cells := 0, slots := 0, locals := 44 })).room s m #[.ref (a 0), .int (L0 1)] below meth c dC dI cy a A (qI dC dI cy a A below #[.ref (a 0), .int (L0 1)] s) 3 (x_byteString k 2) (fun L => [(0, .ref (a 0)), (1, .int (L 1)), (2, .int (L 2))]) 25 (fun L => [])) ∧ (bT p l e (headSpec w_x_byteString ({ frames := 2, cells := 0, slots := 0, locals := 44 })).room s m #[.ref (a 0), .int (L0 1)] below meth c dC dI cy a A (qI dC dI cy a A below #[.ref (a 0), .int (L0 1)] s) 3 (x_byteString k 3) (fun L => [(0, .ref (a 0)), (1, .int (L 1)), (2, .int (L 2))]) 34 (fun L => [])) := by
    intro k
    induction k with
    | zero => exact ⟨fun L σ r h => (by cases h), fun L σ r h => (by cases h), fun L σ r h => (by cases h), fun L σ r h => (by cases h)⟩
    | succ k ih =>
      refine ⟨?_, ?_, ?_, ?_⟩
      · intro L σ r h H locs ls hP hD hS hl
        rw [x_byteString] at h
        refine lv_aload_n hx hb dX12_byteString_0 rfl (lv_at hl 0 rfl) ?_
        refine lv_iconst (v := 4) hx hb dX12_byteString_1 (by decide) ?_
        refine lv_iconst (v := 1) hx hb dX12_byteString_2 (by decide) ?_
        obtain ⟨r1, hc1, h⟩ := ob_ex h
        refine nc_Vi (As := [.int 4, .int 1]) (rest := []) ⟨hx, hb, hml, hown, hts⟩ (c_x_make l dC dI cy a k (upd (upd (fun _ => 0) 1 4) 2 1) σ r1 hc1 H.size) (cwV 2 hts g_x_byteString_make_429 rfl rfl rfl hd_x_make ⟨Nat.le_of_ble_eq_true rfl, Nat.le_of_ble_eq_true rfl⟩) hK hG hA hP hD hS rfl hl.1 rfl (Nat.le_of_ble_eq_true rfl) dX12_byteString_3 ⟨Nat.le_refl _, Nat.le_refl _⟩ (fun H locs hP hD hS => ?_)
        refine lv_istore_n (lv' := [(2, .int r1.1), (0, .ref (a 0)), (1, .int (L 1))]) hx hb dX12_byteString_6 rfl hl (by decide) rfl (fun ls hl => ?_)
        refine lv_aload_n hx hb dX12_byteString_7 rfl (lv_at hl 1 rfl) ?_
        refine ng_56 hx hb hts in_x_byteString hown hK hP (hts _ (List.mem_cons_of_mem _ (List.mem_append_left _ (List.mem_append_left _ (List.mem_of_getElem? (i := 4) rfl))))) dX12_byteString_8 ?_
        refine lv_if_le (tgt := 16) hx hb dX12_byteString_11 (by decide) (fun c2 => ?_) (fun c2 => ?_)
        · rw [if_pos c2] at h
          exact ih.2.1 (upd L 2 r1.1) r1.2 r h H locs ls hP hD hS (lv_sub hl [1, 2, 0] rfl)
        · rw [if_neg c2] at h
          refine lv_iconst (v := 0) hx hb dX12_byteString_14 (by decide) ?_
          cases h
          exact W.iret (v := 0) hx hb hr (fun t ht hW => ⟨⟨0, (), rfl, rfl, by rw [ht]; exact hP, va_K.moved hW.alike hK, hD⟩, hS.F ht⟩) hS.2.2 dX12_byteString_15
      · intro L σ r h H locs ls hP hD hS hl
        rw [x_byteString] at h
        refine lv_aload_n hx hb dX12_byteString_16 rfl (lv_at hl 0 rfl) ?_
        refine ng_53 hx hb hts in_x_byteString hown hK hP (hts _ (List.mem_cons_of_mem _ (List.mem_append_left _ (List.mem_append_left _ (List.mem_of_getElem? (i := 5) rfl))))) dX12_byteString_17 ?_
        refine lv_iload_n hx hb dX12_byteString_20 rfl (lv_at hl 2 rfl) ?_
        refine lv_iconst (v := 4) hx hb dX12_byteString_21 (by decide) ?_
        refine lv_iadd hx hb dX12_byteString_22 ?_
        refine lv_iload_n hx hb dX12_byteString_23 rfl (lv_at hl 1 rfl) ?_
        obtain ⟨q1, h⟩ := nb_ite1 h
        refine ns_28 hx hb hK hP hD hS q1 dX12_byteString_24 (fun H locs hP hD hS => ?_)
        exact ih.2.2.1 L (σ.1, σ.2.1, updG σ.2.2 28 (upd (σ.2.2 28) ((((L 2)) + 4)).toNatClampNeg ((L 1)))) r h H locs ls hP hD hS (lv_sub hl [0, 1, 2] rfl)
      · intro L σ r h H locs ls hP hD hS hl
        rw [x_byteString] at h
        refine lv_aload_n hx hb dX12_byteString_25 rfl (lv_at hl 0 rfl) ?_
        refine ng_53 hx hb hts in_x_byteString hown hK hP (hts _ (List.mem_cons_of_mem _ (List.mem_append_left _ (List.mem_append_left _ (List.mem_of_getElem? (i := 5) rfl))))) dX12_byteString_26 ?_
        refine lv_iload_n hx hb dX12_byteString_29 rfl (lv_at hl 2 rfl) ?_
        refine lv_iconst (v := 2) hx hb dX12_byteString_30 (by decide) ?_
        refine lv_iadd hx hb dX12_byteString_31 ?_
        refine lv_iconst (v := 2) hx hb dX12_byteString_32 (by decide) ?_
        obtain ⟨q1, h⟩ := nb_ite1 h
        refine ns_28 hx hb hK hP hD hS q1 dX12_byteString_33 (fun H locs hP hD hS => ?_)
        exact ih.2.2.2 L (σ.1, σ.2.1, updG σ.2.2 28 (upd (σ.2.2 28) ((((L 2)) + 2)).toNatClampNeg 2)) r h H locs ls hP hD hS (lv_sub hl [0, 1, 2] rfl)
      · intro L σ r h H locs ls hP hD hS hl
        rw [x_byteString] at h
        refine lv_iload_n hx hb dX12_byteString_34 rfl (lv_at hl 2 rfl) ?_
        cases h
        exact W.iret (v := (L 2)) hx hb hr (fun t ht hW => ⟨⟨(L 2), (), rfl, rfl, by rw [ht]; exact hP, va_K.moved hW.alike hK, hD⟩, hS.F ht⟩) hS.2.2 dX12_byteString_35
  exact (blk k0).1 L0 σ0 r0 h0 s.heap [] ls hP hD hS hl
/-! measured -/
def x_measured : Nat → Nat → (Nat → Int32) → MS → Option (Int32 × MS)
  | 0, _, _, _ => none
  | k + 1, 0, L, σ => if ¬ (((((L 1)) + 1)) < 0 ∨ 1740000 ≤ ((((L 1)) + 1)).toNatClampNeg) then (x_measured k 1 (upd (upd (upd (upd L 2 1) 3 0) 4 ((σ.2.2 28 ((((L 1)) + 1)).toNatClampNeg))) 5 0) σ) else none
  | k + 1, 1, L, σ => if ((L 4)) ≤ ((L 5)) then (x_measured k 4 L σ) else (if ¬ (((((((L 1)) + 4)) + ((L 5)))) < 0 ∨ 1740000 ≤ ((((((L 1)) + 4)) + ((L 5)))).toNatClampNeg) then (ob (x_size k 0 (upd (fun _ => 0) 1 ((σ.2.2 28 ((((((L 1)) + 4)) + ((L 5)))).toNatClampNeg))) σ) (fun r3 => ob (x_height k 0 (upd (fun _ => 0) 1 ((σ.2.2 28 ((((((L 1)) + 4)) + ((L 5)))).toNatClampNeg))) r3.2) (fun r4 => if r4.1 ≤ ((L 3)) then (x_measured k 2 (upd (upd L 6 ((σ.2.2 28 ((((((L 1)) + 4)) + ((L 5)))).toNatClampNeg))) 2 ((((L 2)) + r3.1))) r4.2) else (ob (x_height k 0 (upd (fun _ => 0) 1 ((σ.2.2 28 ((((((L 1)) + 4)) + ((L 5)))).toNatClampNeg))) r4.2) (fun r6 => x_measured k 3 (upd (upd (upd L 6 ((σ.2.2 28 ((((((L 1)) + 4)) + ((L 5)))).toNatClampNeg))) 2 ((((L 2)) + r3.1))) 100 r6.1) r6.2))))) else none)
  | k + 1, 2, L, σ => x_measured k 3 (upd L 100 ((L 3))) σ
  | k + 1, 3, L, σ => x_measured k 1 (upd (upd L 3 ((L 100))) 5 (((L 5)) + 1)) σ
  | k + 1, 4, L, σ => if ¬ (((((L 1)) + 2)) < 0 ∨ 1740000 ≤ ((((L 1)) + 2)).toNatClampNeg) then (x_measured k 5 L (σ.1, σ.2.1, updG σ.2.2 28 (upd (σ.2.2 28) ((((L 1)) + 2)).toNatClampNeg ((L 2))))) else none
  | k + 1, 5, L, σ => if ¬ (((((L 1)) + 3)) < 0 ∨ 1740000 ≤ ((((L 1)) + 3)).toNatClampNeg) then (x_measured k 6 L (σ.1, σ.2.1, updG σ.2.2 28 (upd (σ.2.2 28) ((((L 1)) + 3)).toNatClampNeg ((((L 3)) + 1))))) else none
  | k + 1, 6, L, σ => ob (x_checked k 0 (upd (fun _ => 0) 1 ((L 1))) σ) (fun r1 => some (r1.1, r1.2))
  | _ + 1, _ + 7, _, _ => none
def o_x_measured : List Cond := [.fieldLink RX12 372 "SetHouseModel" "heap" "[I", .methodLink RX12 432 yX12_size, .instanceMethod yX12_size, .selects RX12 yX12_size yX12_size, .initialized RX12, .methodLink RX12 435 yX12_height, .instanceMethod yX12_height, .selects RX12 yX12_height yX12_height, .methodLink RX12 438 yX12_checked, .instanceMethod yX12_checked, .selects RX12 yX12_checked yX12_checked]
theorem o_x_measured_good : o_x_measured.all goodWord = true := by decide +kernel
def p_x_measured : List Cond := o_x_measured ++ ((.code yX12_size cX12_size 2 (some .int) :: p_x_size) ++ ((.code yX12_height cX12_height 2 (some .int) :: p_x_height) ++ ((.code yX12_checked cX12_checked 2 (some .int) :: p_x_checked) ++ [])))
theorem p_x_measured_good : p_x_measured.all goodWord = true := nb_all2 o_x_measured_good (nb_all2 (nb_allc (by decide +kernel) p_x_size_good) (nb_all2 (nb_allc (by decide +kernel) p_x_height_good) (nb_all2 (nb_allc (by decide +kernel) p_x_checked_good) rfl)))
def w_x_measured : List Cond := .code yX12_measured cX12_measured 7 (some .int) :: (p_x_measured ++ fM)
theorem w_x_measured_good : w_x_measured.all goodWord = true := nb_allc (by decide +kernel) (nb_all2 p_x_measured_good fM_good)
theorem in_x_measured : ∀ w ∈ wsX120, w ∈ w_x_measured := fun _ h => List.mem_cons_of_mem _ (List.mem_append_right _ h)
theorem hd_x_measured : yX12_measured.cls = RX12 ∧ yX12_measured.cls ≠ "java/lang/invoke/MethodHandle" ∧ yX12_measured.cls ≠ "java/lang/invoke/VarHandle" ∧ (parseMethodDescriptor yX12_measured.desc).map (fun d => d.parameters.length) = some 1 := by decide +kernel
theorem gg_x_measured_checked : GoodIn w_x_measured w_x_checked := goodIn_sub (fun w h => (List.mem_cons.mp h).elim (fun e => (List.mem_cons_of_mem _ (List.mem_append_left _ (List.mem_append_right _ (List.mem_append_right _ (List.mem_append_right _ (List.mem_append_left _ (List.mem_cons.mpr (Or.inl e))))))))) (fun h => (List.mem_append.mp h).elim (fun h => (List.mem_cons_of_mem _ (List.mem_append_left _ (List.mem_append_right _ (List.mem_append_right _ (List.mem_append_right _ (List.mem_append_left _ (List.mem_cons_of_mem _ h)))))))) (fun h => List.mem_cons_of_mem _ (List.mem_append_right _ h)))) w_x_checked_good
theorem g_x_measured_checked_438 : GoodIn w_x_measured (wsV RX12 438 RX12 yX12_checked w_x_checked) := goodIn_app (nb_g4 (List.mem_cons_of_mem _ (List.mem_append_left _ (List.mem_append_left _ (List.mem_of_getElem? (i := 8) rfl)))) (List.mem_cons_of_mem _ (List.mem_append_left _ (List.mem_append_left _ (List.mem_of_getElem? (i := 9) rfl)))) (List.mem_cons_of_mem _ (List.mem_append_left _ (List.mem_append_left _ (List.mem_of_getElem? (i := 10) rfl)))) (List.mem_cons_of_mem _ (List.mem_append_left _ (List.mem_append_left _ (List.mem_of_getElem? (i := 4) rfl)))) (by decide +kernel)) gg_x_measured_checked
theorem gg_x_measured_height : GoodIn w_x_measured w_x_height := goodIn_sub (fun w h => (List.mem_cons.mp h).elim (fun e => (List.mem_cons_of_mem _ (List.mem_append_left _ (List.mem_append_right _ (List.mem_append_right _ (List.mem_append_left _ (List.mem_cons.mpr (Or.inl e)))))))) (fun h => (List.mem_append.mp h).elim (fun h => (List.mem_cons_of_mem _ (List.mem_append_left _ (List.mem_append_right _ (List.mem_append_right _ (List.mem_append_left _ (List.mem_cons_of_mem _ h))))))) (fun h => List.mem_cons_of_mem _ (List.mem_append_right _ h)))) w_x_height_good
theorem g_x_measured_height_435 : GoodIn w_x_measured (wsV RX12 435 RX12 yX12_height w_x_height) := goodIn_app (nb_g4 (List.mem_cons_of_mem _ (List.mem_append_left _ (List.mem_append_left _ (List.mem_of_getElem? (i := 5) rfl)))) (List.mem_cons_of_mem _ (List.mem_append_left _ (List.mem_append_left _ (List.mem_of_getElem? (i := 6) rfl)))) (List.mem_cons_of_mem _ (List.mem_append_left _ (List.mem_append_left _ (List.mem_of_getElem? (i := 7) rfl)))) (List.mem_cons_of_mem _ (List.mem_append_left _ (List.mem_append_left _ (List.mem_of_getElem? (i := 4) rfl)))) (by decide +kernel)) gg_x_measured_height
theorem gg_x_measured_size : GoodIn w_x_measured w_x_size := goodIn_sub (fun w h => (List.mem_cons.mp h).elim (fun e => (List.mem_cons_of_mem _ (List.mem_append_left _ (List.mem_append_right _ (List.mem_append_left _ (List.mem_cons.mpr (Or.inl e))))))) (fun h => (List.mem_append.mp h).elim (fun h => (List.mem_cons_of_mem _ (List.mem_append_left _ (List.mem_append_right _ (List.mem_append_left _ (List.mem_cons_of_mem _ h)))))) (fun h => List.mem_cons_of_mem _ (List.mem_append_right _ h)))) w_x_size_good
theorem g_x_measured_size_432 : GoodIn w_x_measured (wsV RX12 432 RX12 yX12_size w_x_size) := goodIn_app (nb_g4 (List.mem_cons_of_mem _ (List.mem_append_left _ (List.mem_append_left _ (List.mem_of_getElem? (i := 1) rfl)))) (List.mem_cons_of_mem _ (List.mem_append_left _ (List.mem_append_left _ (List.mem_of_getElem? (i := 2) rfl)))) (List.mem_cons_of_mem _ (List.mem_append_left _ (List.mem_append_left _ (List.mem_of_getElem? (i := 3) rfl)))) (List.mem_cons_of_mem _ (List.mem_append_left _ (List.mem_append_left _ (List.mem_of_getElem? (i := 4) rfl)))) (by decide +kernel)) gg_x_measured_size
set_option maxHeartbeats 40000000 in
set_option maxRecDepth 100000 in
theorem c_x_measured (l : Launch) (dC : Nat → ClassId) (dI : Nat → Nat → Nat) (cy : Nat → ClassId) (a : Nat → Nat) (k0 : Nat) (L0 : Nat → Int32) (σ0 : MS) (r0 : Int32 × MS) (h0 : x_measured k0 0 L0 σ0 = some r0) (sz : Nat) : Met l yX12_measured w_x_measured ({ frames := 2, cells := 0, slots := 0, locals := 42 }) (va_Pc [.ref (a 0), .int (L0 1)] (nIn (dC, dI) cy sz (vM cy a σ0))) (va_Qi (fun (z : Int32) (_ : Unit) => z = r0.1) (fun _ t => nOut (dC, dI) cy (va_A (vM cy a σ0) sz) (vM cy a r0.2) t) (va_A (vM cy a σ0) sz)) 0 0 (va_A (vM cy a σ0) sz) := by
  refine Met.ofW (cc := cX12_measured) (maxL := 7) (ret := (some .int)) (by decide) rfl ?_
  intro p e s m args below meth c s₁ B hml hv
  obtain ⟨rfl, hsz, hP, hK, hD0, hG⟩ := hv
  have hx := B.exec
  have hb := B.bytes
  have hr := B.returns
  have hts := atoms_spec (ws := w_x_measured) B.pre
  have hown : s.vm.findClass RX12 = some m.cls := findClass_of_methodNamed B.named
  have hlocks := B.notSynchronized
  subst hsz
  have hD := hD0.self (sz := s.heap.size)
  generalize hAe : va_A (vM cy a σ0) s.heap.size = A at hD ⊢
  have hA : ∀ q : Nat, s.heap.size ≤ q → A q := fun q h => by rw [← hAe]; exact Or.inr h
  have hS : va_S A s.heap s.heap [] := va_S.rf
  have hl := lv_entry ([.ref (a 0), .int (L0 1)]) (n := 7) (Nat.le_of_ble_eq_true rfl)
  rw [lg_entry_eq]
  generalize (lg_sl ([.ref (a 0), .int (L0 1)]) ++ List.replicate (7 - (lg_sl ([.ref (a 0), .int (L0 1)])).length) Slot.unset).toArray = ls at hl ⊢
  have hl : lv_has ls 7 [(0, .ref (a 0)), (1, .int (L0 1))] := hl
  have blk : ∀ k : Nat, (bT p l e (headSpec w_x_measured ({ frames := 2, cells := 0, slots := 0, locals := 42 })).room s m #[.ref (a 0), .int (L0 1)] below meth c dC dI cy a A (qI dC dI cy a A below #[.ref (a 0), .int (L0 1)] s) 7 (x_measured k 0) (fun L => [(0, .ref (a 0)), (1, .int (L 1))]) 0 (fun L => [])) ∧ (bT p l e (headSpec w_x_measured ({ frames := 2, cells := 0, slots := 0, locals := 42 })).room s m #[.ref (a 0), .int (L0 1)] below meth c dC dI cy a A (qI dC dI cy a A below #[.ref (a 0), .int (L0 1)] s) 7 (x_measured k 1) (fun L => [(0, .ref (a 0)), (1, .int (L 1)), (2, .int (L 2)), (3, .int (L 3)), (4, .int (L 4)), (5, .int (L 5))]) 17 (fun L => [])) ∧ (bT p l e (headSpec w_x_measured ({ frames := 2, cells := 0, slots := 0, locals := 42 })).room s m #[.ref (a 0), .int (L0 1)] below meth c dC dI cy a A (qI dC dI cy a A below #[.ref (a 0), .int (L0 1)] s) 7 (x_measured k 2) (fun L => [(0, .ref (a 0)), (1, .int (L 1)), (2, .int (L 2)), (3, .int (L 3)), (4, .int (L 4)), (5, .int (L 5)), (6, .int (L 6))]) 65 (fun L => [])) ∧ (bT p l e (headSpec w_x_measured ({ frames := 2, cells := 0, slots := 0, locals := 42 })).room s m #[.ref (a 0), .int (L0 1)] below meth c dC dI cy a A (qI dC dI cy a A below #[.ref (a 0), .int (L0 1)] s) 7 (x_measured k 3) (fun L => [(0, .ref (a 0)), (1, .int (L 1)), (2, .int (L 2)), (3, .int (L 3)), (4, .int (L 4)), (5, .int (L 5)), (6, .int (L 6))]) 66 (fun L => [.int (L 100)])) ∧ (bT p l e (headSpec w_x_measured ({ frames := 2, cells := 0, slots := 0, locals := 42 })).room s m #[.ref (a 0), .int (L0 1)] below meth c dC dI cy a A (qI dC dI cy a A below #[.ref (a 0), .int (L0 1)] s) 7 (x_measured k 4) (fun L => [(0, .ref (a 0)), (1, .int (L 1)), (2, .int (L 2)), (3, .int (L 3)), (4, .int (L 4)), (5, .int (L 5))]) 73 (fun L => [])) ∧ (bT p l e (headSpec w_x_measured ({ frames := 2, cells := 0, slots := 0, locals := 42 })).room s m #[.ref (a 0), .int (L0 1)] below meth c dC dI cy a A (qI dC dI cy a A below #[.ref (a 0), .int (L0 1)] s) 7 (x_measured k 5) (fun L => [(0, .ref (a 0)), (1, .int (L 1)), (2, .int (L 2)), (3, .int (L 3)), (4, .int (L 4)), (5, .int (L 5))]) 82 (fun L => [])) ∧ (bT p l e (headSpec w_x_measured ({ frames := 2, cells := 0, slots := 0, locals := 42 })).room s m #[.ref (a 0), .int (L0 1)] below meth c dC dI cy a A (qI dC dI cy a A below #[.ref (a 0), .int (L0 1)] s) 7 (x_measured k 6) (fun L => [(0, .ref (a 0)), (1, .int (L 1)), (2, .int (L 2)), (3, .int (L 3)), (4, .int (L 4)), (5, .int (L 5))]) 93 (fun L => [])) := by
    intro k
    induction k with
    | zero => exact ⟨fun L σ r h => (by cases h), fun L σ r h => (by cases h), fun L σ r h => (by cases h), fun L σ r h => (by cases h), fun L σ r h => (by cases h), fun L σ r h => (by cases h), fun L σ r h => (by cases h)⟩
    | succ k ih =>
      refine ⟨?_, ?_, ?_, ?_, ?_, ?_, ?_⟩
      · intro L σ r h H locs ls hP hD hS hl
        rw [x_measured] at h
        refine lv_iconst (v := 1) hx hb dX12_measured_0 (by decide) ?_
        refine lv_istore_n (lv' := [(2, .int 1), (0, .ref (a 0)), (1, .int (L 1))]) hx hb dX12_measured_1 rfl hl (by decide) rfl (fun ls hl => ?_)
        refine lv_iconst (v := 0) hx hb dX12_measured_2 (by decide) ?_
        refine lv_istore_n (lv' := [(3, .int 0), (2, .int 1), (0, .ref (a 0)), (1, .int (L 1))]) hx hb dX12_measured_3 rfl hl (by decide) rfl (fun ls hl => ?_)
        refine lv_aload_n hx hb dX12_measured_4 rfl (lv_at hl 2 rfl) ?_
        refine ng_53 hx hb hts in_x_measured hown hK hP (hts _ (List.mem_cons_of_mem _ (List.mem_append_left _ (List.mem_append_left _ (List.mem_of_getElem? (i := 0) rfl))))) dX12_measured_5 ?_
        refine lv_iload_n hx hb dX12_measured_8 rfl (lv_at hl 3 rfl) ?_
        refine lv_iconst (v := 1) hx hb dX12_measured_9 (by decide) ?_
        refine lv_iadd hx hb dX12_measured_10 ?_
        obtain ⟨q1, h⟩ := nb_ite1 h
        refine nl_28 hx hb hK hP q1 dX12_measured_11 ?_
        refine lv_istore (lv' := [(4, .int (σ.2.2 28 ((((L 1)) + 1)).toNatClampNeg)), (3, .int 0), (2, .int 1), (0, .ref (a 0)), (1, .int (L 1))]) hx hb dX12_measured_12 hl (by decide) rfl (fun ls hl => ?_)
        refine lv_iconst (v := 0) hx hb dX12_measured_14 (by decide) ?_
        refine lv_istore (lv' := [(5, .int 0), (4, .int (σ.2.2 28 ((((L 1)) + 1)).toNatClampNeg)), (3, .int 0), (2, .int 1), (0, .ref (a 0)), (1, .int (L 1))]) hx hb dX12_measured_15 hl (by decide) rfl (fun ls hl => ?_)
        exact ih.2.1 (upd (upd (upd (upd L 2 1) 3 0) 4 ((σ.2.2 28 ((((L 1)) + 1)).toNatClampNeg))) 5 0) σ r h H locs ls hP hD hS (lv_sub hl [4, 5, 3, 2, 1, 0] rfl)
      · intro L σ r h H locs ls hP hD hS hl
        rw [x_measured] at h
        refine lv_iload hx hb dX12_measured_17 (lv_at hl 5 rfl) ?_
        refine lv_iload hx hb dX12_measured_19 (lv_at hl 4 rfl) ?_
        refine lv_icmp_ge (tgt := 73) hx hb dX12_measured_21 (by decide) (fun c1 => ?_) (fun c1 => ?_)
        · rw [if_pos c1] at h
          exact ih.2.2.2.2.1 L σ r h H locs ls hP hD hS (lv_sub hl [0, 1, 2, 3, 4, 5] rfl)
        · rw [if_neg c1] at h
          refine lv_aload_n hx hb dX12_measured_24 rfl (lv_at hl 0 rfl) ?_
          refine ng_53 hx hb hts in_x_measured hown hK hP (hts _ (List.mem_cons_of_mem _ (List.mem_append_left _ (List.mem_append_left _ (List.mem_of_getElem? (i := 0) rfl))))) dX12_measured_25 ?_
          refine lv_iload_n hx hb dX12_measured_28 rfl (lv_at hl 1 rfl) ?_
          refine lv_iconst (v := 4) hx hb dX12_measured_29 (by decide) ?_
          refine lv_iadd hx hb dX12_measured_30 ?_
          refine lv_iload hx hb dX12_measured_31 (lv_at hl 5 rfl) ?_
          refine lv_iadd hx hb dX12_measured_33 ?_
          obtain ⟨q2, h⟩ := nb_ite1 h
          refine nl_28 hx hb hK hP q2 dX12_measured_34 ?_
          refine lv_istore (lv' := [(6, .int (σ.2.2 28 ((((((L 1)) + 4)) + ((L 5)))).toNatClampNeg)), (0, .ref (a 0)), (1, .int (L 1)), (2, .int (L 2)), (3, .int (L 3)), (4, .int (L 4)), (5, .int (L 5))]) hx hb dX12_measured_35 hl (by decide) rfl (fun ls hl => ?_)
          refine lv_iload_n hx hb dX12_measured_37 rfl (lv_at hl 3 rfl) ?_
          refine lv_aload_n hx hb dX12_measured_38 rfl (lv_at hl 1 rfl) ?_
          refine lv_iload hx hb dX12_measured_39 (lv_at hl 0 rfl) ?_
          obtain ⟨r3, hc3, h⟩ := ob_ex h
          refine nc_Vi (As := [.int (σ.2.2 28 ((((((L 1)) + 4)) + ((L 5)))).toNatClampNeg)]) (rest := [.int (L 2)]) ⟨hx, hb, hml, hown, hts⟩ (c_x_size l dC dI cy a k (upd (fun _ => 0) 1 ((σ.2.2 28 ((((((L 1)) + 4)) + ((L 5)))).toNatClampNeg))) σ r3 hc3 H.size) (cwV 1 hts g_x_measured_size_432 rfl rfl rfl hd_x_size ⟨Nat.le_of_ble_eq_true rfl, Nat.le_of_ble_eq_true rfl⟩) hK hG hA hP hD hS rfl hl.1 rfl (Nat.le_of_ble_eq_true rfl) dX12_measured_41 ⟨Nat.le_refl _, Nat.le_refl _⟩ (fun H locs hP hD hS => ?_)
          refine lv_iadd hx hb dX12_measured_44 ?_
          refine lv_istore_n (lv' := [(2, .int (((L 2)) + r3.1)), (6, .int (σ.2.2 28 ((((((L 1)) + 4)) + ((L 5)))).toNatClampNeg)), (0, .ref (a 0)), (1, .int (L 1)), (3, .int (L 3)), (4, .int (L 4)), (5, .int (L 5))]) hx hb dX12_measured_45 rfl hl (by decide) rfl (fun ls hl => ?_)
          refine lv_aload_n hx hb dX12_measured_46 rfl (lv_at hl 2 rfl) ?_
          refine lv_iload hx hb dX12_measured_47 (lv_at hl 1 rfl) ?_
          obtain ⟨r4, hc4, h⟩ := ob_ex h
          refine nc_Vi (As := [.int (σ.2.2 28 ((((((L 1)) + 4)) + ((L 5)))).toNatClampNeg)]) (rest := []) ⟨hx, hb, hml, hown, hts⟩ (c_x_height l dC dI cy a k (upd (fun _ => 0) 1 ((σ.2.2 28 ((((((L 1)) + 4)) + ((L 5)))).toNatClampNeg))) r3.2 r4 hc4 H.size) (cwV 1 hts g_x_measured_height_435 rfl rfl rfl hd_x_height ⟨Nat.le_of_ble_eq_true rfl, Nat.le_of_ble_eq_true rfl⟩) hK hG hA hP hD hS rfl hl.1 rfl (Nat.le_of_ble_eq_true rfl) dX12_measured_49 ⟨Nat.le_refl _, Nat.le_refl _⟩ (fun H locs hP hD hS => ?_)
          refine lv_iload_n hx hb dX12_measured_52 rfl (lv_at hl 4 rfl) ?_
          refine lv_icmp_le (tgt := 65) hx hb dX12_measured_53 (by decide) (fun c5 => ?_) (fun c5 => ?_)
          · rw [if_pos c5] at h
            exact ih.2.2.1 (upd (upd L 6 ((σ.2.2 28 ((((((L 1)) + 4)) + ((L 5)))).toNatClampNeg))) 2 ((((L 2)) + r3.1))) r4.2 r h H locs ls hP hD hS (lv_sub hl [2, 3, 0, 4, 5, 6, 1] rfl)
          · rw [if_neg c5] at h
            refine lv_aload_n hx hb dX12_measured_56 rfl (lv_at hl 2 rfl) ?_
            refine lv_iload hx hb dX12_measured_57 (lv_at hl 1 rfl) ?_
            obtain ⟨r6, hc6, h⟩ := ob_ex h
            refine nc_Vi (As := [.int (σ.2.2 28 ((((((L 1)) + 4)) + ((L 5)))).toNatClampNeg)]) (rest := []) ⟨hx, hb, hml, hown, hts⟩ (c_x_height l dC dI cy a k (upd (fun _ => 0) 1 ((σ.2.2 28 ((((((L 1)) + 4)) + ((L 5)))).toNatClampNeg))) r4.2 r6 hc6 H.size) (cwV 1 hts g_x_measured_height_435 rfl rfl rfl hd_x_height ⟨Nat.le_of_ble_eq_true rfl, Nat.le_of_ble_eq_true rfl⟩) hK hG hA hP hD hS rfl hl.1 rfl (Nat.le_of_ble_eq_true rfl) dX12_measured_59 ⟨Nat.le_refl _, Nat.le_refl _⟩ (fun H locs hP hD hS => ?_)
            refine lv_goto (tgt := 66) hx hb dX12_measured_62 (by decide) ?_
            exact ih.2.2.2.1 (upd (upd (upd L 6 ((σ.2.2 28 ((((((L 1)) + 4)) + ((L 5)))).toNatClampNeg))) 2 ((((L 2)) + r3.1))) 100 r6.1) r6.2 r h H locs ls hP hD hS (lv_sub hl [2, 3, 0, 4, 5, 6, 1] rfl)
      · intro L σ r h H locs ls hP hD hS hl
        rw [x_measured] at h
        refine lv_iload_n hx hb dX12_measured_65 rfl (lv_at hl 3 rfl) ?_
        exact ih.2.2.2.1 (upd L 100 ((L 3))) σ r h H locs ls hP hD hS (lv_sub hl [0, 1, 2, 3, 4, 5, 6] rfl)
      · intro L σ r h H locs ls hP hD hS hl
        rw [x_measured] at h
        refine lv_istore_n (lv' := [(3, .int (L 100)), (0, .ref (a 0)), (1, .int (L 1)), (2, .int (L 2)), (4, .int (L 4)), (5, .int (L 5)), (6, .int (L 6))]) hx hb dX12_measured_66 rfl hl (by decide) rfl (fun ls hl => ?_)
        refine lv_iinc (v := ((L 5)) + 1) (lv' := [(5, .int (((L 5)) + 1)), (3, .int (L 100)), (0, .ref (a 0)), (1, .int (L 1)), (2, .int (L 2)), (4, .int (L 4)), (6, .int (L 6))]) hx hb dX12_measured_67 hl (k := 5) rfl rfl (by decide) rfl (fun ls hl => ?_)
        refine lv_goto (tgt := 17) hx hb dX12_measured_70 (by decide) ?_
        exact ih.2.1 (upd (upd L 3 ((L 100))) 5 (((L 5)) + 1)) σ r h H locs ls hP hD hS (lv_sub hl [2, 3, 4, 1, 5, 0] rfl)
      · intro L σ r h H locs ls hP hD hS hl
        rw [x_measured] at h
        refine lv_aload_n hx hb dX12_measured_73 rfl (lv_at hl 0 rfl) ?_
        refine ng_53 hx hb hts in_x_measured hown hK hP (hts _ (List.mem_cons_of_mem _ (List.mem_append_left _ (List.mem_append_left _ (List.mem_of_getElem? (i := 0) rfl))))) dX12_measured_74 ?_
        refine lv_iload_n hx hb dX12_measured_77 rfl (lv_at hl 1 rfl) ?_
        refine lv_iconst (v := 2) hx hb dX12_measured_78 (by decide) ?_
        refine lv_iadd hx hb dX12_measured_79 ?_
        refine lv_iload_n hx hb dX12_measured_80 rfl (lv_at hl 2 rfl) ?_
        obtain ⟨q1, h⟩ := nb_ite1 h
        refine ns_28 hx hb hK hP hD hS q1 dX12_measured_81 (fun H locs hP hD hS => ?_)
        exact ih.2.2.2.2.2.1 L (σ.1, σ.2.1, updG σ.2.2 28 (upd (σ.2.2 28) ((((L 1)) + 2)).toNatClampNeg ((L 2)))) r h H locs ls hP hD hS (lv_sub hl [0, 1, 2, 3, 4, 5] rfl)
      · intro L σ r h H locs ls hP hD hS hl
        rw [x_measured] at h
        refine lv_aload_n hx hb dX12_measured_82 rfl (lv_at hl 0 rfl) ?_
        refine ng_53 hx hb hts in_x_measured hown hK hP (hts _ (List.mem_cons_of_mem _ (List.mem_append_left _ (List.mem_append_left _ (List.mem_of_getElem? (i := 0) rfl))))) dX12_measured_83 ?_
        refine lv_iload_n hx hb dX12_measured_86 rfl (lv_at hl 1 rfl) ?_
        refine lv_iconst (v := 3) hx hb dX12_measured_87 (by decide) ?_
        refine lv_iadd hx hb dX12_measured_88 ?_
        refine lv_iload_n hx hb dX12_measured_89 rfl (lv_at hl 3 rfl) ?_
        refine lv_iconst (v := 1) hx hb dX12_measured_90 (by decide) ?_
        refine lv_iadd hx hb dX12_measured_91 ?_
        obtain ⟨q1, h⟩ := nb_ite1 h
        refine ns_28 hx hb hK hP hD hS q1 dX12_measured_92 (fun H locs hP hD hS => ?_)
        exact ih.2.2.2.2.2.2 L (σ.1, σ.2.1, updG σ.2.2 28 (upd (σ.2.2 28) ((((L 1)) + 3)).toNatClampNeg ((((L 3)) + 1)))) r h H locs ls hP hD hS (lv_sub hl [0, 1, 2, 3, 4, 5] rfl)
      · intro L σ r h H locs ls hP hD hS hl
        rw [x_measured] at h
        refine lv_aload_n hx hb dX12_measured_93 rfl (lv_at hl 0 rfl) ?_
        refine lv_iload_n hx hb dX12_measured_94 rfl (lv_at hl 1 rfl) ?_
        obtain ⟨r1, hc1, h⟩ := ob_ex h
        refine nc_Vi (As := [.int (L 1)]) (rest := []) ⟨hx, hb, hml, hown, hts⟩ (c_x_checked l dC dI cy a k (upd (fun _ => 0) 1 ((L 1))) σ r1 hc1 H.size) (cwV 1 hts g_x_measured_checked_438 rfl rfl rfl hd_x_checked ⟨Nat.le_of_ble_eq_true rfl, Nat.le_of_ble_eq_true rfl⟩) hK hG hA hP hD hS rfl hl.1 rfl (Nat.le_of_ble_eq_true rfl) dX12_measured_95 ⟨Nat.le_refl _, Nat.le_refl _⟩ (fun H locs hP hD hS => ?_)
        cases h
        exact W.iret (v := r1.1) hx hb hr (fun t ht hW => ⟨⟨r1.1, (), rfl, rfl, by rw [ht]; exact hP, va_K.moved hW.alike hK, hD⟩, hS.F ht⟩) hS.2.2 dX12_measured_98
  exact (blk k0).1 L0 σ0 r0 h0 s.heap [] ls hP hD hS hl
/-! tupleOf -/
def x_tupleOf : Nat → Nat → (Nat → Int32) → MS → Option (Int32 × MS)
  | 0, _, _, _ => none
  | k + 1, 0, L, σ => x_tupleOf k 1 (upd L 2 ((((σ.1 59)) - ((L 1))))) σ
  | k + 1, 1, L, σ => if ((L 2)) ≤ 0 then (x_tupleOf k 2 L σ) else (if ¬ (((((((L 1)) + ((L 2)))) - 1)) < 0 ∨ 185000 ≤ ((((((L 1)) + ((L 2)))) - 1)).toNatClampNeg) then (if ((σ.2.2 29 ((((((L 1)) + ((L 2)))) - 1)).toNatClampNeg)) = 0 then (x_tupleOf k 1 (upd L 2 (((L 2)) + (-1))) σ) else (x_tupleOf k 2 L σ)) else none)
  | k + 1, 2, L, σ => x_tupleOf k 3 L (upd σ.1 59 ((L 1)), σ.2.1, σ.2.2)
  | k + 1, 3, L, σ => ob (x_make k 0 (upd (upd (fun _ => 0) 1 5) 2 ((L 2))) σ) (fun r1 => if ((r1.2.1 56)) ≤ 0 then (x_tupleOf k 4 (upd L 3 r1.1) r1.2) else (some (0, r1.2)))
  | k + 1, 4, L, σ => x_tupleOf k 5 (upd L 4 0) σ
  | k + 1, 5, L, σ => if ((L 2)) ≤ ((L 4)) then (x_tupleOf k 7 L σ) else (if ¬ (((((L 1)) + ((L 4)))) < 0 ∨ 185000 ≤ ((((L 1)) + ((L 4)))).toNatClampNeg) then (if ¬ (((((((L 3)) + 4)) + ((L 4)))) < 0 ∨ 1740000 ≤ ((((((L 3)) + 4)) + ((L 4)))).toNatClampNeg) then (x_tupleOf k 6 L (σ.1, σ.2.1, updG σ.2.2 28 (upd (σ.2.2 28) ((((((L 3)) + 4)) + ((L 4)))).toNatClampNeg ((σ.2.2 29 ((((L 1)) + ((L 4)))).toNatClampNeg))))) else none) else none)
  | k + 1, 6, L, σ => x_tupleOf k 5 (upd L 4 (((L 4)) + 1)) σ
  | k + 1, 7, L, σ => ob (x_measured k 0 (upd (fun _ => 0) 1 ((L 3))) σ) (fun r1 => some (r1.1, r1.2))
  | _ + 1, _ + 8, _, _ => none
def o_x_tupleOf : List Cond := [.fieldLink RX12 385 "SetHouseModel" "top" "I", .fieldLink RX12 382 "SetHouseModel" "pile" "[I", .methodLink RX12 429 yX12_make, .instanceMethod yX12_make, .selects RX12 yX12_make yX12_make, .initialized RX12, .fieldLink RX12 362 "SetHouseModel" "err" "I", .fieldLink RX12 372 "SetHouseModel" "heap" "[I", .methodLink RX12 441 yX12_measured, .instanceMethod yX12_measured, .selects RX12 yX12_measured yX12_measured]
theorem o_x_tupleOf_good : o_x_tupleOf.all goodWord = true := by decide +kernel
def p_x_tupleOf : List Cond := o_x_tupleOf ++ ((.code yX12_make cX12_make 4 (some .int) :: p_x_make) ++ ((.code yX12_measured cX12_measured 7 (some .int) :: p_x_measured) ++ []))
theorem p_x_tupleOf_good : p_x_tupleOf.all goodWord = true := nb_all2 o_x_tupleOf_good (nb_all2 (nb_allc (by decide +kernel) p_x_make_good) (nb_all2 (nb_allc (by decide +kernel) p_x_measured_good) rfl))
def w_x_tupleOf : List Cond := .code yX12_tupleOf cX12_tupleOf 5 (some .int) :: (p_x_tupleOf ++ fM)
theorem w_x_tupleOf_good : w_x_tupleOf.all goodWord = true := nb_allc (by decide +kernel) (nb_all2 p_x_tupleOf_good fM_good)
theorem in_x_tupleOf : ∀ w ∈ wsX120, w ∈ w_x_tupleOf := fun _ h => List.mem_cons_of_mem _ (List.mem_append_right _ h)
theorem hd_x_tupleOf : yX12_tupleOf.cls = RX12 ∧ yX12_tupleOf.cls ≠ "java/lang/invoke/MethodHandle" ∧ yX12_tupleOf.cls ≠ "java/lang/invoke/VarHandle" ∧ (parseMethodDescriptor yX12_tupleOf.desc).map (fun d => d.parameters.length) = some 1 := by decide +kernel
theorem gg_x_tupleOf_make : GoodIn w_x_tupleOf w_x_make := goodIn_sub (fun w h => (List.mem_cons.mp h).elim (fun e => (List.mem_cons_of_mem _ (List.mem_append_left _ (List.mem_append_right _ (List.mem_append_left _ (List.mem_cons.mpr (Or.inl e))))))) (fun h => (List.mem_append.mp h).elim (fun h => (List.mem_cons_of_mem _ (List.mem_append_left _ (List.mem_append_right _ (List.mem_append_left _ (List.mem_cons_of_mem _ h)))))) (fun h => List.mem_cons_of_mem _ (List.mem_append_right _ h)))) w_x_make_good
theorem g_x_tupleOf_make_429 : GoodIn w_x_tupleOf (wsV RX12 429 RX12 yX12_make w_x_make) := goodIn_app (nb_g4 (List.mem_cons_of_mem _ (List.mem_append_left _ (List.mem_append_left _ (List.mem_of_getElem? (i := 2) rfl)))) (List.mem_cons_of_mem _ (List.mem_append_left _ (List.mem_append_left _ (List.mem_of_getElem? (i := 3) rfl)))) (List.mem_cons_of_mem _ (List.mem_append_left _ (List.mem_append_left _ (List.mem_of_getElem? (i := 4) rfl)))) (List.mem_cons_of_mem _ (List.mem_append_left _ (List.mem_append_left _ (List.mem_of_getElem? (i := 5) rfl)))) (by decide +kernel)) gg_x_tupleOf_make
theorem gg_x_tupleOf_measured : GoodIn w_x_tupleOf w_x_measured := goodIn_sub (fun w h => (List.mem_cons.mp h).elim (fun e => (List.mem_cons_of_mem _ (List.mem_append_left _ (List.mem_append_right _ (List.mem_append_right _ (List.mem_append_left _ (List.mem_cons.mpr (Or.inl e)))))))) (fun h => (List.mem_append.mp h).elim (fun h => (List.mem_cons_of_mem _ (List.mem_append_left _ (List.mem_append_right _ (List.mem_append_right _ (List.mem_append_left _ (List.mem_cons_of_mem _ h))))))) (fun h => List.mem_cons_of_mem _ (List.mem_append_right _ h)))) w_x_measured_good
theorem g_x_tupleOf_measured_441 : GoodIn w_x_tupleOf (wsV RX12 441 RX12 yX12_measured w_x_measured) := goodIn_app (nb_g4 (List.mem_cons_of_mem _ (List.mem_append_left _ (List.mem_append_left _ (List.mem_of_getElem? (i := 8) rfl)))) (List.mem_cons_of_mem _ (List.mem_append_left _ (List.mem_append_left _ (List.mem_of_getElem? (i := 9) rfl)))) (List.mem_cons_of_mem _ (List.mem_append_left _ (List.mem_append_left _ (List.mem_of_getElem? (i := 10) rfl)))) (List.mem_cons_of_mem _ (List.mem_append_left _ (List.mem_append_left _ (List.mem_of_getElem? (i := 5) rfl)))) (by decide +kernel)) gg_x_tupleOf_measured
set_option maxHeartbeats 40000000 in
set_option maxRecDepth 100000 in
theorem c_x_tupleOf (l : Launch) (dC : Nat → ClassId) (dI : Nat → Nat → Nat) (cy : Nat → ClassId) (a : Nat → Nat) (k0 : Nat) (L0 : Nat → Int32) (σ0 : MS) (r0 : Int32 × MS) (h0 : x_tupleOf k0 0 L0 σ0 = some r0) (sz : Nat) : Met l yX12_tupleOf w_x_tupleOf ({ frames := 3, cells := 0, slots := 0, locals := 68 }) (va_Pc [.ref (a 0), .int (L0 1)] (nIn (dC, dI) cy sz (vM cy a σ0))) (va_Qi (fun (z : Int32) (_ : Unit) => z = r0.1) (fun _ t => nOut (dC, dI) cy (va_A (vM cy a σ0) sz) (vM cy a r0.2) t) (va_A (vM cy a σ0) sz)) 0 0 (va_A (vM cy a σ0) sz) := by
  refine Met.ofW (cc := cX12_tupleOf) (maxL := 5) (ret := (some .int)) (by decide) rfl ?_
  intro p e s m args below meth c s₁ B hml hv
  obtain ⟨rfl, hsz, hP, hK, hD0, hG⟩ := hv
  have hx := B.exec
  have hb := B.bytes
  have hr := B.returns
  have hts := atoms_spec (ws := w_x_tupleOf) B.pre
  have hown : s.vm.findClass RX12 = some m.cls := findClass_of_methodNamed B.named
  have hlocks := B.notSynchronized
  subst hsz
  have hD := hD0.self (sz := s.heap.size)
  generalize hAe : va_A (vM cy a σ0) s.heap.size = A at hD ⊢
  have hA : ∀ q : Nat, s.heap.size ≤ q → A q := fun q h => by rw [← hAe]; exact Or.inr h
  have hS : va_S A s.heap s.heap [] := va_S.rf
  have hl := lv_entry ([.ref (a 0), .int (L0 1)]) (n := 5) (Nat.le_of_ble_eq_true rfl)
  rw [lg_entry_eq]
  generalize (lg_sl ([.ref (a 0), .int (L0 1)]) ++ List.replicate (5 - (lg_sl ([.ref (a 0), .int (L0 1)])).length) Slot.unset).toArray = ls at hl ⊢
  have hl : lv_has ls 5 [(0, .ref (a 0)), (1, .int (L0 1))] := hl
  have blk : ∀ k : Nat, (bT p l e (headSpec w_x_tupleOf ({ frames := 3, cells := 0, slots := 0, locals := 68 })).room s m #[.ref (a 0), .int (L0 1)] below meth c dC dI cy a A (qI dC dI cy a A below #[.ref (a 0), .int (L0 1)] s) 5 (x_tupleOf k 0) (fun L => [(0, .ref (a 0)), (1, .int (L 1))]) 0 (fun L => [])) ∧ (bT p l e (headSpec w_x_tupleOf ({ frames := 3, cells := 0, slots := 0, locals := 68 })).room s m #[.ref (a 0), .int (L0 1)] below meth c dC dI cy a A (qI dC dI cy a A below #[.ref (a 0), .int (L0 1)] s) 5 (x_tupleOf k 1) (fun L => [(0, .ref (a 0)), (1, .int (L 1)), (2, .int (L 2))]) 7 (fun L => [])) ∧ (bT p l e (headSpec w_x_tupleOf ({ frames := 3, cells := 0, slots := 0, locals := 68 })).room s m #[.ref (a 0), .int (L0 1)] below meth c dC dI cy a A (qI dC dI cy a A below #[.ref (a 0), .int (L0 1)] s) 5 (x_tupleOf k 2) (fun L => [(0, .ref (a 0)), (1, .int (L 1)), (2, .int (L 2))]) 30 (fun L => [])) ∧ (bT p l e (headSpec w_x_tupleOf ({ frames := 3, cells := 0, slots := 0, locals := 68 })).room s m #[.ref (a 0), .int (L0 1)] below meth c dC dI cy a A (qI dC dI cy a A below #[.ref (a 0), .int (L0 1)] s) 5 (x_tupleOf k 3) (fun L => [(0, .ref (a 0)), (1, .int (L 1)), (2, .int (L 2))]) 35 (fun L => [])) ∧ (bT p l e (headSpec w_x_tupleOf ({ frames := 3, cells := 0, slots := 0, locals := 68 })).room s m #[.ref (a 0), .int (L0 1)] below meth c dC dI cy a A (qI dC dI cy a A below #[.ref (a 0), .int (L0 1)] s) 5 (x_tupleOf k 4) (fun L => [(0, .ref (a 0)), (1, .int (L 1)), (2, .int (L 2)), (3, .int (L 3))]) 51 (fun L => [])) ∧ (bT p l e (headSpec w_x_tupleOf ({ frames := 3, cells := 0, slots := 0, locals := 68 })).room s m #[.ref (a 0), .int (L0 1)] below meth c dC dI cy a A (qI dC dI cy a A below #[.ref (a 0), .int (L0 1)] s) 5 (x_tupleOf k 5) (fun L => [(0, .ref (a 0)), (1, .int (L 1)), (2, .int (L 2)), (3, .int (L 3)), (4, .int (L 4))]) 54 (fun L => [])) ∧ (bT p l e (headSpec w_x_tupleOf ({ frames := 3, cells := 0, slots := 0, locals := 68 })).room s m #[.ref (a 0), .int (L0 1)] below meth c dC dI cy a A (qI dC dI cy a A below #[.ref (a 0), .int (L0 1)] s) 5 (x_tupleOf k 6) (fun L => [(0, .ref (a 0)), (1, .int (L 1)), (2, .int (L 2)), (3, .int (L 3)), (4, .int (L 4))]) 80 (fun L => [])) ∧ (bT p l e (headSpec w_x_tupleOf ({ frames := 3, cells := 0, slots := 0, locals := 68 })).room s m #[.ref (a 0), .int (L0 1)] below meth c dC dI cy a A (qI dC dI cy a A below #[.ref (a 0), .int (L0 1)] s) 5 (x_tupleOf k 7) (fun L => [(0, .ref (a 0)), (1, .int (L 1)), (2, .int (L 2)), (3, .int (L 3)), (4, .int (L 4))]) 86 (fun L => [])) := by
    intro k
    induction k with
    | zero => exact ⟨fun L σ r h => (by cases h), fun L σ r h => (by cases h), fun L σ r h => (by cases h), fun L σ r h => (by cases h), fun L σ r h => (by cases h), fun L σ r h => (by cases h), fun L σ r h => (by cases h), fun L σ r h => (by cases h)⟩
    | succ k ih =>
      refine ⟨?_, ?_, ?_, ?_, ?_, ?_, ?_, ?_⟩
      · intro L σ r h H locs ls hP hD hS hl
        rw [x_tupleOf] at h
        refine lv_aload_n hx hb dX12_tupleOf_0 rfl (lv_at hl 0 rfl) ?_
        refine ng_59 hx hb hts in_x_tupleOf hown hK hP (hts _ (List.mem_cons_of_mem _ (List.mem_append_left _ (List.mem_append_left _ (List.mem_of_getElem? (i := 0) rfl))))) dX12_tupleOf_1 ?_
        refine lv_iload_n hx hb dX12_tupleOf_4 rfl (lv_at hl 1 rfl) ?_
        refine lv_isub hx hb dX12_tupleOf_5 ?_
        refine lv_istore_n (lv' := [(2, .int (((σ.1 59)) - ((L 1)))), (0, .ref (a 0)), (1, .int (L 1))]) hx hb dX12_tupleOf_6 rfl hl (by decide) rfl (fun ls hl => ?_)
        exact ih.2.1 (upd L 2 ((((σ.1 59)) - ((L 1))))) σ r h H locs ls hP hD hS (lv_sub hl [1, 2, 0] rfl)
      · intro L σ r h H locs ls hP hD hS hl
        rw [x_tupleOf] at h
        refine lv_iload_n hx hb dX12_tupleOf_7 rfl (lv_at hl 2 rfl) ?_
        refine lv_if_le (tgt := 30) hx hb dX12_tupleOf_8 (by decide) (fun c1 => ?_) (fun c1 => ?_)
        · rw [if_pos c1] at h
          exact ih.2.2.1 L σ r h H locs ls hP hD hS (lv_sub hl [0, 1, 2] rfl)
        · rw [if_neg c1] at h
          refine lv_aload_n hx hb dX12_tupleOf_11 rfl (lv_at hl 0 rfl) ?_
          refine ng_58 hx hb hts in_x_tupleOf hown hK hP (hts _ (List.mem_cons_of_mem _ (List.mem_append_left _ (List.mem_append_left _ (List.mem_of_getElem? (i := 1) rfl))))) dX12_tupleOf_12 ?_
          refine lv_iload_n hx hb dX12_tupleOf_15 rfl (lv_at hl 1 rfl) ?_
          refine lv_iload_n hx hb dX12_tupleOf_16 rfl (lv_at hl 2 rfl) ?_
          refine lv_iadd hx hb dX12_tupleOf_17 ?_
          refine lv_iconst (v := 1) hx hb dX12_tupleOf_18 (by decide) ?_
          refine lv_isub hx hb dX12_tupleOf_19 ?_
          obtain ⟨q2, h⟩ := nb_ite1 h
          refine nl_29 hx hb hK hP q2 dX12_tupleOf_20 ?_
          refine lv_if_ne (tgt := 30) hx hb dX12_tupleOf_21 (by decide) (fun c3 => ?_) (fun c3 => ?_)
          · rw [if_neg c3] at h
            exact ih.2.2.1 L σ r h H locs ls hP hD hS (lv_sub hl [0, 1, 2] rfl)
          · rw [if_pos c3] at h
            refine lv_iinc (v := ((L 2)) + (-1)) (lv' := [(2, .int (((L 2)) + (-1))), (0, .ref (a 0)), (1, .int (L 1))]) hx hb dX12_tupleOf_24 hl (k := 2) rfl rfl (by decide) rfl (fun ls hl => ?_)
            refine lv_goto (tgt := 7) hx hb dX12_tupleOf_27 (by decide) ?_
            exact ih.2.1 (upd L 2 (((L 2)) + (-1))) σ r h H locs ls hP hD hS (lv_sub hl [1, 2, 0] rfl)
      · intro L σ r h H locs ls hP hD hS hl
        rw [x_tupleOf] at h
        refine lv_aload_n hx hb dX12_tupleOf_30 rfl (lv_at hl 0 rfl) ?_
        refine lv_iload_n hx hb dX12_tupleOf_31 rfl (lv_at hl 1 rfl) ?_
        refine np_59 hx hb hts in_x_tupleOf hown hK hP hD hS (hts _ (List.mem_cons_of_mem _ (List.mem_append_left _ (List.mem_append_left _ (List.mem_of_getElem? (i := 0) rfl))))) dX12_tupleOf_32 (fun H locs hP hD hS => ?_)
        exact ih.2.2.2.1 L (upd σ.1 59 ((L 1)), σ.2.1, σ.2.2) r h H locs ls hP hD hS (lv_sub hl [0, 1, 2] rfl)
      · intro L σ r h H locs ls hP hD hS hl
        rw [x_tupleOf] at h
        refine lv_aload_n hx hb dX12_tupleOf_35 rfl (lv_at hl 0 rfl) ?_
        refine lv_iconst (v := 5) hx hb dX12_tupleOf_36 (by decide) ?_
        refine lv_iload_n hx hb dX12_tupleOf_37 rfl (lv_at hl 2 rfl) ?_
        obtain ⟨r1, hc1, h⟩ := ob_ex h
        refine nc_Vi (As := [.int 5, .int (L 2)]) (rest := []) ⟨hx, hb, hml, hown, hts⟩ (c_x_make l dC dI cy a k (upd (upd (fun _ => 0) 1 5) 2 ((L 2))) σ r1 hc1 H.size) (cwV 2 hts g_x_tupleOf_make_429 rfl rfl rfl hd_x_make ⟨Nat.le_of_ble_eq_true rfl, Nat.le_of_ble_eq_true rfl⟩) hK hG hA hP hD hS rfl hl.1 rfl (Nat.le_of_ble_eq_true rfl) dX12_tupleOf_38 ⟨Nat.le_refl _, Nat.le_refl _⟩ (fun H locs hP hD hS => ?_)
        refine lv_istore_n (lv' := [(3, .int r1.1), (0, .ref (a 0)), (1, .int (L 1)), (2, .int (L 2))]) hx hb dX12_tupleOf_41 rfl hl (by decide) rfl (fun ls hl => ?_)
        refine lv_aload_n hx hb dX12_tupleOf_42 rfl (lv_at hl 1 rfl) ?_
        refine ng_56 hx hb hts in_x_tupleOf hown hK hP (hts _ (List.mem_cons_of_mem _ (List.mem_append_left _ (List.mem_append_left _ (List.mem_of_getElem? (i := 6) rfl))))) dX12_tupleOf_43 ?_
        refine lv_if_le (tgt := 51) hx hb dX12_tupleOf_46 (by decide) (fun c2 => ?_) (fun c2 => ?_)
        · rw [if_pos c2] at h
          exact ih.2.2.2.2.1 (upd L 3 r1.1) r1.2 r h H locs ls hP hD hS (lv_sub hl [1, 2, 3, 0] rfl)
        · rw [if_neg c2] at h
          refine lv_iconst (v := 0) hx hb dX12_tupleOf_49 (by decide) ?_
          cases h
          exact W.iret (v := 0) hx hb hr (fun t ht hW => ⟨⟨0, (), rfl, rfl, by rw [ht]; exact hP, va_K.moved hW.alike hK, hD⟩, hS.F ht⟩) hS.2.2 dX12_tupleOf_50
      · intro L σ r h H locs ls hP hD hS hl
        rw [x_tupleOf] at h
        refine lv_iconst (v := 0) hx hb dX12_tupleOf_51 (by decide) ?_
        refine lv_istore (lv' := [(4, .int 0), (0, .ref (a 0)), (1, .int (L 1)), (2, .int (L 2)), (3, .int (L 3))]) hx hb dX12_tupleOf_52 hl (by decide) rfl (fun ls hl => ?_)
        exact ih.2.2.2.2.2.1 (upd L 4 0) σ r h H locs ls hP hD hS (lv_sub hl [1, 2, 3, 4, 0] rfl)
      · intro L σ r h H locs ls hP hD hS hl
        rw [x_tupleOf] at h
        refine lv_iload hx hb dX12_tupleOf_54 (lv_at hl 4 rfl) ?_
        refine lv_iload_n hx hb dX12_tupleOf_56 rfl (lv_at hl 2 rfl) ?_
        refine lv_icmp_ge (tgt := 86) hx hb dX12_tupleOf_57 (by decide) (fun c1 => ?_) (fun c1 => ?_)
        · rw [if_pos c1] at h
          exact ih.2.2.2.2.2.2.2 L σ r h H locs ls hP hD hS (lv_sub hl [0, 1, 2, 3, 4] rfl)
        · rw [if_neg c1] at h
          refine lv_aload_n hx hb dX12_tupleOf_60 rfl (lv_at hl 0 rfl) ?_
          refine ng_53 hx hb hts in_x_tupleOf hown hK hP (hts _ (List.mem_cons_of_mem _ (List.mem_append_left _ (List.mem_append_left _ (List.mem_of_getElem? (i := 7) rfl))))) dX12_tupleOf_61 ?_
          refine lv_iload_n hx hb dX12_tupleOf_64 rfl (lv_at hl 3 rfl) ?_
          refine lv_iconst (v := 4) hx hb dX12_tupleOf_65 (by decide) ?_
          refine lv_iadd hx hb dX12_tupleOf_66 ?_
          refine lv_iload hx hb dX12_tupleOf_67 (lv_at hl 4 rfl) ?_
          refine lv_iadd hx hb dX12_tupleOf_69 ?_
          refine lv_aload_n hx hb dX12_tupleOf_70 rfl (lv_at hl 0 rfl) ?_
          refine ng_58 hx hb hts in_x_tupleOf hown hK hP (hts _ (List.mem_cons_of_mem _ (List.mem_append_left _ (List.mem_append_left _ (List.mem_of_getElem? (i := 1) rfl))))) dX12_tupleOf_71 ?_
          refine lv_iload_n hx hb dX12_tupleOf_74 rfl (lv_at hl 1 rfl) ?_
          refine lv_iload hx hb dX12_tupleOf_75 (lv_at hl 4 rfl) ?_
          refine lv_iadd hx hb dX12_tupleOf_77 ?_
          obtain ⟨q2, h⟩ := nb_ite1 h
          refine nl_29 hx hb hK hP q2 dX12_tupleOf_78 ?_
          obtain ⟨q3, h⟩ := nb_ite1 h
          refine ns_28 hx hb hK hP hD hS q3 dX12_tupleOf_79 (fun H locs hP hD hS => ?_)
          exact ih.2.2.2.2.2.2.1 L (σ.1, σ.2.1, updG σ.2.2 28 (upd (σ.2.2 28) ((((((L 3)) + 4)) + ((L 4)))).toNatClampNeg ((σ.2.2 29 ((((L 1)) + ((L 4)))).toNatClampNeg)))) r h H locs ls hP hD hS (lv_sub hl [0, 1, 2, 3, 4] rfl)
      · intro L σ r h H locs ls hP hD hS hl
        rw [x_tupleOf] at h
        refine lv_iinc (v := ((L 4)) + 1) (lv' := [(4, .int (((L 4)) + 1)), (0, .ref (a 0)), (1, .int (L 1)), (2, .int (L 2)), (3, .int (L 3))]) hx hb dX12_tupleOf_80 hl (k := 4) rfl rfl (by decide) rfl (fun ls hl => ?_)
        refine lv_goto (tgt := 54) hx hb dX12_tupleOf_83 (by decide) ?_
        exact ih.2.2.2.2.2.1 (upd L 4 (((L 4)) + 1)) σ r h H locs ls hP hD hS (lv_sub hl [1, 2, 3, 4, 0] rfl)
      · intro L σ r h H locs ls hP hD hS hl
        rw [x_tupleOf] at h
        refine lv_aload_n hx hb dX12_tupleOf_86 rfl (lv_at hl 0 rfl) ?_
        refine lv_iload_n hx hb dX12_tupleOf_87 rfl (lv_at hl 3 rfl) ?_
        obtain ⟨r1, hc1, h⟩ := ob_ex h
        refine nc_Vi (As := [.int (L 3)]) (rest := []) ⟨hx, hb, hml, hown, hts⟩ (c_x_measured l dC dI cy a k (upd (fun _ => 0) 1 ((L 3))) σ r1 hc1 H.size) (cwV 1 hts g_x_tupleOf_measured_441 rfl rfl rfl hd_x_measured ⟨Nat.le_of_ble_eq_true rfl, Nat.le_of_ble_eq_true rfl⟩) hK hG hA hP hD hS rfl hl.1 rfl (Nat.le_of_ble_eq_true rfl) dX12_tupleOf_88 ⟨Nat.le_refl _, Nat.le_refl _⟩ (fun H locs hP hD hS => ?_)
        cases h
        exact W.iret (v := r1.1) hx hb hr (fun t ht hW => ⟨⟨r1.1, (), rfl, rfl, by rw [ht]; exact hP, va_K.moved hW.alike hK, hD⟩, hS.F ht⟩) hS.2.2 dX12_tupleOf_91
  exact (blk k0).1 L0 σ0 r0 h0 s.heap [] ls hP hD hS hl
/-! signOf -/
def x_signOf : Nat → Nat → (Nat → Int32) → MS → Option (Int32 × MS)
  | 0, _, _, _ => none
  | k + 1, 0, L, σ => if ¬ (((((L 1)) + 4)) < 0 ∨ 1740000 ≤ ((((L 1)) + 4)).toNatClampNeg) then (some ((σ.2.2 28 ((((L 1)) + 4)).toNatClampNeg), σ)) else none
  | _ + 1, _ + 1, _, _ => none
def o_x_signOf : List Cond := [.fieldLink RX12 372 "SetHouseModel" "heap" "[I"]
theorem o_x_signOf_good : o_x_signOf.all goodWord = true := by decide +kernel
def p_x_signOf : List Cond := o_x_signOf ++ []
theorem p_x_signOf_good : p_x_signOf.all goodWord = true := nb_all2 o_x_signOf_good rfl
def w_x_signOf : List Cond := .code yX12_signOf cX12_signOf 2 (some .int) :: (p_x_signOf ++ fM)
theorem w_x_signOf_good : w_x_signOf.all goodWord = true := nb_allc (by decide +kernel) (nb_all2 p_x_signOf_good fM_good)
theorem in_x_signOf : ∀ w ∈ wsX120, w ∈ w_x_signOf := fun _ h => List.mem_cons_of_mem _ (List.mem_append_right _ h)
theorem hd_x_signOf : yX12_signOf.cls = RX12 ∧ yX12_signOf.cls ≠ "java/lang/invoke/MethodHandle" ∧ yX12_signOf.cls ≠ "java/lang/invoke/VarHandle" ∧ (parseMethodDescriptor yX12_signOf.desc).map (fun d => d.parameters.length) = some 1 := by decide +kernel
set_option maxHeartbeats 40000000 in
set_option maxRecDepth 100000 in
theorem c_x_signOf (l : Launch) (dC : Nat → ClassId) (dI : Nat → Nat → Nat) (cy : Nat → ClassId) (a : Nat → Nat) (k0 : Nat) (L0 : Nat → Int32) (σ0 : MS) (r0 : Int32 × MS) (h0 : x_signOf k0 0 L0 σ0 = some r0) (sz : Nat) : Met l yX12_signOf w_x_signOf ({ frames := 0, cells := 0, slots := 0, locals := 0 }) (va_Pc [.ref (a 0), .int (L0 1)] (nIn (dC, dI) cy sz (vM cy a σ0))) (va_Qi (fun (z : Int32) (_ : Unit) => z = r0.1) (fun _ t => nOut (dC, dI) cy (va_A (vM cy a σ0) sz) (vM cy a r0.2) t) (va_A (vM cy a σ0) sz)) 0 0 (va_A (vM cy a σ0) sz) := by
  refine Met.ofW (cc := cX12_signOf) (maxL := 2) (ret := (some .int)) (by decide) rfl ?_
  intro p e s m args below meth c s₁ B hml hv
  obtain ⟨rfl, hsz, hP, hK, hD0, hG⟩ := hv
  have hx := B.exec
  have hb := B.bytes
  have hr := B.returns
  have hts := atoms_spec (ws := w_x_signOf) B.pre
  have hown : s.vm.findClass RX12 = some m.cls := findClass_of_methodNamed B.named
  have hlocks := B.notSynchronized
  subst hsz
  have hD := hD0.self (sz := s.heap.size)
  generalize hAe : va_A (vM cy a σ0) s.heap.size = A at hD ⊢
  have hA : ∀ q : Nat, s.heap.size ≤ q → A q := fun q h => by rw [← hAe]; exact Or.inr h
  have hS : va_S A s.heap s.heap [] := va_S.rf
  have hl := lv_entry ([.ref (a 0), .int (L0 1)]) (n := 2) (Nat.le_of_ble_eq_true rfl)
  rw [lg_entry_eq]
  generalize (lg_sl ([.ref (a 0), .int (L0 1)]) ++ List.replicate (2 - (lg_sl ([.ref (a 0), .int (L0 1)])).length) Slot.unset).toArray = ls at hl ⊢
  have hl : lv_has ls 2 [(0, .ref (a 0)), (1, .int (L0 1))] := hl
  have blk : ∀ k : Nat, (bT p l e (headSpec w_x_signOf ({ frames := 0, cells := 0, slots := 0, locals := 0 })).room s m #[.ref (a 0), .int (L0 1)] below meth c dC dI cy a A (qI dC dI cy a A below #[.ref (a 0), .int (L0 1)] s) 2 (x_signOf k 0) (fun L => [(0, .ref (a 0)), (1, .int (L 1))]) 0 (fun L => [])) := by
    intro k
    induction k with
    | zero => exact fun L σ r h => (by cases h)
    | succ k ih =>
      skip
      · intro L σ r h H locs ls hP hD hS hl
        rw [x_signOf] at h
        refine lv_aload_n hx hb dX12_signOf_0 rfl (lv_at hl 0 rfl) ?_
        refine ng_53 hx hb hts in_x_signOf hown hK hP (hts _ (List.mem_cons_of_mem _ (List.mem_append_left _ (List.mem_append_left _ (List.mem_of_getElem? (i := 0) rfl))))) dX12_signOf_1 ?_
        refine lv_iload_n hx hb dX12_signOf_4 rfl (lv_at hl 1 rfl) ?_
        refine lv_iconst (v := 4) hx hb dX12_signOf_5 (by decide) ?_
        refine lv_iadd hx hb dX12_signOf_6 ?_
        obtain ⟨q1, h⟩ := nb_ite1 h
        refine nl_28 hx hb hK hP q1 dX12_signOf_7 ?_
        cases h
        exact W.iret (v := (σ.2.2 28 ((((L 1)) + 4)).toNatClampNeg)) hx hb hr (fun t ht hW => ⟨⟨(σ.2.2 28 ((((L 1)) + 4)).toNatClampNeg), (), rfl, rfl, by rw [ht]; exact hP, va_K.moved hW.alike hK, hD⟩, hS.F ht⟩) hS.2.2 dX12_signOf_8
  exact (blk k0) L0 σ0 r0 h0 s.heap [] ls hP hD hS hl
/-! compareWholes -/
def x_compareWholes : Nat → Nat → (Nat → Int32) → MS → Option (Int32 × MS)
  | 0, _, _, _ => none
  | k + 1, 0, L, σ => ob (x_signOf k 0 (upd (fun _ => 0) 1 ((L 1))) σ) (fun r1 => ob (x_signOf k 0 (upd (fun _ => 0) 1 ((L 2))) r1.2) (fun r2 => if r1.1 = r2.1 then (x_compareWholes k 1 L r2.2) else (ob (x_signOf k 0 (upd (fun _ => 0) 1 ((L 1))) r2.2) (fun r4 => ob (x_signOf k 0 (upd (fun _ => 0) 1 ((L 2))) r4.2) (fun r5 => some ((r4.1 - r5.1), r5.2))))))
  | k + 1, 1, L, σ => if ¬ (((((L 1)) + 1)) < 0 ∨ 1740000 ≤ ((((L 1)) + 1)).toNatClampNeg) then (if ¬ (((((L 2)) + 1)) < 0 ∨ 1740000 ≤ ((((L 2)) + 1)).toNatClampNeg) then (x_compareWholes k 2 (upd (upd (upd (upd L 3 ((σ.2.2 28 ((((L 1)) + 1)).toNatClampNeg))) 4 ((σ.2.2 28 ((((L 2)) + 1)).toNatClampNeg))) 5 ((((σ.2.2 28 ((((L 1)) + 1)).toNatClampNeg)) - ((σ.2.2 28 ((((L 2)) + 1)).toNatClampNeg))))) 6 ((((σ.2.2 28 ((((L 1)) + 1)).toNatClampNeg)) - 1))) σ) else none) else none
  | k + 1, 2, L, σ => if ((L 6)) ≤ 0 then (x_compareWholes k 3 L σ) else (if ((L 5)) = 0 then (if ¬ (((((((L 1)) + 4)) + ((L 6)))) < 0 ∨ 1740000 ≤ ((((((L 1)) + 4)) + ((L 6)))).toNatClampNeg) then (if ¬ (((((((L 2)) + 4)) + ((L 6)))) < 0 ∨ 1740000 ≤ ((((((L 2)) + 4)) + ((L 6)))).toNatClampNeg) then (x_compareWholes k 2 (upd (upd L 5 ((((σ.2.2 28 ((((((L 1)) + 4)) + ((L 6)))).toNatClampNeg)) - ((σ.2.2 28 ((((((L 2)) + 4)) + ((L 6)))).toNatClampNeg))))) 6 (((L 6)) + (-1))) σ) else none) else none) else (x_compareWholes k 3 L σ))
  | k + 1, 3, L, σ => ob (x_signOf k 0 (upd (fun _ => 0) 1 ((L 1))) σ) (fun r1 => if 0 ≤ r1.1 then (x_compareWholes k 4 L r1.2) else (x_compareWholes k 5 (upd L 100 ((- ((L 5))))) r1.2))
  | k + 1, 4, L, σ => x_compareWholes k 5 (upd L 100 ((L 5))) σ
  | k + 1, 5, L, σ => some ((L 100), σ)
  | _ + 1, _ + 6, _, _ => none
def o_x_compareWholes : List Cond := [.methodLink RX12 463 yX12_signOf, .instanceMethod yX12_signOf, .selects RX12 yX12_signOf yX12_signOf, .initialized RX12, .fieldLink RX12 372 "SetHouseModel" "heap" "[I"]
theorem o_x_compareWholes_good : o_x_compareWholes.all goodWord = true := by decide +kernel
def p_x_compareWholes : List Cond := o_x_compareWholes ++ ((.code yX12_signOf cX12_signOf 2 (some .int) :: p_x_signOf) ++ [])
theorem p_x_compareWholes_good : p_x_compareWholes.all goodWord = true := nb_all2 o_x_compareWholes_good (nb_all2 (nb_allc (by decide +kernel) p_x_signOf_good) rfl)
def w_x_compareWholes : List Cond := .code yX12_compareWholes cX12_compareWholes 7 (some .int) :: (p_x_compareWholes ++ fM)
theorem w_x_compareWholes_good : w_x_compareWholes.all goodWord = true := nb_allc (by decide +kernel) (nb_all2 p_x_compareWholes_good fM_good)
theorem in_x_compareWholes : ∀ w ∈ wsX120, w ∈ w_x_compareWholes := fun _ h => List.mem_cons_of_mem _ (List.mem_append_right _ h)
theorem hd_x_compareWholes : yX12_compareWholes.cls = RX12 ∧ yX12_compareWholes.cls ≠ "java/lang/invoke/MethodHandle" ∧ yX12_compareWholes.cls ≠ "java/lang/invoke/VarHandle" ∧ (parseMethodDescriptor yX12_compareWholes.desc).map (fun d => d.parameters.length) = some 2 := by decide +kernel
theorem gg_x_compareWholes_signOf : GoodIn w_x_compareWholes w_x_signOf := goodIn_sub (fun w h => (List.mem_cons.mp h).elim (fun e => (List.mem_cons_of_mem _ (List.mem_append_left _ (List.mem_append_right _ (List.mem_append_left _ (List.mem_cons.mpr (Or.inl e))))))) (fun h => (List.mem_append.mp h).elim (fun h => (List.mem_cons_of_mem _ (List.mem_append_left _ (List.mem_append_right _ (List.mem_append_left _ (List.mem_cons_of_mem _ h)))))) (fun h => List.mem_cons_of_mem _ (List.mem_append_right _ h)))) w_x_signOf_good
theorem g_x_compareWholes_signOf_463 : GoodIn w_x_compareWholes (wsV RX12 463 RX12 yX12_signOf w_x_signOf) := goodIn_app (nb_g4 (List.mem_cons_of_mem _ (List.mem_append_left _ (List.mem_append_left _ (List.mem_of_getElem? (i := 0) rfl)))) (List.mem_cons_of_mem _ (List.mem_append_left _ (List.mem_append_left _ (List.mem_of_getElem? (i := 1) rfl)))) (List.mem_cons_of_mem _ (List.mem_append_left _ (List.mem_append_left _ (List.mem_of_getElem? (i := 2) rfl)))) (List.mem_cons_of_mem _ (List.mem_append_left _ (List.mem_append_left _ (List.mem_of_getElem? (i := 3) rfl)))) (by decide +kernel)) gg_x_compareWholes_signOf
set_option maxHeartbeats 40000000 in
set_option maxRecDepth 100000 in
theorem c_x_compareWholes (l : Launch) (dC : Nat → ClassId) (dI : Nat → Nat → Nat) (cy : Nat → ClassId) (a : Nat → Nat) (k0 : Nat) (L0 : Nat → Int32) (σ0 : MS) (r0 : Int32 × MS) (h0 : x_compareWholes k0 0 L0 σ0 = some r0) (sz : Nat) : Met l yX12_compareWholes w_x_compareWholes ({ frames := 1, cells := 0, slots := 0, locals := 21 }) (va_Pc [.ref (a 0), .int (L0 1), .int (L0 2)] (nIn (dC, dI) cy sz (vM cy a σ0))) (va_Qi (fun (z : Int32) (_ : Unit) => z = r0.1) (fun _ t => nOut (dC, dI) cy (va_A (vM cy a σ0) sz) (vM cy a r0.2) t) (va_A (vM cy a σ0) sz)) 0 0 (va_A (vM cy a σ0) sz) := by
  refine Met.ofW (cc := cX12_compareWholes) (maxL := 7) (ret := (some .int)) (by decide) rfl ?_
  intro p e s m args below meth c s₁ B hml hv
  obtain ⟨rfl, hsz, hP, hK, hD0, hG⟩ := hv
  have hx := B.exec
  have hb := B.bytes
  have hr := B.returns
  have hts := atoms_spec (ws := w_x_compareWholes) B.pre
  have hown : s.vm.findClass RX12 = some m.cls := findClass_of_methodNamed B.named
  have hlocks := B.notSynchronized
  subst hsz
  have hD := hD0.self (sz := s.heap.size)
  generalize hAe : va_A (vM cy a σ0) s.heap.size = A at hD ⊢
  have hA : ∀ q : Nat, s.heap.size ≤ q → A q := fun q h => by rw [← hAe]; exact Or.inr h
  have hS : va_S A s.heap s.heap [] := va_S.rf
  have hl := lv_entry ([.ref (a 0), .int (L0 1), .int (L0 2)]) (n := 7) (Nat.le_of_ble_eq_true rfl)
  rw [lg_entry_eq]
  generalize (lg_sl ([.ref (a 0), .int (L0 1), .int (L0 2)]) ++ List.replicate (7 - (lg_sl ([.ref (a 0), .int (L0 1), .int (L0 2)])).length) Slot.unset).toArray = ls at hl ⊢
  have hl : lv_has ls 7 [(0, .ref (a 0)), (1, .int (L0 1)), (2, .int (L0 2))] := hl
  have blk : ∀ k : Nat, (bT p l e (headSpec w_x_compareWholes ({ frames := 1, cells := 0, slots := 0, locals := 21 })).room s m #[.ref (a 0), .int (L0 1), .int (L0 2)] below meth c dC dI cy a A (qI dC dI cy a A below #[.ref (a 0), .int (L0 1), .int (L0 2)] s) 7 (x_compareWholes k 0) (fun L => [(0, .ref (a 0)), (1, .int (L 1)), (2, .int (L 2))]) 0 (fun L => [])) ∧ (bT p l e (headSpec w_x_compareWholes ({ frames := 1, cells := 0, slots := 0, locals := 21 })).room s m #[.ref (a 0), .int (L0 1), .int (L0 2)] below meth c dC dI cy a A (qI dC dI cy a A below #[.ref (a 0), .int (L0 1), .int (L0 2)] s) 7 (x_compareWholes k 1) (fun L => [(0, .ref (a 0)), (1, .int (L 1)), (2, .int (L 2))]) 25 (fun L => [])) ∧ (bT p l e (headSpec w_x_compareWholes ({ frames := 1, cells := 0, slots := 0, locals := 21 })).room s m #[.ref (a 0), .int (L0 1), .int (L0 2)] below meth c dC dI cy a A (qI dC dI cy a A below #[.ref (a 0), .int (L0 1), .int (L0 2)] s) 7 (x_compareWholes k 2) (fun L => [(0, .ref (a 0)), (1, .int (L 1)), (2, .int (L 2)), (3, .int (L 3)), (4, .int (L 4)), (5, .int (L 5)), (6, .int (L 6))]) 55 (fun L => [])) ∧ (bT p l e (headSpec w_x_compareWholes ({ frames := 1, cells := 0, slots := 0, locals := 21 })).room s m #[.ref (a 0), .int (L0 1), .int (L0 2)] below meth c dC dI cy a A (qI dC dI cy a A below #[.ref (a 0), .int (L0 1), .int (L0 2)] s) 7 (x_compareWholes k 3) (fun L => [(0, .ref (a 0)), (1, .int (L 1)), (2, .int (L 2)), (3, .int (L 3)), (4, .int (L 4)), (5, .int (L 5)), (6, .int (L 6))]) 96 (fun L => [])) ∧ (bT p l e (headSpec w_x_compareWholes ({ frames := 1, cells := 0, slots := 0, locals := 21 })).room s m #[.ref (a 0), .int (L0 1), .int (L0 2)] below meth c dC dI cy a A (qI dC dI cy a A below #[.ref (a 0), .int (L0 1), .int (L0 2)] s) 7 (x_compareWholes k 4) (fun L => [(0, .ref (a 0)), (1, .int (L 1)), (2, .int (L 2)), (3, .int (L 3)), (4, .int (L 4)), (5, .int (L 5)), (6, .int (L 6))]) 110 (fun L => [])) ∧ (bT p l e (headSpec w_x_compareWholes ({ frames := 1, cells := 0, slots := 0, locals := 21 })).room s m #[.ref (a 0), .int (L0 1), .int (L0 2)] below meth c dC dI cy a A (qI dC dI cy a A below #[.ref (a 0), .int (L0 1), .int (L0 2)] s) 7 (x_compareWholes k 5) (fun L => [(0, .ref (a 0)), (1, .int (L 1)), (2, .int (L 2)), (3, .int (L 3)), (4, .int (L 4)), (5, .int (L 5)), (6, .int (L 6))]) 112 (fun L => [.int (L 100)])) := by
    intro k
    induction k with
    | zero => exact ⟨fun L σ r h => (by cases h), fun L σ r h => (by cases h), fun L σ r h => (by cases h), fun L σ r h => (by cases h), fun L σ r h => (by cases h), fun L σ r h => (by cases h)⟩
    | succ k ih =>
      refine ⟨?_, ?_, ?_, ?_, ?_, ?_⟩
      · intro L σ r h H locs ls hP hD hS hl
        rw [x_compareWholes] at h
        refine lv_aload_n hx hb dX12_compareWholes_0 rfl (lv_at hl 0 rfl) ?_
        refine lv_iload_n hx hb dX12_compareWholes_1 rfl (lv_at hl 1 rfl) ?_
        obtain ⟨r1, hc1, h⟩ := ob_ex h
        refine nc_Vi (As := [.int (L 1)]) (rest := []) ⟨hx, hb, hml, hown, hts⟩ (c_x_signOf l dC dI cy a k (upd (fun _ => 0) 1 ((L 1))) σ r1 hc1 H.size) (cwV 1 hts g_x_compareWholes_signOf_463 rfl rfl rfl hd_x_signOf ⟨Nat.le_of_ble_eq_true rfl, Nat.le_of_ble_eq_true rfl⟩) hK hG hA hP hD hS rfl hl.1 rfl (Nat.le_of_ble_eq_true rfl) dX12_compareWholes_2 ⟨Nat.le_refl _, Nat.le_refl _⟩ (fun H locs hP hD hS => ?_)
        refine lv_aload_n hx hb dX12_compareWholes_5 rfl (lv_at hl 0 rfl) ?_
        refine lv_iload_n hx hb dX12_compareWholes_6 rfl (lv_at hl 2 rfl) ?_
        obtain ⟨r2, hc2, h⟩ := ob_ex h
        refine nc_Vi (As := [.int (L 2)]) (rest := [.int r1.1]) ⟨hx, hb, hml, hown, hts⟩ (c_x_signOf l dC dI cy a k (upd (fun _ => 0) 1 ((L 2))) r1.2 r2 hc2 H.size) (cwV 1 hts g_x_compareWholes_signOf_463 rfl rfl rfl hd_x_signOf ⟨Nat.le_of_ble_eq_true rfl, Nat.le_of_ble_eq_true rfl⟩) hK hG hA hP hD hS rfl hl.1 rfl (Nat.le_of_ble_eq_true rfl) dX12_compareWholes_7 ⟨Nat.le_refl _, Nat.le_refl _⟩ (fun H locs hP hD hS => ?_)
        refine lv_icmp_eq (tgt := 25) hx hb dX12_compareWholes_10 (by decide) (fun c3 => ?_) (fun c3 => ?_)
        · rw [if_pos c3] at h
          exact ih.2.1 L r2.2 r h H locs ls hP hD hS (lv_sub hl [0, 1, 2] rfl)
        · rw [if_neg c3] at h
          refine lv_aload_n hx hb dX12_compareWholes_13 rfl (lv_at hl 0 rfl) ?_
          refine lv_iload_n hx hb dX12_compareWholes_14 rfl (lv_at hl 1 rfl) ?_
          obtain ⟨r4, hc4, h⟩ := ob_ex h
          refine nc_Vi (As := [.int (L 1)]) (rest := []) ⟨hx, hb, hml, hown, hts⟩ (c_x_signOf l dC dI cy a k (upd (fun _ => 0) 1 ((L 1))) r2.2 r4 hc4 H.size) (cwV 1 hts g_x_compareWholes_signOf_463 rfl rfl rfl hd_x_signOf ⟨Nat.le_of_ble_eq_true rfl, Nat.le_of_ble_eq_true rfl⟩) hK hG hA hP hD hS rfl hl.1 rfl (Nat.le_of_ble_eq_true rfl) dX12_compareWholes_15 ⟨Nat.le_refl _, Nat.le_refl _⟩ (fun H locs hP hD hS => ?_)
          refine lv_aload_n hx hb dX12_compareWholes_18 rfl (lv_at hl 0 rfl) ?_
          refine lv_iload_n hx hb dX12_compareWholes_19 rfl (lv_at hl 2 rfl) ?_
          obtain ⟨r5, hc5, h⟩ := ob_ex h
          refine nc_Vi (As := [.int (L 2)]) (rest := [.int r4.1]) ⟨hx, hb, hml, hown, hts⟩ (c_x_signOf l dC dI cy a k (upd (fun _ => 0) 1 ((L 2))) r4.2 r5 hc5 H.size) (cwV 1 hts g_x_compareWholes_signOf_463 rfl rfl rfl hd_x_signOf ⟨Nat.le_of_ble_eq_true rfl, Nat.le_of_ble_eq_true rfl⟩) hK hG hA hP hD hS rfl hl.1 rfl (Nat.le_of_ble_eq_true rfl) dX12_compareWholes_20 ⟨Nat.le_refl _, Nat.le_refl _⟩ (fun H locs hP hD hS => ?_)
          refine lv_isub hx hb dX12_compareWholes_23 ?_
          cases h
          exact W.iret (v := (r4.1 - r5.1)) hx hb hr (fun t ht hW => ⟨⟨(r4.1 - r5.1), (), rfl, rfl, by rw [ht]; exact hP, va_K.moved hW.alike hK, hD⟩, hS.F ht⟩) hS.2.2 dX12_compareWholes_24
      · intro L σ r h H locs ls hP hD hS hl
        rw [x_compareWholes] at h
        refine lv_aload_n hx hb dX12_compareWholes_25 rfl (lv_at hl 0 rfl) ?_
        refine ng_53 hx hb hts in_x_compareWholes hown hK hP (hts _ (List.mem_cons_of_mem _ (List.mem_append_left _ (List.mem_append_left _ (List.mem_of_getElem? (i := 4) rfl))))) dX12_compareWholes_26 ?_
        refine lv_iload_n hx hb dX12_compareWholes_29 rfl (lv_at hl 1 rfl) ?_
        refine lv_iconst (v := 1) hx hb dX12_compareWholes_30 (by decide) ?_
        refine lv_iadd hx hb dX12_compareWholes_31 ?_
        obtain ⟨q1, h⟩ := nb_ite1 h
        refine nl_28 hx hb hK hP q1 dX12_compareWholes_32 ?_
        refine lv_istore_n (lv' := [(3, .int (σ.2.2 28 ((((L 1)) + 1)).toNatClampNeg)), (0, .ref (a 0)), (1, .int (L 1)), (2, .int (L 2))]) hx hb dX12_compareWholes_33 rfl hl (by decide) rfl (fun ls hl => ?_)
        refine lv_aload_n hx hb dX12_compareWholes_34 rfl (lv_at hl 1 rfl) ?_
        refine ng_53 hx hb hts in_x_compareWholes hown hK hP (hts _ (List.mem_cons_of_mem _ (List.mem_append_left _ (List.mem_append_left _ (List.mem_of_getElem? (i := 4) rfl))))) dX12_compareWholes_35 ?_
        refine lv_iload_n hx hb dX12_compareWholes_38 rfl (lv_at hl 3 rfl) ?_
        refine lv_iconst (v := 1) hx hb dX12_compareWholes_39 (by decide) ?_
        refine lv_iadd hx hb dX12_compareWholes_40 ?_
        obtain ⟨q2, h⟩ := nb_ite1 h
        refine nl_28 hx hb hK hP q2 dX12_compareWholes_41 ?_
        refine lv_istore (lv' := [(4, .int (σ.2.2 28 ((((L 2)) + 1)).toNatClampNeg)), (3, .int (σ.2.2 28 ((((L 1)) + 1)).toNatClampNeg)), (0, .ref (a 0)), (1, .int (L 1)), (2, .int (L 2))]) hx hb dX12_compareWholes_42 hl (by decide) rfl (fun ls hl => ?_)
        refine lv_iload_n hx hb dX12_compareWholes_44 rfl (lv_at hl 1 rfl) ?_
        refine lv_iload hx hb dX12_compareWholes_45 (lv_at hl 0 rfl) ?_
        refine lv_isub hx hb dX12_compareWholes_47 ?_
        refine lv_istore (lv' := [(5, .int (((σ.2.2 28 ((((L 1)) + 1)).toNatClampNeg)) - ((σ.2.2 28 ((((L 2)) + 1)).toNatClampNeg)))), (4, .int (σ.2.2 28 ((((L 2)) + 1)).toNatClampNeg)), (3, .int (σ.2.2 28 ((((L 1)) + 1)).toNatClampNeg)), (0, .ref (a 0)), (1, .int (L 1)), (2, .int (L 2))]) hx hb dX12_compareWholes_48 hl (by decide) rfl (fun ls hl => ?_)
        refine lv_iload_n hx hb dX12_compareWholes_50 rfl (lv_at hl 2 rfl) ?_
        refine lv_iconst (v := 1) hx hb dX12_compareWholes_51 (by decide) ?_
        refine lv_isub hx hb dX12_compareWholes_52 ?_
        refine lv_istore (lv' := [(6, .int (((σ.2.2 28 ((((L 1)) + 1)).toNatClampNeg)) - 1)), (5, .int (((σ.2.2 28 ((((L 1)) + 1)).toNatClampNeg)) - ((σ.2.2 28 ((((L 2)) + 1)).toNatClampNeg)))), (4, .int (σ.2.2 28 ((((L 2)) + 1)).toNatClampNeg)), (3, .int (σ.2.2 28 ((((L 1)) + 1)).toNatClampNeg)), (0, .ref (a 0)), (1, .int (L 1)), (2, .int (L 2))]) hx hb dX12_compareWholes_53 hl (by decide) rfl (fun ls hl => ?_)
        exact ih.2.2.1 (upd (upd (upd (upd L 3 ((σ.2.2 28 ((((L 1)) + 1)).toNatClampNeg))) 4 ((σ.2.2 28 ((((L 2)) + 1)).toNatClampNeg))) 5 ((((σ.2.2 28 ((((L 1)) + 1)).toNatClampNeg)) - ((σ.2.2 28 ((((L 2)) + 1)).toNatClampNeg))))) 6 ((((σ.2.2 28 ((((L 1)) + 1)).toNatClampNeg)) - 1))) σ r h H locs ls hP hD hS (lv_sub hl [4, 5, 6, 3, 2, 1, 0] rfl)
      · intro L σ r h H locs ls hP hD hS hl
        rw [x_compareWholes] at h
        refine lv_iload hx hb dX12_compareWholes_55 (lv_at hl 6 rfl) ?_
        refine lv_if_le (tgt := 96) hx hb dX12_compareWholes_57 (by decide) (fun c1 => ?_) (fun c1 => ?_)
        · rw [if_pos c1] at h
          exact ih.2.2.2.1 L σ r h H locs ls hP hD hS (lv_sub hl [0, 1, 2, 3, 4, 5, 6] rfl)
        · rw [if_neg c1] at h
          refine lv_iload hx hb dX12_compareWholes_60 (lv_at hl 5 rfl) ?_
          refine lv_if_ne (tgt := 96) hx hb dX12_compareWholes_62 (by decide) (fun c2 => ?_) (fun c2 => ?_)
          · rw [if_neg c2] at h
            exact ih.2.2.2.1 L σ r h H locs ls hP hD hS (lv_sub hl [0, 1, 2, 3, 4, 5, 6] rfl)
          · rw [if_pos c2] at h
            refine lv_aload_n hx hb dX12_compareWholes_65 rfl (lv_at hl 0 rfl) ?_
            refine ng_53 hx hb hts in_x_compareWholes hown hK hP (hts _ (List.mem_cons_of_mem _ (List.mem_append_left _ (List.mem_append_left _ (List.mem_of_getElem? (i := 4) rfl))))) dX12_compareWholes_66 ?_
            refine lv_iload_n hx hb dX12_compareWholes_69 rfl (lv_at hl 1 rfl) ?_
            refine lv_iconst (v := 4) hx hb dX12_compareWholes_70 (by decide) ?_
            refine lv_iadd hx hb dX12_compareWholes_71 ?_
            refine lv_iload hx hb dX12_compareWholes_72 (lv_at hl 6 rfl) ?_
            refine lv_iadd hx hb dX12_compareWholes_74 ?_
            obtain ⟨q3, h⟩ := nb_ite1 h
            refine nl_28 hx hb hK hP q3 dX12_compareWholes_75 ?_
            refine lv_aload_n hx hb dX12_compareWholes_76 rfl (lv_at hl 0 rfl) ?_
            refine ng_53 hx hb hts in_x_compareWholes hown hK hP (hts _ (List.mem_cons_of_mem _ (List.mem_append_left _ (List.mem_append_left _ (List.mem_of_getElem? (i := 4) rfl))))) dX12_compareWholes_77 ?_
            refine lv_iload_n hx hb dX12_compareWholes_80 rfl (lv_at hl 2 rfl) ?_
            refine lv_iconst (v := 4) hx hb dX12_compareWholes_81 (by decide) ?_
            refine lv_iadd hx hb dX12_compareWholes_82 ?_
            refine lv_iload hx hb dX12_compareWholes_83 (lv_at hl 6 rfl) ?_
            refine lv_iadd hx hb dX12_compareWholes_85 ?_
            obtain ⟨q4, h⟩ := nb_ite1 h
            refine nl_28 hx hb hK hP q4 dX12_compareWholes_86 ?_
            refine lv_isub hx hb dX12_compareWholes_87 ?_
            refine lv_istore (lv' := [(5, .int (((σ.2.2 28 ((((((L 1)) + 4)) + ((L 6)))).toNatClampNeg)) - ((σ.2.2 28 ((((((L 2)) + 4)) + ((L 6)))).toNatClampNeg)))), (0, .ref (a 0)), (1, .int (L 1)), (2, .int (L 2)), (3, .int (L 3)), (4, .int (L 4)), (6, .int (L 6))]) hx hb dX12_compareWholes_88 hl (by decide) rfl (fun ls hl => ?_)
            refine lv_iinc (v := ((L 6)) + (-1)) (lv' := [(6, .int (((L 6)) + (-1))), (5, .int (((σ.2.2 28 ((((((L 1)) + 4)) + ((L 6)))).toNatClampNeg)) - ((σ.2.2 28 ((((((L 2)) + 4)) + ((L 6)))).toNatClampNeg)))), (0, .ref (a 0)), (1, .int (L 1)), (2, .int (L 2)), (3, .int (L 3)), (4, .int (L 4))]) hx hb dX12_compareWholes_90 hl (k := 6) rfl rfl (by decide) rfl (fun ls hl => ?_)
            refine lv_goto (tgt := 55) hx hb dX12_compareWholes_93 (by decide) ?_
            exact ih.2.2.1 (upd (upd L 5 ((((σ.2.2 28 ((((((L 1)) + 4)) + ((L 6)))).toNatClampNeg)) - ((σ.2.2 28 ((((((L 2)) + 4)) + ((L 6)))).toNatClampNeg))))) 6 (((L 6)) + (-1))) σ r h H locs ls hP hD hS (lv_sub hl [2, 3, 4, 5, 6, 1, 0] rfl)
      · intro L σ r h H locs ls hP hD hS hl
        rw [x_compareWholes] at h
        refine lv_aload_n hx hb dX12_compareWholes_96 rfl (lv_at hl 0 rfl) ?_
        refine lv_iload_n hx hb dX12_compareWholes_97 rfl (lv_at hl 1 rfl) ?_
        obtain ⟨r1, hc1, h⟩ := ob_ex h
        refine nc_Vi (As := [.int (L 1)]) (rest := []) ⟨hx, hb, hml, hown, hts⟩ (c_x_signOf l dC dI cy a k (upd (fun _ => 0) 1 ((L 1))) σ r1 hc1 H.size) (cwV 1 hts g_x_compareWholes_signOf_463 rfl rfl rfl hd_x_signOf ⟨Nat.le_of_ble_eq_true rfl, Nat.le_of_ble_eq_true rfl⟩) hK hG hA hP hD hS rfl hl.1 rfl (Nat.le_of_ble_eq_true rfl) dX12_compareWholes_98 ⟨Nat.le_refl _, Nat.le_refl _⟩ (fun H locs hP hD hS => ?_)
        refine lv_if_ge (tgt := 110) hx hb dX12_compareWholes_101 (by decide) (fun c2 => ?_) (fun c2 => ?_)
        · rw [if_pos c2] at h
          exact ih.2.2.2.2.1 L r1.2 r h H locs ls hP hD hS (lv_sub hl [0, 1, 2, 3, 4, 5, 6] rfl)
        · rw [if_neg c2] at h
          refine lv_iload hx hb dX12_compareWholes_104 (lv_at hl 5 rfl) ?_
          refine lv_ineg hx hb dX12_compareWholes_106 ?_
          refine lv_goto (tgt := 112) hx hb dX12_compareWholes_107 (by decide) ?_
          exact ih.2.2.2.2.2 (upd L 100 ((- ((L 5))))) r1.2 r h H locs ls hP hD hS (lv_sub hl [0, 1, 2, 3, 4, 5, 6] rfl)
      · intro L σ r h H locs ls hP hD hS hl
        rw [x_compareWholes] at h
        refine lv_iload hx hb dX12_compareWholes_110 (lv_at hl 5 rfl) ?_
        exact ih.2.2.2.2.2 (upd L 100 ((L 5))) σ r h H locs ls hP hD hS (lv_sub hl [0, 1, 2, 3, 4, 5, 6] rfl)
      · intro L σ r h H locs ls hP hD hS hl
        rw [x_compareWholes] at h
        cases h
        exact W.iret (v := (L 100)) hx hb hr (fun t ht hW => ⟨⟨(L 100), (), rfl, rfl, by rw [ht]; exact hP, va_K.moved hW.alike hK, hD⟩, hS.F ht⟩) hS.2.2 dX12_compareWholes_112
  exact (blk k0).1 L0 σ0 r0 h0 s.heap [] ls hP hD hS hl

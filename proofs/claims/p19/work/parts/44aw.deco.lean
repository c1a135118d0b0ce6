/-! isOver -/
def x_isOver : Nat → Nat → (Nat → Int32) → MS → Option (Int32 × MS)
  | 0, _, _, _ => none
  | k + 1, 0, L, σ => if ((L 0)) = 16 then (x_isOver k 1 L σ) else (if ((L 0)) = 21 then (x_isOver k 1 L σ) else (if ((L 0)) = 22 then (x_isOver k 1 L σ) else (if ((L 0)) = 23 then (x_isOver k 1 L σ) else (if ((L 0)) = 24 then (x_isOver k 1 L σ) else (if ((L 0)) = 25 then (x_isOver k 1 L σ) else (if ((L 0)) = 26 then (x_isOver k 1 L σ) else (x_isOver k 2 L σ)))))))
  | k + 1, 1, L, σ => x_isOver k 3 (upd L 100 1) σ
  | k + 1, 2, L, σ => x_isOver k 3 (upd L 100 0) σ
  | k + 1, 3, L, σ => if ((L 100)) = 0 ∨ ((L 100)) = 1 then some ((L 100), σ) else none
  | _ + 1, _ + 4, _, _ => none
def o_x_isOver : List Cond := []
theorem o_x_isOver_good : o_x_isOver.all goodWord = true := by decide +kernel
def p_x_isOver : List Cond := o_x_isOver ++ []
theorem p_x_isOver_good : p_x_isOver.all goodWord = true := nb_all2 o_x_isOver_good rfl
def w_x_isOver : List Cond := .code yX12_isOver cX12_isOver 1 (some .boolean) :: (p_x_isOver ++ fM)
theorem w_x_isOver_good : w_x_isOver.all goodWord = true := nb_allc (by decide +kernel) (nb_all2 p_x_isOver_good fM_good)
theorem in_x_isOver : ∀ w ∈ wsX120, w ∈ w_x_isOver := fun _ h => List.mem_cons_of_mem _ (List.mem_append_right _ h)
theorem hd_x_isOver : yX12_isOver.cls ≠ "java/lang/invoke/MethodHandle" ∧ yX12_isOver.cls ≠ "java/lang/invoke/VarHandle" ∧ (parseMethodDescriptor yX12_isOver.desc).map (fun d => d.parameters.length) = some 1 := by decide +kernel
set_option maxHeartbeats 40000000 in
set_option maxRecDepth 100000 in
theorem c_x_isOver (l : Launch) (dC : Nat → ClassId) (dI : Nat → Nat → Nat) (cy : Nat → ClassId) (a : Nat → Nat) (k0 : Nat) (L0 : Nat → Int32) (σ0 : MS) (r0 : Int32 × MS) (h0 : x_isOver k0 0 L0 σ0 = some r0) (sz : Nat) : Met l yX12_isOver w_x_isOver ({ frames := 0, cells := 0, slots := 0, locals := 0 }) (va_Pc [.int (L0 0)] (nIn (dC, dI) cy sz (vM cy a σ0))) (va_Qi (fun (z : Int32) (_ : Unit) => z = r0.1) (fun _ t => nOut (dC, dI) cy (va_A (vM cy a σ0) sz) (vM cy a r0.2) t) (va_A (vM cy a σ0) sz)) 0 0 (va_A (vM cy a σ0) sz) := by
  refine Met.ofW (cc := cX12_isOver) (maxL := 1) (ret := (some .boolean)) (by decide) rfl ?_
  intro p e s m args below meth c s₁ B hml hv
  obtain ⟨rfl, hsz, hP, hK, hD0, hG⟩ := hv
  have hx := B.exec
  have hb := B.bytes
  have hr := B.returns
  have hts := atoms_spec (ws := w_x_isOver) B.pre
  have hown : s.vm.findClass RX12 = some m.cls := findClass_of_methodNamed B.named
  have hlocks := B.notSynchronized
  subst hsz
  have hD := hD0.self (sz := s.heap.size)
  generalize hAe : va_A (vM cy a σ0) s.heap.size = A at hD ⊢
  have hA : ∀ q : Nat, s.heap.size ≤ q → A q := fun q h => by rw [← hAe]; exact Or.inr h
  have hS : va_S A s.heap s.heap [] := va_S.rf
  have hl := lv_entry ([.int (L0 0)]) (n := 1) (Nat.le_of_ble_eq_true rfl)
  rw [lg_entry_eq]
  generalize (lg_sl ([.int (L0 0)]) ++ List.replicate (1 - (lg_sl ([.int (L0 0)])).length) Slot.unset).toArray = ls at hl ⊢
  have hl : lv_has ls 1 [(0, .int (L0 0))] := hl
  have blk : ∀ k : Nat, (bT p l e (headSpec w_x_isOver ({ frames := 0, cells := 0, slots := 0, locals := 0 })).room s m #[.int (L0 0)] below meth c dC dI cy a A (qI dC dI cy a A below #[.int (L0 0)] s) 1 (x_isOver k 0) (fun L => [(0, .int (L 0))]) 0 (fun L => [])) ∧ (bT p l e (headSpec w_x_isOver ({ frames := 0, cells := 0, slots := 0, locals := 0 })).room s m #[.int (L0 0)] below meth c dC dI cy a A (qI dC dI cy a A below #[.int (L0 0)] s) 1 (x_isOver k 1) (fun L => [(0, .int (L 0))]) 42 (fun L => [])) ∧ (bT p l e (headSpec w_x_isOver ({ frames := 0, cells := 0, slots := 0, locals := 0 })).room s m #[.int (L0 0)] below meth c dC dI cy a A (qI dC dI cy a A below #[.int (L0 0)] s) 1 (x_isOver k 2) (fun L => [(0, .int (L 0))]) 46 (fun L => [])) ∧ (bT p l e (headSpec w_x_isOver ({ frames := 0, cells := 0, slots := 0, locals := 0 })).room s m #[.int (L0 0)] below meth c dC dI cy a A (qI dC dI cy a A below #[.int (L0 0)] s) 1 (x_isOver k 3) (fun L => [(0, .int (L 0))]) 47 (fun L => [.int (L 100)])) := by
    intro k
    induction k with
    | zero => exact ⟨fun L σ r h => (by cases h), fun L σ r h => (by cases h), fun L σ r h => (by cases h), fun L σ r h => (by cases h)⟩
    | succ k ih =>
      refine ⟨?_, ?_, ?_, ?_⟩
      · intro L σ r h H locs ls hP hD hS hl
        rw [x_isOver] at h
        refine lv_iload_n hx hb dX12_isOver_0 rfl (lv_at hl 0 rfl) ?_
        refine lv_bipush (v := 16) hx hb dX12_isOver_1 (by decide) ?_
        refine lv_icmp_eq (tgt := 42) hx hb dX12_isOver_3 (by decide) (fun c1 => ?_) (fun c1 => ?_)
        · rw [if_pos c1] at h
          exact ih.2.1 L σ r h H locs ls hP hD hS (lv_sub hl [0] rfl)
        · rw [if_neg c1] at h
          refine lv_iload_n hx hb dX12_isOver_6 rfl (lv_at hl 0 rfl) ?_
          refine lv_bipush (v := 21) hx hb dX12_isOver_7 (by decide) ?_
          refine lv_icmp_eq (tgt := 42) hx hb dX12_isOver_9 (by decide) (fun c2 => ?_) (fun c2 => ?_)
          · rw [if_pos c2] at h
            exact ih.2.1 L σ r h H locs ls hP hD hS (lv_sub hl [0] rfl)
          · rw [if_neg c2] at h
            refine lv_iload_n hx hb dX12_isOver_12 rfl (lv_at hl 0 rfl) ?_
            refine lv_bipush (v := 22) hx hb dX12_isOver_13 (by decide) ?_
            refine lv_icmp_eq (tgt := 42) hx hb dX12_isOver_15 (by decide) (fun c3 => ?_) (fun c3 => ?_)
            · rw [if_pos c3] at h
              exact ih.2.1 L σ r h H locs ls hP hD hS (lv_sub hl [0] rfl)
            · rw [if_neg c3] at h
              refine lv_iload_n hx hb dX12_isOver_18 rfl (lv_at hl 0 rfl) ?_
              refine lv_bipush (v := 23) hx hb dX12_isOver_19 (by decide) ?_
              refine lv_icmp_eq (tgt := 42) hx hb dX12_isOver_21 (by decide) (fun c4 => ?_) (fun c4 => ?_)
              · rw [if_pos c4] at h
                exact ih.2.1 L σ r h H locs ls hP hD hS (lv_sub hl [0] rfl)
              · rw [if_neg c4] at h
                refine lv_iload_n hx hb dX12_isOver_24 rfl (lv_at hl 0 rfl) ?_
                refine lv_bipush (v := 24) hx hb dX12_isOver_25 (by decide) ?_
                refine lv_icmp_eq (tgt := 42) hx hb dX12_isOver_27 (by decide) (fun c5 => ?_) (fun c5 => ?_)
                · rw [if_pos c5] at h
                  exact ih.2.1 L σ r h H locs ls hP hD hS (lv_sub hl [0] rfl)
                · rw [if_neg c5] at h
                  refine lv_iload_n hx hb dX12_isOver_30 rfl (lv_at hl 0 rfl) ?_
                  refine lv_bipush (v := 25) hx hb dX12_isOver_31 (by decide) ?_
                  refine lv_icmp_eq (tgt := 42) hx hb dX12_isOver_33 (by decide) (fun c6 => ?_) (fun c6 => ?_)
                  · rw [if_pos c6] at h
                    exact ih.2.1 L σ r h H locs ls hP hD hS (lv_sub hl [0] rfl)
                  · rw [if_neg c6] at h
                    refine lv_iload_n hx hb dX12_isOver_36 rfl (lv_at hl 0 rfl) ?_
                    refine lv_bipush (v := 26) hx hb dX12_isOver_37 (by decide) ?_
                    refine lv_icmp_ne (tgt := 46) hx hb dX12_isOver_39 (by decide) (fun c7 => ?_) (fun c7 => ?_)
                    · rw [if_neg c7] at h
                      exact ih.2.2.1 L σ r h H locs ls hP hD hS (lv_sub hl [0] rfl)
                    · rw [if_pos c7] at h
                      exact ih.2.1 L σ r h H locs ls hP hD hS (lv_sub hl [0] rfl)
      · intro L σ r h H locs ls hP hD hS hl
        rw [x_isOver] at h
        refine lv_iconst (v := 1) hx hb dX12_isOver_42 (by decide) ?_
        refine lv_goto (tgt := 47) hx hb dX12_isOver_43 (by decide) ?_
        exact ih.2.2.2 (upd L 100 1) σ r h H locs ls hP hD hS (lv_sub hl [0] rfl)
      · intro L σ r h H locs ls hP hD hS hl
        rw [x_isOver] at h
        refine lv_iconst (v := 0) hx hb dX12_isOver_46 (by decide) ?_
        exact ih.2.2.2 (upd L 100 0) σ r h H locs ls hP hD hS (lv_sub hl [0] rfl)
      · intro L σ r h H locs ls hP hD hS hl
        rw [x_isOver] at h
        obtain ⟨q1, h⟩ := nb_ite1 h
        cases h
        exact W.zret (v := (L 100)) hx hb hr (nb_bz q1) (fun t ht hW => ⟨⟨(L 100), (), rfl, rfl, by rw [ht]; exact hP, va_K.moved hW.alike hK, hD⟩, hS.F ht⟩) hS.2.2 dX12_isOver_47
  exact (blk k0).1 L0 σ0 r0 h0 s.heap [] ls hP hD hS hl
/-! stringOf__12 -/
def x_stringOf__12 : Nat → Nat → (Nat → Int32) → MS → Option (Int32 × MS)
  | 0, _, _, _ => none
  | k + 1, 0, L, σ => if (4 : Int32) = 0 then none else (if ((1 + ((((((L 3)) + 3)) / 4)))) ≤ 1000 then (x_stringOf__12 k 1 L σ) else (ob (x_fail k 0 (upd (fun _ => 0) 1 5) σ) (fun r3 => some (0, r3.2))))
  | k + 1, 1, L, σ => ob (x_make k 0 (upd (upd (fun _ => 0) 1 4) 2 ((L 3))) σ) (fun r1 => x_stringOf__12 k 2 (upd (upd L 4 r1.1) 5 0) r1.2)
  | k + 1, 2, L, σ => if ((L 3)) ≤ ((L 5)) then (x_stringOf__12 k 4 L σ) else (if ((σ.1 56)) = 0 then (if ¬ (((((L 2)) + ((L 5)))) < 0 ∨ 70000 ≤ ((((L 2)) + ((L 5)))).toNatClampNeg) then (if ¬ (((((((L 4)) + 4)) + ((L 5)))) < 0 ∨ 1740000 ≤ ((((((L 4)) + 4)) + ((L 5)))).toNatClampNeg) then (x_stringOf__12 k 3 L (σ.1, σ.2.1, updG σ.2.2 28 (upd (σ.2.2 28) ((((((L 4)) + 4)) + ((L 5)))).toNatClampNeg ((σ.2.2 12 ((((L 2)) + ((L 5)))).toNatClampNeg))))) else none) else none) else (x_stringOf__12 k 4 L σ))
  | k + 1, 3, L, σ => x_stringOf__12 k 2 (upd L 5 (((L 5)) + 1)) σ
  | k + 1, 4, L, σ => if (4 : Int32) = 0 then none else (if ¬ (((((L 4)) + 2)) < 0 ∨ 1740000 ≤ ((((L 4)) + 2)).toNatClampNeg) then (x_stringOf__12 k 5 L (σ.1, σ.2.1, updG σ.2.2 28 (upd (σ.2.2 28) ((((L 4)) + 2)).toNatClampNeg ((1 + ((((((L 3)) + 3)) / 4))))))) else none)
  | k + 1, 5, L, σ => some ((L 4), σ)
  | _ + 1, _ + 6, _, _ => none
def o_x_stringOf__12 : List Cond := [.methodLink RX12 369 yX12_fail, .instanceMethod yX12_fail, .selects RX12 yX12_fail yX12_fail, .initialized RX12, .methodLink RX12 429 yX12_make, .instanceMethod yX12_make, .selects RX12 yX12_make yX12_make, .fieldLink RX12 362 "SetHouseModel" "err" "I", .fieldLink RX12 372 "SetHouseModel" "heap" "[I"]
theorem o_x_stringOf__12_good : o_x_stringOf__12.all goodWord = true := by decide +kernel
def p_x_stringOf__12 : List Cond := o_x_stringOf__12 ++ ((.code yX12_fail cX12_fail 2 none :: p_x_fail) ++ ((.code yX12_make cX12_make 4 (some .int) :: p_x_make) ++ []))
theorem p_x_stringOf__12_good : p_x_stringOf__12.all goodWord = true := nb_all2 o_x_stringOf__12_good (nb_all2 (nb_allc (by decide +kernel) p_x_fail_good) (nb_all2 (nb_allc (by decide +kernel) p_x_make_good) rfl))
def w_x_stringOf__12 : List Cond := .code yX12_stringOf cX12_stringOf 6 (some .int) :: (p_x_stringOf__12 ++ fM)
theorem w_x_stringOf__12_good : w_x_stringOf__12.all goodWord = true := nb_allc (by decide +kernel) (nb_all2 p_x_stringOf__12_good fM_good)
theorem in_x_stringOf__12 : ∀ w ∈ wsX120, w ∈ w_x_stringOf__12 := fun _ h => List.mem_cons_of_mem _ (List.mem_append_right _ h)
theorem hd_x_stringOf__12 : yX12_stringOf.cls = RX12 ∧ yX12_stringOf.cls ≠ "java/lang/invoke/MethodHandle" ∧ yX12_stringOf.cls ≠ "java/lang/invoke/VarHandle" ∧ (parseMethodDescriptor yX12_stringOf.desc).map (fun d => d.parameters.length) = some 3 := by decide +kernel
theorem gg_x_stringOf__12_fail : GoodIn w_x_stringOf__12 w_x_fail := goodIn_sub (fun w h => (List.mem_cons.mp h).elim (fun e => (List.mem_cons_of_mem _ (List.mem_append_left _ (List.mem_append_right _ (List.mem_append_left _ (List.mem_cons.mpr (Or.inl e))))))) (fun h => (List.mem_append.mp h).elim (fun h => (List.mem_cons_of_mem _ (List.mem_append_left _ (List.mem_append_right _ (List.mem_append_left _ (List.mem_cons_of_mem _ h)))))) (fun h => List.mem_cons_of_mem _ (List.mem_append_right _ h)))) w_x_fail_good
theorem g_x_stringOf__12_fail_369 : GoodIn w_x_stringOf__12 (wsV RX12 369 RX12 yX12_fail w_x_fail) := goodIn_app (nb_g4 (List.mem_cons_of_mem _ (List.mem_append_left _ (List.mem_append_left _ (List.mem_of_getElem? (i := 0) rfl)))) (List.mem_cons_of_mem _ (List.mem_append_left _ (List.mem_append_left _ (List.mem_of_getElem? (i := 1) rfl)))) (List.mem_cons_of_mem _ (List.mem_append_left _ (List.mem_append_left _ (List.mem_of_getElem? (i := 2) rfl)))) (List.mem_cons_of_mem _ (List.mem_append_left _ (List.mem_append_left _ (List.mem_of_getElem? (i := 3) rfl)))) (by decide +kernel)) gg_x_stringOf__12_fail
theorem gg_x_stringOf__12_make : GoodIn w_x_stringOf__12 w_x_make := goodIn_sub (fun w h => (List.mem_cons.mp h).elim (fun e => (List.mem_cons_of_mem _ (List.mem_append_left _ (List.mem_append_right _ (List.mem_append_right _ (List.mem_append_left _ (List.mem_cons.mpr (Or.inl e)))))))) (fun h => (List.mem_append.mp h).elim (fun h => (List.mem_cons_of_mem _ (List.mem_append_left _ (List.mem_append_right _ (List.mem_append_right _ (List.mem_append_left _ (List.mem_cons_of_mem _ h))))))) (fun h => List.mem_cons_of_mem _ (List.mem_append_right _ h)))) w_x_make_good
theorem g_x_stringOf__12_make_429 : GoodIn w_x_stringOf__12 (wsV RX12 429 RX12 yX12_make w_x_make) := goodIn_app (nb_g4 (List.mem_cons_of_mem _ (List.mem_append_left _ (List.mem_append_left _ (List.mem_of_getElem? (i := 4) rfl)))) (List.mem_cons_of_mem _ (List.mem_append_left _ (List.mem_append_left _ (List.mem_of_getElem? (i := 5) rfl)))) (List.mem_cons_of_mem _ (List.mem_append_left _ (List.mem_append_left _ (List.mem_of_getElem? (i := 6) rfl)))) (List.mem_cons_of_mem _ (List.mem_append_left _ (List.mem_append_left _ (List.mem_of_getElem? (i := 3) rfl)))) (by decide +kernel)) gg_x_stringOf__12_make
set_option maxHeartbeats 40000000 in
set_option maxRecDepth 100000 in
theorem c_x_stringOf__12 (l : Launch) (dC : Nat → ClassId) (dI : Nat → Nat → Nat) (cy : Nat → ClassId) (a : Nat → Nat) (k0 : Nat) (L0 : Nat → Int32) (σ0 : MS) (r0 : Int32 × MS) (h0 : x_stringOf__12 k0 0 L0 σ0 = some r0) (sz : Nat) : Met l yX12_stringOf w_x_stringOf__12 ({ frames := 2, cells := 0, slots := 0, locals := 44 }) (va_Pc [.ref (a 0), .ref (a 12), .int (L0 2), .int (L0 3)] (nIn (dC, dI) cy sz (vM cy a σ0))) (va_Qi (fun (z : Int32) (_ : Unit) => z = r0.1) (fun _ t => nOut (dC, dI) cy (va_A (vM cy a σ0) sz) (vM cy a r0.2) t) (va_A (vM cy a σ0) sz)) 0 0 (va_A (vM cy a σ0) sz) := by
  refine Met.ofW (cc := cX12_stringOf) (maxL := 6) (ret := (some .int)) (by decide) rfl ?_
  intro p e s m args below meth c s₁ B hml hv
  obtain ⟨rfl, hsz, hP, hK, hD0, hG⟩ := hv
  have hx := B.exec
  have hb := B.bytes
  have hr := B.returns
  have hts := atoms_spec (ws := w_x_stringOf__12) B.pre
  have hown : s.vm.findClass RX12 = some m.cls := findClass_of_methodNamed B.named
  have hlocks := B.notSynchronized
  subst hsz
  have hD := hD0.self (sz := s.heap.size)
  generalize hAe : va_A (vM cy a σ0) s.heap.size = A at hD ⊢
  have hA : ∀ q : Nat, s.heap.size ≤ q → A q := fun q h => by rw [← hAe]; exact Or.inr h
  have hS : va_S A s.heap s.heap [] := va_S.rf
  have hl := lv_entry ([.ref (a 0), .ref (a 12), .int (L0 2), .int (L0 3)]) (n := 6) (Nat.le_of_ble_eq_true rfl)
  rw [lg_entry_eq]
  generalize (lg_sl ([.ref (a 0), .ref (a 12), .int (L0 2), .int (L0 3)]) ++ List.replicate (6 - (lg_sl ([.ref (a 0), .ref (a 12), .int (L0 2), .int (L0 3)])).length) Slot.unset).toArray = ls at hl ⊢
  have hl : lv_has ls 6 [(0, .ref (a 0)), (1, .ref (a 12)), (2, .int (L0 2)), (3, .int (L0 3))] := hl
  have blk : ∀ k : Nat, (bT p l e (headSpec w_x_stringOf__12 ({ frames := 2, cells := 0, slots := 0, locals := 44 })).room s m #[.ref (a 0), .ref (a 12), .int (L0 2), .int (L0 3)] below meth c dC dI cy a A (qI dC dI cy a A below #[.ref (a 0), .ref (a 12), .int (L0 2), .int (L0 3)] s) 6 (x_stringOf__12 k 0) (fun L => [(0, .ref (a 0)), (1, .ref (a 12)), (2, .int (L 2)), (3, .int (L 3))]) 0 (fun L => [])) ∧ (bT p l e (headSpec w_x_stringOf__12 ({ frames := 2, cells := 0, slots := 0, locals := 44 })).room s m #[.ref (a 0), .ref (a 12), .int (L0 2), .int (L0 3)] below meth c dC dI cy a A (qI dC dI cy a A below #[.ref (a 0), .ref (a 12), .int (L0 2), .int (L0 3)] s) 6 (x_stringOf__12 k 1) (fun L => [(0, .ref (a 0)), (1, .ref (a 12)), (2, .int (L 2)), (3, .int (L 3))]) 20 (fun L => [])) ∧ (bT p l e (headSpec w_x_stringOf__12 ({ frames := 2, cells := 0, slots := 0, locals := 44 })).room s m #[.ref (a 0), .ref (a 12), .int (L0 2), .int (L0 3)] below meth c dC dI cy a A (qI dC dI cy a A below #[.ref (a 0), .ref (a 12), .int (L0 2), .int (L0 3)] s) 6 (x_stringOf__12 k 2) (fun L => [(0, .ref (a 0)), (1, .ref (a 12)), (2, .int (L 2)), (3, .int (L 3)), (4, .int (L 4)), (5, .int (L 5))]) 31 (fun L => [])) ∧ (bT p l e (headSpec w_x_stringOf__12 ({ frames := 2, cells := 0, slots := 0, locals := 44 })).room s m #[.ref (a 0), .ref (a 12), .int (L0 2), .int (L0 3)] below meth c dC dI cy a A (qI dC dI cy a A below #[.ref (a 0), .ref (a 12), .int (L0 2), .int (L0 3)] s) 6 (x_stringOf__12 k 3) (fun L => [(0, .ref (a 0)), (1, .ref (a 12)), (2, .int (L 2)), (3, .int (L 3)), (4, .int (L 4)), (5, .int (L 5))]) 62 (fun L => [])) ∧ (bT p l e (headSpec w_x_stringOf__12 ({ frames := 2, cells := 0, slots := 0, locals := 44 })).room s m #[.ref (a 0), .ref (a 12), .int (L0 2), .int (L0 3)] below meth c dC dI cy a A (qI dC dI cy a A below #[.ref (a 0), .ref (a 12), .int (L0 2), .int (L0 3)] s) 6 (x_stringOf__12 k 4) (fun L => [(0, .ref (a 0)), (1, .ref (a 12)), (2, .int (L 2)), (3, .int (L 3)), (4, .int (L 4)), (5, .int (L 5))]) 68 (fun L => [])) ∧ (bT p l e (headSpec w_x_stringOf__12 ({ frames := 2, cells := 0, slots := 0, locals := 44 })).room s m #[.ref (a 0), .ref (a 12), .int (L0 2), .int (L0 3)] below meth c dC dI cy a A (qI dC dI cy a A below #[.ref (a 0), .ref (a 12), .int (L0 2), .int (L0 3)] s) 6 (x_stringOf__12 k 5) (fun L => [(0, .ref (a 0)), (1, .ref (a 12)), (2, .int (L 2)), (3, .int (L 3)), (4, .int (L 4)), (5, .int (L 5))]) 84 (fun L => [])) := by
    intro k
    induction k with
    | zero => exact ⟨fun L σ r h => (by cases h), fun L σ r h => (by cases h), fun L σ r h => (by cases h), fun L σ r h => (by cases h), fun L σ r h => (by cases h), fun L σ r h => (by cases h)⟩
    | succ k ih =>
      refine ⟨?_, ?_, ?_, ?_, ?_, ?_⟩
      · intro L σ r h H locs ls hP hD hS hl
        rw [x_stringOf__12] at h
        refine lv_iconst (v := 1) hx hb dX12_stringOf_0 (by decide) ?_
        refine lv_iload_n hx hb dX12_stringOf_1 rfl (lv_at hl 3 rfl) ?_
        refine lv_iconst (v := 3) hx hb dX12_stringOf_2 (by decide) ?_
        refine lv_iadd hx hb dX12_stringOf_3 ?_
        refine lv_iconst (v := 4) hx hb dX12_stringOf_4 (by decide) ?_
        obtain ⟨q1, h⟩ := nb_ite0 h
        refine lv_idiv hx hb dX12_stringOf_5 q1 ?_
        refine lv_iadd hx hb dX12_stringOf_6 ?_
        refine lv_sipush (v := 1000) hx hb dX12_stringOf_7 (by decide) ?_
        refine lv_icmp_le (tgt := 20) hx hb dX12_stringOf_10 (by decide) (fun c2 => ?_) (fun c2 => ?_)
        · rw [if_pos c2] at h
          exact ih.2.1 L σ r h H locs ls hP hD hS (lv_sub hl [0, 1, 2, 3] rfl)
        · rw [if_neg c2] at h
          refine lv_aload_n hx hb dX12_stringOf_13 rfl (lv_at hl 0 rfl) ?_
          refine lv_iconst (v := 5) hx hb dX12_stringOf_14 (by decide) ?_
          obtain ⟨r3, hc3, h⟩ := ob_ex h
          refine nc_Vv (As := [.int 5]) (rest := []) ⟨hx, hb, hml, hown, hts⟩ (c_x_fail l dC dI cy a k (upd (fun _ => 0) 1 5) σ r3 hc3 H.size) (cwV 1 hts g_x_stringOf__12_fail_369 rfl rfl rfl hd_x_fail ⟨Nat.le_of_ble_eq_true rfl, Nat.le_of_ble_eq_true rfl⟩) hK hG hA hP hD hS rfl hl.1 rfl (Nat.le_of_ble_eq_true rfl) dX12_stringOf_15 ⟨Nat.le_refl _, Nat.le_refl _⟩ (fun H locs hP hD hS => ?_)
          refine lv_iconst (v := 0) hx hb dX12_stringOf_18 (by decide) ?_
          cases h
          exact W.iret (v := 0) hx hb hr (fun t ht hW => ⟨⟨0, (), rfl, rfl, by rw [ht]; exact hP, va_K.moved hW.alike hK, hD⟩, hS.F ht⟩) hS.2.2 dX12_stringOf_19
      · intro L σ r h H locs ls hP hD hS hl
        rw [x_stringOf__12] at h
        refine lv_aload_n hx hb dX12_stringOf_20 rfl (lv_at hl 0 rfl) ?_
        refine lv_iconst (v := 4) hx hb dX12_stringOf_21 (by decide) ?_
        refine lv_iload_n hx hb dX12_stringOf_22 rfl (lv_at hl 3 rfl) ?_
        obtain ⟨r1, hc1, h⟩ := ob_ex h
        refine nc_Vi (As := [.int 4, .int (L 3)]) (rest := []) ⟨hx, hb, hml, hown, hts⟩ (c_x_make l dC dI cy a k (upd (upd (fun _ => 0) 1 4) 2 ((L 3))) σ r1 hc1 H.size) (cwV 2 hts g_x_stringOf__12_make_429 rfl rfl rfl hd_x_make ⟨Nat.le_of_ble_eq_true rfl, Nat.le_of_ble_eq_true rfl⟩) hK hG hA hP hD hS rfl hl.1 rfl (Nat.le_of_ble_eq_true rfl) dX12_stringOf_23 ⟨Nat.le_refl _, Nat.le_refl _⟩ (fun H locs hP hD hS => ?_)
        refine lv_istore (lv' := [(4, .int r1.1), (0, .ref (a 0)), (1, .ref (a 12)), (2, .int (L 2)), (3, .int (L 3))]) hx hb dX12_stringOf_26 hl (by decide) rfl (fun ls hl => ?_)
        refine lv_iconst (v := 0) hx hb dX12_stringOf_28 (by decide) ?_
        refine lv_istore (lv' := [(5, .int 0), (4, .int r1.1), (0, .ref (a 0)), (1, .ref (a 12)), (2, .int (L 2)), (3, .int (L 3))]) hx hb dX12_stringOf_29 hl (by decide) rfl (fun ls hl => ?_)
        exact ih.2.2.1 (upd (upd L 4 r1.1) 5 0) r1.2 r h H locs ls hP hD hS (lv_sub hl [2, 3, 4, 5, 1, 0] rfl)
      · intro L σ r h H locs ls hP hD hS hl
        rw [x_stringOf__12] at h
        refine lv_iload hx hb dX12_stringOf_31 (lv_at hl 5 rfl) ?_
        refine lv_iload_n hx hb dX12_stringOf_33 rfl (lv_at hl 3 rfl) ?_
        refine lv_icmp_ge (tgt := 68) hx hb dX12_stringOf_34 (by decide) (fun c1 => ?_) (fun c1 => ?_)
        · rw [if_pos c1] at h
          exact ih.2.2.2.2.1 L σ r h H locs ls hP hD hS (lv_sub hl [0, 1, 2, 3, 4, 5] rfl)
        · rw [if_neg c1] at h
          refine lv_aload_n hx hb dX12_stringOf_37 rfl (lv_at hl 0 rfl) ?_
          refine ng_56 hx hb hts in_x_stringOf__12 hown hK hP (hts _ (List.mem_cons_of_mem _ (List.mem_append_left _ (List.mem_append_left _ (List.mem_of_getElem? (i := 7) rfl))))) dX12_stringOf_38 ?_
          refine lv_if_ne (tgt := 68) hx hb dX12_stringOf_41 (by decide) (fun c2 => ?_) (fun c2 => ?_)
          · rw [if_neg c2] at h
            exact ih.2.2.2.2.1 L σ r h H locs ls hP hD hS (lv_sub hl [0, 1, 2, 3, 4, 5] rfl)
          · rw [if_pos c2] at h
            refine lv_aload_n hx hb dX12_stringOf_44 rfl (lv_at hl 0 rfl) ?_
            refine ng_53 hx hb hts in_x_stringOf__12 hown hK hP (hts _ (List.mem_cons_of_mem _ (List.mem_append_left _ (List.mem_append_left _ (List.mem_of_getElem? (i := 8) rfl))))) dX12_stringOf_45 ?_
            refine lv_iload hx hb dX12_stringOf_48 (lv_at hl 4 rfl) ?_
            refine lv_iconst (v := 4) hx hb dX12_stringOf_50 (by decide) ?_
            refine lv_iadd hx hb dX12_stringOf_51 ?_
            refine lv_iload hx hb dX12_stringOf_52 (lv_at hl 5 rfl) ?_
            refine lv_iadd hx hb dX12_stringOf_54 ?_
            refine lv_aload_n hx hb dX12_stringOf_55 rfl (lv_at hl 1 rfl) ?_
            refine lv_iload_n hx hb dX12_stringOf_56 rfl (lv_at hl 2 rfl) ?_
            refine lv_iload hx hb dX12_stringOf_57 (lv_at hl 5 rfl) ?_
            refine lv_iadd hx hb dX12_stringOf_59 ?_
            obtain ⟨q3, h⟩ := nb_ite1 h
            refine nl_12 hx hb hK hP q3 dX12_stringOf_60 ?_
            obtain ⟨q4, h⟩ := nb_ite1 h
            refine ns_28 hx hb hK hP hD hS q4 dX12_stringOf_61 (fun H locs hP hD hS => ?_)
            exact ih.2.2.2.1 L (σ.1, σ.2.1, updG σ.2.2 28 (upd (σ.2.2 28) ((((((L 4)) + 4)) + ((L 5)))).toNatClampNeg ((σ.2.2 12 ((((L 2)) + ((L 5)))).toNatClampNeg)))) r h H locs ls hP hD hS (lv_sub hl [0, 1, 2, 3, 4, 5] rfl)
      · intro L σ r h H locs ls hP hD hS hl
        rw [x_stringOf__12] at h
        refine lv_iinc (v := ((L 5)) + 1) (lv' := [(5, .int (((L 5)) + 1)), (0, .ref (a 0)), (1, .ref (a 12)), (2, .int (L 2)), (3, .int (L 3)), (4, .int (L 4))]) hx hb dX12_stringOf_62 hl (k := 5) rfl rfl (by decide) rfl (fun ls hl => ?_)
        refine lv_goto (tgt := 31) hx hb dX12_stringOf_65 (by decide) ?_
        exact ih.2.2.1 (upd L 5 (((L 5)) + 1)) σ r h H locs ls hP hD hS (lv_sub hl [1, 2, 3, 4, 5, 0] rfl)
      · intro L σ r h H locs ls hP hD hS hl
        rw [x_stringOf__12] at h
        refine lv_aload_n hx hb dX12_stringOf_68 rfl (lv_at hl 0 rfl) ?_
        refine ng_53 hx hb hts in_x_stringOf__12 hown hK hP (hts _ (List.mem_cons_of_mem _ (List.mem_append_left _ (List.mem_append_left _ (List.mem_of_getElem? (i := 8) rfl))))) dX12_stringOf_69 ?_
        refine lv_iload hx hb dX12_stringOf_72 (lv_at hl 4 rfl) ?_
        refine lv_iconst (v := 2) hx hb dX12_stringOf_74 (by decide) ?_
        refine lv_iadd hx hb dX12_stringOf_75 ?_
        refine lv_iconst (v := 1) hx hb dX12_stringOf_76 (by decide) ?_
        refine lv_iload_n hx hb dX12_stringOf_77 rfl (lv_at hl 3 rfl) ?_
        refine lv_iconst (v := 3) hx hb dX12_stringOf_78 (by decide) ?_
        refine lv_iadd hx hb dX12_stringOf_79 ?_
        refine lv_iconst (v := 4) hx hb dX12_stringOf_80 (by decide) ?_
        obtain ⟨q1, h⟩ := nb_ite0 h
        refine lv_idiv hx hb dX12_stringOf_81 q1 ?_
        refine lv_iadd hx hb dX12_stringOf_82 ?_
        obtain ⟨q2, h⟩ := nb_ite1 h
        refine ns_28 hx hb hK hP hD hS q2 dX12_stringOf_83 (fun H locs hP hD hS => ?_)
        exact ih.2.2.2.2.2 L (σ.1, σ.2.1, updG σ.2.2 28 (upd (σ.2.2 28) ((((L 4)) + 2)).toNatClampNeg ((1 + ((((((L 3)) + 3)) / 4)))))) r h H locs ls hP hD hS (lv_sub hl [0, 1, 2, 3, 4, 5] rfl)
      · intro L σ r h H locs ls hP hD hS hl
        rw [x_stringOf__12] at h
        refine lv_iload hx hb dX12_stringOf_84 (lv_at hl 4 rfl) ?_
        cases h
        exact W.iret (v := (L 4)) hx hb hr (fun t ht hW => ⟨⟨(L 4), (), rfl, rfl, by rw [ht]; exact hP, va_K.moved hW.alike hK, hD⟩, hS.F ht⟩) hS.2.2 dX12_stringOf_86
  exact (blk k0).1 L0 σ0 r0 h0 s.heap [] ls hP hD hS hl
/-! GV: begins, bounds, callFunc, choose, eval, former, goOn, goesOn, holds, openIter, quantify, setBrackets, tupleBrackets -/
def s_begins (X : Nat → Nat → Nat → (Nat → Int32) → MS → Option (Int32 × MS)) (K d : Nat) (b : Nat) (L : Nat → Int32) (σ : MS) : Option (Int32 × MS) := match b with
  | 0 => if ((σ.1 56)) ≤ 0 then (X d 0 1 L σ) else (some (0, σ))
  | 1 => if ¬ (((L 1)) < 0 ∨ 70000 ≤ ((L 1)).toNatClampNeg) then (if ((σ.2.2 4 ((L 1)).toNatClampNeg)) = (1 : Int32) then (X d 0 2 L σ) else (if ((σ.2.2 4 ((L 1)).toNatClampNeg)) = (2 : Int32) then (X d 0 3 L σ) else (if ((σ.2.2 4 ((L 1)).toNatClampNeg)) = (3 : Int32) then (X d 0 4 L σ) else (if ((σ.2.2 4 ((L 1)).toNatClampNeg)) = (4 : Int32) then (X d 0 5 L σ) else (if ((σ.2.2 4 ((L 1)).toNatClampNeg)) = (5 : Int32) then (X d 0 6 L σ) else (if ((σ.2.2 4 ((L 1)).toNatClampNeg)) = (6 : Int32) then (X d 0 7 L σ) else (if ((σ.2.2 4 ((L 1)).toNatClampNeg)) = (7 : Int32) then (X d 0 8 L σ) else (if ((σ.2.2 4 ((L 1)).toNatClampNeg)) = (8 : Int32) then (X d 0 9 L σ) else (if ((σ.2.2 4 ((L 1)).toNatClampNeg)) = (9 : Int32) then (X d 0 16 L σ) else (if ((σ.2.2 4 ((L 1)).toNatClampNeg)) = (10 : Int32) then (X d 0 10 L σ) else (if ((σ.2.2 4 ((L 1)).toNatClampNeg)) = (11 : Int32) then (X d 0 11 L σ) else (if ((σ.2.2 4 ((L 1)).toNatClampNeg)) = (12 : Int32) then (X d 0 15 L σ) else (if ((σ.2.2 4 ((L 1)).toNatClampNeg)) = (13 : Int32) then (X d 0 12 L σ) else (if ((σ.2.2 4 ((L 1)).toNatClampNeg)) = (14 : Int32) then (X d 0 13 L σ) else (if ((σ.2.2 4 ((L 1)).toNatClampNeg)) = (15 : Int32) then (X d 0 14 L σ) else (X d 0 16 L σ)))))))))))))))) else none
  | 2 => ob (x_sweep K 0 (upd (fun _ => 0) 1 780000) σ) (fun r1 => if ¬ (((L 1)) < 0 ∨ 70000 ≤ ((L 1)).toNatClampNeg) then (if ¬ (((L 1)) < 0 ∨ 70000 ≤ ((L 1)).toNatClampNeg) then (ob (x_literal K 0 (upd (upd (fun _ => 0) 1 ((r1.2.2.2 5 ((L 1)).toNatClampNeg))) 2 ((r1.2.2.2 6 ((L 1)).toNatClampNeg))) r1.2) (fun r4 => ob (x_answer K 0 (upd (fun _ => 0) 1 r4.1) r4.2) (fun r5 => ob (x_push K 0 (upd (fun _ => 0) 1 r5.1) r5.2) (fun r6 => some (0, r6.2))))) else none) else none)
  | 3 => ob (x_sweep K 0 (upd (fun _ => 0) 1 780000) σ) (fun r1 => if ¬ (((L 1)) < 0 ∨ 70000 ≤ ((L 1)).toNatClampNeg) then (if ¬ (((L 1)) < 0 ∨ 70000 ≤ ((L 1)).toNatClampNeg) then (ob (x_stringOf__12 K 0 (upd (upd (fun _ => 0) 2 ((r1.2.2.2 5 ((L 1)).toNatClampNeg))) 3 ((r1.2.2.2 6 ((L 1)).toNatClampNeg))) r1.2) (fun r4 => ob (x_answer K 0 (upd (fun _ => 0) 1 r4.1) r4.2) (fun r5 => ob (x_push K 0 (upd (fun _ => 0) 1 r5.1) r5.2) (fun r6 => some (0, r6.2))))) else none) else none)
  | 4 => ob (x_push K 0 (upd (fun _ => 0) 1 0) σ) (fun r1 => some (0, r1.2))
  | 5 => ob (x_push K 0 (upd (fun _ => 0) 1 2) σ) (fun r1 => some (0, r1.2))
  | 6 => ob (x_push K 0 (upd (fun _ => 0) 1 1) σ) (fun r1 => some (0, r1.2))
  | 7 => ob (x_sweep K 0 (upd (fun _ => 0) 1 780000) σ) (fun r1 => ob (x_newAtom K 0 (fun _ => 0) r1.2) (fun r2 => ob (x_answer K 0 (upd (fun _ => 0) 1 r2.1) r2.2) (fun r3 => ob (x_push K 0 (upd (fun _ => 0) 1 r3.1) r3.2) (fun r4 => some (0, r4.2)))))
  | 8 => ob (x_valueOf K 0 (upd (fun _ => 0) 1 ((L 1))) σ) (fun r1 => ob (x_push K 0 (upd (fun _ => 0) 1 r1.1) r1.2) (fun r2 => some (0, r2.2)))
  | 9 => od d (fun e1 => ob (X e1 2 0 (upd (fun _ => 0) 1 ((L 1))) σ) (fun r1 => some (0, r1.2)))
  | 10 => od d (fun e1 => ob (X e1 11 0 (upd (fun _ => 0) 1 ((L 1))) σ) (fun r1 => some (0, r1.2)))
  | 11 => od d (fun e1 => ob (X e1 12 0 (upd (fun _ => 0) 1 ((L 1))) σ) (fun r1 => some (0, r1.2)))
  | 12 => od d (fun e1 => ob (X e1 5 0 (upd (fun _ => 0) 1 ((L 1))) σ) (fun r1 => some (0, r1.2)))
  | 13 => od d (fun e1 => ob (X e1 10 0 (upd (fun _ => 0) 1 ((L 1))) σ) (fun r1 => some (0, r1.2)))
  | 14 => od d (fun e1 => ob (X e1 3 0 (upd (fun _ => 0) 1 ((L 1))) σ) (fun r1 => some (0, r1.2)))
  | 15 => od d (fun e1 => ob (X e1 1 0 (upd (fun _ => 0) 1 ((L 1))) σ) (fun r1 => some (0, r1.2)))
  | 16 => if ¬ (((L 1)) < 0 ∨ 70000 ≤ ((L 1)).toNatClampNeg) then (od d (fun e2 => ob (X e2 4 0 (upd (fun _ => 0) 1 ((σ.2.2 6 ((L 1)).toNatClampNeg))) σ) (fun r2 => if ((r2.2.1 56)) = 0 then (ob (x_sweep K 0 (upd (fun _ => 0) 1 780000) r2.2) (fun r4 => ob (x_pop K 0 (fun _ => 0) r4.2) (fun r5 => ob (x_single K 0 (upd (upd (fun _ => 0) 1 ((L 1))) 2 r5.1) r5.2) (fun r6 => ob (x_answer K 0 (upd (fun _ => 0) 1 r6.1) r6.2) (fun r7 => ob (x_push K 0 (upd (fun _ => 0) 1 r7.1) r7.2) (fun r8 => X d 0 17 L r8.2)))))) else (X d 0 17 L r2.2)))) else none
  | 17 => some (0, σ)
  | _ => none
theorem s_begins_0 (X : Nat → Nat → Nat → (Nat → Int32) → MS → Option (Int32 × MS)) (K d : Nat) (L : Nat → Int32) (σ : MS) : s_begins X K d 0 L σ = (if ((σ.1 56)) ≤ 0 then (X d 0 1 L σ) else (some (0, σ))) := rfl
theorem s_begins_1 (X : Nat → Nat → Nat → (Nat → Int32) → MS → Option (Int32 × MS)) (K d : Nat) (L : Nat → Int32) (σ : MS) : s_begins X K d 1 L σ = (if ¬ (((L 1)) < 0 ∨ 70000 ≤ ((L 1)).toNatClampNeg) then (if ((σ.2.2 4 ((L 1)).toNatClampNeg)) = (1 : Int32) then (X d 0 2 L σ) else (if ((σ.2.2 4 ((L 1)).toNatClampNeg)) = (2 : Int32) then (X d 0 3 L σ) else (if ((σ.2.2 4 ((L 1)).toNatClampNeg)) = (3 : Int32) then (X d 0 4 L σ) else (if ((σ.2.2 4 ((L 1)).toNatClampNeg)) = (4 : Int32) then (X d 0 5 L σ) else (if ((σ.2.2 4 ((L 1)).toNatClampNeg)) = (5 : Int32) then (X d 0 6 L σ) else (if ((σ.2.2 4 ((L 1)).toNatClampNeg)) = (6 : Int32) then (X d 0 7 L σ) else (if ((σ.2.2 4 ((L 1)).toNatClampNeg)) = (7 : Int32) then (X d 0 8 L σ) else (if ((σ.2.2 4 ((L 1)).toNatClampNeg)) = (8 : Int32) then (X d 0 9 L σ) else (if ((σ.2.2 4 ((L 1)).toNatClampNeg)) = (9 : Int32) then (X d 0 16 L σ) else (if ((σ.2.2 4 ((L 1)).toNatClampNeg)) = (10 : Int32) then (X d 0 10 L σ) else (if ((σ.2.2 4 ((L 1)).toNatClampNeg)) = (11 : Int32) then (X d 0 11 L σ) else (if ((σ.2.2 4 ((L 1)).toNatClampNeg)) = (12 : Int32) then (X d 0 15 L σ) else (if ((σ.2.2 4 ((L 1)).toNatClampNeg)) = (13 : Int32) then (X d 0 12 L σ) else (if ((σ.2.2 4 ((L 1)).toNatClampNeg)) = (14 : Int32) then (X d 0 13 L σ) else (if ((σ.2.2 4 ((L 1)).toNatClampNeg)) = (15 : Int32) then (X d 0 14 L σ) else (X d 0 16 L σ)))))))))))))))) else none) := rfl
theorem s_begins_2 (X : Nat → Nat → Nat → (Nat → Int32) → MS → Option (Int32 × MS)) (K d : Nat) (L : Nat → Int32) (σ : MS) : s_begins X K d 2 L σ = (ob (x_sweep K 0 (upd (fun _ => 0) 1 780000) σ) (fun r1 => if ¬ (((L 1)) < 0 ∨ 70000 ≤ ((L 1)).toNatClampNeg) then (if ¬ (((L 1)) < 0 ∨ 70000 ≤ ((L 1)).toNatClampNeg) then (ob (x_literal K 0 (upd (upd (fun _ => 0) 1 ((r1.2.2.2 5 ((L 1)).toNatClampNeg))) 2 ((r1.2.2.2 6 ((L 1)).toNatClampNeg))) r1.2) (fun r4 => ob (x_answer K 0 (upd (fun _ => 0) 1 r4.1) r4.2) (fun r5 => ob (x_push K 0 (upd (fun _ => 0) 1 r5.1) r5.2) (fun r6 => some (0, r6.2))))) else none) else none)) := rfl
theorem s_begins_3 (X : Nat → Nat → Nat → (Nat → Int32) → MS → Option (Int32 × MS)) (K d : Nat) (L : Nat → Int32) (σ : MS) : s_begins X K d 3 L σ = (ob (x_sweep K 0 (upd (fun _ => 0) 1 780000) σ) (fun r1 => if ¬ (((L 1)) < 0 ∨ 70000 ≤ ((L 1)).toNatClampNeg) then (if ¬ (((L 1)) < 0 ∨ 70000 ≤ ((L 1)).toNatClampNeg) then (ob (x_stringOf__12 K 0 (upd (upd (fun _ => 0) 2 ((r1.2.2.2 5 ((L 1)).toNatClampNeg))) 3 ((r1.2.2.2 6 ((L 1)).toNatClampNeg))) r1.2) (fun r4 => ob (x_answer K 0 (upd (fun _ => 0) 1 r4.1) r4.2) (fun r5 => ob (x_push K 0 (upd (fun _ => 0) 1 r5.1) r5.2) (fun r6 => some (0, r6.2))))) else none) else none)) := rfl
theorem s_begins_4 (X : Nat → Nat → Nat → (Nat → Int32) → MS → Option (Int32 × MS)) (K d : Nat) (L : Nat → Int32) (σ : MS) : s_begins X K d 4 L σ = (ob (x_push K 0 (upd (fun _ => 0) 1 0) σ) (fun r1 => some (0, r1.2))) := rfl
theorem s_begins_5 (X : Nat → Nat → Nat → (Nat → Int32) → MS → Option (Int32 × MS)) (K d : Nat) (L : Nat → Int32) (σ : MS) : s_begins X K d 5 L σ = (ob (x_push K 0 (upd (fun _ => 0) 1 2) σ) (fun r1 => some (0, r1.2))) := rfl
theorem s_begins_6 (X : Nat → Nat → Nat → (Nat → Int32) → MS → Option (Int32 × MS)) (K d : Nat) (L : Nat → Int32) (σ : MS) : s_begins X K d 6 L σ = (ob (x_push K 0 (upd (fun _ => 0) 1 1) σ) (fun r1 => some (0, r1.2))) := rfl
theorem s_begins_7 (X : Nat → Nat → Nat → (Nat → Int32) → MS → Option (Int32 × MS)) (K d : Nat) (L : Nat → Int32) (σ : MS) : s_begins X K d 7 L σ = (ob (x_sweep K 0 (upd (fun _ => 0) 1 780000) σ) (fun r1 => ob (x_newAtom K 0 (fun _ => 0) r1.2) (fun r2 => ob (x_answer K 0 (upd (fun _ => 0) 1 r2.1) r2.2) (fun r3 => ob (x_push K 0 (upd (fun _ => 0) 1 r3.1) r3.2) (fun r4 => some (0, r4.2)))))) := rfl
theorem s_begins_8 (X : Nat → Nat → Nat → (Nat → Int32) → MS → Option (Int32 × MS)) (K d : Nat) (L : Nat → Int32) (σ : MS) : s_begins X K d 8 L σ = (ob (x_valueOf K 0 (upd (fun _ => 0) 1 ((L 1))) σ) (fun r1 => ob (x_push K 0 (upd (fun _ => 0) 1 r1.1) r1.2) (fun r2 => some (0, r2.2)))) := rfl
theorem s_begins_9 (X : Nat → Nat → Nat → (Nat → Int32) → MS → Option (Int32 × MS)) (K d : Nat) (L : Nat → Int32) (σ : MS) : s_begins X K d 9 L σ = (od d (fun e1 => ob (X e1 2 0 (upd (fun _ => 0) 1 ((L 1))) σ) (fun r1 => some (0, r1.2)))) := rfl
theorem s_begins_10 (X : Nat → Nat → Nat → (Nat → Int32) → MS → Option (Int32 × MS)) (K d : Nat) (L : Nat → Int32) (σ : MS) : s_begins X K d 10 L σ = (od d (fun e1 => ob (X e1 11 0 (upd (fun _ => 0) 1 ((L 1))) σ) (fun r1 => some (0, r1.2)))) := rfl
theorem s_begins_11 (X : Nat → Nat → Nat → (Nat → Int32) → MS → Option (Int32 × MS)) (K d : Nat) (L : Nat → Int32) (σ : MS) : s_begins X K d 11 L σ = (od d (fun e1 => ob (X e1 12 0 (upd (fun _ => 0) 1 ((L 1))) σ) (fun r1 => some (0, r1.2)))) := rfl
theorem s_begins_12 (X : Nat → Nat → Nat → (Nat → Int32) → MS → Option (Int32 × MS)) (K d : Nat) (L : Nat → Int32) (σ : MS) : s_begins X K d 12 L σ = (od d (fun e1 => ob (X e1 5 0 (upd (fun _ => 0) 1 ((L 1))) σ) (fun r1 => some (0, r1.2)))) := rfl
theorem s_begins_13 (X : Nat → Nat → Nat → (Nat → Int32) → MS → Option (Int32 × MS)) (K d : Nat) (L : Nat → Int32) (σ : MS) : s_begins X K d 13 L σ = (od d (fun e1 => ob (X e1 10 0 (upd (fun _ => 0) 1 ((L 1))) σ) (fun r1 => some (0, r1.2)))) := rfl
theorem s_begins_14 (X : Nat → Nat → Nat → (Nat → Int32) → MS → Option (Int32 × MS)) (K d : Nat) (L : Nat → Int32) (σ : MS) : s_begins X K d 14 L σ = (od d (fun e1 => ob (X e1 3 0 (upd (fun _ => 0) 1 ((L 1))) σ) (fun r1 => some (0, r1.2)))) := rfl
theorem s_begins_15 (X : Nat → Nat → Nat → (Nat → Int32) → MS → Option (Int32 × MS)) (K d : Nat) (L : Nat → Int32) (σ : MS) : s_begins X K d 15 L σ = (od d (fun e1 => ob (X e1 1 0 (upd (fun _ => 0) 1 ((L 1))) σ) (fun r1 => some (0, r1.2)))) := rfl
theorem s_begins_16 (X : Nat → Nat → Nat → (Nat → Int32) → MS → Option (Int32 × MS)) (K d : Nat) (L : Nat → Int32) (σ : MS) : s_begins X K d 16 L σ = (if ¬ (((L 1)) < 0 ∨ 70000 ≤ ((L 1)).toNatClampNeg) then (od d (fun e2 => ob (X e2 4 0 (upd (fun _ => 0) 1 ((σ.2.2 6 ((L 1)).toNatClampNeg))) σ) (fun r2 => if ((r2.2.1 56)) = 0 then (ob (x_sweep K 0 (upd (fun _ => 0) 1 780000) r2.2) (fun r4 => ob (x_pop K 0 (fun _ => 0) r4.2) (fun r5 => ob (x_single K 0 (upd (upd (fun _ => 0) 1 ((L 1))) 2 r5.1) r5.2) (fun r6 => ob (x_answer K 0 (upd (fun _ => 0) 1 r6.1) r6.2) (fun r7 => ob (x_push K 0 (upd (fun _ => 0) 1 r7.1) r7.2) (fun r8 => X d 0 17 L r8.2)))))) else (X d 0 17 L r2.2)))) else none) := rfl
theorem s_begins_17 (X : Nat → Nat → Nat → (Nat → Int32) → MS → Option (Int32 × MS)) (K d : Nat) (L : Nat → Int32) (σ : MS) : s_begins X K d 17 L σ = (some (0, σ)) := rfl
def s_bounds (X : Nat → Nat → Nat → (Nat → Int32) → MS → Option (Int32 × MS)) (K d : Nat) (b : Nat) (L : Nat → Int32) (σ : MS) : Option (Int32 × MS) := match b with
  | 0 => if ¬ (((L 1)) < 0 ∨ 70000 ≤ ((L 1)).toNatClampNeg) then (od d (fun e2 => ob (X e2 4 0 (upd (fun _ => 0) 1 ((σ.2.2 6 ((L 1)).toNatClampNeg))) σ) (fun r2 => if ¬ (((L 1)) < 0 ∨ 70000 ≤ ((L 1)).toNatClampNeg) then (if ((r2.2.2.2 7 ((L 1)).toNatClampNeg)) = ((-1)) then (X d 1 1 L r2.2) else (if ((r2.2.1 56)) = 0 then (if ¬ (((L 1)) < 0 ∨ 70000 ≤ ((L 1)).toNatClampNeg) then (od d (fun e7 => ob (X e7 4 0 (upd (fun _ => 0) 1 ((r2.2.2.2 7 ((L 1)).toNatClampNeg))) r2.2) (fun r7 => X d 1 1 L r7.2))) else none) else (X d 1 1 L r2.2))) else none))) else none
  | 1 => if ((σ.1 56)) = 0 then (if ¬ (((L 1)) < 0 ∨ 70000 ≤ ((L 1)).toNatClampNeg) then (od d (fun e3 => ob (X e3 4 0 (upd (fun _ => 0) 1 ((σ.2.2 8 ((L 1)).toNatClampNeg))) σ) (fun r3 => X d 1 2 L r3.2))) else none) else (X d 1 2 L σ)
  | 2 => if ((σ.1 56)) = 0 then (ob (x_sweep K 0 (upd (fun _ => 0) 1 780000) σ) (fun r2 => if ¬ (((L 1)) < 0 ∨ 70000 ≤ ((L 1)).toNatClampNeg) then (if ((r2.2.2.2 5 ((L 1)).toNatClampNeg)) = 1 then (X d 1 4 (upd L 100 1) r2.2) else (X d 1 3 L r2.2)) else none)) else (X d 1 7 L σ)
  | 3 => X d 1 4 (upd L 100 0) σ
  | 4 => if ¬ (((L 1)) < 0 ∨ 70000 ≤ ((L 1)).toNatClampNeg) then (if ((σ.2.2 7 ((L 1)).toNatClampNeg)) = ((-1)) then (X d 1 5 (upd L 100 ((L 100))) σ) else (X d 1 6 (upd (upd L 100 1) 101 ((L 100))) σ)) else none
  | 5 => X d 1 6 (upd (upd L 100 0) 101 ((L 100))) σ
  | 6 => ob (x_range K 0 (upd (upd (fun _ => 0) 1 ((L 101))) 2 ((L 100))) σ) (fun r1 => ob (x_answer K 0 (upd (fun _ => 0) 1 r1.1) r1.2) (fun r2 => ob (x_push K 0 (upd (fun _ => 0) 1 r2.1) r2.2) (fun r3 => X d 1 7 L r3.2)))
  | 7 => some (0, σ)
  | _ => none
theorem s_bounds_0 (X : Nat → Nat → Nat → (Nat → Int32) → MS → Option (Int32 × MS)) (K d : Nat) (L : Nat → Int32) (σ : MS) : s_bounds X K d 0 L σ = (if ¬ (((L 1)) < 0 ∨ 70000 ≤ ((L 1)).toNatClampNeg) then (od d (fun e2 => ob (X e2 4 0 (upd (fun _ => 0) 1 ((σ.2.2 6 ((L 1)).toNatClampNeg))) σ) (fun r2 => if ¬ (((L 1)) < 0 ∨ 70000 ≤ ((L 1)).toNatClampNeg) then (if ((r2.2.2.2 7 ((L 1)).toNatClampNeg)) = ((-1)) then (X d 1 1 L r2.2) else (if ((r2.2.1 56)) = 0 then (if ¬ (((L 1)) < 0 ∨ 70000 ≤ ((L 1)).toNatClampNeg) then (od d (fun e7 => ob (X e7 4 0 (upd (fun _ => 0) 1 ((r2.2.2.2 7 ((L 1)).toNatClampNeg))) r2.2) (fun r7 => X d 1 1 L r7.2))) else none) else (X d 1 1 L r2.2))) else none))) else none) := rfl
theorem s_bounds_1 (X : Nat → Nat → Nat → (Nat → Int32) → MS → Option (Int32 × MS)) (K d : Nat) (L : Nat → Int32) (σ : MS) : s_bounds X K d 1 L σ = (if ((σ.1 56)) = 0 then (if ¬ (((L 1)) < 0 ∨ 70000 ≤ ((L 1)).toNatClampNeg) then (od d (fun e3 => ob (X e3 4 0 (upd (fun _ => 0) 1 ((σ.2.2 8 ((L 1)).toNatClampNeg))) σ) (fun r3 => X d 1 2 L r3.2))) else none) else (X d 1 2 L σ)) := rfl
theorem s_bounds_2 (X : Nat → Nat → Nat → (Nat → Int32) → MS → Option (Int32 × MS)) (K d : Nat) (L : Nat → Int32) (σ : MS) : s_bounds X K d 2 L σ = (if ((σ.1 56)) = 0 then (ob (x_sweep K 0 (upd (fun _ => 0) 1 780000) σ) (fun r2 => if ¬ (((L 1)) < 0 ∨ 70000 ≤ ((L 1)).toNatClampNeg) then (if ((r2.2.2.2 5 ((L 1)).toNatClampNeg)) = 1 then (X d 1 4 (upd L 100 1) r2.2) else (X d 1 3 L r2.2)) else none)) else (X d 1 7 L σ)) := rfl
theorem s_bounds_3 (X : Nat → Nat → Nat → (Nat → Int32) → MS → Option (Int32 × MS)) (K d : Nat) (L : Nat → Int32) (σ : MS) : s_bounds X K d 3 L σ = (X d 1 4 (upd L 100 0) σ) := rfl
theorem s_bounds_4 (X : Nat → Nat → Nat → (Nat → Int32) → MS → Option (Int32 × MS)) (K d : Nat) (L : Nat → Int32) (σ : MS) : s_bounds X K d 4 L σ = (if ¬ (((L 1)) < 0 ∨ 70000 ≤ ((L 1)).toNatClampNeg) then (if ((σ.2.2 7 ((L 1)).toNatClampNeg)) = ((-1)) then (X d 1 5 (upd L 100 ((L 100))) σ) else (X d 1 6 (upd (upd L 100 1) 101 ((L 100))) σ)) else none) := rfl
theorem s_bounds_5 (X : Nat → Nat → Nat → (Nat → Int32) → MS → Option (Int32 × MS)) (K d : Nat) (L : Nat → Int32) (σ : MS) : s_bounds X K d 5 L σ = (X d 1 6 (upd (upd L 100 0) 101 ((L 100))) σ) := rfl
theorem s_bounds_6 (X : Nat → Nat → Nat → (Nat → Int32) → MS → Option (Int32 × MS)) (K d : Nat) (L : Nat → Int32) (σ : MS) : s_bounds X K d 6 L σ = (ob (x_range K 0 (upd (upd (fun _ => 0) 1 ((L 101))) 2 ((L 100))) σ) (fun r1 => ob (x_answer K 0 (upd (fun _ => 0) 1 r1.1) r1.2) (fun r2 => ob (x_push K 0 (upd (fun _ => 0) 1 r2.1) r2.2) (fun r3 => X d 1 7 L r3.2)))) := rfl
theorem s_bounds_7 (X : Nat → Nat → Nat → (Nat → Int32) → MS → Option (Int32 × MS)) (K d : Nat) (L : Nat → Int32) (σ : MS) : s_bounds X K d 7 L σ = (some (0, σ)) := rfl
def s_callFunc (X : Nat → Nat → Nat → (Nat → Int32) → MS → Option (Int32 × MS)) (K d : Nat) (b : Nat) (L : Nat → Int32) (σ : MS) : Option (Int32 × MS) := match b with
  | 0 => if ¬ (((L 1)) < 0 ∨ 70000 ≤ ((L 1)).toNatClampNeg) then (X d 2 1 (upd (upd L 2 ((σ.1 59))) 3 ((σ.2.2 6 ((L 1)).toNatClampNeg))) σ) else none
  | 1 => if ((L 3)) = ((-1)) then (X d 2 2 L σ) else (if ((σ.1 56)) = 0 then (od d (fun e3 => ob (X e3 4 0 (upd (fun _ => 0) 1 ((L 3))) σ) (fun r3 => if ¬ (((L 3)) < 0 ∨ 70000 ≤ ((L 3)).toNatClampNeg) then (X d 2 1 (upd L 3 ((r3.2.2.2 9 ((L 3)).toNatClampNeg))) r3.2) else none))) else (X d 2 2 L σ))
  | 2 => if ((σ.1 56)) ≤ 0 then (X d 2 3 L σ) else (some (0, σ))
  | 3 => if ((σ.1 67)) = 20 then (X d 2 4 L σ) else (if ¬ (((L 1)) < 0 ∨ 70000 ≤ ((L 1)).toNatClampNeg) then (if ((((σ.1 97)) + ((σ.2.2 8 ((L 1)).toNatClampNeg)))) ≤ 60 then (X d 2 5 L σ) else (X d 2 4 L σ)) else none)
  | 4 => ob (x_fail K 0 (upd (fun _ => 0) 1 7) σ) (fun r1 => some (0, r1.2))
  | 5 => ob (x_sweep K 0 (upd (fun _ => 0) 1 780000) σ) (fun r1 => if ¬ (((L 1)) < 0 ∨ 70000 ≤ ((L 1)).toNatClampNeg) then (X d 2 6 (upd (upd (upd L 3 ((r1.2.2.2 5 ((L 1)).toNatClampNeg))) 4 ((r1.2.1 68))) 5 ((r1.2.1 69))) (upd r1.2.1 67 ((((r1.2.1 67)) + 1)), r1.2.2.1, r1.2.2.2)) else none)
  | 6 => if ¬ (((L 1)) < 0 ∨ 70000 ≤ ((L 1)).toNatClampNeg) then (X d 2 7 L (upd σ.1 97 ((((σ.1 97)) + ((σ.2.2 8 ((L 1)).toNatClampNeg)))), σ.2.1, σ.2.2)) else none
  | 7 => X d 2 8 L (upd σ.1 68 ((60 * ((1 + ((σ.1 67)))))), σ.2.1, σ.2.2)
  | 8 => X d 2 9 L (upd σ.1 69 1, σ.2.1, σ.2.2)
  | 9 => X d 2 10 (upd L 6 0) σ
  | 10 => if 60 ≤ ((L 6)) then (X d 2 14 L σ) else (if ¬ (((L 3)) < 0 ∨ 41 ≤ ((L 3)).toNatClampNeg) then (if ((σ.2.2 18 ((L 3)).toNatClampNeg)) ≤ ((L 6)) then (X d 2 11 (upd L 100 ((((σ.1 68)) + ((L 6))))) σ) else (if ¬ (((((L 2)) + ((L 6)))) < 0 ∨ 185000 ≤ ((((L 2)) + ((L 6)))).toNatClampNeg) then (X d 2 12 (upd (upd L 100 ((σ.2.2 29 ((((L 2)) + ((L 6)))).toNatClampNeg))) 101 ((((σ.1 68)) + ((L 6))))) σ) else none)) else none)
  | 11 => X d 2 12 (upd (upd L 100 0) 101 ((L 100))) σ
  | 12 => if ¬ (((L 101)) < 0 ∨ 1380 ≤ ((L 101)).toNatClampNeg) then (X d 2 13 L (σ.1, σ.2.1, updG σ.2.2 33 (upd (σ.2.2 33) ((L 101)).toNatClampNeg ((L 100))))) else none
  | 13 => X d 2 10 (upd L 6 (((L 6)) + 1)) σ
  | 14 => X d 2 15 L (upd σ.1 59 ((L 2)), σ.2.1, σ.2.2)
  | 15 => if ¬ (((L 3)) < 0 ∨ 41 ≤ ((L 3)).toNatClampNeg) then (od d (fun e2 => ob (X e2 4 0 (upd (fun _ => 0) 1 ((σ.2.2 17 ((L 3)).toNatClampNeg))) σ) (fun r2 => X d 2 16 (upd L 6 0) r2.2))) else none
  | 16 => if 60 ≤ ((L 6)) then (X d 2 18 L σ) else (if ¬ (((((σ.1 68)) + ((L 6)))) < 0 ∨ 1380 ≤ ((((σ.1 68)) + ((L 6)))).toNatClampNeg) then (X d 2 17 L (σ.1, σ.2.1, updG σ.2.2 33 (upd (σ.2.2 33) ((((σ.1 68)) + ((L 6)))).toNatClampNeg 0))) else none)
  | 17 => X d 2 16 (upd L 6 (((L 6)) + 1)) σ
  | 18 => X d 2 19 L (upd σ.1 67 ((((σ.1 67)) - 1)), σ.2.1, σ.2.2)
  | 19 => if ¬ (((L 1)) < 0 ∨ 70000 ≤ ((L 1)).toNatClampNeg) then (X d 2 20 L (upd σ.1 97 ((((σ.1 97)) - ((σ.2.2 8 ((L 1)).toNatClampNeg)))), σ.2.1, σ.2.2)) else none
  | 20 => X d 2 21 L (upd σ.1 68 ((L 4)), σ.2.1, σ.2.2)
  | 21 => if ((L 5)) = 0 ∨ ((L 5)) = 1 then (X d 2 22 L (upd σ.1 69 ((L 5)), σ.2.1, σ.2.2)) else none
  | 22 => if ((σ.1 56)) = 0 then (if ¬ (((((σ.1 59)) - 1)) < 0 ∨ 185000 ≤ ((((σ.1 59)) - 1)).toNatClampNeg) then (ob (x_answer K 0 (upd (fun _ => 0) 1 ((σ.2.2 29 ((((σ.1 59)) - 1)).toNatClampNeg))) σ) (fun r3 => X d 2 23 L r3.2)) else none) else (X d 2 23 L σ)
  | 23 => some (0, σ)
  | _ => none
theorem s_callFunc_0 (X : Nat → Nat → Nat → (Nat → Int32) → MS → Option (Int32 × MS)) (K d : Nat) (L : Nat → Int32) (σ : MS) : s_callFunc X K d 0 L σ = (if ¬ (((L 1)) < 0 ∨ 70000 ≤ ((L 1)).toNatClampNeg) then (X d 2 1 (upd (upd L 2 ((σ.1 59))) 3 ((σ.2.2 6 ((L 1)).toNatClampNeg))) σ) else none) := rfl
theorem s_callFunc_1 (X : Nat → Nat → Nat → (Nat → Int32) → MS → Option (Int32 × MS)) (K d : Nat) (L : Nat → Int32) (σ : MS) : s_callFunc X K d 1 L σ = (if ((L 3)) = ((-1)) then (X d 2 2 L σ) else (if ((σ.1 56)) = 0 then (od d (fun e3 => ob (X e3 4 0 (upd (fun _ => 0) 1 ((L 3))) σ) (fun r3 => if ¬ (((L 3)) < 0 ∨ 70000 ≤ ((L 3)).toNatClampNeg) then (X d 2 1 (upd L 3 ((r3.2.2.2 9 ((L 3)).toNatClampNeg))) r3.2) else none))) else (X d 2 2 L σ))) := rfl
theorem s_callFunc_2 (X : Nat → Nat → Nat → (Nat → Int32) → MS → Option (Int32 × MS)) (K d : Nat) (L : Nat → Int32) (σ : MS) : s_callFunc X K d 2 L σ = (if ((σ.1 56)) ≤ 0 then (X d 2 3 L σ) else (some (0, σ))) := rfl
theorem s_callFunc_3 (X : Nat → Nat → Nat → (Nat → Int32) → MS → Option (Int32 × MS)) (K d : Nat) (L : Nat → Int32) (σ : MS) : s_callFunc X K d 3 L σ = (if ((σ.1 67)) = 20 then (X d 2 4 L σ) else (if ¬ (((L 1)) < 0 ∨ 70000 ≤ ((L 1)).toNatClampNeg) then (if ((((σ.1 97)) + ((σ.2.2 8 ((L 1)).toNatClampNeg)))) ≤ 60 then (X d 2 5 L σ) else (X d 2 4 L σ)) else none)) := rfl
theorem s_callFunc_4 (X : Nat → Nat → Nat → (Nat → Int32) → MS → Option (Int32 × MS)) (K d : Nat) (L : Nat → Int32) (σ : MS) : s_callFunc X K d 4 L σ = (ob (x_fail K 0 (upd (fun _ => 0) 1 7) σ) (fun r1 => some (0, r1.2))) := rfl
theorem s_callFunc_5 (X : Nat → Nat → Nat → (Nat → Int32) → MS → Option (Int32 × MS)) (K d : Nat) (L : Nat → Int32) (σ : MS) : s_callFunc X K d 5 L σ = (ob (x_sweep K 0 (upd (fun _ => 0) 1 780000) σ) (fun r1 => if ¬ (((L 1)) < 0 ∨ 70000 ≤ ((L 1)).toNatClampNeg) then (X d 2 6 (upd (upd (upd L 3 ((r1.2.2.2 5 ((L 1)).toNatClampNeg))) 4 ((r1.2.1 68))) 5 ((r1.2.1 69))) (upd r1.2.1 67 ((((r1.2.1 67)) + 1)), r1.2.2.1, r1.2.2.2)) else none)) := rfl
theorem s_callFunc_6 (X : Nat → Nat → Nat → (Nat → Int32) → MS → Option (Int32 × MS)) (K d : Nat) (L : Nat → Int32) (σ : MS) : s_callFunc X K d 6 L σ = (if ¬ (((L 1)) < 0 ∨ 70000 ≤ ((L 1)).toNatClampNeg) then (X d 2 7 L (upd σ.1 97 ((((σ.1 97)) + ((σ.2.2 8 ((L 1)).toNatClampNeg)))), σ.2.1, σ.2.2)) else none) := rfl
theorem s_callFunc_7 (X : Nat → Nat → Nat → (Nat → Int32) → MS → Option (Int32 × MS)) (K d : Nat) (L : Nat → Int32) (σ : MS) : s_callFunc X K d 7 L σ = (X d 2 8 L (upd σ.1 68 ((60 * ((1 + ((σ.1 67)))))), σ.2.1, σ.2.2)) := rfl
theorem s_callFunc_8 (X : Nat → Nat → Nat → (Nat → Int32) → MS → Option (Int32 × MS)) (K d : Nat) (L : Nat → Int32) (σ : MS) : s_callFunc X K d 8 L σ = (X d 2 9 L (upd σ.1 69 1, σ.2.1, σ.2.2)) := rfl
theorem s_callFunc_9 (X : Nat → Nat → Nat → (Nat → Int32) → MS → Option (Int32 × MS)) (K d : Nat) (L : Nat → Int32) (σ : MS) : s_callFunc X K d 9 L σ = (X d 2 10 (upd L 6 0) σ) := rfl
theorem s_callFunc_10 (X : Nat → Nat → Nat → (Nat → Int32) → MS → Option (Int32 × MS)) (K d : Nat) (L : Nat → Int32) (σ : MS) : s_callFunc X K d 10 L σ = (if 60 ≤ ((L 6)) then (X d 2 14 L σ) else (if ¬ (((L 3)) < 0 ∨ 41 ≤ ((L 3)).toNatClampNeg) then (if ((σ.2.2 18 ((L 3)).toNatClampNeg)) ≤ ((L 6)) then (X d 2 11 (upd L 100 ((((σ.1 68)) + ((L 6))))) σ) else (if ¬ (((((L 2)) + ((L 6)))) < 0 ∨ 185000 ≤ ((((L 2)) + ((L 6)))).toNatClampNeg) then (X d 2 12 (upd (upd L 100 ((σ.2.2 29 ((((L 2)) + ((L 6)))).toNatClampNeg))) 101 ((((σ.1 68)) + ((L 6))))) σ) else none)) else none)) := rfl
theorem s_callFunc_11 (X : Nat → Nat → Nat → (Nat → Int32) → MS → Option (Int32 × MS)) (K d : Nat) (L : Nat → Int32) (σ : MS) : s_callFunc X K d 11 L σ = (X d 2 12 (upd (upd L 100 0) 101 ((L 100))) σ) := rfl
theorem s_callFunc_12 (X : Nat → Nat → Nat → (Nat → Int32) → MS → Option (Int32 × MS)) (K d : Nat) (L : Nat → Int32) (σ : MS) : s_callFunc X K d 12 L σ = (if ¬ (((L 101)) < 0 ∨ 1380 ≤ ((L 101)).toNatClampNeg) then (X d 2 13 L (σ.1, σ.2.1, updG σ.2.2 33 (upd (σ.2.2 33) ((L 101)).toNatClampNeg ((L 100))))) else none) := rfl
theorem s_callFunc_13 (X : Nat → Nat → Nat → (Nat → Int32) → MS → Option (Int32 × MS)) (K d : Nat) (L : Nat → Int32) (σ : MS) : s_callFunc X K d 13 L σ = (X d 2 10 (upd L 6 (((L 6)) + 1)) σ) := rfl
theorem s_callFunc_14 (X : Nat → Nat → Nat → (Nat → Int32) → MS → Option (Int32 × MS)) (K d : Nat) (L : Nat → Int32) (σ : MS) : s_callFunc X K d 14 L σ = (X d 2 15 L (upd σ.1 59 ((L 2)), σ.2.1, σ.2.2)) := rfl
theorem s_callFunc_15 (X : Nat → Nat → Nat → (Nat → Int32) → MS → Option (Int32 × MS)) (K d : Nat) (L : Nat → Int32) (σ : MS) : s_callFunc X K d 15 L σ = (if ¬ (((L 3)) < 0 ∨ 41 ≤ ((L 3)).toNatClampNeg) then (od d (fun e2 => ob (X e2 4 0 (upd (fun _ => 0) 1 ((σ.2.2 17 ((L 3)).toNatClampNeg))) σ) (fun r2 => X d 2 16 (upd L 6 0) r2.2))) else none) := rfl
theorem s_callFunc_16 (X : Nat → Nat → Nat → (Nat → Int32) → MS → Option (Int32 × MS)) (K d : Nat) (L : Nat → Int32) (σ : MS) : s_callFunc X K d 16 L σ = (if 60 ≤ ((L 6)) then (X d 2 18 L σ) else (if ¬ (((((σ.1 68)) + ((L 6)))) < 0 ∨ 1380 ≤ ((((σ.1 68)) + ((L 6)))).toNatClampNeg) then (X d 2 17 L (σ.1, σ.2.1, updG σ.2.2 33 (upd (σ.2.2 33) ((((σ.1 68)) + ((L 6)))).toNatClampNeg 0))) else none)) := rfl
theorem s_callFunc_17 (X : Nat → Nat → Nat → (Nat → Int32) → MS → Option (Int32 × MS)) (K d : Nat) (L : Nat → Int32) (σ : MS) : s_callFunc X K d 17 L σ = (X d 2 16 (upd L 6 (((L 6)) + 1)) σ) := rfl
theorem s_callFunc_18 (X : Nat → Nat → Nat → (Nat → Int32) → MS → Option (Int32 × MS)) (K d : Nat) (L : Nat → Int32) (σ : MS) : s_callFunc X K d 18 L σ = (X d 2 19 L (upd σ.1 67 ((((σ.1 67)) - 1)), σ.2.1, σ.2.2)) := rfl
theorem s_callFunc_19 (X : Nat → Nat → Nat → (Nat → Int32) → MS → Option (Int32 × MS)) (K d : Nat) (L : Nat → Int32) (σ : MS) : s_callFunc X K d 19 L σ = (if ¬ (((L 1)) < 0 ∨ 70000 ≤ ((L 1)).toNatClampNeg) then (X d 2 20 L (upd σ.1 97 ((((σ.1 97)) - ((σ.2.2 8 ((L 1)).toNatClampNeg)))), σ.2.1, σ.2.2)) else none) := rfl
theorem s_callFunc_20 (X : Nat → Nat → Nat → (Nat → Int32) → MS → Option (Int32 × MS)) (K d : Nat) (L : Nat → Int32) (σ : MS) : s_callFunc X K d 20 L σ = (X d 2 21 L (upd σ.1 68 ((L 4)), σ.2.1, σ.2.2)) := rfl
theorem s_callFunc_21 (X : Nat → Nat → Nat → (Nat → Int32) → MS → Option (Int32 × MS)) (K d : Nat) (L : Nat → Int32) (σ : MS) : s_callFunc X K d 21 L σ = (if ((L 5)) = 0 ∨ ((L 5)) = 1 then (X d 2 22 L (upd σ.1 69 ((L 5)), σ.2.1, σ.2.2)) else none) := rfl
theorem s_callFunc_22 (X : Nat → Nat → Nat → (Nat → Int32) → MS → Option (Int32 × MS)) (K d : Nat) (L : Nat → Int32) (σ : MS) : s_callFunc X K d 22 L σ = (if ((σ.1 56)) = 0 then (if ¬ (((((σ.1 59)) - 1)) < 0 ∨ 185000 ≤ ((((σ.1 59)) - 1)).toNatClampNeg) then (ob (x_answer K 0 (upd (fun _ => 0) 1 ((σ.2.2 29 ((((σ.1 59)) - 1)).toNatClampNeg))) σ) (fun r3 => X d 2 23 L r3.2)) else none) else (X d 2 23 L σ)) := rfl
theorem s_callFunc_23 (X : Nat → Nat → Nat → (Nat → Int32) → MS → Option (Int32 × MS)) (K d : Nat) (L : Nat → Int32) (σ : MS) : s_callFunc X K d 23 L σ = (some (0, σ)) := rfl
def s_choose (X : Nat → Nat → Nat → (Nat → Int32) → MS → Option (Int32 × MS)) (K d : Nat) (b : Nat) (L : Nat → Int32) (σ : MS) : Option (Int32 × MS) := match b with
  | 0 => if ¬ (((L 1)) < 0 ∨ 70000 ≤ ((L 1)).toNatClampNeg) then (X d 3 1 (upd (upd L 2 ((σ.2.2 6 ((L 1)).toNatClampNeg))) 3 1) σ) else none
  | 1 => if ((L 3)) = 0 then (X d 3 4 L σ) else (if ((σ.1 56)) = 0 then (if ¬ (((L 2)) < 0 ∨ 70000 ≤ ((L 2)).toNatClampNeg) then (if ((σ.2.2 5 ((L 2)).toNatClampNeg)) = ((-1)) then (X d 3 2 L σ) else (if ¬ (((L 2)) < 0 ∨ 70000 ≤ ((L 2)).toNatClampNeg) then (od d (fun e6 => ob (X e6 8 0 (upd (fun _ => 0) 1 ((σ.2.2 5 ((L 2)).toNatClampNeg))) σ) (fun r6 => if r6.1 = 0 then (X d 3 3 L r6.2) else (X d 3 2 L r6.2)))) else none)) else none) else (X d 3 4 L σ))
  | 2 => X d 3 1 (upd L 3 0) σ
  | 3 => if ¬ (((L 2)) < 0 ∨ 70000 ≤ ((L 2)).toNatClampNeg) then (X d 3 1 (upd L 2 ((σ.2.2 9 ((L 2)).toNatClampNeg))) σ) else none
  | 4 => if ((σ.1 56)) = 0 then (if ¬ (((L 2)) < 0 ∨ 70000 ≤ ((L 2)).toNatClampNeg) then (od d (fun e3 => ob (X e3 4 0 (upd (fun _ => 0) 1 ((σ.2.2 6 ((L 2)).toNatClampNeg))) σ) (fun r3 => X d 3 5 L r3.2))) else none) else (X d 3 5 L σ)
  | 5 => some (0, σ)
  | _ => none
theorem s_choose_0 (X : Nat → Nat → Nat → (Nat → Int32) → MS → Option (Int32 × MS)) (K d : Nat) (L : Nat → Int32) (σ : MS) : s_choose X K d 0 L σ = (if ¬ (((L 1)) < 0 ∨ 70000 ≤ ((L 1)).toNatClampNeg) then (X d 3 1 (upd (upd L 2 ((σ.2.2 6 ((L 1)).toNatClampNeg))) 3 1) σ) else none) := rfl
theorem s_choose_1 (X : Nat → Nat → Nat → (Nat → Int32) → MS → Option (Int32 × MS)) (K d : Nat) (L : Nat → Int32) (σ : MS) : s_choose X K d 1 L σ = (if ((L 3)) = 0 then (X d 3 4 L σ) else (if ((σ.1 56)) = 0 then (if ¬ (((L 2)) < 0 ∨ 70000 ≤ ((L 2)).toNatClampNeg) then (if ((σ.2.2 5 ((L 2)).toNatClampNeg)) = ((-1)) then (X d 3 2 L σ) else (if ¬ (((L 2)) < 0 ∨ 70000 ≤ ((L 2)).toNatClampNeg) then (od d (fun e6 => ob (X e6 8 0 (upd (fun _ => 0) 1 ((σ.2.2 5 ((L 2)).toNatClampNeg))) σ) (fun r6 => if r6.1 = 0 then (X d 3 3 L r6.2) else (X d 3 2 L r6.2)))) else none)) else none) else (X d 3 4 L σ))) := rfl
theorem s_choose_2 (X : Nat → Nat → Nat → (Nat → Int32) → MS → Option (Int32 × MS)) (K d : Nat) (L : Nat → Int32) (σ : MS) : s_choose X K d 2 L σ = (X d 3 1 (upd L 3 0) σ) := rfl
theorem s_choose_3 (X : Nat → Nat → Nat → (Nat → Int32) → MS → Option (Int32 × MS)) (K d : Nat) (L : Nat → Int32) (σ : MS) : s_choose X K d 3 L σ = (if ¬ (((L 2)) < 0 ∨ 70000 ≤ ((L 2)).toNatClampNeg) then (X d 3 1 (upd L 2 ((σ.2.2 9 ((L 2)).toNatClampNeg))) σ) else none) := rfl
theorem s_choose_4 (X : Nat → Nat → Nat → (Nat → Int32) → MS → Option (Int32 × MS)) (K d : Nat) (L : Nat → Int32) (σ : MS) : s_choose X K d 4 L σ = (if ((σ.1 56)) = 0 then (if ¬ (((L 2)) < 0 ∨ 70000 ≤ ((L 2)).toNatClampNeg) then (od d (fun e3 => ob (X e3 4 0 (upd (fun _ => 0) 1 ((σ.2.2 6 ((L 2)).toNatClampNeg))) σ) (fun r3 => X d 3 5 L r3.2))) else none) else (X d 3 5 L σ)) := rfl
theorem s_choose_5 (X : Nat → Nat → Nat → (Nat → Int32) → MS → Option (Int32 × MS)) (K d : Nat) (L : Nat → Int32) (σ : MS) : s_choose X K d 5 L σ = (some (0, σ)) := rfl
def s_eval (X : Nat → Nat → Nat → (Nat → Int32) → MS → Option (Int32 × MS)) (K d : Nat) (b : Nat) (L : Nat → Int32) (σ : MS) : Option (Int32 × MS) := match b with
  | 0 => X d 4 1 (upd L 2 ((L 1))) σ
  | 1 => if ¬ (((L 2)) < 0 ∨ 70000 ≤ ((L 2)).toNatClampNeg) then (ob (x_isOver K 0 (upd (fun _ => 0) 0 ((σ.2.2 4 ((L 2)).toNatClampNeg))) σ) (fun r2 => if r2.1 = 0 then (X d 4 2 L r2.2) else (if ¬ (((L 2)) < 0 ∨ 70000 ≤ ((L 2)).toNatClampNeg) then (X d 4 1 (upd L 2 ((r2.2.2.2 6 ((L 2)).toNatClampNeg))) r2.2) else none))) else none
  | 2 => od d (fun e1 => ob (X e1 0 0 (upd (fun _ => 0) 1 ((L 2))) σ) (fun r1 => X d 4 3 L r1.2))
  | 3 => if ((L 2)) = ((L 1)) then (X d 4 4 L σ) else (if ((σ.1 56)) = 0 then (if ¬ (((L 2)) < 0 ∨ 70000 ≤ ((L 2)).toNatClampNeg) then (od d (fun e4 => ob (X e4 7 0 (upd (fun _ => 0) 1 ((σ.2.2 9 ((L 2)).toNatClampNeg))) σ) (fun r4 => X d 4 3 (upd L 2 ((σ.2.2 9 ((L 2)).toNatClampNeg))) r4.2))) else none) else (X d 4 4 L σ))
  | 4 => some (0, σ)
  | _ => none
theorem s_eval_0 (X : Nat → Nat → Nat → (Nat → Int32) → MS → Option (Int32 × MS)) (K d : Nat) (L : Nat → Int32) (σ : MS) : s_eval X K d 0 L σ = (X d 4 1 (upd L 2 ((L 1))) σ) := rfl
theorem s_eval_1 (X : Nat → Nat → Nat → (Nat → Int32) → MS → Option (Int32 × MS)) (K d : Nat) (L : Nat → Int32) (σ : MS) : s_eval X K d 1 L σ = (if ¬ (((L 2)) < 0 ∨ 70000 ≤ ((L 2)).toNatClampNeg) then (ob (x_isOver K 0 (upd (fun _ => 0) 0 ((σ.2.2 4 ((L 2)).toNatClampNeg))) σ) (fun r2 => if r2.1 = 0 then (X d 4 2 L r2.2) else (if ¬ (((L 2)) < 0 ∨ 70000 ≤ ((L 2)).toNatClampNeg) then (X d 4 1 (upd L 2 ((r2.2.2.2 6 ((L 2)).toNatClampNeg))) r2.2) else none))) else none) := rfl
theorem s_eval_2 (X : Nat → Nat → Nat → (Nat → Int32) → MS → Option (Int32 × MS)) (K d : Nat) (L : Nat → Int32) (σ : MS) : s_eval X K d 2 L σ = (od d (fun e1 => ob (X e1 0 0 (upd (fun _ => 0) 1 ((L 2))) σ) (fun r1 => X d 4 3 L r1.2))) := rfl
theorem s_eval_3 (X : Nat → Nat → Nat → (Nat → Int32) → MS → Option (Int32 × MS)) (K d : Nat) (L : Nat → Int32) (σ : MS) : s_eval X K d 3 L σ = (if ((L 2)) = ((L 1)) then (X d 4 4 L σ) else (if ((σ.1 56)) = 0 then (if ¬ (((L 2)) < 0 ∨ 70000 ≤ ((L 2)).toNatClampNeg) then (od d (fun e4 => ob (X e4 7 0 (upd (fun _ => 0) 1 ((σ.2.2 9 ((L 2)).toNatClampNeg))) σ) (fun r4 => X d 4 3 (upd L 2 ((σ.2.2 9 ((L 2)).toNatClampNeg))) r4.2))) else none) else (X d 4 4 L σ))) := rfl
theorem s_eval_4 (X : Nat → Nat → Nat → (Nat → Int32) → MS → Option (Int32 × MS)) (K d : Nat) (L : Nat → Int32) (σ : MS) : s_eval X K d 4 L σ = (some (0, σ)) := rfl
def s_former (X : Nat → Nat → Nat → (Nat → Int32) → MS → Option (Int32 × MS)) (K d : Nat) (b : Nat) (L : Nat → Int32) (σ : MS) : Option (Int32 × MS) := match b with
  | 0 => if ¬ (((L 1)) < 0 ∨ 70000 ≤ ((L 1)).toNatClampNeg) then (od d (fun e2 => ob (X e2 6 0 (upd (upd (upd (fun _ => 0) 1 ((σ.1 72))) 2 ((σ.2.2 6 ((L 1)).toNatClampNeg))) 3 1) σ) (fun r2 => X d 5 1 (upd (upd (upd L 2 ((σ.1 59))) 3 ((σ.1 72))) 4 r2.1) r2.2))) else none
  | 1 => if ((L 4)) = 0 then (X d 5 6 L σ) else (if ((σ.1 56)) = 0 then (if ¬ (((L 1)) < 0 ∨ 70000 ≤ ((L 1)).toNatClampNeg) then (if ((σ.2.2 7 ((L 1)).toNatClampNeg)) = ((-1)) then (X d 5 2 L σ) else (if ¬ (((L 1)) < 0 ∨ 70000 ≤ ((L 1)).toNatClampNeg) then (od d (fun e6 => ob (X e6 8 0 (upd (fun _ => 0) 1 ((σ.2.2 7 ((L 1)).toNatClampNeg))) σ) (fun r6 => if r6.1 = 0 then (X d 5 3 L r6.2) else (X d 5 2 L r6.2)))) else none)) else none) else (X d 5 6 L σ))
  | 2 => if ¬ (((L 1)) < 0 ∨ 70000 ≤ ((L 1)).toNatClampNeg) then (od d (fun e2 => ob (X e2 4 0 (upd (fun _ => 0) 1 ((σ.2.2 8 ((L 1)).toNatClampNeg))) σ) (fun r2 => if ((r2.2.1 56)) = 0 then (if ¬ (((L 1)) < 0 ∨ 70000 ≤ ((L 1)).toNatClampNeg) then (if ((r2.2.2.2 5 ((L 1)).toNatClampNeg)) = 1 then (if ¬ (((((r2.2.1 59)) - 1)) < 0 ∨ 185000 ≤ ((((r2.2.1 59)) - 1)).toNatClampNeg) then (if ((r2.2.2.2 29 ((((r2.2.1 59)) - 1)).toNatClampNeg)) = 0 then (ob (x_fail K 0 (upd (fun _ => 0) 1 3) r2.2) (fun r8 => X d 5 3 L r8.2)) else (X d 5 3 L r2.2)) else none) else (X d 5 3 L r2.2)) else none) else (X d 5 3 L r2.2)))) else none
  | 3 => if ((σ.1 56)) = 0 then (if ¬ (((L 1)) < 0 ∨ 70000 ≤ ((L 1)).toNatClampNeg) then (od d (fun e3 => ob (X e3 6 0 (upd (upd (upd (fun _ => 0) 1 ((L 3))) 2 ((σ.2.2 6 ((L 1)).toNatClampNeg))) 3 0) σ) (fun r3 => if r3.1 = 0 then (X d 5 4 L r3.2) else (X d 5 5 (upd L 100 1) r3.2)))) else none) else (X d 5 4 L σ)
  | 4 => X d 5 5 (upd L 100 0) σ
  | 5 => X d 5 1 (upd L 4 ((L 100))) σ
  | 6 => X d 5 7 L (upd σ.1 72 ((L 3)), σ.2.1, σ.2.2)
  | 7 => if ¬ (((L 1)) < 0 ∨ 70000 ≤ ((L 1)).toNatClampNeg) then (ob (x_clear K 0 (upd (fun _ => 0) 1 ((σ.2.2 6 ((L 1)).toNatClampNeg))) σ) (fun r2 => if ((r2.2.1 56)) = 0 then (if ¬ (((L 1)) < 0 ∨ 70000 ≤ ((L 1)).toNatClampNeg) then (if ((r2.2.2.2 5 ((L 1)).toNatClampNeg)) = 1 then (ob (x_setOf K 0 (upd (fun _ => 0) 1 ((L 2))) r2.2) (fun r6 => X d 5 9 (upd L 100 r6.1) r6.2)) else (X d 5 8 L r2.2)) else none) else (X d 5 10 L r2.2))) else none
  | 8 => ob (x_tupleOf K 0 (upd (fun _ => 0) 1 ((L 2))) σ) (fun r1 => X d 5 9 (upd L 100 r1.1) r1.2)
  | 9 => ob (x_answer K 0 (upd (fun _ => 0) 1 ((L 100))) σ) (fun r1 => ob (x_push K 0 (upd (fun _ => 0) 1 r1.1) r1.2) (fun r2 => X d 5 10 L r2.2))
  | 10 => some (0, σ)
  | _ => none
theorem s_former_0 (X : Nat → Nat → Nat → (Nat → Int32) → MS → Option (Int32 × MS)) (K d : Nat) (L : Nat → Int32) (σ : MS) : s_former X K d 0 L σ = (if ¬ (((L 1)) < 0 ∨ 70000 ≤ ((L 1)).toNatClampNeg) then (od d (fun e2 => ob (X e2 6 0 (upd (upd (upd (fun _ => 0) 1 ((σ.1 72))) 2 ((σ.2.2 6 ((L 1)).toNatClampNeg))) 3 1) σ) (fun r2 => X d 5 1 (upd (upd (upd L 2 ((σ.1 59))) 3 ((σ.1 72))) 4 r2.1) r2.2))) else none) := rfl
theorem s_former_1 (X : Nat → Nat → Nat → (Nat → Int32) → MS → Option (Int32 × MS)) (K d : Nat) (L : Nat → Int32) (σ : MS) : s_former X K d 1 L σ = (if ((L 4)) = 0 then (X d 5 6 L σ) else (if ((σ.1 56)) = 0 then (if ¬ (((L 1)) < 0 ∨ 70000 ≤ ((L 1)).toNatClampNeg) then (if ((σ.2.2 7 ((L 1)).toNatClampNeg)) = ((-1)) then (X d 5 2 L σ) else (if ¬ (((L 1)) < 0 ∨ 70000 ≤ ((L 1)).toNatClampNeg) then (od d (fun e6 => ob (X e6 8 0 (upd (fun _ => 0) 1 ((σ.2.2 7 ((L 1)).toNatClampNeg))) σ) (fun r6 => if r6.1 = 0 then (X d 5 3 L r6.2) else (X d 5 2 L r6.2)))) else none)) else none) else (X d 5 6 L σ))) := rfl
theorem s_former_2 (X : Nat → Nat → Nat → (Nat → Int32) → MS → Option (Int32 × MS)) (K d : Nat) (L : Nat → Int32) (σ : MS) : s_former X K d 2 L σ = (if ¬ (((L 1)) < 0 ∨ 70000 ≤ ((L 1)).toNatClampNeg) then (od d (fun e2 => ob (X e2 4 0 (upd (fun _ => 0) 1 ((σ.2.2 8 ((L 1)).toNatClampNeg))) σ) (fun r2 => if ((r2.2.1 56)) = 0 then (if ¬ (((L 1)) < 0 ∨ 70000 ≤ ((L 1)).toNatClampNeg) then (if ((r2.2.2.2 5 ((L 1)).toNatClampNeg)) = 1 then (if ¬ (((((r2.2.1 59)) - 1)) < 0 ∨ 185000 ≤ ((((r2.2.1 59)) - 1)).toNatClampNeg) then (if ((r2.2.2.2 29 ((((r2.2.1 59)) - 1)).toNatClampNeg)) = 0 then (ob (x_fail K 0 (upd (fun _ => 0) 1 3) r2.2) (fun r8 => X d 5 3 L r8.2)) else (X d 5 3 L r2.2)) else none) else (X d 5 3 L r2.2)) else none) else (X d 5 3 L r2.2)))) else none) := rfl
theorem s_former_3 (X : Nat → Nat → Nat → (Nat → Int32) → MS → Option (Int32 × MS)) (K d : Nat) (L : Nat → Int32) (σ : MS) : s_former X K d 3 L σ = (if ((σ.1 56)) = 0 then (if ¬ (((L 1)) < 0 ∨ 70000 ≤ ((L 1)).toNatClampNeg) then (od d (fun e3 => ob (X e3 6 0 (upd (upd (upd (fun _ => 0) 1 ((L 3))) 2 ((σ.2.2 6 ((L 1)).toNatClampNeg))) 3 0) σ) (fun r3 => if r3.1 = 0 then (X d 5 4 L r3.2) else (X d 5 5 (upd L 100 1) r3.2)))) else none) else (X d 5 4 L σ)) := rfl
theorem s_former_4 (X : Nat → Nat → Nat → (Nat → Int32) → MS → Option (Int32 × MS)) (K d : Nat) (L : Nat → Int32) (σ : MS) : s_former X K d 4 L σ = (X d 5 5 (upd L 100 0) σ) := rfl
theorem s_former_5 (X : Nat → Nat → Nat → (Nat → Int32) → MS → Option (Int32 × MS)) (K d : Nat) (L : Nat → Int32) (σ : MS) : s_former X K d 5 L σ = (X d 5 1 (upd L 4 ((L 100))) σ) := rfl
theorem s_former_6 (X : Nat → Nat → Nat → (Nat → Int32) → MS → Option (Int32 × MS)) (K d : Nat) (L : Nat → Int32) (σ : MS) : s_former X K d 6 L σ = (X d 5 7 L (upd σ.1 72 ((L 3)), σ.2.1, σ.2.2)) := rfl
theorem s_former_7 (X : Nat → Nat → Nat → (Nat → Int32) → MS → Option (Int32 × MS)) (K d : Nat) (L : Nat → Int32) (σ : MS) : s_former X K d 7 L σ = (if ¬ (((L 1)) < 0 ∨ 70000 ≤ ((L 1)).toNatClampNeg) then (ob (x_clear K 0 (upd (fun _ => 0) 1 ((σ.2.2 6 ((L 1)).toNatClampNeg))) σ) (fun r2 => if ((r2.2.1 56)) = 0 then (if ¬ (((L 1)) < 0 ∨ 70000 ≤ ((L 1)).toNatClampNeg) then (if ((r2.2.2.2 5 ((L 1)).toNatClampNeg)) = 1 then (ob (x_setOf K 0 (upd (fun _ => 0) 1 ((L 2))) r2.2) (fun r6 => X d 5 9 (upd L 100 r6.1) r6.2)) else (X d 5 8 L r2.2)) else none) else (X d 5 10 L r2.2))) else none) := rfl
theorem s_former_8 (X : Nat → Nat → Nat → (Nat → Int32) → MS → Option (Int32 × MS)) (K d : Nat) (L : Nat → Int32) (σ : MS) : s_former X K d 8 L σ = (ob (x_tupleOf K 0 (upd (fun _ => 0) 1 ((L 2))) σ) (fun r1 => X d 5 9 (upd L 100 r1.1) r1.2)) := rfl
theorem s_former_9 (X : Nat → Nat → Nat → (Nat → Int32) → MS → Option (Int32 × MS)) (K d : Nat) (L : Nat → Int32) (σ : MS) : s_former X K d 9 L σ = (ob (x_answer K 0 (upd (fun _ => 0) 1 ((L 100))) σ) (fun r1 => ob (x_push K 0 (upd (fun _ => 0) 1 r1.1) r1.2) (fun r2 => X d 5 10 L r2.2))) := rfl
theorem s_former_10 (X : Nat → Nat → Nat → (Nat → Int32) → MS → Option (Int32 × MS)) (K d : Nat) (L : Nat → Int32) (σ : MS) : s_former X K d 10 L σ = (some (0, σ)) := rfl
def s_goOn (X : Nat → Nat → Nat → (Nat → Int32) → MS → Option (Int32 × MS)) (K d : Nat) (b : Nat) (L : Nat → Int32) (σ : MS) : Option (Int32 × MS) := match b with
  | 0 => X d 6 1 (upd L 4 ((L 3))) σ
  | 1 => if ((σ.1 56)) = 0 then (ob (x_sweep K 0 (upd (fun _ => 0) 1 780000) σ) (fun r2 => if ((L 4)) = 0 then (X d 6 6 L r2.2) else (if ((r2.2.1 72)) = ((L 1)) then (X d 6 3 (upd L 100 ((L 2))) r2.2) else (X d 6 2 L r2.2)))) else (X d 6 9 L σ)
  | 2 => if ¬ (((((σ.1 72)) - 1)) < 0 ∨ 4000 ≤ ((((σ.1 72)) - 1)).toNatClampNeg) then (if ¬ (((σ.2.2 50 ((((σ.1 72)) - 1)).toNatClampNeg)) < 0 ∨ 70000 ≤ ((σ.2.2 50 ((((σ.1 72)) - 1)).toNatClampNeg)).toNatClampNeg) then (X d 6 3 (upd L 100 ((σ.2.2 9 ((σ.2.2 50 ((((σ.1 72)) - 1)).toNatClampNeg)).toNatClampNeg))) σ) else none) else none
  | 3 => if ((L 100)) = ((-1)) then (some (1, σ)) else (X d 6 4 (upd L 5 ((L 100))) σ)
  | 4 => od d (fun e1 => ob (X e1 9 0 (upd (fun _ => 0) 1 ((L 5))) σ) (fun r1 => if ((r1.2.1 56)) ≤ 0 then (X d 6 5 L r1.2) else (some (0, r1.2))))
  | 5 => if ¬ (((((σ.1 72)) - 1)) < 0 ∨ 4000 ≤ ((((σ.1 72)) - 1)).toNatClampNeg) then (X d 6 7 L (σ.1, σ.2.1, updG σ.2.2 50 (upd (σ.2.2 50) ((((σ.1 72)) - 1)).toNatClampNeg ((L 5))))) else none
  | 6 => if ((σ.1 72)) = ((L 1)) then (some (0, σ)) else (X d 6 7 L σ)
  | 7 => if ¬ (((((σ.1 72)) - 1)) < 0 ∨ 4000 ≤ ((((σ.1 72)) - 1)).toNatClampNeg) then (ob (x_stepIter K 0 (upd (fun _ => 0) 1 ((σ.2.2 50 ((((σ.1 72)) - 1)).toNatClampNeg))) σ) (fun r2 => if r2.1 = 0 then (if ((r2.2.1 56)) = 0 then (X d 6 8 (upd L 4 r2.1) (upd r2.2.1 72 ((((r2.2.1 72)) - 1)), r2.2.2.1, r2.2.2.2)) else (X d 6 8 (upd L 4 r2.1) r2.2)) else (X d 6 8 (upd L 4 r2.1) r2.2))) else none
  | 8 => if ((L 4)) = 0 then (X d 6 1 L σ) else (if ¬ (((((σ.1 72)) - 1)) < 0 ∨ 4000 ≤ ((((σ.1 72)) - 1)).toNatClampNeg) then (if ¬ (((σ.2.2 50 ((((σ.1 72)) - 1)).toNatClampNeg)) < 0 ∨ 70000 ≤ ((σ.2.2 50 ((((σ.1 72)) - 1)).toNatClampNeg)).toNatClampNeg) then (if ((σ.2.2 9 ((σ.2.2 50 ((((σ.1 72)) - 1)).toNatClampNeg)).toNatClampNeg)) = ((-1)) then (some (1, σ)) else (X d 6 1 L σ)) else none) else none)
  | 9 => some (0, σ)
  | _ => none
theorem s_goOn_0 (X : Nat → Nat → Nat → (Nat → Int32) → MS → Option (Int32 × MS)) (K d : Nat) (L : Nat → Int32) (σ : MS) : s_goOn X K d 0 L σ = (X d 6 1 (upd L 4 ((L 3))) σ) := rfl
theorem s_goOn_1 (X : Nat → Nat → Nat → (Nat → Int32) → MS → Option (Int32 × MS)) (K d : Nat) (L : Nat → Int32) (σ : MS) : s_goOn X K d 1 L σ = (if ((σ.1 56)) = 0 then (ob (x_sweep K 0 (upd (fun _ => 0) 1 780000) σ) (fun r2 => if ((L 4)) = 0 then (X d 6 6 L r2.2) else (if ((r2.2.1 72)) = ((L 1)) then (X d 6 3 (upd L 100 ((L 2))) r2.2) else (X d 6 2 L r2.2)))) else (X d 6 9 L σ)) := rfl
theorem s_goOn_2 (X : Nat → Nat → Nat → (Nat → Int32) → MS → Option (Int32 × MS)) (K d : Nat) (L : Nat → Int32) (σ : MS) : s_goOn X K d 2 L σ = (if ¬ (((((σ.1 72)) - 1)) < 0 ∨ 4000 ≤ ((((σ.1 72)) - 1)).toNatClampNeg) then (if ¬ (((σ.2.2 50 ((((σ.1 72)) - 1)).toNatClampNeg)) < 0 ∨ 70000 ≤ ((σ.2.2 50 ((((σ.1 72)) - 1)).toNatClampNeg)).toNatClampNeg) then (X d 6 3 (upd L 100 ((σ.2.2 9 ((σ.2.2 50 ((((σ.1 72)) - 1)).toNatClampNeg)).toNatClampNeg))) σ) else none) else none) := rfl
theorem s_goOn_3 (X : Nat → Nat → Nat → (Nat → Int32) → MS → Option (Int32 × MS)) (K d : Nat) (L : Nat → Int32) (σ : MS) : s_goOn X K d 3 L σ = (if ((L 100)) = ((-1)) then (some (1, σ)) else (X d 6 4 (upd L 5 ((L 100))) σ)) := rfl
theorem s_goOn_4 (X : Nat → Nat → Nat → (Nat → Int32) → MS → Option (Int32 × MS)) (K d : Nat) (L : Nat → Int32) (σ : MS) : s_goOn X K d 4 L σ = (od d (fun e1 => ob (X e1 9 0 (upd (fun _ => 0) 1 ((L 5))) σ) (fun r1 => if ((r1.2.1 56)) ≤ 0 then (X d 6 5 L r1.2) else (some (0, r1.2))))) := rfl
theorem s_goOn_5 (X : Nat → Nat → Nat → (Nat → Int32) → MS → Option (Int32 × MS)) (K d : Nat) (L : Nat → Int32) (σ : MS) : s_goOn X K d 5 L σ = (if ¬ (((((σ.1 72)) - 1)) < 0 ∨ 4000 ≤ ((((σ.1 72)) - 1)).toNatClampNeg) then (X d 6 7 L (σ.1, σ.2.1, updG σ.2.2 50 (upd (σ.2.2 50) ((((σ.1 72)) - 1)).toNatClampNeg ((L 5))))) else none) := rfl
theorem s_goOn_6 (X : Nat → Nat → Nat → (Nat → Int32) → MS → Option (Int32 × MS)) (K d : Nat) (L : Nat → Int32) (σ : MS) : s_goOn X K d 6 L σ = (if ((σ.1 72)) = ((L 1)) then (some (0, σ)) else (X d 6 7 L σ)) := rfl
theorem s_goOn_7 (X : Nat → Nat → Nat → (Nat → Int32) → MS → Option (Int32 × MS)) (K d : Nat) (L : Nat → Int32) (σ : MS) : s_goOn X K d 7 L σ = (if ¬ (((((σ.1 72)) - 1)) < 0 ∨ 4000 ≤ ((((σ.1 72)) - 1)).toNatClampNeg) then (ob (x_stepIter K 0 (upd (fun _ => 0) 1 ((σ.2.2 50 ((((σ.1 72)) - 1)).toNatClampNeg))) σ) (fun r2 => if r2.1 = 0 then (if ((r2.2.1 56)) = 0 then (X d 6 8 (upd L 4 r2.1) (upd r2.2.1 72 ((((r2.2.1 72)) - 1)), r2.2.2.1, r2.2.2.2)) else (X d 6 8 (upd L 4 r2.1) r2.2)) else (X d 6 8 (upd L 4 r2.1) r2.2))) else none) := rfl
theorem s_goOn_8 (X : Nat → Nat → Nat → (Nat → Int32) → MS → Option (Int32 × MS)) (K d : Nat) (L : Nat → Int32) (σ : MS) : s_goOn X K d 8 L σ = (if ((L 4)) = 0 then (X d 6 1 L σ) else (if ¬ (((((σ.1 72)) - 1)) < 0 ∨ 4000 ≤ ((((σ.1 72)) - 1)).toNatClampNeg) then (if ¬ (((σ.2.2 50 ((((σ.1 72)) - 1)).toNatClampNeg)) < 0 ∨ 70000 ≤ ((σ.2.2 50 ((((σ.1 72)) - 1)).toNatClampNeg)).toNatClampNeg) then (if ((σ.2.2 9 ((σ.2.2 50 ((((σ.1 72)) - 1)).toNatClampNeg)).toNatClampNeg)) = ((-1)) then (some (1, σ)) else (X d 6 1 L σ)) else none) else none)) := rfl
theorem s_goOn_9 (X : Nat → Nat → Nat → (Nat → Int32) → MS → Option (Int32 × MS)) (K d : Nat) (L : Nat → Int32) (σ : MS) : s_goOn X K d 9 L σ = (some (0, σ)) := rfl
def s_goesOn (X : Nat → Nat → Nat → (Nat → Int32) → MS → Option (Int32 × MS)) (K d : Nat) (b : Nat) (L : Nat → Int32) (σ : MS) : Option (Int32 × MS) := match b with
  | 0 => if ¬ (((L 1)) < 0 ∨ 70000 ≤ ((L 1)).toNatClampNeg) then (if ((σ.2.2 4 ((L 1)).toNatClampNeg)) = 26 then (some (0, σ)) else (X d 7 1 (upd L 2 ((σ.2.2 4 ((L 1)).toNatClampNeg))) σ)) else none
  | 1 => if ((L 2)) = 24 then (X d 7 2 L σ) else (if ((L 2)) = 25 then (X d 7 2 L σ) else (X d 7 8 L σ))
  | 2 => ob (x_isTrue K 0 (fun _ => 0) σ) (fun r1 => if ((r1.2.1 56)) = 0 then (if ((L 2)) = 24 then (X d 7 4 (upd (upd (upd L 3 r1.1) 100 1) 101 r1.1) r1.2) else (X d 7 3 (upd (upd L 3 r1.1) 100 r1.1) r1.2)) else (X d 7 7 (upd L 3 r1.1) r1.2))
  | 3 => X d 7 4 (upd (upd L 100 0) 101 ((L 100))) σ
  | 4 => if ((L 101)) = ((L 100)) then (if ¬ (((L 1)) < 0 ∨ 70000 ≤ ((L 1)).toNatClampNeg) then (od d (fun e3 => ob (X e3 4 0 (upd (fun _ => 0) 1 ((σ.2.2 7 ((L 1)).toNatClampNeg))) σ) (fun r3 => if ((r3.2.1 56)) = 0 then (ob (x_isTrue K 0 (fun _ => 0) r3.2) (fun r5 => if r5.1 = 0 then (X d 7 5 L r5.2) else (X d 7 6 (upd L 100 1) r5.2))) else (X d 7 5 L r3.2)))) else none) else (X d 7 7 L σ)
  | 5 => X d 7 6 (upd L 100 0) σ
  | 6 => X d 7 7 (upd L 3 ((L 100))) σ
  | 7 => ob (x_truth K 0 (upd (fun _ => 0) 1 ((L 3))) σ) (fun r1 => ob (x_answer K 0 (upd (fun _ => 0) 1 r1.1) r1.2) (fun r2 => ob (x_push K 0 (upd (fun _ => 0) 1 r2.1) r2.2) (fun r3 => some (0, r3.2))))
  | 8 => if ¬ (((L 1)) < 0 ∨ 70000 ≤ ((L 1)).toNatClampNeg) then (od d (fun e2 => ob (X e2 4 0 (upd (fun _ => 0) 1 ((σ.2.2 7 ((L 1)).toNatClampNeg))) σ) (fun r2 => if ((L 2)) = 22 then (if ((r2.2.1 56)) = 0 then (if ¬ (((L 1)) < 0 ∨ 70000 ≤ ((L 1)).toNatClampNeg) then (od d (fun e6 => ob (X e6 4 0 (upd (fun _ => 0) 1 ((r2.2.2.2 8 ((L 1)).toNatClampNeg))) r2.2) (fun r6 => X d 7 9 L r6.2))) else none) else (X d 7 9 L r2.2)) else (X d 7 9 L r2.2)))) else none
  | 9 => if ((σ.1 56)) ≤ 0 then (X d 7 10 L σ) else (some (0, σ))
  | 10 => ob (x_sweep K 0 (upd (fun _ => 0) 1 780000) σ) (fun r1 => if ((L 2)) = 22 then (X d 7 12 (upd (upd L 100 3) 101 ((r1.2.1 59))) r1.2) else (X d 7 11 (upd L 100 ((r1.2.1 59))) r1.2))
  | 11 => X d 7 12 (upd (upd L 100 2) 101 ((L 100))) σ
  | 12 => X d 7 13 L (upd σ.1 59 ((((L 101)) - ((L 100)))), σ.2.1, σ.2.2)
  | 13 => if ¬ (((σ.1 59)) < 0 ∨ 185000 ≤ ((σ.1 59)).toNatClampNeg) then (if ¬ (((((σ.1 59)) + 1)) < 0 ∨ 185000 ≤ ((((σ.1 59)) + 1)).toNatClampNeg) then (if ((L 2)) = (21 : Int32) then (X d 7 15 (upd (upd (upd L 3 ((σ.2.2 29 ((σ.1 59)).toNatClampNeg))) 4 ((σ.2.2 29 ((((σ.1 59)) + 1)).toNatClampNeg))) 5 0) σ) else (if ((L 2)) = (22 : Int32) then (X d 7 14 (upd (upd (upd L 3 ((σ.2.2 29 ((σ.1 59)).toNatClampNeg))) 4 ((σ.2.2 29 ((((σ.1 59)) + 1)).toNatClampNeg))) 5 0) σ) else (if ((L 2)) = (23 : Int32) then (X d 7 16 (upd (upd (upd L 3 ((σ.2.2 29 ((σ.1 59)).toNatClampNeg))) 4 ((σ.2.2 29 ((((σ.1 59)) + 1)).toNatClampNeg))) 5 0) σ) else (X d 7 17 (upd (upd (upd L 3 ((σ.2.2 29 ((σ.1 59)).toNatClampNeg))) 4 ((σ.2.2 29 ((((σ.1 59)) + 1)).toNatClampNeg))) 5 0) σ)))) else none) else none
  | 14 => if ¬ (((((σ.1 59)) + 2)) < 0 ∨ 185000 ≤ ((((σ.1 59)) + 2)).toNatClampNeg) then (ob (x_slice K 0 (upd (upd (upd (fun _ => 0) 1 ((L 3))) 2 ((L 4))) 3 ((σ.2.2 29 ((((σ.1 59)) + 2)).toNatClampNeg))) σ) (fun r2 => X d 7 18 (upd L 5 r2.1) r2.2)) else none
  | 15 => ob (x_partAt K 0 (upd (upd (fun _ => 0) 1 ((L 3))) 2 ((L 4))) σ) (fun r1 => X d 7 18 (upd L 5 r1.1) r1.2)
  | 16 => ob (x_image K 0 (upd (upd (fun _ => 0) 1 ((L 3))) 2 ((L 4))) σ) (fun r1 => X d 7 18 (upd L 5 r1.1) r1.2)
  | 17 => if ¬ (((L 1)) < 0 ∨ 70000 ≤ ((L 1)).toNatClampNeg) then (ob (x_operate K 0 (upd (upd (upd (fun _ => 0) 1 ((σ.2.2 5 ((L 1)).toNatClampNeg))) 2 ((L 3))) 3 ((L 4))) σ) (fun r2 => X d 7 18 (upd L 5 r2.1) r2.2)) else none
  | 18 => ob (x_answer K 0 (upd (fun _ => 0) 1 ((L 5))) σ) (fun r1 => ob (x_push K 0 (upd (fun _ => 0) 1 r1.1) r1.2) (fun r2 => some (0, r2.2)))
  | _ => none
theorem s_goesOn_0 (X : Nat → Nat → Nat → (Nat → Int32) → MS → Option (Int32 × MS)) (K d : Nat) (L : Nat → Int32) (σ : MS) : s_goesOn X K d 0 L σ = (if ¬ (((L 1)) < 0 ∨ 70000 ≤ ((L 1)).toNatClampNeg) then (if ((σ.2.2 4 ((L 1)).toNatClampNeg)) = 26 then (some (0, σ)) else (X d 7 1 (upd L 2 ((σ.2.2 4 ((L 1)).toNatClampNeg))) σ)) else none) := rfl
theorem s_goesOn_1 (X : Nat → Nat → Nat → (Nat → Int32) → MS → Option (Int32 × MS)) (K d : Nat) (L : Nat → Int32) (σ : MS) : s_goesOn X K d 1 L σ = (if ((L 2)) = 24 then (X d 7 2 L σ) else (if ((L 2)) = 25 then (X d 7 2 L σ) else (X d 7 8 L σ))) := rfl
theorem s_goesOn_2 (X : Nat → Nat → Nat → (Nat → Int32) → MS → Option (Int32 × MS)) (K d : Nat) (L : Nat → Int32) (σ : MS) : s_goesOn X K d 2 L σ = (ob (x_isTrue K 0 (fun _ => 0) σ) (fun r1 => if ((r1.2.1 56)) = 0 then (if ((L 2)) = 24 then (X d 7 4 (upd (upd (upd L 3 r1.1) 100 1) 101 r1.1) r1.2) else (X d 7 3 (upd (upd L 3 r1.1) 100 r1.1) r1.2)) else (X d 7 7 (upd L 3 r1.1) r1.2))) := rfl
theorem s_goesOn_3 (X : Nat → Nat → Nat → (Nat → Int32) → MS → Option (Int32 × MS)) (K d : Nat) (L : Nat → Int32) (σ : MS) : s_goesOn X K d 3 L σ = (X d 7 4 (upd (upd L 100 0) 101 ((L 100))) σ) := rfl
theorem s_goesOn_4 (X : Nat → Nat → Nat → (Nat → Int32) → MS → Option (Int32 × MS)) (K d : Nat) (L : Nat → Int32) (σ : MS) : s_goesOn X K d 4 L σ = (if ((L 101)) = ((L 100)) then (if ¬ (((L 1)) < 0 ∨ 70000 ≤ ((L 1)).toNatClampNeg) then (od d (fun e3 => ob (X e3 4 0 (upd (fun _ => 0) 1 ((σ.2.2 7 ((L 1)).toNatClampNeg))) σ) (fun r3 => if ((r3.2.1 56)) = 0 then (ob (x_isTrue K 0 (fun _ => 0) r3.2) (fun r5 => if r5.1 = 0 then (X d 7 5 L r5.2) else (X d 7 6 (upd L 100 1) r5.2))) else (X d 7 5 L r3.2)))) else none) else (X d 7 7 L σ)) := rfl
theorem s_goesOn_5 (X : Nat → Nat → Nat → (Nat → Int32) → MS → Option (Int32 × MS)) (K d : Nat) (L : Nat → Int32) (σ : MS) : s_goesOn X K d 5 L σ = (X d 7 6 (upd L 100 0) σ) := rfl
theorem s_goesOn_6 (X : Nat → Nat → Nat → (Nat → Int32) → MS → Option (Int32 × MS)) (K d : Nat) (L : Nat → Int32) (σ : MS) : s_goesOn X K d 6 L σ = (X d 7 7 (upd L 3 ((L 100))) σ) := rfl
theorem s_goesOn_7 (X : Nat → Nat → Nat → (Nat → Int32) → MS → Option (Int32 × MS)) (K d : Nat) (L : Nat → Int32) (σ : MS) : s_goesOn X K d 7 L σ = (ob (x_truth K 0 (upd (fun _ => 0) 1 ((L 3))) σ) (fun r1 => ob (x_answer K 0 (upd (fun _ => 0) 1 r1.1) r1.2) (fun r2 => ob (x_push K 0 (upd (fun _ => 0) 1 r2.1) r2.2) (fun r3 => some (0, r3.2))))) := rfl
theorem s_goesOn_8 (X : Nat → Nat → Nat → (Nat → Int32) → MS → Option (Int32 × MS)) (K d : Nat) (L : Nat → Int32) (σ : MS) : s_goesOn X K d 8 L σ = (if ¬ (((L 1)) < 0 ∨ 70000 ≤ ((L 1)).toNatClampNeg) then (od d (fun e2 => ob (X e2 4 0 (upd (fun _ => 0) 1 ((σ.2.2 7 ((L 1)).toNatClampNeg))) σ) (fun r2 => if ((L 2)) = 22 then (if ((r2.2.1 56)) = 0 then (if ¬ (((L 1)) < 0 ∨ 70000 ≤ ((L 1)).toNatClampNeg) then (od d (fun e6 => ob (X e6 4 0 (upd (fun _ => 0) 1 ((r2.2.2.2 8 ((L 1)).toNatClampNeg))) r2.2) (fun r6 => X d 7 9 L r6.2))) else none) else (X d 7 9 L r2.2)) else (X d 7 9 L r2.2)))) else none) := rfl
theorem s_goesOn_9 (X : Nat → Nat → Nat → (Nat → Int32) → MS → Option (Int32 × MS)) (K d : Nat) (L : Nat → Int32) (σ : MS) : s_goesOn X K d 9 L σ = (if ((σ.1 56)) ≤ 0 then (X d 7 10 L σ) else (some (0, σ))) := rfl
theorem s_goesOn_10 (X : Nat → Nat → Nat → (Nat → Int32) → MS → Option (Int32 × MS)) (K d : Nat) (L : Nat → Int32) (σ : MS) : s_goesOn X K d 10 L σ = (ob (x_sweep K 0 (upd (fun _ => 0) 1 780000) σ) (fun r1 => if ((L 2)) = 22 then (X d 7 12 (upd (upd L 100 3) 101 ((r1.2.1 59))) r1.2) else (X d 7 11 (upd L 100 ((r1.2.1 59))) r1.2))) := rfl
theorem s_goesOn_11 (X : Nat → Nat → Nat → (Nat → Int32) → MS → Option (Int32 × MS)) (K d : Nat) (L : Nat → Int32) (σ : MS) : s_goesOn X K d 11 L σ = (X d 7 12 (upd (upd L 100 2) 101 ((L 100))) σ) := rfl
theorem s_goesOn_12 (X : Nat → Nat → Nat → (Nat → Int32) → MS → Option (Int32 × MS)) (K d : Nat) (L : Nat → Int32) (σ : MS) : s_goesOn X K d 12 L σ = (X d 7 13 L (upd σ.1 59 ((((L 101)) - ((L 100)))), σ.2.1, σ.2.2)) := rfl
theorem s_goesOn_13 (X : Nat → Nat → Nat → (Nat → Int32) → MS → Option (Int32 × MS)) (K d : Nat) (L : Nat → Int32) (σ : MS) : s_goesOn X K d 13 L σ = (if ¬ (((σ.1 59)) < 0 ∨ 185000 ≤ ((σ.1 59)).toNatClampNeg) then (if ¬ (((((σ.1 59)) + 1)) < 0 ∨ 185000 ≤ ((((σ.1 59)) + 1)).toNatClampNeg) then (if ((L 2)) = (21 : Int32) then (X d 7 15 (upd (upd (upd L 3 ((σ.2.2 29 ((σ.1 59)).toNatClampNeg))) 4 ((σ.2.2 29 ((((σ.1 59)) + 1)).toNatClampNeg))) 5 0) σ) else (if ((L 2)) = (22 : Int32) then (X d 7 14 (upd (upd (upd L 3 ((σ.2.2 29 ((σ.1 59)).toNatClampNeg))) 4 ((σ.2.2 29 ((((σ.1 59)) + 1)).toNatClampNeg))) 5 0) σ) else (if ((L 2)) = (23 : Int32) then (X d 7 16 (upd (upd (upd L 3 ((σ.2.2 29 ((σ.1 59)).toNatClampNeg))) 4 ((σ.2.2 29 ((((σ.1 59)) + 1)).toNatClampNeg))) 5 0) σ) else (X d 7 17 (upd (upd (upd L 3 ((σ.2.2 29 ((σ.1 59)).toNatClampNeg))) 4 ((σ.2.2 29 ((((σ.1 59)) + 1)).toNatClampNeg))) 5 0) σ)))) else none) else none) := rfl
theorem s_goesOn_14 (X : Nat → Nat → Nat → (Nat → Int32) → MS → Option (Int32 × MS)) (K d : Nat) (L : Nat → Int32) (σ : MS) : s_goesOn X K d 14 L σ = (if ¬ (((((σ.1 59)) + 2)) < 0 ∨ 185000 ≤ ((((σ.1 59)) + 2)).toNatClampNeg) then (ob (x_slice K 0 (upd (upd (upd (fun _ => 0) 1 ((L 3))) 2 ((L 4))) 3 ((σ.2.2 29 ((((σ.1 59)) + 2)).toNatClampNeg))) σ) (fun r2 => X d 7 18 (upd L 5 r2.1) r2.2)) else none) := rfl
theorem s_goesOn_15 (X : Nat → Nat → Nat → (Nat → Int32) → MS → Option (Int32 × MS)) (K d : Nat) (L : Nat → Int32) (σ : MS) : s_goesOn X K d 15 L σ = (ob (x_partAt K 0 (upd (upd (fun _ => 0) 1 ((L 3))) 2 ((L 4))) σ) (fun r1 => X d 7 18 (upd L 5 r1.1) r1.2)) := rfl
theorem s_goesOn_16 (X : Nat → Nat → Nat → (Nat → Int32) → MS → Option (Int32 × MS)) (K d : Nat) (L : Nat → Int32) (σ : MS) : s_goesOn X K d 16 L σ = (ob (x_image K 0 (upd (upd (fun _ => 0) 1 ((L 3))) 2 ((L 4))) σ) (fun r1 => X d 7 18 (upd L 5 r1.1) r1.2)) := rfl
theorem s_goesOn_17 (X : Nat → Nat → Nat → (Nat → Int32) → MS → Option (Int32 × MS)) (K d : Nat) (L : Nat → Int32) (σ : MS) : s_goesOn X K d 17 L σ = (if ¬ (((L 1)) < 0 ∨ 70000 ≤ ((L 1)).toNatClampNeg) then (ob (x_operate K 0 (upd (upd (upd (fun _ => 0) 1 ((σ.2.2 5 ((L 1)).toNatClampNeg))) 2 ((L 3))) 3 ((L 4))) σ) (fun r2 => X d 7 18 (upd L 5 r2.1) r2.2)) else none) := rfl
theorem s_goesOn_18 (X : Nat → Nat → Nat → (Nat → Int32) → MS → Option (Int32 × MS)) (K d : Nat) (L : Nat → Int32) (σ : MS) : s_goesOn X K d 18 L σ = (ob (x_answer K 0 (upd (fun _ => 0) 1 ((L 5))) σ) (fun r1 => ob (x_push K 0 (upd (fun _ => 0) 1 r1.1) r1.2) (fun r2 => some (0, r2.2)))) := rfl
def s_holds (X : Nat → Nat → Nat → (Nat → Int32) → MS → Option (Int32 × MS)) (K d : Nat) (b : Nat) (L : Nat → Int32) (σ : MS) : Option (Int32 × MS) := match b with
  | 0 => od d (fun e1 => ob (X e1 4 0 (upd (fun _ => 0) 1 ((L 1))) σ) (fun r1 => if ((r1.2.1 56)) = 0 then (ob (x_isTrue K 0 (fun _ => 0) r1.2) (fun r3 => if r3.1 = 0 then (X d 8 1 L r3.2) else (X d 8 2 (upd L 100 1) r3.2))) else (X d 8 1 L r1.2)))
  | 1 => X d 8 2 (upd L 100 0) σ
  | 2 => if ((L 100)) = 0 ∨ ((L 100)) = 1 then some ((L 100), σ) else none
  | _ => none
theorem s_holds_0 (X : Nat → Nat → Nat → (Nat → Int32) → MS → Option (Int32 × MS)) (K d : Nat) (L : Nat → Int32) (σ : MS) : s_holds X K d 0 L σ = (od d (fun e1 => ob (X e1 4 0 (upd (fun _ => 0) 1 ((L 1))) σ) (fun r1 => if ((r1.2.1 56)) = 0 then (ob (x_isTrue K 0 (fun _ => 0) r1.2) (fun r3 => if r3.1 = 0 then (X d 8 1 L r3.2) else (X d 8 2 (upd L 100 1) r3.2))) else (X d 8 1 L r1.2)))) := rfl
theorem s_holds_1 (X : Nat → Nat → Nat → (Nat → Int32) → MS → Option (Int32 × MS)) (K d : Nat) (L : Nat → Int32) (σ : MS) : s_holds X K d 1 L σ = (X d 8 2 (upd L 100 0) σ) := rfl
theorem s_holds_2 (X : Nat → Nat → Nat → (Nat → Int32) → MS → Option (Int32 × MS)) (K d : Nat) (L : Nat → Int32) (σ : MS) : s_holds X K d 2 L σ = (if ((L 100)) = 0 ∨ ((L 100)) = 1 then some ((L 100), σ) else none) := rfl
def s_openIter (X : Nat → Nat → Nat → (Nat → Int32) → MS → Option (Int32 × MS)) (K d : Nat) (b : Nat) (L : Nat → Int32) (σ : MS) : Option (Int32 × MS) := match b with
  | 0 => if ¬ (((L 1)) < 0 ∨ 70000 ≤ ((L 1)).toNatClampNeg) then (od d (fun e2 => ob (X e2 4 0 (upd (fun _ => 0) 1 ((σ.2.2 7 ((L 1)).toNatClampNeg))) σ) (fun r2 => if ((r2.2.1 56)) ≤ 0 then (X d 9 1 L r2.2) else (some (0, r2.2))))) else none
  | 1 => ob (x_pop K 0 (fun _ => 0) σ) (fun r1 => ob (x_isRow K 0 (upd (fun _ => 0) 1 r1.1) r1.2) (fun r2 => if r2.1 = 0 then (ob (x_fail K 0 (upd (fun _ => 0) 1 1) r2.2) (fun r4 => some (0, r4.2))) else (X d 9 2 (upd L 2 r1.1) r2.2)))
  | 2 => if ¬ (((σ.1 72)) < 0 ∨ 4000 ≤ ((σ.1 72)).toNatClampNeg) then (X d 9 3 L (σ.1, σ.2.1, updG σ.2.2 34 (upd (σ.2.2 34) ((σ.1 72)).toNatClampNeg ((L 2))))) else none
  | 3 => if ¬ (((σ.1 72)) < 0 ∨ 4000 ≤ ((σ.1 72)).toNatClampNeg) then (X d 9 4 L (σ.1, σ.2.1, updG σ.2.2 35 (upd (σ.2.2 35) ((σ.1 72)).toNatClampNeg 0))) else none
  | 4 => some (0, (upd σ.1 72 ((((σ.1 72)) + 1)), σ.2.1, σ.2.2))
  | _ => none
theorem s_openIter_0 (X : Nat → Nat → Nat → (Nat → Int32) → MS → Option (Int32 × MS)) (K d : Nat) (L : Nat → Int32) (σ : MS) : s_openIter X K d 0 L σ = (if ¬ (((L 1)) < 0 ∨ 70000 ≤ ((L 1)).toNatClampNeg) then (od d (fun e2 => ob (X e2 4 0 (upd (fun _ => 0) 1 ((σ.2.2 7 ((L 1)).toNatClampNeg))) σ) (fun r2 => if ((r2.2.1 56)) ≤ 0 then (X d 9 1 L r2.2) else (some (0, r2.2))))) else none) := rfl
theorem s_openIter_1 (X : Nat → Nat → Nat → (Nat → Int32) → MS → Option (Int32 × MS)) (K d : Nat) (L : Nat → Int32) (σ : MS) : s_openIter X K d 1 L σ = (ob (x_pop K 0 (fun _ => 0) σ) (fun r1 => ob (x_isRow K 0 (upd (fun _ => 0) 1 r1.1) r1.2) (fun r2 => if r2.1 = 0 then (ob (x_fail K 0 (upd (fun _ => 0) 1 1) r2.2) (fun r4 => some (0, r4.2))) else (X d 9 2 (upd L 2 r1.1) r2.2)))) := rfl
theorem s_openIter_2 (X : Nat → Nat → Nat → (Nat → Int32) → MS → Option (Int32 × MS)) (K d : Nat) (L : Nat → Int32) (σ : MS) : s_openIter X K d 2 L σ = (if ¬ (((σ.1 72)) < 0 ∨ 4000 ≤ ((σ.1 72)).toNatClampNeg) then (X d 9 3 L (σ.1, σ.2.1, updG σ.2.2 34 (upd (σ.2.2 34) ((σ.1 72)).toNatClampNeg ((L 2))))) else none) := rfl
theorem s_openIter_3 (X : Nat → Nat → Nat → (Nat → Int32) → MS → Option (Int32 × MS)) (K d : Nat) (L : Nat → Int32) (σ : MS) : s_openIter X K d 3 L σ = (if ¬ (((σ.1 72)) < 0 ∨ 4000 ≤ ((σ.1 72)).toNatClampNeg) then (X d 9 4 L (σ.1, σ.2.1, updG σ.2.2 35 (upd (σ.2.2 35) ((σ.1 72)).toNatClampNeg 0))) else none) := rfl
theorem s_openIter_4 (X : Nat → Nat → Nat → (Nat → Int32) → MS → Option (Int32 × MS)) (K d : Nat) (L : Nat → Int32) (σ : MS) : s_openIter X K d 4 L σ = (some (0, (upd σ.1 72 ((((σ.1 72)) + 1)), σ.2.1, σ.2.2))) := rfl
def s_quantify (X : Nat → Nat → Nat → (Nat → Int32) → MS → Option (Int32 × MS)) (K d : Nat) (b : Nat) (L : Nat → Int32) (σ : MS) : Option (Int32 × MS) := match b with
  | 0 => if ¬ (((L 1)) < 0 ∨ 70000 ≤ ((L 1)).toNatClampNeg) then (if ((σ.2.2 5 ((L 1)).toNatClampNeg)) = 1 then (X d 10 2 (upd (upd L 2 ((σ.1 72))) 100 1) σ) else (X d 10 1 (upd L 2 ((σ.1 72))) σ)) else none
  | 1 => X d 10 2 (upd L 100 0) σ
  | 2 => if ¬ (((L 1)) < 0 ∨ 70000 ≤ ((L 1)).toNatClampNeg) then (od d (fun e2 => ob (X e2 6 0 (upd (upd (upd (fun _ => 0) 1 ((L 2))) 2 ((σ.2.2 6 ((L 1)).toNatClampNeg))) 3 1) σ) (fun r2 => X d 10 3 (upd (upd (upd L 3 ((L 100))) 4 0) 5 r2.1) r2.2))) else none
  | 3 => if ((L 5)) = 0 then (X d 10 8 L σ) else (if ((σ.1 56)) = 0 then (if ¬ (((L 1)) < 0 ∨ 70000 ≤ ((L 1)).toNatClampNeg) then (od d (fun e4 => ob (X e4 8 0 (upd (fun _ => 0) 1 ((σ.2.2 7 ((L 1)).toNatClampNeg))) σ) (fun r4 => if r4.1 = ((L 3)) then (if ((r4.2.1 56)) = 0 then (X d 10 5 (upd L 100 1) r4.2) else (X d 10 4 L r4.2)) else (X d 10 4 L r4.2)))) else none) else (X d 10 8 L σ))
  | 4 => X d 10 5 (upd L 100 0) σ
  | 5 => if ((σ.1 56)) = 0 then (if ((L 100)) = 0 then (if ¬ (((L 1)) < 0 ∨ 70000 ≤ ((L 1)).toNatClampNeg) then (od d (fun e4 => ob (X e4 6 0 (upd (upd (upd (fun _ => 0) 1 ((L 2))) 2 ((σ.2.2 6 ((L 1)).toNatClampNeg))) 3 0) σ) (fun r4 => if r4.1 = 0 then (X d 10 6 (upd L 4 ((L 100))) r4.2) else (X d 10 7 (upd (upd L 4 ((L 100))) 100 1) r4.2)))) else none) else (X d 10 6 (upd L 4 ((L 100))) σ)) else (X d 10 6 (upd L 4 ((L 100))) σ)
  | 6 => X d 10 7 (upd L 100 0) σ
  | 7 => X d 10 3 (upd L 5 ((L 100))) σ
  | 8 => X d 10 9 L (upd σ.1 72 ((L 2)), σ.2.1, σ.2.2)
  | 9 => if ¬ (((L 1)) < 0 ∨ 70000 ≤ ((L 1)).toNatClampNeg) then (ob (x_clear K 0 (upd (fun _ => 0) 1 ((σ.2.2 6 ((L 1)).toNatClampNeg))) σ) (fun r2 => if ((r2.2.1 56)) = 0 then (if ((L 4)) = ((L 3)) then (X d 10 11 (upd L 100 1) r2.2) else (X d 10 10 L r2.2)) else (X d 10 12 L r2.2))) else none
  | 10 => X d 10 11 (upd L 100 0) σ
  | 11 => ob (x_truth K 0 (upd (fun _ => 0) 1 ((L 100))) σ) (fun r1 => ob (x_answer K 0 (upd (fun _ => 0) 1 r1.1) r1.2) (fun r2 => ob (x_push K 0 (upd (fun _ => 0) 1 r2.1) r2.2) (fun r3 => X d 10 12 L r3.2)))
  | 12 => some (0, σ)
  | _ => none
theorem s_quantify_0 (X : Nat → Nat → Nat → (Nat → Int32) → MS → Option (Int32 × MS)) (K d : Nat) (L : Nat → Int32) (σ : MS) : s_quantify X K d 0 L σ = (if ¬ (((L 1)) < 0 ∨ 70000 ≤ ((L 1)).toNatClampNeg) then (if ((σ.2.2 5 ((L 1)).toNatClampNeg)) = 1 then (X d 10 2 (upd (upd L 2 ((σ.1 72))) 100 1) σ) else (X d 10 1 (upd L 2 ((σ.1 72))) σ)) else none) := rfl
theorem s_quantify_1 (X : Nat → Nat → Nat → (Nat → Int32) → MS → Option (Int32 × MS)) (K d : Nat) (L : Nat → Int32) (σ : MS) : s_quantify X K d 1 L σ = (X d 10 2 (upd L 100 0) σ) := rfl
theorem s_quantify_2 (X : Nat → Nat → Nat → (Nat → Int32) → MS → Option (Int32 × MS)) (K d : Nat) (L : Nat → Int32) (σ : MS) : s_quantify X K d 2 L σ = (if ¬ (((L 1)) < 0 ∨ 70000 ≤ ((L 1)).toNatClampNeg) then (od d (fun e2 => ob (X e2 6 0 (upd (upd (upd (fun _ => 0) 1 ((L 2))) 2 ((σ.2.2 6 ((L 1)).toNatClampNeg))) 3 1) σ) (fun r2 => X d 10 3 (upd (upd (upd L 3 ((L 100))) 4 0) 5 r2.1) r2.2))) else none) := rfl
theorem s_quantify_3 (X : Nat → Nat → Nat → (Nat → Int32) → MS → Option (Int32 × MS)) (K d : Nat) (L : Nat → Int32) (σ : MS) : s_quantify X K d 3 L σ = (if ((L 5)) = 0 then (X d 10 8 L σ) else (if ((σ.1 56)) = 0 then (if ¬ (((L 1)) < 0 ∨ 70000 ≤ ((L 1)).toNatClampNeg) then (od d (fun e4 => ob (X e4 8 0 (upd (fun _ => 0) 1 ((σ.2.2 7 ((L 1)).toNatClampNeg))) σ) (fun r4 => if r4.1 = ((L 3)) then (if ((r4.2.1 56)) = 0 then (X d 10 5 (upd L 100 1) r4.2) else (X d 10 4 L r4.2)) else (X d 10 4 L r4.2)))) else none) else (X d 10 8 L σ))) := rfl
theorem s_quantify_4 (X : Nat → Nat → Nat → (Nat → Int32) → MS → Option (Int32 × MS)) (K d : Nat) (L : Nat → Int32) (σ : MS) : s_quantify X K d 4 L σ = (X d 10 5 (upd L 100 0) σ) := rfl
theorem s_quantify_5 (X : Nat → Nat → Nat → (Nat → Int32) → MS → Option (Int32 × MS)) (K d : Nat) (L : Nat → Int32) (σ : MS) : s_quantify X K d 5 L σ = (if ((σ.1 56)) = 0 then (if ((L 100)) = 0 then (if ¬ (((L 1)) < 0 ∨ 70000 ≤ ((L 1)).toNatClampNeg) then (od d (fun e4 => ob (X e4 6 0 (upd (upd (upd (fun _ => 0) 1 ((L 2))) 2 ((σ.2.2 6 ((L 1)).toNatClampNeg))) 3 0) σ) (fun r4 => if r4.1 = 0 then (X d 10 6 (upd L 4 ((L 100))) r4.2) else (X d 10 7 (upd (upd L 4 ((L 100))) 100 1) r4.2)))) else none) else (X d 10 6 (upd L 4 ((L 100))) σ)) else (X d 10 6 (upd L 4 ((L 100))) σ)) := rfl
theorem s_quantify_6 (X : Nat → Nat → Nat → (Nat → Int32) → MS → Option (Int32 × MS)) (K d : Nat) (L : Nat → Int32) (σ : MS) : s_quantify X K d 6 L σ = (X d 10 7 (upd L 100 0) σ) := rfl
theorem s_quantify_7 (X : Nat → Nat → Nat → (Nat → Int32) → MS → Option (Int32 × MS)) (K d : Nat) (L : Nat → Int32) (σ : MS) : s_quantify X K d 7 L σ = (X d 10 3 (upd L 5 ((L 100))) σ) := rfl
theorem s_quantify_8 (X : Nat → Nat → Nat → (Nat → Int32) → MS → Option (Int32 × MS)) (K d : Nat) (L : Nat → Int32) (σ : MS) : s_quantify X K d 8 L σ = (X d 10 9 L (upd σ.1 72 ((L 2)), σ.2.1, σ.2.2)) := rfl
theorem s_quantify_9 (X : Nat → Nat → Nat → (Nat → Int32) → MS → Option (Int32 × MS)) (K d : Nat) (L : Nat → Int32) (σ : MS) : s_quantify X K d 9 L σ = (if ¬ (((L 1)) < 0 ∨ 70000 ≤ ((L 1)).toNatClampNeg) then (ob (x_clear K 0 (upd (fun _ => 0) 1 ((σ.2.2 6 ((L 1)).toNatClampNeg))) σ) (fun r2 => if ((r2.2.1 56)) = 0 then (if ((L 4)) = ((L 3)) then (X d 10 11 (upd L 100 1) r2.2) else (X d 10 10 L r2.2)) else (X d 10 12 L r2.2))) else none) := rfl
theorem s_quantify_10 (X : Nat → Nat → Nat → (Nat → Int32) → MS → Option (Int32 × MS)) (K d : Nat) (L : Nat → Int32) (σ : MS) : s_quantify X K d 10 L σ = (X d 10 11 (upd L 100 0) σ) := rfl
theorem s_quantify_11 (X : Nat → Nat → Nat → (Nat → Int32) → MS → Option (Int32 × MS)) (K d : Nat) (L : Nat → Int32) (σ : MS) : s_quantify X K d 11 L σ = (ob (x_truth K 0 (upd (fun _ => 0) 1 ((L 100))) σ) (fun r1 => ob (x_answer K 0 (upd (fun _ => 0) 1 r1.1) r1.2) (fun r2 => ob (x_push K 0 (upd (fun _ => 0) 1 r2.1) r2.2) (fun r3 => X d 10 12 L r3.2)))) := rfl
theorem s_quantify_12 (X : Nat → Nat → Nat → (Nat → Int32) → MS → Option (Int32 × MS)) (K d : Nat) (L : Nat → Int32) (σ : MS) : s_quantify X K d 12 L σ = (some (0, σ)) := rfl
def s_setBrackets (X : Nat → Nat → Nat → (Nat → Int32) → MS → Option (Int32 × MS)) (K d : Nat) (b : Nat) (L : Nat → Int32) (σ : MS) : Option (Int32 × MS) := match b with
  | 0 => if ¬ (((L 1)) < 0 ∨ 70000 ≤ ((L 1)).toNatClampNeg) then (X d 11 1 (upd (upd (upd (upd L 2 ((σ.1 59))) 3 0) 4 0) 5 ((σ.2.2 6 ((L 1)).toNatClampNeg))) σ) else none
  | 1 => if ((L 5)) = ((-1)) then (X d 11 15 L σ) else (if ((σ.1 56)) = 0 then (od d (fun e3 => ob (X e3 4 0 (upd (fun _ => 0) 1 ((L 5))) σ) (fun r3 => if ((r3.2.1 56)) = 0 then (if ¬ (((((r3.2.1 59)) - 1)) < 0 ∨ 185000 ≤ ((((r3.2.1 59)) - 1)).toNatClampNeg) then (if ((r3.2.2.2 29 ((((r3.2.1 59)) - 1)).toNatClampNeg)) = 0 then (X d 11 3 L r3.2) else (X d 11 2 L r3.2)) else none) else (X d 11 2 L r3.2)))) else (X d 11 15 L σ))
  | 2 => if ((L 3)) = 0 then (X d 11 4 L σ) else (X d 11 3 L σ)
  | 3 => X d 11 5 (upd L 100 1) σ
  | 4 => X d 11 5 (upd L 100 0) σ
  | 5 => if ((σ.1 56)) = 0 then (if ((L 4)) = 0 then (if ((L 100)) = 0 then (X d 11 7 (upd L 3 ((L 100))) σ) else (X d 11 6 (upd L 3 ((L 100))) σ)) else (X d 11 6 (upd L 3 ((L 100))) σ)) else (X d 11 7 (upd L 3 ((L 100))) σ)
  | 6 => X d 11 14 L (upd σ.1 59 ((L 2)), σ.2.1, σ.2.2)
  | 7 => if ((((σ.1 59)) - ((L 2)))) = 1200 then (ob (x_distinct K 0 (upd (fun _ => 0) 1 ((L 2))) σ) (fun r2 => X d 11 8 (upd (upd L 6 1) 7 ((L 2))) r2.2)) else (X d 11 14 L σ)
  | 8 => if ((σ.1 59)) ≤ ((L 7)) then (X d 11 9 L σ) else (if ¬ (((L 7)) < 0 ∨ 185000 ≤ ((L 7)).toNatClampNeg) then (ob (x_size K 0 (upd (fun _ => 0) 1 ((σ.2.2 29 ((L 7)).toNatClampNeg))) σ) (fun r3 => X d 11 8 (upd (upd L 6 ((((L 6)) + r3.1))) 7 (((L 7)) + 1)) r3.2)) else none)
  | 9 => if ((L 6)) ≤ 1000 then (X d 11 10 L σ) else (X d 11 11 (upd L 100 1) σ)
  | 10 => X d 11 11 (upd L 100 0) σ
  | 11 => if ((L 100)) = 0 then (X d 11 12 (upd L 4 ((L 100))) σ) else (X d 11 13 (upd (upd L 4 ((L 100))) 100 ((L 2))) σ)
  | 12 => X d 11 13 (upd L 100 ((σ.1 59))) σ
  | 13 => X d 11 14 L (upd σ.1 59 ((L 100)), σ.2.1, σ.2.2)
  | 14 => if ¬ (((L 5)) < 0 ∨ 70000 ≤ ((L 5)).toNatClampNeg) then (X d 11 1 (upd L 5 ((σ.2.2 9 ((L 5)).toNatClampNeg))) σ) else none
  | 15 => if ((σ.1 56)) = 0 then (if ((L 3)) = 0 then (X d 11 16 L σ) else (ob (x_fail K 0 (upd (fun _ => 0) 1 3) σ) (fun r3 => X d 11 17 L r3.2))) else (X d 11 16 L σ)
  | 16 => if ((σ.1 56)) = 0 then (if ((L 4)) = 0 then (X d 11 17 L σ) else (ob (x_fail K 0 (upd (fun _ => 0) 1 5) σ) (fun r3 => X d 11 17 L r3.2))) else (X d 11 17 L σ)
  | 17 => if ((σ.1 56)) = 0 then (ob (x_sweep K 0 (upd (fun _ => 0) 1 780000) σ) (fun r2 => ob (x_setOf K 0 (upd (fun _ => 0) 1 ((L 2))) r2.2) (fun r3 => ob (x_answer K 0 (upd (fun _ => 0) 1 r3.1) r3.2) (fun r4 => ob (x_push K 0 (upd (fun _ => 0) 1 r4.1) r4.2) (fun r5 => X d 11 18 L r5.2))))) else (X d 11 18 L σ)
  | 18 => some (0, σ)
  | _ => none
theorem s_setBrackets_0 (X : Nat → Nat → Nat → (Nat → Int32) → MS → Option (Int32 × MS)) (K d : Nat) (L : Nat → Int32) (σ : MS) : s_setBrackets X K d 0 L σ = (if ¬ (((L 1)) < 0 ∨ 70000 ≤ ((L 1)).toNatClampNeg) then (X d 11 1 (upd (upd (upd (upd L 2 ((σ.1 59))) 3 0) 4 0) 5 ((σ.2.2 6 ((L 1)).toNatClampNeg))) σ) else none) := rfl
theorem s_setBrackets_1 (X : Nat → Nat → Nat → (Nat → Int32) → MS → Option (Int32 × MS)) (K d : Nat) (L : Nat → Int32) (σ : MS) : s_setBrackets X K d 1 L σ = (if ((L 5)) = ((-1)) then (X d 11 15 L σ) else (if ((σ.1 56)) = 0 then (od d (fun e3 => ob (X e3 4 0 (upd (fun _ => 0) 1 ((L 5))) σ) (fun r3 => if ((r3.2.1 56)) = 0 then (if ¬ (((((r3.2.1 59)) - 1)) < 0 ∨ 185000 ≤ ((((r3.2.1 59)) - 1)).toNatClampNeg) then (if ((r3.2.2.2 29 ((((r3.2.1 59)) - 1)).toNatClampNeg)) = 0 then (X d 11 3 L r3.2) else (X d 11 2 L r3.2)) else none) else (X d 11 2 L r3.2)))) else (X d 11 15 L σ))) := rfl
theorem s_setBrackets_2 (X : Nat → Nat → Nat → (Nat → Int32) → MS → Option (Int32 × MS)) (K d : Nat) (L : Nat → Int32) (σ : MS) : s_setBrackets X K d 2 L σ = (if ((L 3)) = 0 then (X d 11 4 L σ) else (X d 11 3 L σ)) := rfl
theorem s_setBrackets_3 (X : Nat → Nat → Nat → (Nat → Int32) → MS → Option (Int32 × MS)) (K d : Nat) (L : Nat → Int32) (σ : MS) : s_setBrackets X K d 3 L σ = (X d 11 5 (upd L 100 1) σ) := rfl
theorem s_setBrackets_4 (X : Nat → Nat → Nat → (Nat → Int32) → MS → Option (Int32 × MS)) (K d : Nat) (L : Nat → Int32) (σ : MS) : s_setBrackets X K d 4 L σ = (X d 11 5 (upd L 100 0) σ) := rfl
theorem s_setBrackets_5 (X : Nat → Nat → Nat → (Nat → Int32) → MS → Option (Int32 × MS)) (K d : Nat) (L : Nat → Int32) (σ : MS) : s_setBrackets X K d 5 L σ = (if ((σ.1 56)) = 0 then (if ((L 4)) = 0 then (if ((L 100)) = 0 then (X d 11 7 (upd L 3 ((L 100))) σ) else (X d 11 6 (upd L 3 ((L 100))) σ)) else (X d 11 6 (upd L 3 ((L 100))) σ)) else (X d 11 7 (upd L 3 ((L 100))) σ)) := rfl
theorem s_setBrackets_6 (X : Nat → Nat → Nat → (Nat → Int32) → MS → Option (Int32 × MS)) (K d : Nat) (L : Nat → Int32) (σ : MS) : s_setBrackets X K d 6 L σ = (X d 11 14 L (upd σ.1 59 ((L 2)), σ.2.1, σ.2.2)) := rfl
theorem s_setBrackets_7 (X : Nat → Nat → Nat → (Nat → Int32) → MS → Option (Int32 × MS)) (K d : Nat) (L : Nat → Int32) (σ : MS) : s_setBrackets X K d 7 L σ = (if ((((σ.1 59)) - ((L 2)))) = 1200 then (ob (x_distinct K 0 (upd (fun _ => 0) 1 ((L 2))) σ) (fun r2 => X d 11 8 (upd (upd L 6 1) 7 ((L 2))) r2.2)) else (X d 11 14 L σ)) := rfl
theorem s_setBrackets_8 (X : Nat → Nat → Nat → (Nat → Int32) → MS → Option (Int32 × MS)) (K d : Nat) (L : Nat → Int32) (σ : MS) : s_setBrackets X K d 8 L σ = (if ((σ.1 59)) ≤ ((L 7)) then (X d 11 9 L σ) else (if ¬ (((L 7)) < 0 ∨ 185000 ≤ ((L 7)).toNatClampNeg) then (ob (x_size K 0 (upd (fun _ => 0) 1 ((σ.2.2 29 ((L 7)).toNatClampNeg))) σ) (fun r3 => X d 11 8 (upd (upd L 6 ((((L 6)) + r3.1))) 7 (((L 7)) + 1)) r3.2)) else none)) := rfl
theorem s_setBrackets_9 (X : Nat → Nat → Nat → (Nat → Int32) → MS → Option (Int32 × MS)) (K d : Nat) (L : Nat → Int32) (σ : MS) : s_setBrackets X K d 9 L σ = (if ((L 6)) ≤ 1000 then (X d 11 10 L σ) else (X d 11 11 (upd L 100 1) σ)) := rfl
theorem s_setBrackets_10 (X : Nat → Nat → Nat → (Nat → Int32) → MS → Option (Int32 × MS)) (K d : Nat) (L : Nat → Int32) (σ : MS) : s_setBrackets X K d 10 L σ = (X d 11 11 (upd L 100 0) σ) := rfl
theorem s_setBrackets_11 (X : Nat → Nat → Nat → (Nat → Int32) → MS → Option (Int32 × MS)) (K d : Nat) (L : Nat → Int32) (σ : MS) : s_setBrackets X K d 11 L σ = (if ((L 100)) = 0 then (X d 11 12 (upd L 4 ((L 100))) σ) else (X d 11 13 (upd (upd L 4 ((L 100))) 100 ((L 2))) σ)) := rfl
theorem s_setBrackets_12 (X : Nat → Nat → Nat → (Nat → Int32) → MS → Option (Int32 × MS)) (K d : Nat) (L : Nat → Int32) (σ : MS) : s_setBrackets X K d 12 L σ = (X d 11 13 (upd L 100 ((σ.1 59))) σ) := rfl
theorem s_setBrackets_13 (X : Nat → Nat → Nat → (Nat → Int32) → MS → Option (Int32 × MS)) (K d : Nat) (L : Nat → Int32) (σ : MS) : s_setBrackets X K d 13 L σ = (X d 11 14 L (upd σ.1 59 ((L 100)), σ.2.1, σ.2.2)) := rfl
theorem s_setBrackets_14 (X : Nat → Nat → Nat → (Nat → Int32) → MS → Option (Int32 × MS)) (K d : Nat) (L : Nat → Int32) (σ : MS) : s_setBrackets X K d 14 L σ = (if ¬ (((L 5)) < 0 ∨ 70000 ≤ ((L 5)).toNatClampNeg) then (X d 11 1 (upd L 5 ((σ.2.2 9 ((L 5)).toNatClampNeg))) σ) else none) := rfl
theorem s_setBrackets_15 (X : Nat → Nat → Nat → (Nat → Int32) → MS → Option (Int32 × MS)) (K d : Nat) (L : Nat → Int32) (σ : MS) : s_setBrackets X K d 15 L σ = (if ((σ.1 56)) = 0 then (if ((L 3)) = 0 then (X d 11 16 L σ) else (ob (x_fail K 0 (upd (fun _ => 0) 1 3) σ) (fun r3 => X d 11 17 L r3.2))) else (X d 11 16 L σ)) := rfl
theorem s_setBrackets_16 (X : Nat → Nat → Nat → (Nat → Int32) → MS → Option (Int32 × MS)) (K d : Nat) (L : Nat → Int32) (σ : MS) : s_setBrackets X K d 16 L σ = (if ((σ.1 56)) = 0 then (if ((L 4)) = 0 then (X d 11 17 L σ) else (ob (x_fail K 0 (upd (fun _ => 0) 1 5) σ) (fun r3 => X d 11 17 L r3.2))) else (X d 11 17 L σ)) := rfl
theorem s_setBrackets_17 (X : Nat → Nat → Nat → (Nat → Int32) → MS → Option (Int32 × MS)) (K d : Nat) (L : Nat → Int32) (σ : MS) : s_setBrackets X K d 17 L σ = (if ((σ.1 56)) = 0 then (ob (x_sweep K 0 (upd (fun _ => 0) 1 780000) σ) (fun r2 => ob (x_setOf K 0 (upd (fun _ => 0) 1 ((L 2))) r2.2) (fun r3 => ob (x_answer K 0 (upd (fun _ => 0) 1 r3.1) r3.2) (fun r4 => ob (x_push K 0 (upd (fun _ => 0) 1 r4.1) r4.2) (fun r5 => X d 11 18 L r5.2))))) else (X d 11 18 L σ)) := rfl
theorem s_setBrackets_18 (X : Nat → Nat → Nat → (Nat → Int32) → MS → Option (Int32 × MS)) (K d : Nat) (L : Nat → Int32) (σ : MS) : s_setBrackets X K d 18 L σ = (some (0, σ)) := rfl
def s_tupleBrackets (X : Nat → Nat → Nat → (Nat → Int32) → MS → Option (Int32 × MS)) (K d : Nat) (b : Nat) (L : Nat → Int32) (σ : MS) : Option (Int32 × MS) := match b with
  | 0 => if ¬ (((L 1)) < 0 ∨ 70000 ≤ ((L 1)).toNatClampNeg) then (X d 12 1 (upd (upd (upd (upd L 2 ((σ.1 59))) 3 1) 4 0) 5 ((σ.2.2 6 ((L 1)).toNatClampNeg))) σ) else none
  | 1 => if ((L 5)) = ((-1)) then (X d 12 11 L σ) else (if ((σ.1 56)) = 0 then (od d (fun e3 => ob (X e3 4 0 (upd (fun _ => 0) 1 ((L 5))) σ) (fun r3 => if ((r3.2.1 56)) = 0 then (ob (x_pop K 0 (fun _ => 0) r3.2) (fun r5 => X d 12 3 (upd L 100 r5.1) r5.2)) else (X d 12 2 L r3.2)))) else (X d 12 11 L σ))
  | 2 => X d 12 3 (upd L 100 0) σ
  | 3 => if ((L 100)) = 0 then (X d 12 7 (upd (upd L 6 ((L 100))) 4 (((L 4)) + 1)) σ) else (X d 12 4 (upd L 6 ((L 100))) σ)
  | 4 => if 1000 < ((L 3)) then (X d 12 7 L σ) else (ob (x_size K 0 (upd (fun _ => 0) 1 ((L 6))) σ) (fun r2 => X d 12 5 (upd (upd L 3 ((((L 3)) + ((((L 4)) + r2.1))))) 7 0) r2.2))
  | 5 => if ((L 4)) ≤ ((L 7)) then (X d 12 6 L σ) else (if 1000 < ((L 3)) then (X d 12 6 L σ) else (ob (x_push K 0 (upd (fun _ => 0) 1 0) σ) (fun r3 => X d 12 5 (upd L 7 (((L 7)) + 1)) r3.2)))
  | 6 => ob (x_push K 0 (upd (fun _ => 0) 1 ((L 6))) σ) (fun r1 => X d 12 7 (upd L 4 0) r1.2)
  | 7 => if ((L 3)) ≤ 1000 then (X d 12 8 L σ) else (X d 12 9 (upd L 100 ((L 2))) σ)
  | 8 => X d 12 9 (upd L 100 ((σ.1 59))) σ
  | 9 => X d 12 10 L (upd σ.1 59 ((L 100)), σ.2.1, σ.2.2)
  | 10 => if ¬ (((L 5)) < 0 ∨ 70000 ≤ ((L 5)).toNatClampNeg) then (X d 12 1 (upd L 5 ((σ.2.2 9 ((L 5)).toNatClampNeg))) σ) else none
  | 11 => if ((σ.1 56)) = 0 then (if ((L 3)) ≤ 1000 then (X d 12 12 L σ) else (ob (x_fail K 0 (upd (fun _ => 0) 1 5) σ) (fun r3 => X d 12 12 L r3.2))) else (X d 12 12 L σ)
  | 12 => if ((σ.1 56)) = 0 then (ob (x_sweep K 0 (upd (fun _ => 0) 1 780000) σ) (fun r2 => ob (x_tupleOf K 0 (upd (fun _ => 0) 1 ((L 2))) r2.2) (fun r3 => ob (x_answer K 0 (upd (fun _ => 0) 1 r3.1) r3.2) (fun r4 => ob (x_push K 0 (upd (fun _ => 0) 1 r4.1) r4.2) (fun r5 => X d 12 13 L r5.2))))) else (X d 12 13 L σ)
  | 13 => some (0, σ)
  | _ => none
theorem s_tupleBrackets_0 (X : Nat → Nat → Nat → (Nat → Int32) → MS → Option (Int32 × MS)) (K d : Nat) (L : Nat → Int32) (σ : MS) : s_tupleBrackets X K d 0 L σ = (if ¬ (((L 1)) < 0 ∨ 70000 ≤ ((L 1)).toNatClampNeg) then (X d 12 1 (upd (upd (upd (upd L 2 ((σ.1 59))) 3 1) 4 0) 5 ((σ.2.2 6 ((L 1)).toNatClampNeg))) σ) else none) := rfl
theorem s_tupleBrackets_1 (X : Nat → Nat → Nat → (Nat → Int32) → MS → Option (Int32 × MS)) (K d : Nat) (L : Nat → Int32) (σ : MS) : s_tupleBrackets X K d 1 L σ = (if ((L 5)) = ((-1)) then (X d 12 11 L σ) else (if ((σ.1 56)) = 0 then (od d (fun e3 => ob (X e3 4 0 (upd (fun _ => 0) 1 ((L 5))) σ) (fun r3 => if ((r3.2.1 56)) = 0 then (ob (x_pop K 0 (fun _ => 0) r3.2) (fun r5 => X d 12 3 (upd L 100 r5.1) r5.2)) else (X d 12 2 L r3.2)))) else (X d 12 11 L σ))) := rfl
theorem s_tupleBrackets_2 (X : Nat → Nat → Nat → (Nat → Int32) → MS → Option (Int32 × MS)) (K d : Nat) (L : Nat → Int32) (σ : MS) : s_tupleBrackets X K d 2 L σ = (X d 12 3 (upd L 100 0) σ) := rfl
theorem s_tupleBrackets_3 (X : Nat → Nat → Nat → (Nat → Int32) → MS → Option (Int32 × MS)) (K d : Nat) (L : Nat → Int32) (σ : MS) : s_tupleBrackets X K d 3 L σ = (if ((L 100)) = 0 then (X d 12 7 (upd (upd L 6 ((L 100))) 4 (((L 4)) + 1)) σ) else (X d 12 4 (upd L 6 ((L 100))) σ)) := rfl
theorem s_tupleBrackets_4 (X : Nat → Nat → Nat → (Nat → Int32) → MS → Option (Int32 × MS)) (K d : Nat) (L : Nat → Int32) (σ : MS) : s_tupleBrackets X K d 4 L σ = (if 1000 < ((L 3)) then (X d 12 7 L σ) else (ob (x_size K 0 (upd (fun _ => 0) 1 ((L 6))) σ) (fun r2 => X d 12 5 (upd (upd L 3 ((((L 3)) + ((((L 4)) + r2.1))))) 7 0) r2.2))) := rfl
theorem s_tupleBrackets_5 (X : Nat → Nat → Nat → (Nat → Int32) → MS → Option (Int32 × MS)) (K d : Nat) (L : Nat → Int32) (σ : MS) : s_tupleBrackets X K d 5 L σ = (if ((L 4)) ≤ ((L 7)) then (X d 12 6 L σ) else (if 1000 < ((L 3)) then (X d 12 6 L σ) else (ob (x_push K 0 (upd (fun _ => 0) 1 0) σ) (fun r3 => X d 12 5 (upd L 7 (((L 7)) + 1)) r3.2)))) := rfl
theorem s_tupleBrackets_6 (X : Nat → Nat → Nat → (Nat → Int32) → MS → Option (Int32 × MS)) (K d : Nat) (L : Nat → Int32) (σ : MS) : s_tupleBrackets X K d 6 L σ = (ob (x_push K 0 (upd (fun _ => 0) 1 ((L 6))) σ) (fun r1 => X d 12 7 (upd L 4 0) r1.2)) := rfl
theorem s_tupleBrackets_7 (X : Nat → Nat → Nat → (Nat → Int32) → MS → Option (Int32 × MS)) (K d : Nat) (L : Nat → Int32) (σ : MS) : s_tupleBrackets X K d 7 L σ = (if ((L 3)) ≤ 1000 then (X d 12 8 L σ) else (X d 12 9 (upd L 100 ((L 2))) σ)) := rfl
theorem s_tupleBrackets_8 (X : Nat → Nat → Nat → (Nat → Int32) → MS → Option (Int32 × MS)) (K d : Nat) (L : Nat → Int32) (σ : MS) : s_tupleBrackets X K d 8 L σ = (X d 12 9 (upd L 100 ((σ.1 59))) σ) := rfl
theorem s_tupleBrackets_9 (X : Nat → Nat → Nat → (Nat → Int32) → MS → Option (Int32 × MS)) (K d : Nat) (L : Nat → Int32) (σ : MS) : s_tupleBrackets X K d 9 L σ = (X d 12 10 L (upd σ.1 59 ((L 100)), σ.2.1, σ.2.2)) := rfl
theorem s_tupleBrackets_10 (X : Nat → Nat → Nat → (Nat → Int32) → MS → Option (Int32 × MS)) (K d : Nat) (L : Nat → Int32) (σ : MS) : s_tupleBrackets X K d 10 L σ = (if ¬ (((L 5)) < 0 ∨ 70000 ≤ ((L 5)).toNatClampNeg) then (X d 12 1 (upd L 5 ((σ.2.2 9 ((L 5)).toNatClampNeg))) σ) else none) := rfl
theorem s_tupleBrackets_11 (X : Nat → Nat → Nat → (Nat → Int32) → MS → Option (Int32 × MS)) (K d : Nat) (L : Nat → Int32) (σ : MS) : s_tupleBrackets X K d 11 L σ = (if ((σ.1 56)) = 0 then (if ((L 3)) ≤ 1000 then (X d 12 12 L σ) else (ob (x_fail K 0 (upd (fun _ => 0) 1 5) σ) (fun r3 => X d 12 12 L r3.2))) else (X d 12 12 L σ)) := rfl
theorem s_tupleBrackets_12 (X : Nat → Nat → Nat → (Nat → Int32) → MS → Option (Int32 × MS)) (K d : Nat) (L : Nat → Int32) (σ : MS) : s_tupleBrackets X K d 12 L σ = (if ((σ.1 56)) = 0 then (ob (x_sweep K 0 (upd (fun _ => 0) 1 780000) σ) (fun r2 => ob (x_tupleOf K 0 (upd (fun _ => 0) 1 ((L 2))) r2.2) (fun r3 => ob (x_answer K 0 (upd (fun _ => 0) 1 r3.1) r3.2) (fun r4 => ob (x_push K 0 (upd (fun _ => 0) 1 r4.1) r4.2) (fun r5 => X d 12 13 L r5.2))))) else (X d 12 13 L σ)) := rfl
theorem s_tupleBrackets_13 (X : Nat → Nat → Nat → (Nat → Int32) → MS → Option (Int32 × MS)) (K d : Nat) (L : Nat → Int32) (σ : MS) : s_tupleBrackets X K d 13 L σ = (some (0, σ)) := rfl
def x_GV : Nat → Nat → Nat → Nat → (Nat → Int32) → MS → Option (Int32 × MS)
  | 0 => fun _ _ _ _ _ => none
  | k + 1 => fun d m b L σ => match m with
    | 0 => s_begins (x_GV k) k d b L σ
    | 1 => s_bounds (x_GV k) k d b L σ
    | 2 => s_callFunc (x_GV k) k d b L σ
    | 3 => s_choose (x_GV k) k d b L σ
    | 4 => s_eval (x_GV k) k d b L σ
    | 5 => s_former (x_GV k) k d b L σ
    | 6 => s_goOn (x_GV k) k d b L σ
    | 7 => s_goesOn (x_GV k) k d b L σ
    | 8 => s_holds (x_GV k) k d b L σ
    | 9 => s_openIter (x_GV k) k d b L σ
    | 10 => s_quantify (x_GV k) k d b L σ
    | 11 => s_setBrackets (x_GV k) k d b L σ
    | 12 => s_tupleBrackets (x_GV k) k d b L σ
    | _ => none
theorem x_GV_0 (k d b : Nat) (L : Nat → Int32) (σ : MS) : x_GV (k + 1) d 0 b L σ = s_begins (x_GV k) k d b L σ := rfl
theorem x_GV_1 (k d b : Nat) (L : Nat → Int32) (σ : MS) : x_GV (k + 1) d 1 b L σ = s_bounds (x_GV k) k d b L σ := rfl
theorem x_GV_2 (k d b : Nat) (L : Nat → Int32) (σ : MS) : x_GV (k + 1) d 2 b L σ = s_callFunc (x_GV k) k d b L σ := rfl
theorem x_GV_3 (k d b : Nat) (L : Nat → Int32) (σ : MS) : x_GV (k + 1) d 3 b L σ = s_choose (x_GV k) k d b L σ := rfl
theorem x_GV_4 (k d b : Nat) (L : Nat → Int32) (σ : MS) : x_GV (k + 1) d 4 b L σ = s_eval (x_GV k) k d b L σ := rfl
theorem x_GV_5 (k d b : Nat) (L : Nat → Int32) (σ : MS) : x_GV (k + 1) d 5 b L σ = s_former (x_GV k) k d b L σ := rfl
theorem x_GV_6 (k d b : Nat) (L : Nat → Int32) (σ : MS) : x_GV (k + 1) d 6 b L σ = s_goOn (x_GV k) k d b L σ := rfl
theorem x_GV_7 (k d b : Nat) (L : Nat → Int32) (σ : MS) : x_GV (k + 1) d 7 b L σ = s_goesOn (x_GV k) k d b L σ := rfl
theorem x_GV_8 (k d b : Nat) (L : Nat → Int32) (σ : MS) : x_GV (k + 1) d 8 b L σ = s_holds (x_GV k) k d b L σ := rfl
theorem x_GV_9 (k d b : Nat) (L : Nat → Int32) (σ : MS) : x_GV (k + 1) d 9 b L σ = s_openIter (x_GV k) k d b L σ := rfl
theorem x_GV_10 (k d b : Nat) (L : Nat → Int32) (σ : MS) : x_GV (k + 1) d 10 b L σ = s_quantify (x_GV k) k d b L σ := rfl
theorem x_GV_11 (k d b : Nat) (L : Nat → Int32) (σ : MS) : x_GV (k + 1) d 11 b L σ = s_setBrackets (x_GV k) k d b L σ := rfl
theorem x_GV_12 (k d b : Nat) (L : Nat → Int32) (σ : MS) : x_GV (k + 1) d 12 b L σ = s_tupleBrackets (x_GV k) k d b L σ := rfl
def o_x_GV : List Cond := [.code yX12_begins cX12_begins 2 none, .code yX12_bounds cX12_bounds 2 none, .code yX12_callFunc cX12_callFunc 7 none, .code yX12_choose cX12_choose 4 none, .code yX12_eval cX12_eval 3 none, .code yX12_former cX12_former 5 none, .code yX12_goOn cX12_goOn 6 (some .boolean), .code yX12_goesOn cX12_goesOn 6 none, .code yX12_holds cX12_holds 2 (some .boolean), .code yX12_openIter cX12_openIter 3 none, .code yX12_quantify cX12_quantify 6 none, .code yX12_setBrackets cX12_setBrackets 8 none, .code yX12_tupleBrackets cX12_tupleBrackets 8 none, .fieldLink RX12 362 "SetHouseModel" "err" "I", .fieldLink RX12 83 "SetHouseModel" "op" "[I", .constant RX12 584 (780000), .methodLink RX12 585 yX12_sweep, .instanceMethod yX12_sweep, .selects RX12 yX12_sweep yX12_sweep, .initialized RX12, .fieldLink RX12 86 "SetHouseModel" "x1" "[I", .fieldLink RX12 89 "SetHouseModel" "x2" "[I", .methodLink RX12 588 yX12_literal, .instanceMethod yX12_literal, .selects RX12 yX12_literal yX12_literal, .methodLink RX12 591 yX12_answer, .instanceMethod yX12_answer, .selects RX12 yX12_answer yX12_answer, .methodLink RX12 594 yX12_push, .instanceMethod yX12_push, .selects RX12 yX12_push yX12_push, .fieldLink RX12 108 "SetHouseModel" "pool" "[I", .methodLink RX12 597 yX12_stringOf, .instanceMethod yX12_stringOf, .selects RX12 yX12_stringOf yX12_stringOf, .methodLink RX12 601 yX12_newAtom, .instanceMethod yX12_newAtom, .selects RX12 yX12_newAtom yX12_newAtom, .methodLink RX12 604 yX12_valueOf, .instanceMethod yX12_valueOf, .selects RX12 yX12_valueOf yX12_valueOf, .methodLink RX12 607 yX12_callFunc, .instanceMethod yX12_callFunc, .selects RX12 yX12_callFunc yX12_callFunc, .methodLink RX12 610 yX12_setBrackets, .instanceMethod yX12_setBrackets, .selects RX12 yX12_setBrackets yX12_setBrackets, .methodLink RX12 613 yX12_tupleBrackets, .instanceMethod yX12_tupleBrackets, .selects RX12 yX12_tupleBrackets yX12_tupleBrackets, .methodLink RX12 616 yX12_former, .instanceMethod yX12_former, .selects RX12 yX12_former yX12_former, .methodLink RX12 619 yX12_quantify, .instanceMethod yX12_quantify, .selects RX12 yX12_quantify yX12_quantify, .methodLink RX12 622 yX12_choose, .instanceMethod yX12_choose, .selects RX12 yX12_choose yX12_choose, .methodLink RX12 625 yX12_bounds, .instanceMethod yX12_bounds, .selects RX12 yX12_bounds yX12_bounds, .methodLink RX12 566 yX12_eval, .instanceMethod yX12_eval, .selects RX12 yX12_eval yX12_eval, .methodLink RX12 572 yX12_pop, .instanceMethod yX12_pop, .selects RX12 yX12_pop yX12_pop, .methodLink RX12 628 yX12_single, .instanceMethod yX12_single, .selects RX12 yX12_single yX12_single, .fieldLink RX12 92 "SetHouseModel" "x3" "[I", .fieldLink RX12 95 "SetHouseModel" "x4" "[I", .methodLink RX12 662 yX12_range, .instanceMethod yX12_range, .selects RX12 yX12_range yX12_range, .fieldLink RX12 385 "SetHouseModel" "top" "I", .fieldLink RX12 98 "SetHouseModel" "next" "[I", .fieldLink RX12 685 "SetHouseModel" "funcs" "I", .fieldLink RX12 688 "SetHouseModel" "deep" "I", .methodLink RX12 369 yX12_fail, .instanceMethod yX12_fail, .selects RX12 yX12_fail yX12_fail, .fieldLink RX12 560 "SetHouseModel" "localBase" "I", .fieldLink RX12 557 "SetHouseModel" "inFrames" "Z", .fieldLink RX12 408 "SetHouseModel" "frames" "[I", .fieldLink RX12 239 "SetHouseModel" "params" "[I", .fieldLink RX12 382 "SetHouseModel" "pile" "[I", .fieldLink RX12 359 "SetHouseModel" "first" "[I", .methodLink RX12 672 yX12_holds, .instanceMethod yX12_holds, .selects RX12 yX12_holds yX12_holds, .methodLink RX12 575 yX12_isOver, .static yX12_isOver, .methodLink RX12 578 yX12_begins, .instanceMethod yX12_begins, .selects RX12 yX12_begins yX12_begins, .methodLink RX12 581 yX12_goesOn, .instanceMethod yX12_goesOn, .selects RX12 yX12_goesOn yX12_goesOn, .fieldLink RX12 414 "SetHouseModel" "evTop" "I", .methodLink RX12 718 yX12_goOn, .instanceMethod yX12_goOn, .selects RX12 yX12_goOn yX12_goOn, .methodLink RX12 722 yX12_clear, .instanceMethod yX12_clear, .selects RX12 yX12_clear yX12_clear, .methodLink RX12 678 yX12_setOf, .instanceMethod yX12_setOf, .selects RX12 yX12_setOf yX12_setOf, .methodLink RX12 675 yX12_tupleOf, .instanceMethod yX12_tupleOf, .selects RX12 yX12_tupleOf yX12_tupleOf, .fieldLink RX12 709 "SetHouseModel" "iterNodes" "[I", .methodLink RX12 712 yX12_openIter, .instanceMethod yX12_openIter, .selects RX12 yX12_openIter yX12_openIter, .methodLink RX12 715 yX12_stepIter, .instanceMethod yX12_stepIter, .selects RX12 yX12_stepIter yX12_stepIter, .methodLink RX12 569 yX12_isTrue, .instanceMethod yX12_isTrue, .selects RX12 yX12_isTrue yX12_isTrue, .methodLink RX12 646 yX12_truth, .instanceMethod yX12_truth, .selects RX12 yX12_truth yX12_truth, .methodLink RX12 649 yX12_slice, .instanceMethod yX12_slice, .selects RX12 yX12_slice yX12_slice, .methodLink RX12 653 yX12_partAt, .instanceMethod yX12_partAt, .selects RX12 yX12_partAt yX12_partAt, .methodLink RX12 656 yX12_image, .instanceMethod yX12_image, .selects RX12 yX12_image yX12_image, .methodLink RX12 659 yX12_operate, .instanceMethod yX12_operate, .selects RX12 yX12_operate yX12_operate, .methodLink RX12 697 yX12_isRow, .instanceMethod yX12_isRow, .selects RX12 yX12_isRow yX12_isRow, .fieldLink RX12 411 "SetHouseModel" "evValue" "[I", .fieldLink RX12 700 "SetHouseModel" "evAt" "[I", .methodLink RX12 454 yX12_distinct, .instanceMethod yX12_distinct, .selects RX12 yX12_distinct yX12_distinct, .methodLink RX12 432 yX12_size, .instanceMethod yX12_size, .selects RX12 yX12_size yX12_size]
theorem o_x_GV_good : o_x_GV.all goodWord = true := by decide +kernel
def p_x_GV : List Cond := o_x_GV ++ ((.code yX12_sweep cX12_sweep 5 none :: p_x_sweep) ++ ((.code yX12_literal cX12_literal 7 (some .int) :: p_x_literal) ++ ((.code yX12_answer cX12_answer 2 (some .int) :: p_x_answer) ++ ((.code yX12_push cX12_push 2 none :: p_x_push) ++ ((.code yX12_stringOf cX12_stringOf 6 (some .int) :: p_x_stringOf__12) ++ ((.code yX12_newAtom cX12_newAtom 2 (some .int) :: p_x_newAtom) ++ ((.code yX12_valueOf cX12_valueOf 2 (some .int) :: p_x_valueOf) ++ ((.code yX12_pop cX12_pop 1 (some .int) :: p_x_pop) ++ ((.code yX12_single cX12_single 3 (some .int) :: p_x_single) ++ ((.code yX12_range cX12_range 12 (some .int) :: p_x_range) ++ ((.code yX12_fail cX12_fail 2 none :: p_x_fail) ++ ((.code yX12_isOver cX12_isOver 1 (some .boolean) :: p_x_isOver) ++ ((.code yX12_clear cX12_clear 4 none :: p_x_clear) ++ ((.code yX12_setOf cX12_setOf 5 (some .int) :: p_x_setOf) ++ ((.code yX12_tupleOf cX12_tupleOf 5 (some .int) :: p_x_tupleOf) ++ ((.code yX12_stepIter cX12_stepIter 4 (some .boolean) :: p_x_stepIter) ++ ((.code yX12_isTrue cX12_isTrue 2 (some .boolean) :: p_x_isTrue) ++ ((.code yX12_truth cX12_truth 2 (some .int) :: p_x_truth) ++ ((.code yX12_slice cX12_slice 7 (some .int) :: p_x_slice) ++ ((.code yX12_partAt cX12_partAt 8 (some .int) :: p_x_partAt) ++ ((.code yX12_image cX12_image 6 (some .int) :: p_x_image) ++ ((.code yX12_operate cX12_operate 8 (some .int) :: p_x_operate) ++ ((.code yX12_isRow cX12_isRow 2 (some .boolean) :: p_x_isRow) ++ ((.code yX12_distinct cX12_distinct 5 none :: p_x_distinct) ++ ((.code yX12_size cX12_size 2 (some .int) :: p_x_size) ++ [])))))))))))))))))))))))))
theorem p_x_GV_good : p_x_GV.all goodWord = true := nb_all2 o_x_GV_good (nb_all2 (nb_allc (by decide +kernel) p_x_sweep_good) (nb_all2 (nb_allc (by decide +kernel) p_x_literal_good) (nb_all2 (nb_allc (by decide +kernel) p_x_answer_good) (nb_all2 (nb_allc (by decide +kernel) p_x_push_good) (nb_all2 (nb_allc (by decide +kernel) p_x_stringOf__12_good) (nb_all2 (nb_allc (by decide +kernel) p_x_newAtom_good) (nb_all2 (nb_allc (by decide +kernel) p_x_valueOf_good) (nb_all2 (nb_allc (by decide +kernel) p_x_pop_good) (nb_all2 (nb_allc (by decide +kernel) p_x_single_good) (nb_all2 (nb_allc (by decide +kernel) p_x_range_good) (nb_all2 (nb_allc (by decide +kernel) p_x_fail_good) (nb_all2 (nb_allc (by decide +kernel) p_x_isOver_good) (nb_all2 (nb_allc (by decide +kernel) p_x_clear_good) (nb_all2 (nb_allc (by decide +kernel) p_x_setOf_good) (nb_all2 (nb_allc (by decide +kernel) p_x_tupleOf_good) (nb_all2 (nb_allc (by decide +kernel) p_x_stepIter_good) (nb_all2 (nb_allc (by decide +kernel) p_x_isTrue_good) (nb_all2 (nb_allc (by decide +kernel) p_x_truth_good) (nb_all2 (nb_allc (by decide +kernel) p_x_slice_good) (nb_all2 (nb_allc (by decide +kernel) p_x_partAt_good) (nb_all2 (nb_allc (by decide +kernel) p_x_image_good) (nb_all2 (nb_allc (by decide +kernel) p_x_operate_good) (nb_all2 (nb_allc (by decide +kernel) p_x_isRow_good) (nb_all2 (nb_allc (by decide +kernel) p_x_distinct_good) (nb_all2 (nb_allc (by decide +kernel) p_x_size_good) rfl)))))))))))))))))))))))))
def w_x_begins : List Cond := .code yX12_begins cX12_begins 2 none :: (p_x_GV ++ fM)
theorem w_x_begins_good : w_x_begins.all goodWord = true := nb_allc (by decide +kernel) (nb_all2 p_x_GV_good fM_good)
theorem in_x_begins : ∀ w ∈ wsX120, w ∈ w_x_begins := fun _ h => List.mem_cons_of_mem _ (List.mem_append_right _ h)
theorem hd_x_begins : yX12_begins.cls = RX12 ∧ yX12_begins.cls ≠ "java/lang/invoke/MethodHandle" ∧ yX12_begins.cls ≠ "java/lang/invoke/VarHandle" ∧ (parseMethodDescriptor yX12_begins.desc).map (fun d => d.parameters.length) = some 1 := by decide +kernel
def w_x_bounds : List Cond := .code yX12_bounds cX12_bounds 2 none :: (p_x_GV ++ fM)
theorem w_x_bounds_good : w_x_bounds.all goodWord = true := nb_allc (by decide +kernel) (nb_all2 p_x_GV_good fM_good)
theorem in_x_bounds : ∀ w ∈ wsX120, w ∈ w_x_bounds := fun _ h => List.mem_cons_of_mem _ (List.mem_append_right _ h)
theorem hd_x_bounds : yX12_bounds.cls = RX12 ∧ yX12_bounds.cls ≠ "java/lang/invoke/MethodHandle" ∧ yX12_bounds.cls ≠ "java/lang/invoke/VarHandle" ∧ (parseMethodDescriptor yX12_bounds.desc).map (fun d => d.parameters.length) = some 1 := by decide +kernel
def w_x_callFunc : List Cond := .code yX12_callFunc cX12_callFunc 7 none :: (p_x_GV ++ fM)
theorem w_x_callFunc_good : w_x_callFunc.all goodWord = true := nb_allc (by decide +kernel) (nb_all2 p_x_GV_good fM_good)
theorem in_x_callFunc : ∀ w ∈ wsX120, w ∈ w_x_callFunc := fun _ h => List.mem_cons_of_mem _ (List.mem_append_right _ h)
theorem hd_x_callFunc : yX12_callFunc.cls = RX12 ∧ yX12_callFunc.cls ≠ "java/lang/invoke/MethodHandle" ∧ yX12_callFunc.cls ≠ "java/lang/invoke/VarHandle" ∧ (parseMethodDescriptor yX12_callFunc.desc).map (fun d => d.parameters.length) = some 1 := by decide +kernel
def w_x_choose : List Cond := .code yX12_choose cX12_choose 4 none :: (p_x_GV ++ fM)
theorem w_x_choose_good : w_x_choose.all goodWord = true := nb_allc (by decide +kernel) (nb_all2 p_x_GV_good fM_good)
theorem in_x_choose : ∀ w ∈ wsX120, w ∈ w_x_choose := fun _ h => List.mem_cons_of_mem _ (List.mem_append_right _ h)
theorem hd_x_choose : yX12_choose.cls = RX12 ∧ yX12_choose.cls ≠ "java/lang/invoke/MethodHandle" ∧ yX12_choose.cls ≠ "java/lang/invoke/VarHandle" ∧ (parseMethodDescriptor yX12_choose.desc).map (fun d => d.parameters.length) = some 1 := by decide +kernel
def w_x_eval : List Cond := .code yX12_eval cX12_eval 3 none :: (p_x_GV ++ fM)
theorem w_x_eval_good : w_x_eval.all goodWord = true := nb_allc (by decide +kernel) (nb_all2 p_x_GV_good fM_good)
theorem in_x_eval : ∀ w ∈ wsX120, w ∈ w_x_eval := fun _ h => List.mem_cons_of_mem _ (List.mem_append_right _ h)
theorem hd_x_eval : yX12_eval.cls = RX12 ∧ yX12_eval.cls ≠ "java/lang/invoke/MethodHandle" ∧ yX12_eval.cls ≠ "java/lang/invoke/VarHandle" ∧ (parseMethodDescriptor yX12_eval.desc).map (fun d => d.parameters.length) = some 1 := by decide +kernel
def w_x_former : List Cond := .code yX12_former cX12_former 5 none :: (p_x_GV ++ fM)
theorem w_x_former_good : w_x_former.all goodWord = true := nb_allc (by decide +kernel) (nb_all2 p_x_GV_good fM_good)
theorem in_x_former : ∀ w ∈ wsX120, w ∈ w_x_former := fun _ h => List.mem_cons_of_mem _ (List.mem_append_right _ h)
theorem hd_x_former : yX12_former.cls = RX12 ∧ yX12_former.cls ≠ "java/lang/invoke/MethodHandle" ∧ yX12_former.cls ≠ "java/lang/invoke/VarHandle" ∧ (parseMethodDescriptor yX12_former.desc).map (fun d => d.parameters.length) = some 1 := by decide +kernel
def w_x_goOn : List Cond := .code yX12_goOn cX12_goOn 6 (some .boolean) :: (p_x_GV ++ fM)
theorem w_x_goOn_good : w_x_goOn.all goodWord = true := nb_allc (by decide +kernel) (nb_all2 p_x_GV_good fM_good)
theorem in_x_goOn : ∀ w ∈ wsX120, w ∈ w_x_goOn := fun _ h => List.mem_cons_of_mem _ (List.mem_append_right _ h)
theorem hd_x_goOn : yX12_goOn.cls = RX12 ∧ yX12_goOn.cls ≠ "java/lang/invoke/MethodHandle" ∧ yX12_goOn.cls ≠ "java/lang/invoke/VarHandle" ∧ (parseMethodDescriptor yX12_goOn.desc).map (fun d => d.parameters.length) = some 3 := by decide +kernel
def w_x_goesOn : List Cond := .code yX12_goesOn cX12_goesOn 6 none :: (p_x_GV ++ fM)
theorem w_x_goesOn_good : w_x_goesOn.all goodWord = true := nb_allc (by decide +kernel) (nb_all2 p_x_GV_good fM_good)
theorem in_x_goesOn : ∀ w ∈ wsX120, w ∈ w_x_goesOn := fun _ h => List.mem_cons_of_mem _ (List.mem_append_right _ h)
theorem hd_x_goesOn : yX12_goesOn.cls = RX12 ∧ yX12_goesOn.cls ≠ "java/lang/invoke/MethodHandle" ∧ yX12_goesOn.cls ≠ "java/lang/invoke/VarHandle" ∧ (parseMethodDescriptor yX12_goesOn.desc).map (fun d => d.parameters.length) = some 1 := by decide +kernel
def w_x_holds : List Cond := .code yX12_holds cX12_holds 2 (some .boolean) :: (p_x_GV ++ fM)
theorem w_x_holds_good : w_x_holds.all goodWord = true := nb_allc (by decide +kernel) (nb_all2 p_x_GV_good fM_good)
theorem in_x_holds : ∀ w ∈ wsX120, w ∈ w_x_holds := fun _ h => List.mem_cons_of_mem _ (List.mem_append_right _ h)
theorem hd_x_holds : yX12_holds.cls = RX12 ∧ yX12_holds.cls ≠ "java/lang/invoke/MethodHandle" ∧ yX12_holds.cls ≠ "java/lang/invoke/VarHandle" ∧ (parseMethodDescriptor yX12_holds.desc).map (fun d => d.parameters.length) = some 1 := by decide +kernel
def w_x_openIter : List Cond := .code yX12_openIter cX12_openIter 3 none :: (p_x_GV ++ fM)
theorem w_x_openIter_good : w_x_openIter.all goodWord = true := nb_allc (by decide +kernel) (nb_all2 p_x_GV_good fM_good)
theorem in_x_openIter : ∀ w ∈ wsX120, w ∈ w_x_openIter := fun _ h => List.mem_cons_of_mem _ (List.mem_append_right _ h)
theorem hd_x_openIter : yX12_openIter.cls = RX12 ∧ yX12_openIter.cls ≠ "java/lang/invoke/MethodHandle" ∧ yX12_openIter.cls ≠ "java/lang/invoke/VarHandle" ∧ (parseMethodDescriptor yX12_openIter.desc).map (fun d => d.parameters.length) = some 1 := by decide +kernel
def w_x_quantify : List Cond := .code yX12_quantify cX12_quantify 6 none :: (p_x_GV ++ fM)
theorem w_x_quantify_good : w_x_quantify.all goodWord = true := nb_allc (by decide +kernel) (nb_all2 p_x_GV_good fM_good)
theorem in_x_quantify : ∀ w ∈ wsX120, w ∈ w_x_quantify := fun _ h => List.mem_cons_of_mem _ (List.mem_append_right _ h)
theorem hd_x_quantify : yX12_quantify.cls = RX12 ∧ yX12_quantify.cls ≠ "java/lang/invoke/MethodHandle" ∧ yX12_quantify.cls ≠ "java/lang/invoke/VarHandle" ∧ (parseMethodDescriptor yX12_quantify.desc).map (fun d => d.parameters.length) = some 1 := by decide +kernel
def w_x_setBrackets : List Cond := .code yX12_setBrackets cX12_setBrackets 8 none :: (p_x_GV ++ fM)
theorem w_x_setBrackets_good : w_x_setBrackets.all goodWord = true := nb_allc (by decide +kernel) (nb_all2 p_x_GV_good fM_good)
theorem in_x_setBrackets : ∀ w ∈ wsX120, w ∈ w_x_setBrackets := fun _ h => List.mem_cons_of_mem _ (List.mem_append_right _ h)
theorem hd_x_setBrackets : yX12_setBrackets.cls = RX12 ∧ yX12_setBrackets.cls ≠ "java/lang/invoke/MethodHandle" ∧ yX12_setBrackets.cls ≠ "java/lang/invoke/VarHandle" ∧ (parseMethodDescriptor yX12_setBrackets.desc).map (fun d => d.parameters.length) = some 1 := by decide +kernel
def w_x_tupleBrackets : List Cond := .code yX12_tupleBrackets cX12_tupleBrackets 8 none :: (p_x_GV ++ fM)
theorem w_x_tupleBrackets_good : w_x_tupleBrackets.all goodWord = true := nb_allc (by decide +kernel) (nb_all2 p_x_GV_good fM_good)
theorem in_x_tupleBrackets : ∀ w ∈ wsX120, w ∈ w_x_tupleBrackets := fun _ h => List.mem_cons_of_mem _ (List.mem_append_right _ h)
theorem hd_x_tupleBrackets : yX12_tupleBrackets.cls = RX12 ∧ yX12_tupleBrackets.cls ≠ "java/lang/invoke/MethodHandle" ∧ yX12_tupleBrackets.cls ≠ "java/lang/invoke/VarHandle" ∧ (parseMethodDescriptor yX12_tupleBrackets.desc).map (fun d => d.parameters.length) = some 1 := by decide +kernel
abbrev P_GV (l : Launch) (dC : Nat → ClassId) (dI : Nat → Nat → Nat) (cy : Nat → ClassId) (a : Nat → Nat) (k0 : Nat) : Prop := (∀ (d : Nat) (L0 : Nat → Int32) (σ0 : MS) (r0 : Int32 × MS), x_GV k0 d 0 0 L0 σ0 = some r0 → ∀ (sz : Nat), Met l yX12_begins w_x_begins ({ frames := 57 + d, cells := 0, slots := 0, locals := 1375 + 27 * d }) (va_Pc [.ref (a 0), .int (L0 1)] (nIn (dC, dI) cy sz (vM cy a σ0))) (va_Qv (fun _ : Unit => True) (fun _ t => nOut (dC, dI) cy (va_A (vM cy a σ0) sz) (vM cy a r0.2) t) (va_A (vM cy a σ0) sz)) 0 0 (va_A (vM cy a σ0) sz)) ∧ (∀ (d : Nat) (L0 : Nat → Int32) (σ0 : MS) (r0 : Int32 × MS), x_GV k0 d 1 0 L0 σ0 = some r0 → ∀ (sz : Nat), Met l yX12_bounds w_x_bounds ({ frames := 57 + d, cells := 0, slots := 0, locals := 1375 + 27 * d }) (va_Pc [.ref (a 0), .int (L0 1)] (nIn (dC, dI) cy sz (vM cy a σ0))) (va_Qv (fun _ : Unit => True) (fun _ t => nOut (dC, dI) cy (va_A (vM cy a σ0) sz) (vM cy a r0.2) t) (va_A (vM cy a σ0) sz)) 0 0 (va_A (vM cy a σ0) sz)) ∧ (∀ (d : Nat) (L0 : Nat → Int32) (σ0 : MS) (r0 : Int32 × MS), x_GV k0 d 2 0 L0 σ0 = some r0 → ∀ (sz : Nat), Met l yX12_callFunc w_x_callFunc ({ frames := 57 + d, cells := 0, slots := 0, locals := 1375 + 27 * d }) (va_Pc [.ref (a 0), .int (L0 1)] (nIn (dC, dI) cy sz (vM cy a σ0))) (va_Qv (fun _ : Unit => True) (fun _ t => nOut (dC, dI) cy (va_A (vM cy a σ0) sz) (vM cy a r0.2) t) (va_A (vM cy a σ0) sz)) 0 0 (va_A (vM cy a σ0) sz)) ∧ (∀ (d : Nat) (L0 : Nat → Int32) (σ0 : MS) (r0 : Int32 × MS), x_GV k0 d 3 0 L0 σ0 = some r0 → ∀ (sz : Nat), Met l yX12_choose w_x_choose ({ frames := 57 + d, cells := 0, slots := 0, locals := 1375 + 27 * d }) (va_Pc [.ref (a 0), .int (L0 1)] (nIn (dC, dI) cy sz (vM cy a σ0))) (va_Qv (fun _ : Unit => True) (fun _ t => nOut (dC, dI) cy (va_A (vM cy a σ0) sz) (vM cy a r0.2) t) (va_A (vM cy a σ0) sz)) 0 0 (va_A (vM cy a σ0) sz)) ∧ (∀ (d : Nat) (L0 : Nat → Int32) (σ0 : MS) (r0 : Int32 × MS), x_GV k0 d 4 0 L0 σ0 = some r0 → ∀ (sz : Nat), Met l yX12_eval w_x_eval ({ frames := 57 + d, cells := 0, slots := 0, locals := 1375 + 27 * d }) (va_Pc [.ref (a 0), .int (L0 1)] (nIn (dC, dI) cy sz (vM cy a σ0))) (va_Qv (fun _ : Unit => True) (fun _ t => nOut (dC, dI) cy (va_A (vM cy a σ0) sz) (vM cy a r0.2) t) (va_A (vM cy a σ0) sz)) 0 0 (va_A (vM cy a σ0) sz)) ∧ (∀ (d : Nat) (L0 : Nat → Int32) (σ0 : MS) (r0 : Int32 × MS), x_GV k0 d 5 0 L0 σ0 = some r0 → ∀ (sz : Nat), Met l yX12_former w_x_former ({ frames := 57 + d, cells := 0, slots := 0, locals := 1375 + 27 * d }) (va_Pc [.ref (a 0), .int (L0 1)] (nIn (dC, dI) cy sz (vM cy a σ0))) (va_Qv (fun _ : Unit => True) (fun _ t => nOut (dC, dI) cy (va_A (vM cy a σ0) sz) (vM cy a r0.2) t) (va_A (vM cy a σ0) sz)) 0 0 (va_A (vM cy a σ0) sz)) ∧ (∀ (d : Nat) (L0 : Nat → Int32) (σ0 : MS) (r0 : Int32 × MS), x_GV k0 d 6 0 L0 σ0 = some r0 → ∀ (sz : Nat), Met l yX12_goOn w_x_goOn ({ frames := 57 + d, cells := 0, slots := 0, locals := 1375 + 27 * d }) (va_Pc [.ref (a 0), .int (L0 1), .int (L0 2), .int (L0 3)] (nIn (dC, dI) cy sz (vM cy a σ0))) (va_Qi (fun (z : Int32) (_ : Unit) => z = r0.1) (fun _ t => nOut (dC, dI) cy (va_A (vM cy a σ0) sz) (vM cy a r0.2) t) (va_A (vM cy a σ0) sz)) 0 0 (va_A (vM cy a σ0) sz)) ∧ (∀ (d : Nat) (L0 : Nat → Int32) (σ0 : MS) (r0 : Int32 × MS), x_GV k0 d 7 0 L0 σ0 = some r0 → ∀ (sz : Nat), Met l yX12_goesOn w_x_goesOn ({ frames := 57 + d, cells := 0, slots := 0, locals := 1375 + 27 * d }) (va_Pc [.ref (a 0), .int (L0 1)] (nIn (dC, dI) cy sz (vM cy a σ0))) (va_Qv (fun _ : Unit => True) (fun _ t => nOut (dC, dI) cy (va_A (vM cy a σ0) sz) (vM cy a r0.2) t) (va_A (vM cy a σ0) sz)) 0 0 (va_A (vM cy a σ0) sz)) ∧ (∀ (d : Nat) (L0 : Nat → Int32) (σ0 : MS) (r0 : Int32 × MS), x_GV k0 d 8 0 L0 σ0 = some r0 → ∀ (sz : Nat), Met l yX12_holds w_x_holds ({ frames := 57 + d, cells := 0, slots := 0, locals := 1375 + 27 * d }) (va_Pc [.ref (a 0), .int (L0 1)] (nIn (dC, dI) cy sz (vM cy a σ0))) (va_Qi (fun (z : Int32) (_ : Unit) => z = r0.1) (fun _ t => nOut (dC, dI) cy (va_A (vM cy a σ0) sz) (vM cy a r0.2) t) (va_A (vM cy a σ0) sz)) 0 0 (va_A (vM cy a σ0) sz)) ∧ (∀ (d : Nat) (L0 : Nat → Int32) (σ0 : MS) (r0 : Int32 × MS), x_GV k0 d 9 0 L0 σ0 = some r0 → ∀ (sz : Nat), Met l yX12_openIter w_x_openIter ({ frames := 57 + d, cells := 0, slots := 0, locals := 1375 + 27 * d }) (va_Pc [.ref (a 0), .int (L0 1)] (nIn (dC, dI) cy sz (vM cy a σ0))) (va_Qv (fun _ : Unit => True) (fun _ t => nOut (dC, dI) cy (va_A (vM cy a σ0) sz) (vM cy a r0.2) t) (va_A (vM cy a σ0) sz)) 0 0 (va_A (vM cy a σ0) sz)) ∧ (∀ (d : Nat) (L0 : Nat → Int32) (σ0 : MS) (r0 : Int32 × MS), x_GV k0 d 10 0 L0 σ0 = some r0 → ∀ (sz : Nat), Met l yX12_quantify w_x_quantify ({ frames := 57 + d, cells := 0, slots := 0, locals := 1375 + 27 * d }) (va_Pc [.ref (a 0), .int (L0 1)] (nIn (dC, dI) cy sz (vM cy a σ0))) (va_Qv (fun _ : Unit => True) (fun _ t => nOut (dC, dI) cy (va_A (vM cy a σ0) sz) (vM cy a r0.2) t) (va_A (vM cy a σ0) sz)) 0 0 (va_A (vM cy a σ0) sz)) ∧ (∀ (d : Nat) (L0 : Nat → Int32) (σ0 : MS) (r0 : Int32 × MS), x_GV k0 d 11 0 L0 σ0 = some r0 → ∀ (sz : Nat), Met l yX12_setBrackets w_x_setBrackets ({ frames := 57 + d, cells := 0, slots := 0, locals := 1375 + 27 * d }) (va_Pc [.ref (a 0), .int (L0 1)] (nIn (dC, dI) cy sz (vM cy a σ0))) (va_Qv (fun _ : Unit => True) (fun _ t => nOut (dC, dI) cy (va_A (vM cy a σ0) sz) (vM cy a r0.2) t) (va_A (vM cy a σ0) sz)) 0 0 (va_A (vM cy a σ0) sz)) ∧ (∀ (d : Nat) (L0 : Nat → Int32) (σ0 : MS) (r0 : Int32 × MS), x_GV k0 d 12 0 L0 σ0 = some r0 → ∀ (sz : Nat), Met l yX12_tupleBrackets w_x_tupleBrackets ({ frames := 57 + d, cells := 0, slots := 0, locals := 1375 + 27 * d }) (va_Pc [.ref (a 0), .int (L0 1)] (nIn (dC, dI) cy sz (vM cy a σ0))) (va_Qv (fun _ : Unit => True) (fun _ t => nOut (dC, dI) cy (va_A (vM cy a σ0) sz) (vM cy a r0.2) t) (va_A (vM cy a σ0) sz)) 0 0 (va_A (vM cy a σ0) sz))
theorem gg_x_begins_answer : GoodIn w_x_begins w_x_answer := goodIn_sub (fun w h => (List.mem_cons.mp h).elim (fun e => (List.mem_cons_of_mem _ (List.mem_append_left _ (List.mem_append_right _ (List.mem_append_right _ (List.mem_append_right _ (List.mem_append_left _ (List.mem_cons.mpr (Or.inl e))))))))) (fun h => (List.mem_append.mp h).elim (fun h => (List.mem_cons_of_mem _ (List.mem_append_left _ (List.mem_append_right _ (List.mem_append_right _ (List.mem_append_right _ (List.mem_append_left _ (List.mem_cons_of_mem _ h)))))))) (fun h => List.mem_cons_of_mem _ (List.mem_append_right _ h)))) w_x_answer_good
theorem g_x_begins_answer_591 : GoodIn w_x_begins (wsV RX12 591 RX12 yX12_answer w_x_answer) := goodIn_app (nb_g4 (List.mem_cons_of_mem _ (List.mem_append_left _ (List.mem_append_left _ (List.mem_of_getElem? (i := 25) rfl)))) (List.mem_cons_of_mem _ (List.mem_append_left _ (List.mem_append_left _ (List.mem_of_getElem? (i := 26) rfl)))) (List.mem_cons_of_mem _ (List.mem_append_left _ (List.mem_append_left _ (List.mem_of_getElem? (i := 27) rfl)))) (List.mem_cons_of_mem _ (List.mem_append_left _ (List.mem_append_left _ (List.mem_of_getElem? (i := 19) rfl)))) (by decide +kernel)) gg_x_begins_answer
theorem gg_x_begins_bounds : GoodIn w_x_begins w_x_bounds := goodIn_sub (fun w h => (List.mem_cons.mp h).elim (fun e => e ▸ (List.mem_cons_of_mem _ (List.mem_append_left _ (List.mem_append_left _ (List.mem_of_getElem? (i := 1) rfl))))) (fun h => List.mem_cons_of_mem _ h)) w_x_bounds_good
theorem g_x_begins_bounds_625 : GoodIn w_x_begins (wsV RX12 625 RX12 yX12_bounds w_x_bounds) := goodIn_app (nb_g4 (List.mem_cons_of_mem _ (List.mem_append_left _ (List.mem_append_left _ (List.mem_of_getElem? (i := 59) rfl)))) (List.mem_cons_of_mem _ (List.mem_append_left _ (List.mem_append_left _ (List.mem_of_getElem? (i := 60) rfl)))) (List.mem_cons_of_mem _ (List.mem_append_left _ (List.mem_append_left _ (List.mem_of_getElem? (i := 61) rfl)))) (List.mem_cons_of_mem _ (List.mem_append_left _ (List.mem_append_left _ (List.mem_of_getElem? (i := 19) rfl)))) (by decide +kernel)) gg_x_begins_bounds
theorem gg_x_begins_callFunc : GoodIn w_x_begins w_x_callFunc := goodIn_sub (fun w h => (List.mem_cons.mp h).elim (fun e => e ▸ (List.mem_cons_of_mem _ (List.mem_append_left _ (List.mem_append_left _ (List.mem_of_getElem? (i := 2) rfl))))) (fun h => List.mem_cons_of_mem _ h)) w_x_callFunc_good
theorem g_x_begins_callFunc_607 : GoodIn w_x_begins (wsV RX12 607 RX12 yX12_callFunc w_x_callFunc) := goodIn_app (nb_g4 (List.mem_cons_of_mem _ (List.mem_append_left _ (List.mem_append_left _ (List.mem_of_getElem? (i := 41) rfl)))) (List.mem_cons_of_mem _ (List.mem_append_left _ (List.mem_append_left _ (List.mem_of_getElem? (i := 42) rfl)))) (List.mem_cons_of_mem _ (List.mem_append_left _ (List.mem_append_left _ (List.mem_of_getElem? (i := 43) rfl)))) (List.mem_cons_of_mem _ (List.mem_append_left _ (List.mem_append_left _ (List.mem_of_getElem? (i := 19) rfl)))) (by decide +kernel)) gg_x_begins_callFunc
theorem gg_x_begins_choose : GoodIn w_x_begins w_x_choose := goodIn_sub (fun w h => (List.mem_cons.mp h).elim (fun e => e ▸ (List.mem_cons_of_mem _ (List.mem_append_left _ (List.mem_append_left _ (List.mem_of_getElem? (i := 3) rfl))))) (fun h => List.mem_cons_of_mem _ h)) w_x_choose_good
theorem g_x_begins_choose_622 : GoodIn w_x_begins (wsV RX12 622 RX12 yX12_choose w_x_choose) := goodIn_app (nb_g4 (List.mem_cons_of_mem _ (List.mem_append_left _ (List.mem_append_left _ (List.mem_of_getElem? (i := 56) rfl)))) (List.mem_cons_of_mem _ (List.mem_append_left _ (List.mem_append_left _ (List.mem_of_getElem? (i := 57) rfl)))) (List.mem_cons_of_mem _ (List.mem_append_left _ (List.mem_append_left _ (List.mem_of_getElem? (i := 58) rfl)))) (List.mem_cons_of_mem _ (List.mem_append_left _ (List.mem_append_left _ (List.mem_of_getElem? (i := 19) rfl)))) (by decide +kernel)) gg_x_begins_choose
theorem gg_x_begins_eval : GoodIn w_x_begins w_x_eval := goodIn_sub (fun w h => (List.mem_cons.mp h).elim (fun e => e ▸ (List.mem_cons_of_mem _ (List.mem_append_left _ (List.mem_append_left _ (List.mem_of_getElem? (i := 4) rfl))))) (fun h => List.mem_cons_of_mem _ h)) w_x_eval_good
theorem g_x_begins_eval_566 : GoodIn w_x_begins (wsV RX12 566 RX12 yX12_eval w_x_eval) := goodIn_app (nb_g4 (List.mem_cons_of_mem _ (List.mem_append_left _ (List.mem_append_left _ (List.mem_of_getElem? (i := 62) rfl)))) (List.mem_cons_of_mem _ (List.mem_append_left _ (List.mem_append_left _ (List.mem_of_getElem? (i := 63) rfl)))) (List.mem_cons_of_mem _ (List.mem_append_left _ (List.mem_append_left _ (List.mem_of_getElem? (i := 64) rfl)))) (List.mem_cons_of_mem _ (List.mem_append_left _ (List.mem_append_left _ (List.mem_of_getElem? (i := 19) rfl)))) (by decide +kernel)) gg_x_begins_eval
theorem gg_x_begins_former : GoodIn w_x_begins w_x_former := goodIn_sub (fun w h => (List.mem_cons.mp h).elim (fun e => e ▸ (List.mem_cons_of_mem _ (List.mem_append_left _ (List.mem_append_left _ (List.mem_of_getElem? (i := 5) rfl))))) (fun h => List.mem_cons_of_mem _ h)) w_x_former_good
theorem g_x_begins_former_616 : GoodIn w_x_begins (wsV RX12 616 RX12 yX12_former w_x_former) := goodIn_app (nb_g4 (List.mem_cons_of_mem _ (List.mem_append_left _ (List.mem_append_left _ (List.mem_of_getElem? (i := 50) rfl)))) (List.mem_cons_of_mem _ (List.mem_append_left _ (List.mem_append_left _ (List.mem_of_getElem? (i := 51) rfl)))) (List.mem_cons_of_mem _ (List.mem_append_left _ (List.mem_append_left _ (List.mem_of_getElem? (i := 52) rfl)))) (List.mem_cons_of_mem _ (List.mem_append_left _ (List.mem_append_left _ (List.mem_of_getElem? (i := 19) rfl)))) (by decide +kernel)) gg_x_begins_former
theorem gg_x_begins_literal : GoodIn w_x_begins w_x_literal := goodIn_sub (fun w h => (List.mem_cons.mp h).elim (fun e => (List.mem_cons_of_mem _ (List.mem_append_left _ (List.mem_append_right _ (List.mem_append_right _ (List.mem_append_left _ (List.mem_cons.mpr (Or.inl e)))))))) (fun h => (List.mem_append.mp h).elim (fun h => (List.mem_cons_of_mem _ (List.mem_append_left _ (List.mem_append_right _ (List.mem_append_right _ (List.mem_append_left _ (List.mem_cons_of_mem _ h))))))) (fun h => List.mem_cons_of_mem _ (List.mem_append_right _ h)))) w_x_literal_good
theorem g_x_begins_literal_588 : GoodIn w_x_begins (wsV RX12 588 RX12 yX12_literal w_x_literal) := goodIn_app (nb_g4 (List.mem_cons_of_mem _ (List.mem_append_left _ (List.mem_append_left _ (List.mem_of_getElem? (i := 22) rfl)))) (List.mem_cons_of_mem _ (List.mem_append_left _ (List.mem_append_left _ (List.mem_of_getElem? (i := 23) rfl)))) (List.mem_cons_of_mem _ (List.mem_append_left _ (List.mem_append_left _ (List.mem_of_getElem? (i := 24) rfl)))) (List.mem_cons_of_mem _ (List.mem_append_left _ (List.mem_append_left _ (List.mem_of_getElem? (i := 19) rfl)))) (by decide +kernel)) gg_x_begins_literal
theorem gg_x_begins_newAtom : GoodIn w_x_begins w_x_newAtom := goodIn_sub (fun w h => (List.mem_cons.mp h).elim (fun e => (List.mem_cons_of_mem _ (List.mem_append_left _ (List.mem_append_right _ (List.mem_append_right _ (List.mem_append_right _ (List.mem_append_right _ (List.mem_append_right _ (List.mem_append_right _ (List.mem_append_left _ (List.mem_cons.mpr (Or.inl e)))))))))))) (fun h => (List.mem_append.mp h).elim (fun h => (List.mem_cons_of_mem _ (List.mem_append_left _ (List.mem_append_right _ (List.mem_append_right _ (List.mem_append_right _ (List.mem_append_right _ (List.mem_append_right _ (List.mem_append_right _ (List.mem_append_left _ (List.mem_cons_of_mem _ h))))))))))) (fun h => List.mem_cons_of_mem _ (List.mem_append_right _ h)))) w_x_newAtom_good
theorem g_x_begins_newAtom_601 : GoodIn w_x_begins (wsV RX12 601 RX12 yX12_newAtom w_x_newAtom) := goodIn_app (nb_g4 (List.mem_cons_of_mem _ (List.mem_append_left _ (List.mem_append_left _ (List.mem_of_getElem? (i := 35) rfl)))) (List.mem_cons_of_mem _ (List.mem_append_left _ (List.mem_append_left _ (List.mem_of_getElem? (i := 36) rfl)))) (List.mem_cons_of_mem _ (List.mem_append_left _ (List.mem_append_left _ (List.mem_of_getElem? (i := 37) rfl)))) (List.mem_cons_of_mem _ (List.mem_append_left _ (List.mem_append_left _ (List.mem_of_getElem? (i := 19) rfl)))) (by decide +kernel)) gg_x_begins_newAtom
theorem gg_x_begins_pop : GoodIn w_x_begins w_x_pop := goodIn_sub (fun w h => (List.mem_cons.mp h).elim (fun e => (List.mem_cons_of_mem _ (List.mem_append_left _ (List.mem_append_right _ (List.mem_append_right _ (List.mem_append_right _ (List.mem_append_right _ (List.mem_append_right _ (List.mem_append_right _ (List.mem_append_right _ (List.mem_append_right _ (List.mem_append_left _ (List.mem_cons.mpr (Or.inl e)))))))))))))) (fun h => (List.mem_append.mp h).elim (fun h => (List.mem_cons_of_mem _ (List.mem_append_left _ (List.mem_append_right _ (List.mem_append_right _ (List.mem_append_right _ (List.mem_append_right _ (List.mem_append_right _ (List.mem_append_right _ (List.mem_append_right _ (List.mem_append_right _ (List.mem_append_left _ (List.mem_cons_of_mem _ h))))))))))))) (fun h => List.mem_cons_of_mem _ (List.mem_append_right _ h)))) w_x_pop_good
theorem g_x_begins_pop_572 : GoodIn w_x_begins (wsV RX12 572 RX12 yX12_pop w_x_pop) := goodIn_app (nb_g4 (List.mem_cons_of_mem _ (List.mem_append_left _ (List.mem_append_left _ (List.mem_of_getElem? (i := 65) rfl)))) (List.mem_cons_of_mem _ (List.mem_append_left _ (List.mem_append_left _ (List.mem_of_getElem? (i := 66) rfl)))) (List.mem_cons_of_mem _ (List.mem_append_left _ (List.mem_append_left _ (List.mem_of_getElem? (i := 67) rfl)))) (List.mem_cons_of_mem _ (List.mem_append_left _ (List.mem_append_left _ (List.mem_of_getElem? (i := 19) rfl)))) (by decide +kernel)) gg_x_begins_pop
theorem gg_x_begins_push : GoodIn w_x_begins w_x_push := goodIn_sub (fun w h => (List.mem_cons.mp h).elim (fun e => (List.mem_cons_of_mem _ (List.mem_append_left _ (List.mem_append_right _ (List.mem_append_right _ (List.mem_append_right _ (List.mem_append_right _ (List.mem_append_left _ (List.mem_cons.mpr (Or.inl e)))))))))) (fun h => (List.mem_append.mp h).elim (fun h => (List.mem_cons_of_mem _ (List.mem_append_left _ (List.mem_append_right _ (List.mem_append_right _ (List.mem_append_right _ (List.mem_append_right _ (List.mem_append_left _ (List.mem_cons_of_mem _ h))))))))) (fun h => List.mem_cons_of_mem _ (List.mem_append_right _ h)))) w_x_push_good
theorem g_x_begins_push_594 : GoodIn w_x_begins (wsV RX12 594 RX12 yX12_push w_x_push) := goodIn_app (nb_g4 (List.mem_cons_of_mem _ (List.mem_append_left _ (List.mem_append_left _ (List.mem_of_getElem? (i := 28) rfl)))) (List.mem_cons_of_mem _ (List.mem_append_left _ (List.mem_append_left _ (List.mem_of_getElem? (i := 29) rfl)))) (List.mem_cons_of_mem _ (List.mem_append_left _ (List.mem_append_left _ (List.mem_of_getElem? (i := 30) rfl)))) (List.mem_cons_of_mem _ (List.mem_append_left _ (List.mem_append_left _ (List.mem_of_getElem? (i := 19) rfl)))) (by decide +kernel)) gg_x_begins_push
theorem gg_x_begins_quantify : GoodIn w_x_begins w_x_quantify := goodIn_sub (fun w h => (List.mem_cons.mp h).elim (fun e => e ▸ (List.mem_cons_of_mem _ (List.mem_append_left _ (List.mem_append_left _ (List.mem_of_getElem? (i := 10) rfl))))) (fun h => List.mem_cons_of_mem _ h)) w_x_quantify_good
theorem g_x_begins_quantify_619 : GoodIn w_x_begins (wsV RX12 619 RX12 yX12_quantify w_x_quantify) := goodIn_app (nb_g4 (List.mem_cons_of_mem _ (List.mem_append_left _ (List.mem_append_left _ (List.mem_of_getElem? (i := 53) rfl)))) (List.mem_cons_of_mem _ (List.mem_append_left _ (List.mem_append_left _ (List.mem_of_getElem? (i := 54) rfl)))) (List.mem_cons_of_mem _ (List.mem_append_left _ (List.mem_append_left _ (List.mem_of_getElem? (i := 55) rfl)))) (List.mem_cons_of_mem _ (List.mem_append_left _ (List.mem_append_left _ (List.mem_of_getElem? (i := 19) rfl)))) (by decide +kernel)) gg_x_begins_quantify
theorem gg_x_begins_setBrackets : GoodIn w_x_begins w_x_setBrackets := goodIn_sub (fun w h => (List.mem_cons.mp h).elim (fun e => e ▸ (List.mem_cons_of_mem _ (List.mem_append_left _ (List.mem_append_left _ (List.mem_of_getElem? (i := 11) rfl))))) (fun h => List.mem_cons_of_mem _ h)) w_x_setBrackets_good
theorem g_x_begins_setBrackets_610 : GoodIn w_x_begins (wsV RX12 610 RX12 yX12_setBrackets w_x_setBrackets) := goodIn_app (nb_g4 (List.mem_cons_of_mem _ (List.mem_append_left _ (List.mem_append_left _ (List.mem_of_getElem? (i := 44) rfl)))) (List.mem_cons_of_mem _ (List.mem_append_left _ (List.mem_append_left _ (List.mem_of_getElem? (i := 45) rfl)))) (List.mem_cons_of_mem _ (List.mem_append_left _ (List.mem_append_left _ (List.mem_of_getElem? (i := 46) rfl)))) (List.mem_cons_of_mem _ (List.mem_append_left _ (List.mem_append_left _ (List.mem_of_getElem? (i := 19) rfl)))) (by decide +kernel)) gg_x_begins_setBrackets
theorem gg_x_begins_single : GoodIn w_x_begins w_x_single := goodIn_sub (fun w h => (List.mem_cons.mp h).elim (fun e => (List.mem_cons_of_mem _ (List.mem_append_left _ (List.mem_append_right _ (List.mem_append_right _ (List.mem_append_right _ (List.mem_append_right _ (List.mem_append_right _ (List.mem_append_right _ (List.mem_append_right _ (List.mem_append_right _ (List.mem_append_right _ (List.mem_append_left _ (List.mem_cons.mpr (Or.inl e))))))))))))))) (fun h => (List.mem_append.mp h).elim (fun h => (List.mem_cons_of_mem _ (List.mem_append_left _ (List.mem_append_right _ (List.mem_append_right _ (List.mem_append_right _ (List.mem_append_right _ (List.mem_append_right _ (List.mem_append_right _ (List.mem_append_right _ (List.mem_append_right _ (List.mem_append_right _ (List.mem_append_left _ (List.mem_cons_of_mem _ h)))))))))))))) (fun h => List.mem_cons_of_mem _ (List.mem_append_right _ h)))) w_x_single_good
theorem g_x_begins_single_628 : GoodIn w_x_begins (wsV RX12 628 RX12 yX12_single w_x_single) := goodIn_app (nb_g4 (List.mem_cons_of_mem _ (List.mem_append_left _ (List.mem_append_left _ (List.mem_of_getElem? (i := 68) rfl)))) (List.mem_cons_of_mem _ (List.mem_append_left _ (List.mem_append_left _ (List.mem_of_getElem? (i := 69) rfl)))) (List.mem_cons_of_mem _ (List.mem_append_left _ (List.mem_append_left _ (List.mem_of_getElem? (i := 70) rfl)))) (List.mem_cons_of_mem _ (List.mem_append_left _ (List.mem_append_left _ (List.mem_of_getElem? (i := 19) rfl)))) (by decide +kernel)) gg_x_begins_single
theorem gg_x_begins_stringOf__12 : GoodIn w_x_begins w_x_stringOf__12 := goodIn_sub (fun w h => (List.mem_cons.mp h).elim (fun e => (List.mem_cons_of_mem _ (List.mem_append_left _ (List.mem_append_right _ (List.mem_append_right _ (List.mem_append_right _ (List.mem_append_right _ (List.mem_append_right _ (List.mem_append_left _ (List.mem_cons.mpr (Or.inl e))))))))))) (fun h => (List.mem_append.mp h).elim (fun h => (List.mem_cons_of_mem _ (List.mem_append_left _ (List.mem_append_right _ (List.mem_append_right _ (List.mem_append_right _ (List.mem_append_right _ (List.mem_append_right _ (List.mem_append_left _ (List.mem_cons_of_mem _ h)))))))))) (fun h => List.mem_cons_of_mem _ (List.mem_append_right _ h)))) w_x_stringOf__12_good
theorem g_x_begins_stringOf__12_597 : GoodIn w_x_begins (wsV RX12 597 RX12 yX12_stringOf w_x_stringOf__12) := goodIn_app (nb_g4 (List.mem_cons_of_mem _ (List.mem_append_left _ (List.mem_append_left _ (List.mem_of_getElem? (i := 32) rfl)))) (List.mem_cons_of_mem _ (List.mem_append_left _ (List.mem_append_left _ (List.mem_of_getElem? (i := 33) rfl)))) (List.mem_cons_of_mem _ (List.mem_append_left _ (List.mem_append_left _ (List.mem_of_getElem? (i := 34) rfl)))) (List.mem_cons_of_mem _ (List.mem_append_left _ (List.mem_append_left _ (List.mem_of_getElem? (i := 19) rfl)))) (by decide +kernel)) gg_x_begins_stringOf__12
theorem gg_x_begins_sweep : GoodIn w_x_begins w_x_sweep := goodIn_sub (fun w h => (List.mem_cons.mp h).elim (fun e => (List.mem_cons_of_mem _ (List.mem_append_left _ (List.mem_append_right _ (List.mem_append_left _ (List.mem_cons.mpr (Or.inl e))))))) (fun h => (List.mem_append.mp h).elim (fun h => (List.mem_cons_of_mem _ (List.mem_append_left _ (List.mem_append_right _ (List.mem_append_left _ (List.mem_cons_of_mem _ h)))))) (fun h => List.mem_cons_of_mem _ (List.mem_append_right _ h)))) w_x_sweep_good
theorem g_x_begins_sweep_585 : GoodIn w_x_begins (wsV RX12 585 RX12 yX12_sweep w_x_sweep) := goodIn_app (nb_g4 (List.mem_cons_of_mem _ (List.mem_append_left _ (List.mem_append_left _ (List.mem_of_getElem? (i := 16) rfl)))) (List.mem_cons_of_mem _ (List.mem_append_left _ (List.mem_append_left _ (List.mem_of_getElem? (i := 17) rfl)))) (List.mem_cons_of_mem _ (List.mem_append_left _ (List.mem_append_left _ (List.mem_of_getElem? (i := 18) rfl)))) (List.mem_cons_of_mem _ (List.mem_append_left _ (List.mem_append_left _ (List.mem_of_getElem? (i := 19) rfl)))) (by decide +kernel)) gg_x_begins_sweep
theorem gg_x_begins_tupleBrackets : GoodIn w_x_begins w_x_tupleBrackets := goodIn_sub (fun w h => (List.mem_cons.mp h).elim (fun e => e ▸ (List.mem_cons_of_mem _ (List.mem_append_left _ (List.mem_append_left _ (List.mem_of_getElem? (i := 12) rfl))))) (fun h => List.mem_cons_of_mem _ h)) w_x_tupleBrackets_good
theorem g_x_begins_tupleBrackets_613 : GoodIn w_x_begins (wsV RX12 613 RX12 yX12_tupleBrackets w_x_tupleBrackets) := goodIn_app (nb_g4 (List.mem_cons_of_mem _ (List.mem_append_left _ (List.mem_append_left _ (List.mem_of_getElem? (i := 47) rfl)))) (List.mem_cons_of_mem _ (List.mem_append_left _ (List.mem_append_left _ (List.mem_of_getElem? (i := 48) rfl)))) (List.mem_cons_of_mem _ (List.mem_append_left _ (List.mem_append_left _ (List.mem_of_getElem? (i := 49) rfl)))) (List.mem_cons_of_mem _ (List.mem_append_left _ (List.mem_append_left _ (List.mem_of_getElem? (i := 19) rfl)))) (by decide +kernel)) gg_x_begins_tupleBrackets
theorem gg_x_begins_valueOf : GoodIn w_x_begins w_x_valueOf := goodIn_sub (fun w h => (List.mem_cons.mp h).elim (fun e => (List.mem_cons_of_mem _ (List.mem_append_left _ (List.mem_append_right _ (List.mem_append_right _ (List.mem_append_right _ (List.mem_append_right _ (List.mem_append_right _ (List.mem_append_right _ (List.mem_append_right _ (List.mem_append_left _ (List.mem_cons.mpr (Or.inl e))))))))))))) (fun h => (List.mem_append.mp h).elim (fun h => (List.mem_cons_of_mem _ (List.mem_append_left _ (List.mem_append_right _ (List.mem_append_right _ (List.mem_append_right _ (List.mem_append_right _ (List.mem_append_right _ (List.mem_append_right _ (List.mem_append_right _ (List.mem_append_left _ (List.mem_cons_of_mem _ h)))))))))))) (fun h => List.mem_cons_of_mem _ (List.mem_append_right _ h)))) w_x_valueOf_good
theorem g_x_begins_valueOf_604 : GoodIn w_x_begins (wsV RX12 604 RX12 yX12_valueOf w_x_valueOf) := goodIn_app (nb_g4 (List.mem_cons_of_mem _ (List.mem_append_left _ (List.mem_append_left _ (List.mem_of_getElem? (i := 38) rfl)))) (List.mem_cons_of_mem _ (List.mem_append_left _ (List.mem_append_left _ (List.mem_of_getElem? (i := 39) rfl)))) (List.mem_cons_of_mem _ (List.mem_append_left _ (List.mem_append_left _ (List.mem_of_getElem? (i := 40) rfl)))) (List.mem_cons_of_mem _ (List.mem_append_left _ (List.mem_append_left _ (List.mem_of_getElem? (i := 19) rfl)))) (by decide +kernel)) gg_x_begins_valueOf
set_option maxHeartbeats 40000000 in
set_option maxRecDepth 100000 in
theorem c_s_begins (l : Launch) (dC : Nat → ClassId) (dI : Nat → Nat → Nat) (cy : Nat → ClassId) (a : Nat → Nat) (k0 : Nat) (IH : ∀ j : Nat, j < k0 → P_GV l dC dI cy a j) (d : Nat) (L0 : Nat → Int32) (σ0 : MS) (r0 : Int32 × MS) (h0 : x_GV k0 d 0 0 L0 σ0 = some r0) (sz : Nat) : Met l yX12_begins w_x_begins ({ frames := 57 + d, cells := 0, slots := 0, locals := 1375 + 27 * d }) (va_Pc [.ref (a 0), .int (L0 1)] (nIn (dC, dI) cy sz (vM cy a σ0))) (va_Qv (fun _ : Unit => True) (fun _ t => nOut (dC, dI) cy (va_A (vM cy a σ0) sz) (vM cy a r0.2) t) (va_A (vM cy a σ0) sz)) 0 0 (va_A (vM cy a σ0) sz) := by
  refine Met.ofW (cc := cX12_begins) (maxL := 2) (ret := none) (by decide) rfl ?_
  intro p e s m args below meth c s₁ B hml hv
  obtain ⟨rfl, hsz, hP, hK, hD0, hG⟩ := hv
  have hx := B.exec
  have hb := B.bytes
  have hr := B.returns
  have hts := atoms_spec (ws := w_x_begins) B.pre
  have hown : s.vm.findClass RX12 = some m.cls := findClass_of_methodNamed B.named
  have hlocks := B.notSynchronized
  subst hsz
  have hD := hD0.self (sz := s.heap.size)
  generalize hAe : va_A (vM cy a σ0) s.heap.size = A at hD ⊢
  have hA : ∀ q : Nat, s.heap.size ≤ q → A q := fun q h => by rw [← hAe]; exact Or.inr h
  have hS : va_S A s.heap s.heap [] := va_S.rf
  have hl := lv_entry ([.ref (a 0), .int (L0 1)]) (n := 2) (Nat.le_of_ble_eq_true rfl)
  rw [lg_entry_eq]
  generalize (lg_sl ([.ref (a 0), .int (L0 1)]) ++ List.replicate (2 - (lg_sl ([.ref (a 0), .int (L0 1)])).length) Slot.unset).toArray = ls at hl ⊢
  have hl : lv_has ls 2 [(0, .ref (a 0)), (1, .int (L0 1))] := hl
  have blk : ∀ k : Nat, k ≤ k0 → (bT p l e (headSpec w_x_begins ({ frames := 57 + d, cells := 0, slots := 0, locals := 1375 + 27 * d })).room s m #[.ref (a 0), .int (L0 1)] below meth c dC dI cy a A (qV dC dI cy a A below #[.ref (a 0), .int (L0 1)] s) 2 (x_GV k d 0 0) (fun L => [(0, .ref (a 0)), (1, .int (L 1))]) 0 (fun L => [])) ∧ (bT p l e (headSpec w_x_begins ({ frames := 57 + d, cells := 0, slots := 0, locals := 1375 + 27 * d })).room s m #[.ref (a 0), .int (L0 1)] below meth c dC dI cy a A (qV dC dI cy a A below #[.ref (a 0), .int (L0 1)] s) 2 (x_GV k d 0 1) (fun L => [(0, .ref (a 0)), (1, .int (L 1))]) 8 (fun L => [])) ∧ (bT p l e (headSpec w_x_begins ({ frames := 57 + d, cells := 0, slots := 0, locals := 1375 + 27 * d })).room s m #[.ref (a 0), .int (L0 1)] below meth c dC dI cy a A (qV dC dI cy a A below #[.ref (a 0), .int (L0 1)] s) 2 (x_GV k d 0 2) (fun L => [(0, .ref (a 0)), (1, .int (L 1))]) 88 (fun L => [])) ∧ (bT p l e (headSpec w_x_begins ({ frames := 57 + d, cells := 0, slots := 0, locals := 1375 + 27 * d })).room s m #[.ref (a 0), .int (L0 1)] below meth c dC dI cy a A (qV dC dI cy a A below #[.ref (a 0), .int (L0 1)] s) 2 (x_GV k d 0 3) (fun L => [(0, .ref (a 0)), (1, .int (L 1))]) 120 (fun L => [])) ∧ (bT p l e (headSpec w_x_begins ({ frames := 57 + d, cells := 0, slots := 0, locals := 1375 + 27 * d })).room s m #[.ref (a 0), .int (L0 1)] below meth c dC dI cy a A (qV dC dI cy a A below #[.ref (a 0), .int (L0 1)] s) 2 (x_GV k d 0 4) (fun L => [(0, .ref (a 0)), (1, .int (L 1))]) 156 (fun L => [])) ∧ (bT p l e (headSpec w_x_begins ({ frames := 57 + d, cells := 0, slots := 0, locals := 1375 + 27 * d })).room s m #[.ref (a 0), .int (L0 1)] below meth c dC dI cy a A (qV dC dI cy a A below #[.ref (a 0), .int (L0 1)] s) 2 (x_GV k d 0 5) (fun L => [(0, .ref (a 0)), (1, .int (L 1))]) 162 (fun L => [])) ∧ (bT p l e (headSpec w_x_begins ({ frames := 57 + d, cells := 0, slots := 0, locals := 1375 + 27 * d })).room s m #[.ref (a 0), .int (L0 1)] below meth c dC dI cy a A (qV dC dI cy a A below #[.ref (a 0), .int (L0 1)] s) 2 (x_GV k d 0 6) (fun L => [(0, .ref (a 0)), (1, .int (L 1))]) 168 (fun L => [])) ∧ (bT p l e (headSpec w_x_begins ({ frames := 57 + d, cells := 0, slots := 0, locals := 1375 + 27 * d })).room s m #[.ref (a 0), .int (L0 1)] below meth c dC dI cy a A (qV dC dI cy a A below #[.ref (a 0), .int (L0 1)] s) 2 (x_GV k d 0 7) (fun L => [(0, .ref (a 0)), (1, .int (L 1))]) 174 (fun L => [])) ∧ (bT p l e (headSpec w_x_begins ({ frames := 57 + d, cells := 0, slots := 0, locals := 1375 + 27 * d })).room s m #[.ref (a 0), .int (L0 1)] below meth c dC dI cy a A (qV dC dI cy a A below #[.ref (a 0), .int (L0 1)] s) 2 (x_GV k d 0 8) (fun L => [(0, .ref (a 0)), (1, .int (L 1))]) 194 (fun L => [])) ∧ (bT p l e (headSpec w_x_begins ({ frames := 57 + d, cells := 0, slots := 0, locals := 1375 + 27 * d })).room s m #[.ref (a 0), .int (L0 1)] below meth c dC dI cy a A (qV dC dI cy a A below #[.ref (a 0), .int (L0 1)] s) 2 (x_GV k d 0 9) (fun L => [(0, .ref (a 0)), (1, .int (L 1))]) 204 (fun L => [])) ∧ (bT p l e (headSpec w_x_begins ({ frames := 57 + d, cells := 0, slots := 0, locals := 1375 + 27 * d })).room s m #[.ref (a 0), .int (L0 1)] below meth c dC dI cy a A (qV dC dI cy a A below #[.ref (a 0), .int (L0 1)] s) 2 (x_GV k d 0 10) (fun L => [(0, .ref (a 0)), (1, .int (L 1))]) 210 (fun L => [])) ∧ (bT p l e (headSpec w_x_begins ({ frames := 57 + d, cells := 0, slots := 0, locals := 1375 + 27 * d })).room s m #[.ref (a 0), .int (L0 1)] below meth c dC dI cy a A (qV dC dI cy a A below #[.ref (a 0), .int (L0 1)] s) 2 (x_GV k d 0 11) (fun L => [(0, .ref (a 0)), (1, .int (L 1))]) 216 (fun L => [])) ∧ (bT p l e (headSpec w_x_begins ({ frames := 57 + d, cells := 0, slots := 0, locals := 1375 + 27 * d })).room s m #[.ref (a 0), .int (L0 1)] below meth c dC dI cy a A (qV dC dI cy a A below #[.ref (a 0), .int (L0 1)] s) 2 (x_GV k d 0 12) (fun L => [(0, .ref (a 0)), (1, .int (L 1))]) 222 (fun L => [])) ∧ (bT p l e (headSpec w_x_begins ({ frames := 57 + d, cells := 0, slots := 0, locals := 1375 + 27 * d })).room s m #[.ref (a 0), .int (L0 1)] below meth c dC dI cy a A (qV dC dI cy a A below #[.ref (a 0), .int (L0 1)] s) 2 (x_GV k d 0 13) (fun L => [(0, .ref (a 0)), (1, .int (L 1))]) 228 (fun L => [])) ∧ (bT p l e (headSpec w_x_begins ({ frames := 57 + d, cells := 0, slots := 0, locals := 1375 + 27 * d })).room s m #[.ref (a 0), .int (L0 1)] below meth c dC dI cy a A (qV dC dI cy a A below #[.ref (a 0), .int (L0 1)] s) 2 (x_GV k d 0 14) (fun L => [(0, .ref (a 0)), (1, .int (L 1))]) 234 (fun L => [])) ∧ (bT p l e (headSpec w_x_begins ({ frames := 57 + d, cells := 0, slots := 0, locals := 1375 + 27 * d })).room s m #[.ref (a 0), .int (L0 1)] below meth c dC dI cy a A (qV dC dI cy a A below #[.ref (a 0), .int (L0 1)] s) 2 (x_GV k d 0 15) (fun L => [(0, .ref (a 0)), (1, .int (L 1))]) 240 (fun L => [])) ∧ (bT p l e (headSpec w_x_begins ({ frames := 57 + d, cells := 0, slots := 0, locals := 1375 + 27 * d })).room s m #[.ref (a 0), .int (L0 1)] below meth c dC dI cy a A (qV dC dI cy a A below #[.ref (a 0), .int (L0 1)] s) 2 (x_GV k d 0 16) (fun L => [(0, .ref (a 0)), (1, .int (L 1))]) 246 (fun L => [])) ∧ (bT p l e (headSpec w_x_begins ({ frames := 57 + d, cells := 0, slots := 0, locals := 1375 + 27 * d })).room s m #[.ref (a 0), .int (L0 1)] below meth c dC dI cy a A (qV dC dI cy a A below #[.ref (a 0), .int (L0 1)] s) 2 (x_GV k d 0 17) (fun L => [(0, .ref (a 0)), (1, .int (L 1))]) 287 (fun L => [])) := by
    intro k
    induction k with
    | zero => exact fun _ => ⟨fun L σ r h => (by cases h), fun L σ r h => (by cases h), fun L σ r h => (by cases h), fun L σ r h => (by cases h), fun L σ r h => (by cases h), fun L σ r h => (by cases h), fun L σ r h => (by cases h), fun L σ r h => (by cases h), fun L σ r h => (by cases h), fun L σ r h => (by cases h), fun L σ r h => (by cases h), fun L σ r h => (by cases h), fun L σ r h => (by cases h), fun L σ r h => (by cases h), fun L σ r h => (by cases h), fun L σ r h => (by cases h), fun L σ r h => (by cases h), fun L σ r h => (by cases h)⟩
    | succ k ih =>
      intro hk
      replace ih := ih (by omega)
      refine ⟨?_, ?_, ?_, ?_, ?_, ?_, ?_, ?_, ?_, ?_, ?_, ?_, ?_, ?_, ?_, ?_, ?_, ?_⟩
      · intro L σ r h H locs ls hP hD hS hl
        rw [x_GV_0, s_begins_0] at h
        refine lv_aload_n hx hb dX12_begins_0 rfl (lv_at hl 0 rfl) ?_
        refine ng_56 hx hb hts in_x_begins hown hK hP (hts _ (List.mem_cons_of_mem _ (List.mem_append_left _ (List.mem_append_left _ (List.mem_of_getElem? (i := 13) rfl))))) dX12_begins_1 ?_
        refine lv_if_le (tgt := 8) hx hb dX12_begins_4 (by decide) (fun c1 => ?_) (fun c1 => ?_)
        · rw [if_pos c1] at h
          exact ih.2.1 L σ r h H locs ls hP hD hS (lv_sub hl [0, 1] rfl)
        · rw [if_neg c1] at h
          cases h
          exact W.vret hx hb hr (fun t ht hW => ⟨⟨(), rfl, trivial, by rw [ht]; exact hP, va_K.moved hW.alike hK, hD⟩, hS.F ht⟩) hS.2.2 dX12_begins_7
      · intro L σ r h H locs ls hP hD hS hl
        rw [x_GV_0, s_begins_1] at h
        refine lv_aload_n hx hb dX12_begins_8 rfl (lv_at hl 0 rfl) ?_
        refine ng_14 hx hb hts in_x_begins hown hK hP (hts _ (List.mem_cons_of_mem _ (List.mem_append_left _ (List.mem_append_left _ (List.mem_of_getElem? (i := 14) rfl))))) dX12_begins_9 ?_
        refine lv_iload_n hx hb dX12_begins_12 rfl (lv_at hl 1 rfl) ?_
        obtain ⟨q1, h⟩ := nb_ite1 h
        refine nl_4 hx hb hK hP q1 dX12_begins_13 ?_
        by_cases q2 : ((σ.2.2 4 ((L 1)).toNatClampNeg)) = (1 : Int32)
        · rw [if_pos q2] at h
          refine lv_tableIn (off := 74) (tgt := 88) hx hb dX12_begins_14 (by rw [q2]; decide) (by rw [q2]; decide) (by rw [q2]; decide) (by decide) ?_
          exact ih.2.2.1 L σ r h H locs ls hP hD hS (lv_sub hl [0, 1] rfl)
        · rw [if_neg q2] at h
          by_cases q3 : ((σ.2.2 4 ((L 1)).toNatClampNeg)) = (2 : Int32)
          · rw [if_pos q3] at h
            refine lv_tableIn (off := 106) (tgt := 120) hx hb dX12_begins_14 (by rw [q3]; decide) (by rw [q3]; decide) (by rw [q3]; decide) (by decide) ?_
            exact ih.2.2.2.1 L σ r h H locs ls hP hD hS (lv_sub hl [0, 1] rfl)
          · rw [if_neg q3] at h
            by_cases q4 : ((σ.2.2 4 ((L 1)).toNatClampNeg)) = (3 : Int32)
            · rw [if_pos q4] at h
              refine lv_tableIn (off := 142) (tgt := 156) hx hb dX12_begins_14 (by rw [q4]; decide) (by rw [q4]; decide) (by rw [q4]; decide) (by decide) ?_
              exact ih.2.2.2.2.1 L σ r h H locs ls hP hD hS (lv_sub hl [0, 1] rfl)
            · rw [if_neg q4] at h
              by_cases q5 : ((σ.2.2 4 ((L 1)).toNatClampNeg)) = (4 : Int32)
              · rw [if_pos q5] at h
                refine lv_tableIn (off := 148) (tgt := 162) hx hb dX12_begins_14 (by rw [q5]; decide) (by rw [q5]; decide) (by rw [q5]; decide) (by decide) ?_
                exact ih.2.2.2.2.2.1 L σ r h H locs ls hP hD hS (lv_sub hl [0, 1] rfl)
              · rw [if_neg q5] at h
                by_cases q6 : ((σ.2.2 4 ((L 1)).toNatClampNeg)) = (5 : Int32)
                · rw [if_pos q6] at h
                  refine lv_tableIn (off := 154) (tgt := 168) hx hb dX12_begins_14 (by rw [q6]; decide) (by rw [q6]; decide) (by rw [q6]; decide) (by decide) ?_
                  exact ih.2.2.2.2.2.2.1 L σ r h H locs ls hP hD hS (lv_sub hl [0, 1] rfl)
                · rw [if_neg q6] at h
                  by_cases q7 : ((σ.2.2 4 ((L 1)).toNatClampNeg)) = (6 : Int32)
                  · rw [if_pos q7] at h
                    refine lv_tableIn (off := 160) (tgt := 174) hx hb dX12_begins_14 (by rw [q7]; decide) (by rw [q7]; decide) (by rw [q7]; decide) (by decide) ?_
                    exact ih.2.2.2.2.2.2.2.1 L σ r h H locs ls hP hD hS (lv_sub hl [0, 1] rfl)
                  · rw [if_neg q7] at h
                    by_cases q8 : ((σ.2.2 4 ((L 1)).toNatClampNeg)) = (7 : Int32)
                    · rw [if_pos q8] at h
                      refine lv_tableIn (off := 180) (tgt := 194) hx hb dX12_begins_14 (by rw [q8]; decide) (by rw [q8]; decide) (by rw [q8]; decide) (by decide) ?_
                      exact ih.2.2.2.2.2.2.2.2.1 L σ r h H locs ls hP hD hS (lv_sub hl [0, 1] rfl)
                    · rw [if_neg q8] at h
                      by_cases q9 : ((σ.2.2 4 ((L 1)).toNatClampNeg)) = (8 : Int32)
                      · rw [if_pos q9] at h
                        refine lv_tableIn (off := 190) (tgt := 204) hx hb dX12_begins_14 (by rw [q9]; decide) (by rw [q9]; decide) (by rw [q9]; decide) (by decide) ?_
                        exact ih.2.2.2.2.2.2.2.2.2.1 L σ r h H locs ls hP hD hS (lv_sub hl [0, 1] rfl)
                      · rw [if_neg q9] at h
                        by_cases q10 : ((σ.2.2 4 ((L 1)).toNatClampNeg)) = (9 : Int32)
                        · rw [if_pos q10] at h
                          refine lv_tableIn (off := 232) (tgt := 246) hx hb dX12_begins_14 (by rw [q10]; decide) (by rw [q10]; decide) (by rw [q10]; decide) (by decide) ?_
                          exact ih.2.2.2.2.2.2.2.2.2.2.2.2.2.2.2.2.1 L σ r h H locs ls hP hD hS (lv_sub hl [0, 1] rfl)
                        · rw [if_neg q10] at h
                          by_cases q11 : ((σ.2.2 4 ((L 1)).toNatClampNeg)) = (10 : Int32)
                          · rw [if_pos q11] at h
                            refine lv_tableIn (off := 196) (tgt := 210) hx hb dX12_begins_14 (by rw [q11]; decide) (by rw [q11]; decide) (by rw [q11]; decide) (by decide) ?_
                            exact ih.2.2.2.2.2.2.2.2.2.2.1 L σ r h H locs ls hP hD hS (lv_sub hl [0, 1] rfl)
                          · rw [if_neg q11] at h
                            by_cases q12 : ((σ.2.2 4 ((L 1)).toNatClampNeg)) = (11 : Int32)
                            · rw [if_pos q12] at h
                              refine lv_tableIn (off := 202) (tgt := 216) hx hb dX12_begins_14 (by rw [q12]; decide) (by rw [q12]; decide) (by rw [q12]; decide) (by decide) ?_
                              exact ih.2.2.2.2.2.2.2.2.2.2.2.1 L σ r h H locs ls hP hD hS (lv_sub hl [0, 1] rfl)
                            · rw [if_neg q12] at h
                              by_cases q13 : ((σ.2.2 4 ((L 1)).toNatClampNeg)) = (12 : Int32)
                              · rw [if_pos q13] at h
                                refine lv_tableIn (off := 226) (tgt := 240) hx hb dX12_begins_14 (by rw [q13]; decide) (by rw [q13]; decide) (by rw [q13]; decide) (by decide) ?_
                                exact ih.2.2.2.2.2.2.2.2.2.2.2.2.2.2.2.1 L σ r h H locs ls hP hD hS (lv_sub hl [0, 1] rfl)
                              · rw [if_neg q13] at h
                                by_cases q14 : ((σ.2.2 4 ((L 1)).toNatClampNeg)) = (13 : Int32)
                                · rw [if_pos q14] at h
                                  refine lv_tableIn (off := 208) (tgt := 222) hx hb dX12_begins_14 (by rw [q14]; decide) (by rw [q14]; decide) (by rw [q14]; decide) (by decide) ?_
                                  exact ih.2.2.2.2.2.2.2.2.2.2.2.2.1 L σ r h H locs ls hP hD hS (lv_sub hl [0, 1] rfl)
                                · rw [if_neg q14] at h
                                  by_cases q15 : ((σ.2.2 4 ((L 1)).toNatClampNeg)) = (14 : Int32)
                                  · rw [if_pos q15] at h
                                    refine lv_tableIn (off := 214) (tgt := 228) hx hb dX12_begins_14 (by rw [q15]; decide) (by rw [q15]; decide) (by rw [q15]; decide) (by decide) ?_
                                    exact ih.2.2.2.2.2.2.2.2.2.2.2.2.2.1 L σ r h H locs ls hP hD hS (lv_sub hl [0, 1] rfl)
                                  · rw [if_neg q15] at h
                                    by_cases q16 : ((σ.2.2 4 ((L 1)).toNatClampNeg)) = (15 : Int32)
                                    · rw [if_pos q16] at h
                                      refine lv_tableIn (off := 220) (tgt := 234) hx hb dX12_begins_14 (by rw [q16]; decide) (by rw [q16]; decide) (by rw [q16]; decide) (by decide) ?_
                                      exact ih.2.2.2.2.2.2.2.2.2.2.2.2.2.2.1 L σ r h H locs ls hP hD hS (lv_sub hl [0, 1] rfl)
                                    · rw [if_neg q16] at h
                                      have nq2 : ¬ ((σ.2.2 4 ((L 1)).toNatClampNeg)).toInt = 1 := nb_ti q2 rfl
                                      have nq3 : ¬ ((σ.2.2 4 ((L 1)).toNatClampNeg)).toInt = 2 := nb_ti q3 rfl
                                      have nq4 : ¬ ((σ.2.2 4 ((L 1)).toNatClampNeg)).toInt = 3 := nb_ti q4 rfl
                                      have nq5 : ¬ ((σ.2.2 4 ((L 1)).toNatClampNeg)).toInt = 4 := nb_ti q5 rfl
                                      have nq6 : ¬ ((σ.2.2 4 ((L 1)).toNatClampNeg)).toInt = 5 := nb_ti q6 rfl
                                      have nq7 : ¬ ((σ.2.2 4 ((L 1)).toNatClampNeg)).toInt = 6 := nb_ti q7 rfl
                                      have nq8 : ¬ ((σ.2.2 4 ((L 1)).toNatClampNeg)).toInt = 7 := nb_ti q8 rfl
                                      have nq9 : ¬ ((σ.2.2 4 ((L 1)).toNatClampNeg)).toInt = 8 := nb_ti q9 rfl
                                      have nq10 : ¬ ((σ.2.2 4 ((L 1)).toNatClampNeg)).toInt = 9 := nb_ti q10 rfl
                                      have nq11 : ¬ ((σ.2.2 4 ((L 1)).toNatClampNeg)).toInt = 10 := nb_ti q11 rfl
                                      have nq12 : ¬ ((σ.2.2 4 ((L 1)).toNatClampNeg)).toInt = 11 := nb_ti q12 rfl
                                      have nq13 : ¬ ((σ.2.2 4 ((L 1)).toNatClampNeg)).toInt = 12 := nb_ti q13 rfl
                                      have nq14 : ¬ ((σ.2.2 4 ((L 1)).toNatClampNeg)).toInt = 13 := nb_ti q14 rfl
                                      have nq15 : ¬ ((σ.2.2 4 ((L 1)).toNatClampNeg)).toInt = 14 := nb_ti q15 rfl
                                      have nq16 : ¬ ((σ.2.2 4 ((L 1)).toNatClampNeg)).toInt = 15 := nb_ti q16 rfl
                                      refine lv_tableOut (tgt := 246) hx hb dX12_begins_14 (by omega) (by decide) ?_
                                      exact ih.2.2.2.2.2.2.2.2.2.2.2.2.2.2.2.2.1 L σ r h H locs ls hP hD hS (lv_sub hl [0, 1] rfl)
      · intro L σ r h H locs ls hP hD hS hl
        rw [x_GV_0, s_begins_2] at h
        refine lv_aload_n hx hb dX12_begins_88 rfl (lv_at hl 0 rfl) ?_
        refine lv_ldcw (v := 780000) hx hb hown (hts _ (List.mem_cons_of_mem _ (List.mem_append_left _ (List.mem_append_left _ (List.mem_of_getElem? (i := 15) rfl))))) dX12_begins_89 ?_
        obtain ⟨r1, hc1, h⟩ := ob_ex h
        refine nc_Vv (As := [.int 780000]) (rest := []) ⟨hx, hb, hml, hown, hts⟩ (c_x_sweep l dC dI cy a k (upd (fun _ => 0) 1 780000) σ r1 hc1 H.size) (cwV 1 hts g_x_begins_sweep_585 rfl rfl rfl hd_x_sweep (by show 3 + 1 ≤ 57 + d ∧ 8 + (5 + 11) + 70 ≤ 1375 + 27 * d; omega)) hK hG hA hP hD hS rfl hl.1 rfl (Nat.le_of_ble_eq_true rfl) dX12_begins_92 ⟨Nat.le_refl _, Nat.le_refl _⟩ (fun H locs hP hD hS => ?_)
        refine lv_aload_n hx hb dX12_begins_95 rfl (lv_at hl 0 rfl) ?_
        refine lv_aload_n hx hb dX12_begins_96 rfl (lv_at hl 0 rfl) ?_
        refine lv_aload_n hx hb dX12_begins_97 rfl (lv_at hl 0 rfl) ?_
        refine lv_aload_n hx hb dX12_begins_98 rfl (lv_at hl 0 rfl) ?_
        refine ng_15 hx hb hts in_x_begins hown hK hP (hts _ (List.mem_cons_of_mem _ (List.mem_append_left _ (List.mem_append_left _ (List.mem_of_getElem? (i := 20) rfl))))) dX12_begins_99 ?_
        refine lv_iload_n hx hb dX12_begins_102 rfl (lv_at hl 1 rfl) ?_
        obtain ⟨q2, h⟩ := nb_ite1 h
        refine nl_5 hx hb hK hP q2 dX12_begins_103 ?_
        refine lv_aload_n hx hb dX12_begins_104 rfl (lv_at hl 0 rfl) ?_
        refine ng_16 hx hb hts in_x_begins hown hK hP (hts _ (List.mem_cons_of_mem _ (List.mem_append_left _ (List.mem_append_left _ (List.mem_of_getElem? (i := 21) rfl))))) dX12_begins_105 ?_
        refine lv_iload_n hx hb dX12_begins_108 rfl (lv_at hl 1 rfl) ?_
        obtain ⟨q3, h⟩ := nb_ite1 h
        refine nl_6 hx hb hK hP q3 dX12_begins_109 ?_
        obtain ⟨r4, hc4, h⟩ := ob_ex h
        refine nc_Vi (As := [.int (r1.2.2.2 5 ((L 1)).toNatClampNeg), .int (r1.2.2.2 6 ((L 1)).toNatClampNeg)]) (rest := [.ref (a 0), .ref (a 0)]) ⟨hx, hb, hml, hown, hts⟩ (c_x_literal l dC dI cy a k (upd (upd (fun _ => 0) 1 ((r1.2.2.2 5 ((L 1)).toNatClampNeg))) 2 ((r1.2.2.2 6 ((L 1)).toNatClampNeg))) r1.2 r4 hc4 H.size) (cwV 2 hts g_x_begins_literal_588 rfl rfl rfl hd_x_literal (by show 3 + 1 ≤ 57 + d ∧ 8 + (7 + 11) + 67 ≤ 1375 + 27 * d; omega)) hK hG hA hP hD hS rfl hl.1 rfl (Nat.le_of_ble_eq_true rfl) dX12_begins_110 ⟨Nat.le_refl _, Nat.le_refl _⟩ (fun H locs hP hD hS => ?_)
        obtain ⟨r5, hc5, h⟩ := ob_ex h
        refine nc_Vi (As := [.int r4.1]) (rest := [.ref (a 0)]) ⟨hx, hb, hml, hown, hts⟩ (c_x_answer l dC dI cy a k (upd (fun _ => 0) 1 r4.1) r4.2 r5 hc5 H.size) (cwV 1 hts g_x_begins_answer_591 rfl rfl rfl hd_x_answer (by show 2 + 1 ≤ 57 + d ∧ 8 + (2 + 11) + 42 ≤ 1375 + 27 * d; omega)) hK hG hA hP hD hS rfl hl.1 rfl (Nat.le_of_ble_eq_true rfl) dX12_begins_113 ⟨Nat.le_refl _, Nat.le_refl _⟩ (fun H locs hP hD hS => ?_)
        obtain ⟨r6, hc6, h⟩ := ob_ex h
        refine nc_Vv (As := [.int r5.1]) (rest := []) ⟨hx, hb, hml, hown, hts⟩ (c_x_push l dC dI cy a k (upd (fun _ => 0) 1 r5.1) r5.2 r6 hc6 H.size) (cwV 1 hts g_x_begins_push_594 rfl rfl rfl hd_x_push (by show 0 + 1 ≤ 57 + d ∧ 8 + (2 + 11) + 0 ≤ 1375 + 27 * d; omega)) hK hG hA hP hD hS rfl hl.1 rfl (Nat.le_of_ble_eq_true rfl) dX12_begins_116 ⟨Nat.le_refl _, Nat.le_refl _⟩ (fun H locs hP hD hS => ?_)
        cases h
        exact W.vret hx hb hr (fun t ht hW => ⟨⟨(), rfl, trivial, by rw [ht]; exact hP, va_K.moved hW.alike hK, hD⟩, hS.F ht⟩) hS.2.2 dX12_begins_119
      · intro L σ r h H locs ls hP hD hS hl
        rw [x_GV_0, s_begins_3] at h
        refine lv_aload_n hx hb dX12_begins_120 rfl (lv_at hl 0 rfl) ?_
        refine lv_ldcw (v := 780000) hx hb hown (hts _ (List.mem_cons_of_mem _ (List.mem_append_left _ (List.mem_append_left _ (List.mem_of_getElem? (i := 15) rfl))))) dX12_begins_121 ?_
        obtain ⟨r1, hc1, h⟩ := ob_ex h
        refine nc_Vv (As := [.int 780000]) (rest := []) ⟨hx, hb, hml, hown, hts⟩ (c_x_sweep l dC dI cy a k (upd (fun _ => 0) 1 780000) σ r1 hc1 H.size) (cwV 1 hts g_x_begins_sweep_585 rfl rfl rfl hd_x_sweep (by show 3 + 1 ≤ 57 + d ∧ 8 + (5 + 11) + 70 ≤ 1375 + 27 * d; omega)) hK hG hA hP hD hS rfl hl.1 rfl (Nat.le_of_ble_eq_true rfl) dX12_begins_124 ⟨Nat.le_refl _, Nat.le_refl _⟩ (fun H locs hP hD hS => ?_)
        refine lv_aload_n hx hb dX12_begins_127 rfl (lv_at hl 0 rfl) ?_
        refine lv_aload_n hx hb dX12_begins_128 rfl (lv_at hl 0 rfl) ?_
        refine lv_aload_n hx hb dX12_begins_129 rfl (lv_at hl 0 rfl) ?_
        refine lv_aload_n hx hb dX12_begins_130 rfl (lv_at hl 0 rfl) ?_
        refine ng_23 hx hb hts in_x_begins hown hK hP (hts _ (List.mem_cons_of_mem _ (List.mem_append_left _ (List.mem_append_left _ (List.mem_of_getElem? (i := 31) rfl))))) dX12_begins_131 ?_
        refine lv_aload_n hx hb dX12_begins_134 rfl (lv_at hl 0 rfl) ?_
        refine ng_15 hx hb hts in_x_begins hown hK hP (hts _ (List.mem_cons_of_mem _ (List.mem_append_left _ (List.mem_append_left _ (List.mem_of_getElem? (i := 20) rfl))))) dX12_begins_135 ?_
        refine lv_iload_n hx hb dX12_begins_138 rfl (lv_at hl 1 rfl) ?_
        obtain ⟨q2, h⟩ := nb_ite1 h
        refine nl_5 hx hb hK hP q2 dX12_begins_139 ?_
        refine lv_aload_n hx hb dX12_begins_140 rfl (lv_at hl 0 rfl) ?_
        refine ng_16 hx hb hts in_x_begins hown hK hP (hts _ (List.mem_cons_of_mem _ (List.mem_append_left _ (List.mem_append_left _ (List.mem_of_getElem? (i := 21) rfl))))) dX12_begins_141 ?_
        refine lv_iload_n hx hb dX12_begins_144 rfl (lv_at hl 1 rfl) ?_
        obtain ⟨q3, h⟩ := nb_ite1 h
        refine nl_6 hx hb hK hP q3 dX12_begins_145 ?_
        obtain ⟨r4, hc4, h⟩ := ob_ex h
        refine nc_Vi (As := [.ref (a 12), .int (r1.2.2.2 5 ((L 1)).toNatClampNeg), .int (r1.2.2.2 6 ((L 1)).toNatClampNeg)]) (rest := [.ref (a 0), .ref (a 0)]) ⟨hx, hb, hml, hown, hts⟩ (c_x_stringOf__12 l dC dI cy a k (upd (upd (fun _ => 0) 2 ((r1.2.2.2 5 ((L 1)).toNatClampNeg))) 3 ((r1.2.2.2 6 ((L 1)).toNatClampNeg))) r1.2 r4 hc4 H.size) (cwV 3 hts g_x_begins_stringOf__12_597 rfl rfl rfl hd_x_stringOf__12 (by show 2 + 1 ≤ 57 + d ∧ 8 + (6 + 11) + 44 ≤ 1375 + 27 * d; omega)) hK hG hA hP hD hS rfl hl.1 rfl (Nat.le_of_ble_eq_true rfl) dX12_begins_146 ⟨Nat.le_refl _, Nat.le_refl _⟩ (fun H locs hP hD hS => ?_)
        obtain ⟨r5, hc5, h⟩ := ob_ex h
        refine nc_Vi (As := [.int r4.1]) (rest := [.ref (a 0)]) ⟨hx, hb, hml, hown, hts⟩ (c_x_answer l dC dI cy a k (upd (fun _ => 0) 1 r4.1) r4.2 r5 hc5 H.size) (cwV 1 hts g_x_begins_answer_591 rfl rfl rfl hd_x_answer (by show 2 + 1 ≤ 57 + d ∧ 8 + (2 + 11) + 42 ≤ 1375 + 27 * d; omega)) hK hG hA hP hD hS rfl hl.1 rfl (Nat.le_of_ble_eq_true rfl) dX12_begins_149 ⟨Nat.le_refl _, Nat.le_refl _⟩ (fun H locs hP hD hS => ?_)
        obtain ⟨r6, hc6, h⟩ := ob_ex h
        refine nc_Vv (As := [.int r5.1]) (rest := []) ⟨hx, hb, hml, hown, hts⟩ (c_x_push l dC dI cy a k (upd (fun _ => 0) 1 r5.1) r5.2 r6 hc6 H.size) (cwV 1 hts g_x_begins_push_594 rfl rfl rfl hd_x_push (by show 0 + 1 ≤ 57 + d ∧ 8 + (2 + 11) + 0 ≤ 1375 + 27 * d; omega)) hK hG hA hP hD hS rfl hl.1 rfl (Nat.le_of_ble_eq_true rfl) dX12_begins_152 ⟨Nat.le_refl _, Nat.le_refl _⟩ (fun H locs hP hD hS => ?_)
        cases h
        exact W.vret hx hb hr (fun t ht hW => ⟨⟨(), rfl, trivial, by rw [ht]; exact hP, va_K.moved hW.alike hK, hD⟩, hS.F ht⟩) hS.2.2 dX12_begins_155
      · intro L σ r h H locs ls hP hD hS hl
        rw [x_GV_0, s_begins_4] at h
        refine lv_aload_n hx hb dX12_begins_156 rfl (lv_at hl 0 rfl) ?_
        refine lv_iconst (v := 0) hx hb dX12_begins_157 (by decide) ?_
        obtain ⟨r1, hc1, h⟩ := ob_ex h
        refine nc_Vv (As := [.int 0]) (rest := []) ⟨hx, hb, hml, hown, hts⟩ (c_x_push l dC dI cy a k (upd (fun _ => 0) 1 0) σ r1 hc1 H.size) (cwV 1 hts g_x_begins_push_594 rfl rfl rfl hd_x_push (by show 0 + 1 ≤ 57 + d ∧ 8 + (2 + 11) + 0 ≤ 1375 + 27 * d; omega)) hK hG hA hP hD hS rfl hl.1 rfl (Nat.le_of_ble_eq_true rfl) dX12_begins_158 ⟨Nat.le_refl _, Nat.le_refl _⟩ (fun H locs hP hD hS => ?_)
        cases h
        exact W.vret hx hb hr (fun t ht hW => ⟨⟨(), rfl, trivial, by rw [ht]; exact hP, va_K.moved hW.alike hK, hD⟩, hS.F ht⟩) hS.2.2 dX12_begins_161
      · intro L σ r h H locs ls hP hD hS hl
        rw [x_GV_0, s_begins_5] at h
        refine lv_aload_n hx hb dX12_begins_162 rfl (lv_at hl 0 rfl) ?_
        refine lv_iconst (v := 2) hx hb dX12_begins_163 (by decide) ?_
        obtain ⟨r1, hc1, h⟩ := ob_ex h
        refine nc_Vv (As := [.int 2]) (rest := []) ⟨hx, hb, hml, hown, hts⟩ (c_x_push l dC dI cy a k (upd (fun _ => 0) 1 2) σ r1 hc1 H.size) (cwV 1 hts g_x_begins_push_594 rfl rfl rfl hd_x_push (by show 0 + 1 ≤ 57 + d ∧ 8 + (2 + 11) + 0 ≤ 1375 + 27 * d; omega)) hK hG hA hP hD hS rfl hl.1 rfl (Nat.le_of_ble_eq_true rfl) dX12_begins_164 ⟨Nat.le_refl _, Nat.le_refl _⟩ (fun H locs hP hD hS => ?_)
        cases h
        exact W.vret hx hb hr (fun t ht hW => ⟨⟨(), rfl, trivial, by rw [ht]; exact hP, va_K.moved hW.alike hK, hD⟩, hS.F ht⟩) hS.2.2 dX12_begins_167
      · intro L σ r h H locs ls hP hD hS hl
        rw [x_GV_0, s_begins_6] at h
        refine lv_aload_n hx hb dX12_begins_168 rfl (lv_at hl 0 rfl) ?_
        refine lv_iconst (v := 1) hx hb dX12_begins_169 (by decide) ?_
        obtain ⟨r1, hc1, h⟩ := ob_ex h
        refine nc_Vv (As := [.int 1]) (rest := []) ⟨hx, hb, hml, hown, hts⟩ (c_x_push l dC dI cy a k (upd (fun _ => 0) 1 1) σ r1 hc1 H.size) (cwV 1 hts g_x_begins_push_594 rfl rfl rfl hd_x_push (by show 0 + 1 ≤ 57 + d ∧ 8 + (2 + 11) + 0 ≤ 1375 + 27 * d; omega)) hK hG hA hP hD hS rfl hl.1 rfl (Nat.le_of_ble_eq_true rfl) dX12_begins_170 ⟨Nat.le_refl _, Nat.le_refl _⟩ (fun H locs hP hD hS => ?_)
        cases h
        exact W.vret hx hb hr (fun t ht hW => ⟨⟨(), rfl, trivial, by rw [ht]; exact hP, va_K.moved hW.alike hK, hD⟩, hS.F ht⟩) hS.2.2 dX12_begins_173
      · intro L σ r h H locs ls hP hD hS hl
        rw [x_GV_0, s_begins_7] at h
        refine lv_aload_n hx hb dX12_begins_174 rfl (lv_at hl 0 rfl) ?_
        refine lv_ldcw (v := 780000) hx hb hown (hts _ (List.mem_cons_of_mem _ (List.mem_append_left _ (List.mem_append_left _ (List.mem_of_getElem? (i := 15) rfl))))) dX12_begins_175 ?_
        obtain ⟨r1, hc1, h⟩ := ob_ex h
        refine nc_Vv (As := [.int 780000]) (rest := []) ⟨hx, hb, hml, hown, hts⟩ (c_x_sweep l dC dI cy a k (upd (fun _ => 0) 1 780000) σ r1 hc1 H.size) (cwV 1 hts g_x_begins_sweep_585 rfl rfl rfl hd_x_sweep (by show 3 + 1 ≤ 57 + d ∧ 8 + (5 + 11) + 70 ≤ 1375 + 27 * d; omega)) hK hG hA hP hD hS rfl hl.1 rfl (Nat.le_of_ble_eq_true rfl) dX12_begins_178 ⟨Nat.le_refl _, Nat.le_refl _⟩ (fun H locs hP hD hS => ?_)
        refine lv_aload_n hx hb dX12_begins_181 rfl (lv_at hl 0 rfl) ?_
        refine lv_aload_n hx hb dX12_begins_182 rfl (lv_at hl 0 rfl) ?_
        refine lv_aload_n hx hb dX12_begins_183 rfl (lv_at hl 0 rfl) ?_
        obtain ⟨r2, hc2, h⟩ := ob_ex h
        refine nc_Vi (As := []) (rest := [.ref (a 0), .ref (a 0)]) ⟨hx, hb, hml, hown, hts⟩ (c_x_newAtom l dC dI cy a k (fun _ => 0) r1.2 r2 hc2 H.size) (cwV 0 hts g_x_begins_newAtom_601 rfl rfl rfl hd_x_newAtom (by show 2 + 1 ≤ 57 + d ∧ 8 + (2 + 11) + 44 ≤ 1375 + 27 * d; omega)) hK hG hA hP hD hS rfl hl.1 rfl (Nat.le_of_ble_eq_true rfl) dX12_begins_184 ⟨Nat.le_refl _, Nat.le_refl _⟩ (fun H locs hP hD hS => ?_)
        obtain ⟨r3, hc3, h⟩ := ob_ex h
        refine nc_Vi (As := [.int r2.1]) (rest := [.ref (a 0)]) ⟨hx, hb, hml, hown, hts⟩ (c_x_answer l dC dI cy a k (upd (fun _ => 0) 1 r2.1) r2.2 r3 hc3 H.size) (cwV 1 hts g_x_begins_answer_591 rfl rfl rfl hd_x_answer (by show 2 + 1 ≤ 57 + d ∧ 8 + (2 + 11) + 42 ≤ 1375 + 27 * d; omega)) hK hG hA hP hD hS rfl hl.1 rfl (Nat.le_of_ble_eq_true rfl) dX12_begins_187 ⟨Nat.le_refl _, Nat.le_refl _⟩ (fun H locs hP hD hS => ?_)
        obtain ⟨r4, hc4, h⟩ := ob_ex h
        refine nc_Vv (As := [.int r3.1]) (rest := []) ⟨hx, hb, hml, hown, hts⟩ (c_x_push l dC dI cy a k (upd (fun _ => 0) 1 r3.1) r3.2 r4 hc4 H.size) (cwV 1 hts g_x_begins_push_594 rfl rfl rfl hd_x_push (by show 0 + 1 ≤ 57 + d ∧ 8 + (2 + 11) + 0 ≤ 1375 + 27 * d; omega)) hK hG hA hP hD hS rfl hl.1 rfl (Nat.le_of_ble_eq_true rfl) dX12_begins_190 ⟨Nat.le_refl _, Nat.le_refl _⟩ (fun H locs hP hD hS => ?_)
        cases h
        exact W.vret hx hb hr (fun t ht hW => ⟨⟨(), rfl, trivial, by rw [ht]; exact hP, va_K.moved hW.alike hK, hD⟩, hS.F ht⟩) hS.2.2 dX12_begins_193
      · intro L σ r h H locs ls hP hD hS hl
        rw [x_GV_0, s_begins_8] at h
        refine lv_aload_n hx hb dX12_begins_194 rfl (lv_at hl 0 rfl) ?_
        refine lv_aload_n hx hb dX12_begins_195 rfl (lv_at hl 0 rfl) ?_
        refine lv_iload_n hx hb dX12_begins_196 rfl (lv_at hl 1 rfl) ?_
        obtain ⟨r1, hc1, h⟩ := ob_ex h
        refine nc_Vi (As := [.int (L 1)]) (rest := [.ref (a 0)]) ⟨hx, hb, hml, hown, hts⟩ (c_x_valueOf l dC dI cy a k (upd (fun _ => 0) 1 ((L 1))) σ r1 hc1 H.size) (cwV 1 hts g_x_begins_valueOf_604 rfl rfl rfl hd_x_valueOf (by show 0 + 1 ≤ 57 + d ∧ 8 + (2 + 11) + 0 ≤ 1375 + 27 * d; omega)) hK hG hA hP hD hS rfl hl.1 rfl (Nat.le_of_ble_eq_true rfl) dX12_begins_197 ⟨Nat.le_refl _, Nat.le_refl _⟩ (fun H locs hP hD hS => ?_)
        obtain ⟨r2, hc2, h⟩ := ob_ex h
        refine nc_Vv (As := [.int r1.1]) (rest := []) ⟨hx, hb, hml, hown, hts⟩ (c_x_push l dC dI cy a k (upd (fun _ => 0) 1 r1.1) r1.2 r2 hc2 H.size) (cwV 1 hts g_x_begins_push_594 rfl rfl rfl hd_x_push (by show 0 + 1 ≤ 57 + d ∧ 8 + (2 + 11) + 0 ≤ 1375 + 27 * d; omega)) hK hG hA hP hD hS rfl hl.1 rfl (Nat.le_of_ble_eq_true rfl) dX12_begins_200 ⟨Nat.le_refl _, Nat.le_refl _⟩ (fun H locs hP hD hS => ?_)
        cases h
        exact W.vret hx hb hr (fun t ht hW => ⟨⟨(), rfl, trivial, by rw [ht]; exact hP, va_K.moved hW.alike hK, hD⟩, hS.F ht⟩) hS.2.2 dX12_begins_203
      · intro L σ r h H locs ls hP hD hS hl
        rw [x_GV_0, s_begins_9] at h
        refine lv_aload_n hx hb dX12_begins_204 rfl (lv_at hl 0 rfl) ?_
        refine lv_iload_n hx hb dX12_begins_205 rfl (lv_at hl 1 rfl) ?_
        obtain ⟨e1, he1, h⟩ := od_ex h
        obtain ⟨r1, hc1, h⟩ := ob_ex h
        refine nc_Vv (As := [.int (L 1)]) (rest := []) ⟨hx, hb, hml, hown, hts⟩ ((IH k (by omega)).2.2.1 e1 (upd (fun _ => 0) 1 ((L 1))) σ r1 hc1 H.size) (cwV 1 hts g_x_begins_callFunc_607 rfl rfl rfl hd_x_callFunc (by show (57 + e1) + 1 ≤ 57 + d ∧ 8 + (7 + 11) + (1375 + 27 * e1) ≤ 1375 + 27 * d; omega)) hK hG hA hP hD hS rfl hl.1 rfl (Nat.le_of_ble_eq_true rfl) dX12_begins_206 ⟨Nat.le_refl _, Nat.le_refl _⟩ (fun H locs hP hD hS => ?_)
        cases h
        exact W.vret hx hb hr (fun t ht hW => ⟨⟨(), rfl, trivial, by rw [ht]; exact hP, va_K.moved hW.alike hK, hD⟩, hS.F ht⟩) hS.2.2 dX12_begins_209
      · intro L σ r h H locs ls hP hD hS hl
        rw [x_GV_0, s_begins_10] at h
        refine lv_aload_n hx hb dX12_begins_210 rfl (lv_at hl 0 rfl) ?_
        refine lv_iload_n hx hb dX12_begins_211 rfl (lv_at hl 1 rfl) ?_
        obtain ⟨e1, he1, h⟩ := od_ex h
        obtain ⟨r1, hc1, h⟩ := ob_ex h
        refine nc_Vv (As := [.int (L 1)]) (rest := []) ⟨hx, hb, hml, hown, hts⟩ ((IH k (by omega)).2.2.2.2.2.2.2.2.2.2.2.1 e1 (upd (fun _ => 0) 1 ((L 1))) σ r1 hc1 H.size) (cwV 1 hts g_x_begins_setBrackets_610 rfl rfl rfl hd_x_setBrackets (by show (57 + e1) + 1 ≤ 57 + d ∧ 8 + (8 + 11) + (1375 + 27 * e1) ≤ 1375 + 27 * d; omega)) hK hG hA hP hD hS rfl hl.1 rfl (Nat.le_of_ble_eq_true rfl) dX12_begins_212 ⟨Nat.le_refl _, Nat.le_refl _⟩ (fun H locs hP hD hS => ?_)
        cases h
        exact W.vret hx hb hr (fun t ht hW => ⟨⟨(), rfl, trivial, by rw [ht]; exact hP, va_K.moved hW.alike hK, hD⟩, hS.F ht⟩) hS.2.2 dX12_begins_215
      · intro L σ r h H locs ls hP hD hS hl
        rw [x_GV_0, s_begins_11] at h
        refine lv_aload_n hx hb dX12_begins_216 rfl (lv_at hl 0 rfl) ?_
        refine lv_iload_n hx hb dX12_begins_217 rfl (lv_at hl 1 rfl) ?_
        obtain ⟨e1, he1, h⟩ := od_ex h
        obtain ⟨r1, hc1, h⟩ := ob_ex h
        refine nc_Vv (As := [.int (L 1)]) (rest := []) ⟨hx, hb, hml, hown, hts⟩ ((IH k (by omega)).2.2.2.2.2.2.2.2.2.2.2.2 e1 (upd (fun _ => 0) 1 ((L 1))) σ r1 hc1 H.size) (cwV 1 hts g_x_begins_tupleBrackets_613 rfl rfl rfl hd_x_tupleBrackets (by show (57 + e1) + 1 ≤ 57 + d ∧ 8 + (8 + 11) + (1375 + 27 * e1) ≤ 1375 + 27 * d; omega)) hK hG hA hP hD hS rfl hl.1 rfl (Nat.le_of_ble_eq_true rfl) dX12_begins_218 ⟨Nat.le_refl _, Nat.le_refl _⟩ (fun H locs hP hD hS => ?_)
        cases h
        exact W.vret hx hb hr (fun t ht hW => ⟨⟨(), rfl, trivial, by rw [ht]; exact hP, va_K.moved hW.alike hK, hD⟩, hS.F ht⟩) hS.2.2 dX12_begins_221
      · intro L σ r h H locs ls hP hD hS hl
        rw [x_GV_0, s_begins_12] at h
        refine lv_aload_n hx hb dX12_begins_222 rfl (lv_at hl 0 rfl) ?_
        refine lv_iload_n hx hb dX12_begins_223 rfl (lv_at hl 1 rfl) ?_
        obtain ⟨e1, he1, h⟩ := od_ex h
        obtain ⟨r1, hc1, h⟩ := ob_ex h
        refine nc_Vv (As := [.int (L 1)]) (rest := []) ⟨hx, hb, hml, hown, hts⟩ ((IH k (by omega)).2.2.2.2.2.1 e1 (upd (fun _ => 0) 1 ((L 1))) σ r1 hc1 H.size) (cwV 1 hts g_x_begins_former_616 rfl rfl rfl hd_x_former (by show (57 + e1) + 1 ≤ 57 + d ∧ 8 + (5 + 11) + (1375 + 27 * e1) ≤ 1375 + 27 * d; omega)) hK hG hA hP hD hS rfl hl.1 rfl (Nat.le_of_ble_eq_true rfl) dX12_begins_224 ⟨Nat.le_refl _, Nat.le_refl _⟩ (fun H locs hP hD hS => ?_)
        cases h
        exact W.vret hx hb hr (fun t ht hW => ⟨⟨(), rfl, trivial, by rw [ht]; exact hP, va_K.moved hW.alike hK, hD⟩, hS.F ht⟩) hS.2.2 dX12_begins_227
      · intro L σ r h H locs ls hP hD hS hl
        rw [x_GV_0, s_begins_13] at h
        refine lv_aload_n hx hb dX12_begins_228 rfl (lv_at hl 0 rfl) ?_
        refine lv_iload_n hx hb dX12_begins_229 rfl (lv_at hl 1 rfl) ?_
        obtain ⟨e1, he1, h⟩ := od_ex h
        obtain ⟨r1, hc1, h⟩ := ob_ex h
        refine nc_Vv (As := [.int (L 1)]) (rest := []) ⟨hx, hb, hml, hown, hts⟩ ((IH k (by omega)).2.2.2.2.2.2.2.2.2.2.1 e1 (upd (fun _ => 0) 1 ((L 1))) σ r1 hc1 H.size) (cwV 1 hts g_x_begins_quantify_619 rfl rfl rfl hd_x_quantify (by show (57 + e1) + 1 ≤ 57 + d ∧ 8 + (6 + 11) + (1375 + 27 * e1) ≤ 1375 + 27 * d; omega)) hK hG hA hP hD hS rfl hl.1 rfl (Nat.le_of_ble_eq_true rfl) dX12_begins_230 ⟨Nat.le_refl _, Nat.le_refl _⟩ (fun H locs hP hD hS => ?_)
        cases h
        exact W.vret hx hb hr (fun t ht hW => ⟨⟨(), rfl, trivial, by rw [ht]; exact hP, va_K.moved hW.alike hK, hD⟩, hS.F ht⟩) hS.2.2 dX12_begins_233
      · intro L σ r h H locs ls hP hD hS hl
        rw [x_GV_0, s_begins_14] at h
        refine lv_aload_n hx hb dX12_begins_234 rfl (lv_at hl 0 rfl) ?_
        refine lv_iload_n hx hb dX12_begins_235 rfl (lv_at hl 1 rfl) ?_
        obtain ⟨e1, he1, h⟩ := od_ex h
        obtain ⟨r1, hc1, h⟩ := ob_ex h
        refine nc_Vv (As := [.int (L 1)]) (rest := []) ⟨hx, hb, hml, hown, hts⟩ ((IH k (by omega)).2.2.2.1 e1 (upd (fun _ => 0) 1 ((L 1))) σ r1 hc1 H.size) (cwV 1 hts g_x_begins_choose_622 rfl rfl rfl hd_x_choose (by show (57 + e1) + 1 ≤ 57 + d ∧ 8 + (4 + 11) + (1375 + 27 * e1) ≤ 1375 + 27 * d; omega)) hK hG hA hP hD hS rfl hl.1 rfl (Nat.le_of_ble_eq_true rfl) dX12_begins_236 ⟨Nat.le_refl _, Nat.le_refl _⟩ (fun H locs hP hD hS => ?_)
        cases h
        exact W.vret hx hb hr (fun t ht hW => ⟨⟨(), rfl, trivial, by rw [ht]; exact hP, va_K.moved hW.alike hK, hD⟩, hS.F ht⟩) hS.2.2 dX12_begins_239
      · intro L σ r h H locs ls hP hD hS hl
        rw [x_GV_0, s_begins_15] at h
        refine lv_aload_n hx hb dX12_begins_240 rfl (lv_at hl 0 rfl) ?_
        refine lv_iload_n hx hb dX12_begins_241 rfl (lv_at hl 1 rfl) ?_
        obtain ⟨e1, he1, h⟩ := od_ex h
        obtain ⟨r1, hc1, h⟩ := ob_ex h
        refine nc_Vv (As := [.int (L 1)]) (rest := []) ⟨hx, hb, hml, hown, hts⟩ ((IH k (by omega)).2.1 e1 (upd (fun _ => 0) 1 ((L 1))) σ r1 hc1 H.size) (cwV 1 hts g_x_begins_bounds_625 rfl rfl rfl hd_x_bounds (by show (57 + e1) + 1 ≤ 57 + d ∧ 8 + (2 + 11) + (1375 + 27 * e1) ≤ 1375 + 27 * d; omega)) hK hG hA hP hD hS rfl hl.1 rfl (Nat.le_of_ble_eq_true rfl) dX12_begins_242 ⟨Nat.le_refl _, Nat.le_refl _⟩ (fun H locs hP hD hS => ?_)
        cases h
        exact W.vret hx hb hr (fun t ht hW => ⟨⟨(), rfl, trivial, by rw [ht]; exact hP, va_K.moved hW.alike hK, hD⟩, hS.F ht⟩) hS.2.2 dX12_begins_245
      · intro L σ r h H locs ls hP hD hS hl
        rw [x_GV_0, s_begins_16] at h
        refine lv_aload_n hx hb dX12_begins_246 rfl (lv_at hl 0 rfl) ?_
        refine lv_aload_n hx hb dX12_begins_247 rfl (lv_at hl 0 rfl) ?_
        refine ng_16 hx hb hts in_x_begins hown hK hP (hts _ (List.mem_cons_of_mem _ (List.mem_append_left _ (List.mem_append_left _ (List.mem_of_getElem? (i := 21) rfl))))) dX12_begins_248 ?_
        refine lv_iload_n hx hb dX12_begins_251 rfl (lv_at hl 1 rfl) ?_
        obtain ⟨q1, h⟩ := nb_ite1 h
        refine nl_6 hx hb hK hP q1 dX12_begins_252 ?_
        obtain ⟨e2, he2, h⟩ := od_ex h
        obtain ⟨r2, hc2, h⟩ := ob_ex h
        refine nc_Vv (As := [.int (σ.2.2 6 ((L 1)).toNatClampNeg)]) (rest := []) ⟨hx, hb, hml, hown, hts⟩ ((IH k (by omega)).2.2.2.2.1 e2 (upd (fun _ => 0) 1 ((σ.2.2 6 ((L 1)).toNatClampNeg))) σ r2 hc2 H.size) (cwV 1 hts g_x_begins_eval_566 rfl rfl rfl hd_x_eval (by show (57 + e2) + 1 ≤ 57 + d ∧ 8 + (3 + 11) + (1375 + 27 * e2) ≤ 1375 + 27 * d; omega)) hK hG hA hP hD hS rfl hl.1 rfl (Nat.le_of_ble_eq_true rfl) dX12_begins_253 ⟨Nat.le_refl _, Nat.le_refl _⟩ (fun H locs hP hD hS => ?_)
        refine lv_aload_n hx hb dX12_begins_256 rfl (lv_at hl 0 rfl) ?_
        refine ng_56 hx hb hts in_x_begins hown hK hP (hts _ (List.mem_cons_of_mem _ (List.mem_append_left _ (List.mem_append_left _ (List.mem_of_getElem? (i := 13) rfl))))) dX12_begins_257 ?_
        refine lv_if_ne (tgt := 287) hx hb dX12_begins_260 (by decide) (fun c3 => ?_) (fun c3 => ?_)
        · rw [if_neg c3] at h
          exact ih.2.2.2.2.2.2.2.2.2.2.2.2.2.2.2.2.2 L r2.2 r h H locs ls hP hD hS (lv_sub hl [0, 1] rfl)
        · rw [if_pos c3] at h
          refine lv_aload_n hx hb dX12_begins_263 rfl (lv_at hl 0 rfl) ?_
          refine lv_ldcw (v := 780000) hx hb hown (hts _ (List.mem_cons_of_mem _ (List.mem_append_left _ (List.mem_append_left _ (List.mem_of_getElem? (i := 15) rfl))))) dX12_begins_264 ?_
          obtain ⟨r4, hc4, h⟩ := ob_ex h
          refine nc_Vv (As := [.int 780000]) (rest := []) ⟨hx, hb, hml, hown, hts⟩ (c_x_sweep l dC dI cy a k (upd (fun _ => 0) 1 780000) r2.2 r4 hc4 H.size) (cwV 1 hts g_x_begins_sweep_585 rfl rfl rfl hd_x_sweep (by show 3 + 1 ≤ 57 + d ∧ 8 + (5 + 11) + 70 ≤ 1375 + 27 * d; omega)) hK hG hA hP hD hS rfl hl.1 rfl (Nat.le_of_ble_eq_true rfl) dX12_begins_267 ⟨Nat.le_refl _, Nat.le_refl _⟩ (fun H locs hP hD hS => ?_)
          refine lv_aload_n hx hb dX12_begins_270 rfl (lv_at hl 0 rfl) ?_
          refine lv_aload_n hx hb dX12_begins_271 rfl (lv_at hl 0 rfl) ?_
          refine lv_aload_n hx hb dX12_begins_272 rfl (lv_at hl 0 rfl) ?_
          refine lv_iload_n hx hb dX12_begins_273 rfl (lv_at hl 1 rfl) ?_
          refine lv_aload_n hx hb dX12_begins_274 rfl (lv_at hl 0 rfl) ?_
          obtain ⟨r5, hc5, h⟩ := ob_ex h
          refine nc_Vi (As := []) (rest := [.int (L 1), .ref (a 0), .ref (a 0), .ref (a 0)]) ⟨hx, hb, hml, hown, hts⟩ (c_x_pop l dC dI cy a k (fun _ => 0) r4.2 r5 hc5 H.size) (cwV 0 hts g_x_begins_pop_572 rfl rfl rfl hd_x_pop (by show 0 + 1 ≤ 57 + d ∧ 8 + (1 + 11) + 0 ≤ 1375 + 27 * d; omega)) hK hG hA hP hD hS rfl hl.1 rfl (Nat.le_of_ble_eq_true rfl) dX12_begins_275 ⟨Nat.le_refl _, Nat.le_refl _⟩ (fun H locs hP hD hS => ?_)
          obtain ⟨r6, hc6, h⟩ := ob_ex h
          refine nc_Vi (As := [.int (L 1), .int r5.1]) (rest := [.ref (a 0), .ref (a 0)]) ⟨hx, hb, hml, hown, hts⟩ (c_x_single l dC dI cy a k (upd (upd (fun _ => 0) 1 ((L 1))) 2 r5.1) r5.2 r6 hc6 H.size) (cwV 2 hts g_x_begins_single_628 rfl rfl rfl hd_x_single (by show 56 + 1 ≤ 57 + d ∧ 8 + (3 + 11) + 1353 ≤ 1375 + 27 * d; omega)) hK hG hA hP hD hS rfl hl.1 rfl (Nat.le_of_ble_eq_true rfl) dX12_begins_278 ⟨Nat.le_refl _, Nat.le_refl _⟩ (fun H locs hP hD hS => ?_)
          obtain ⟨r7, hc7, h⟩ := ob_ex h
          refine nc_Vi (As := [.int r6.1]) (rest := [.ref (a 0)]) ⟨hx, hb, hml, hown, hts⟩ (c_x_answer l dC dI cy a k (upd (fun _ => 0) 1 r6.1) r6.2 r7 hc7 H.size) (cwV 1 hts g_x_begins_answer_591 rfl rfl rfl hd_x_answer (by show 2 + 1 ≤ 57 + d ∧ 8 + (2 + 11) + 42 ≤ 1375 + 27 * d; omega)) hK hG hA hP hD hS rfl hl.1 rfl (Nat.le_of_ble_eq_true rfl) dX12_begins_281 ⟨Nat.le_refl _, Nat.le_refl _⟩ (fun H locs hP hD hS => ?_)
          obtain ⟨r8, hc8, h⟩ := ob_ex h
          refine nc_Vv (As := [.int r7.1]) (rest := []) ⟨hx, hb, hml, hown, hts⟩ (c_x_push l dC dI cy a k (upd (fun _ => 0) 1 r7.1) r7.2 r8 hc8 H.size) (cwV 1 hts g_x_begins_push_594 rfl rfl rfl hd_x_push (by show 0 + 1 ≤ 57 + d ∧ 8 + (2 + 11) + 0 ≤ 1375 + 27 * d; omega)) hK hG hA hP hD hS rfl hl.1 rfl (Nat.le_of_ble_eq_true rfl) dX12_begins_284 ⟨Nat.le_refl _, Nat.le_refl _⟩ (fun H locs hP hD hS => ?_)
          exact ih.2.2.2.2.2.2.2.2.2.2.2.2.2.2.2.2.2 L r8.2 r h H locs ls hP hD hS (lv_sub hl [0, 1] rfl)
      · intro L σ r h H locs ls hP hD hS hl
        rw [x_GV_0, s_begins_17] at h
        cases h
        exact W.vret hx hb hr (fun t ht hW => ⟨⟨(), rfl, trivial, by rw [ht]; exact hP, va_K.moved hW.alike hK, hD⟩, hS.F ht⟩) hS.2.2 dX12_begins_287
  exact (blk k0 (Nat.le_refl _)).1 L0 σ0 r0 h0 s.heap [] ls hP hD hS hl

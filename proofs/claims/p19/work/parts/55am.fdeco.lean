/-! J7_fill_53178__a23 -/
def y_J7_fill_53178__a23 : Nat → Nat → LV → CS → Option (Int32 × CS)
  | 0, _, _, _ => none
  | k + 1, 0, L, σ => y_J7_fill_53178__a23 k 1 (lI (lI L 2 0) 3 ((Int32.ofNat 3780))) σ
  | k + 1, 1, L, σ => if ((L.1 3)) ≤ ((L.1 2)) then (y_J7_fill_53178__a23 k 2 L σ) else (if ¬ (((L.1 2)) < 0 ∨ 3780 ≤ ((L.1 2)).toNatClampNeg) then (y_J7_fill_53178__a23 k 1 (lI L 2 ((((L.1 2)) + 1))) (uA σ 23 ((L.1 2)).toNatClampNeg ((L.1 1)))) else none)
  | k + 1, 2, L, σ => some (0, σ)
  | _ + 1, _ + 3, _, _ => none
def o_y_J7_fill_53178__a23 : List Cond := []
theorem o_y_J7_fill_53178__a23_good : o_y_J7_fill_53178__a23.all goodWord = true := by decide +kernel
def p_y_J7_fill_53178__a23 : List Cond := o_y_J7_fill_53178__a23 ++ []
theorem p_y_J7_fill_53178__a23_good : p_y_J7_fill_53178__a23.all goodWord = true := nb_all2 o_y_J7_fill_53178__a23_good rfl
def w_y_J7_fill_53178__a23 : List Cond := .code yJ7_fill_53178 cJ7_fill_53178 4 none :: (p_y_J7_fill_53178__a23 ++ fC)
theorem w_y_J7_fill_53178__a23_good : w_y_J7_fill_53178__a23.all goodWord = true := nb_allc (by decide +kernel) (nb_all2 p_y_J7_fill_53178__a23_good fC_good)
theorem hd_y_J7_fill_53178__a23 : yJ7_fill_53178.cls ≠ "java/lang/invoke/MethodHandle" ∧ yJ7_fill_53178.cls ≠ "java/lang/invoke/VarHandle" ∧ (parseMethodDescriptor yJ7_fill_53178.desc).map (fun d => d.parameters.length) = some 2 := by decide +kernel
set_option maxHeartbeats 40000000 in
set_option maxRecDepth 100000 in
theorem c_y_J7_fill_53178__a23 (l : Launch) (dC : Nat → ClassId) (dI : Nat → Nat → Nat) (cy : Nat → ClassId) (a z : Nat → Nat) (k0 : Nat) (L0 : LV) (σ0 : CS) (r0 : Int32 × CS) (h0 : y_J7_fill_53178__a23 k0 0 L0 σ0 = some r0) (sz : Nat) : Met l yJ7_fill_53178 w_y_J7_fill_53178__a23 ({ frames := 0, cells := 0, slots := 0, locals := 0 }) (va_Pc [.ref (a 23), .int (L0.1 1)] (nIn (dC, dI) cy sz (vC cy a z σ0))) (va_Qv (fun _ : Unit => True) (fun _ t => nOut (dC, dI) cy (va_A (vC cy a z σ0) sz) (vC cy a z r0.2) t) (va_A (vC cy a z σ0) sz)) 0 0 (va_A (vC cy a z σ0) sz) := by
  refine Met.ofW (cc := cJ7_fill_53178) (maxL := 4) (ret := none) (by decide) rfl ?_
  intro p e s m args below meth c s₁ B hml hv
  obtain ⟨rfl, hsz, hP, hK, hD0, hG⟩ := hv
  have hx := B.exec
  have hb := B.bytes
  have hr := B.returns
  have hts := atoms_spec (ws := w_y_J7_fill_53178__a23) B.pre
  have hown : s.vm.findClass RJ7 = some m.cls := findClass_of_methodNamed B.named
  have hlocks := B.notSynchronized
  subst hsz
  have hD := hD0.self (sz := s.heap.size)
  generalize hAe : va_A (vC cy a z σ0) s.heap.size = A at hD ⊢
  have hA : ∀ q : Nat, s.heap.size ≤ q → A q := fun q h => by rw [← hAe]; exact Or.inr h
  have hS : va_S A s.heap s.heap [] := va_S.rf
  have hl := lv_entry ([.ref (a 23), .int (L0.1 1)]) (n := 4) (Nat.le_of_ble_eq_true rfl)
  rw [lg_entry_eq]
  generalize (lg_sl ([.ref (a 23), .int (L0.1 1)]) ++ List.replicate (4 - (lg_sl ([.ref (a 23), .int (L0.1 1)])).length) Slot.unset).toArray = ls at hl ⊢
  have hl : lv_has ls 4 [(0, .ref (a 23)), (1, .int (L0.1 1))] := hl
  have blk : ∀ k : Nat, (bC p l e (headSpec w_y_J7_fill_53178__a23 ({ frames := 0, cells := 0, slots := 0, locals := 0 })).room s m #[.ref (a 23), .int (L0.1 1)] below meth c dC dI cy a z A (kV dC dI cy a z A below #[.ref (a 23), .int (L0.1 1)] s) 4 (y_J7_fill_53178__a23 k 0) (fun L => [(0, .ref (a 23)), (1, .int (L.1 1))]) 0 (fun L => [])) ∧ (bC p l e (headSpec w_y_J7_fill_53178__a23 ({ frames := 0, cells := 0, slots := 0, locals := 0 })).room s m #[.ref (a 23), .int (L0.1 1)] below meth c dC dI cy a z A (kV dC dI cy a z A below #[.ref (a 23), .int (L0.1 1)] s) 4 (y_J7_fill_53178__a23 k 1) (fun L => [(0, .ref (a 23)), (1, .int (L.1 1)), (2, .int (L.1 2)), (3, .int (L.1 3))]) 5 (fun L => [])) ∧ (bC p l e (headSpec w_y_J7_fill_53178__a23 ({ frames := 0, cells := 0, slots := 0, locals := 0 })).room s m #[.ref (a 23), .int (L0.1 1)] below meth c dC dI cy a z A (kV dC dI cy a z A below #[.ref (a 23), .int (L0.1 1)] s) 4 (y_J7_fill_53178__a23 k 2) (fun L => []) 20 (fun L => [])) := by
    intro k
    induction k with
    | zero => exact ⟨fun L σ r h => (by cases h), fun L σ r h => (by cases h), fun L σ r h => (by cases h)⟩
    | succ k ih =>
      refine ⟨?_, ?_, ?_⟩
      · intro L σ r h H locs ls hP hD hS hl
        rw [y_J7_fill_53178__a23] at h
        refine lv_iconst (v := 0) hx hb dJ7_fill_53178_0 (by decide) ?_
        refine lv_istore_n (lv' := [(2, .int 0), (0, .ref (a 23)), (1, .int (L.1 1))]) hx hb dJ7_fill_53178_1 rfl hl (by decide) rfl (fun ls hl => ?_)
        refine lv_aload_n hx hb dJ7_fill_53178_2 rfl (lv_at hl 1 rfl) ?_
        refine hn_23 hx hb hK hP dJ7_fill_53178_3 ?_
        refine lv_istore_n (lv' := [(3, .int (Int32.ofNat 3780)), (2, .int 0), (0, .ref (a 23)), (1, .int (L.1 1))]) hx hb dJ7_fill_53178_4 rfl hl (by decide) rfl (fun ls hl => ?_)
        exact ih.2.1 (lI (lI L 2 0) 3 ((Int32.ofNat 3780))) σ r h H locs ls hP hD hS (lv_sub hl [2, 3, 1, 0] rfl)
      · intro L σ r h H locs ls hP hD hS hl
        rw [y_J7_fill_53178__a23] at h
        refine lv_iload_n hx hb dJ7_fill_53178_5 rfl (lv_at hl 2 rfl) ?_
        refine lv_iload_n hx hb dJ7_fill_53178_6 rfl (lv_at hl 3 rfl) ?_
        refine lv_icmp_ge (tgt := 20) hx hb dJ7_fill_53178_7 (by decide) (fun c1 => ?_) (fun c1 => ?_)
        · rw [if_pos c1] at h
          exact ih.2.2 L σ r h H locs ls hP hD hS (lv_sub hl [] rfl)
        · rw [if_neg c1] at h
          refine lv_aload_n hx hb dJ7_fill_53178_10 rfl (lv_at hl 0 rfl) ?_
          refine lv_iload_n hx hb dJ7_fill_53178_11 rfl (lv_at hl 2 rfl) ?_
          refine lv_iload_n hx hb dJ7_fill_53178_12 rfl (lv_at hl 1 rfl) ?_
          obtain ⟨q2, h⟩ := kb_ite1 h
          refine hs_23 hx hb hK hP hD hS q2 dJ7_fill_53178_13 (fun H locs hP hD hS => ?_)
          refine lv_iinc (v := ((L.1 2)) + 1) (lv' := [(2, .int (((L.1 2)) + 1)), (0, .ref (a 23)), (1, .int (L.1 1)), (3, .int (L.1 3))]) hx hb dJ7_fill_53178_14 hl (k := 2) rfl rfl (by decide) rfl (fun ls hl => ?_)
          refine lv_goto (tgt := 5) hx hb dJ7_fill_53178_17 (by decide) ?_
          exact ih.2.1 (lI L 2 ((((L.1 2)) + 1))) (uA σ 23 ((L.1 2)).toNatClampNeg ((L.1 1))) r h H locs ls hP hD hS (lv_sub hl [1, 2, 0, 3] rfl)
      · intro L σ r h H locs ls hP hD hS hl
        rw [y_J7_fill_53178__a23] at h
        obtain rfl := Option.some.inj h
        exact W.vret hx hb hr (fun t ht hW => ⟨⟨(), rfl, trivial, by rw [ht]; exact hP, va_K.moved hW.alike hK, hD⟩, hS.F ht⟩) hS.2.2 dJ7_fill_53178_20
  exact (blk k0).1 L0 σ0 r0 h0 s.heap [] ls hP hD hS hl
/-! X3_advance -/
def f_X3_advance : Nat → Nat → LV → CS → Option RS
  | 0, _, _, _ => none
  | k + 1, 0, L, σ => oN (sPr σ) (f_X3_advance k 1 L σ) (if ((σ.1 1907)) = 0 then (f_X3_advance k 2 L σ) else (f_X3_advance k 1 L σ))
  | k + 1, 1, L, σ => some ((0, 0), σ, (0, 0))
  | k + 1, 2, L, σ => op (y_X9_expect k 0 (lI (lI lZ 1 (((uI σ 1814 ((L.1 1))).1 1903))) 2 ((L.1 1))) (uI σ 1814 ((L.1 1)))) (fun r1 => ox (f_X3_execute k 0 lZ r1.2) (fun r2 => if ((r2.2.1.1 1813)) = 0 then (f_X3_advance k 3 L r2.2.1) else (op (y_J7_fill_53178__a23 k 0 (lI lZ 1 ((-2147483648))) r2.2.1) (fun r4 => f_X3_advance k 4 L (uI r4.2 1906 ((r4.2.1 1813)))))))
  | k + 1, 3, L, σ => some ((0, 0), σ, (0, 0))
  | k + 1, 4, L, σ => oP (sPr (uI (uI σ 1907 2) 1901 0)) (fun b1 => if ¬ ((0 : Int32) < 0 ∨ 42 ≤ (0 : Int32).toNatClampNeg) then (f_X3_advance k 3 L (uI (uI (uI σ 1907 2) 1901 0) 1902 ((4 + (((uI (uI σ 1907 2) 1901 0).2.2.1 (pR18 b1) (0 : Int32).toNatClampNeg)))))) else none)
  | _ + 1, _ + 5, _, _ => none
def o_f_X3_advance : List Cond := [.fieldLink RX3 58 "SetHouse$Machine" "program" "LSetHouse$Program;", .fieldLink RX3 14 "SetHouse$Machine" "run" "LSetHouse$Run;", .fieldLink RX3 140 "SetHouse$Machine" "left" "I", .fieldLink RX3 35 "SetHouse$Machine" "saves" "LSetHouse$Saves;", .methodLink RX3 143 yX9_expect, .instanceMethod yX9_expect, .selects RX9 yX9_expect yX9_expect, .initialized RX9, .methodLink RX3 146 yX3_execute, .instanceMethod yX3_execute, .selects RX3 yX3_execute yX3_execute, .initialized RX3, .fieldLink RX3 149 "SetHouse$Machine" "trouble" "I", .fieldLink RX3 29 "SetHouse$Machine" "passing" "[I", .constant RX3 136 (-2147483648), .methodLink RX3 152 yJ7_fill_53178, .static yJ7_fill_53178, .initialized RJ7]
theorem o_f_X3_advance_good : o_f_X3_advance.all goodWord = true := by decide +kernel
def p_f_X3_advance : List Cond := o_f_X3_advance ++ ((.code yX9_expect cX9_expect 3 none :: p_y_X9_expect) ++ ((.code yX3_execute cX3_execute 7 none :: p_f_X3_execute) ++ ((.code yJ7_fill_53178 cJ7_fill_53178 4 none :: p_y_J7_fill_53178__a23) ++ [])))
theorem p_f_X3_advance_good : p_f_X3_advance.all goodWord = true := nb_all2 o_f_X3_advance_good (nb_all2 (nb_allc (by decide +kernel) p_y_X9_expect_good) (nb_all2 (nb_allc (by decide +kernel) p_f_X3_execute_good) (nb_all2 (nb_allc (by decide +kernel) p_y_J7_fill_53178__a23_good) rfl)))
def w_f_X3_advance : List Cond := .code yX3_advance cX3_advance 2 none :: (p_f_X3_advance ++ fC)
theorem w_f_X3_advance_good : w_f_X3_advance.all goodWord = true := nb_allc (by decide +kernel) (nb_all2 p_f_X3_advance_good fC_good)
theorem in_f_X3_advance_X3 : ∀ w ∈ wsX30, w ∈ w_f_X3_advance := fun _ h => List.mem_cons_of_mem _ (List.mem_append_right _ (List.mem_append_right _ (List.mem_append_right _ (List.mem_append_right _ (List.mem_append_left _ h)))))
theorem in_f_X3_advance_X7 : ∀ w ∈ wsX70, w ∈ w_f_X3_advance := fun _ h => List.mem_cons_of_mem _ (List.mem_append_right _ (List.mem_append_right _ (List.mem_append_right _ (List.mem_append_right _ (List.mem_append_right _ (List.mem_append_right _ (List.mem_append_right _ (List.mem_append_left _ h))))))))
theorem in_f_X3_advance_X8 : ∀ w ∈ wsX80, w ∈ w_f_X3_advance := fun _ h => List.mem_cons_of_mem _ (List.mem_append_right _ (List.mem_append_right _ (List.mem_append_right _ (List.mem_append_right _ (List.mem_append_right _ (List.mem_append_right _ (List.mem_append_right _ (List.mem_append_right _ (List.mem_append_left _ h)))))))))
theorem hd_f_X3_advance : yX3_advance.cls = RX3 ∧ yX3_advance.cls ≠ "java/lang/invoke/MethodHandle" ∧ yX3_advance.cls ≠ "java/lang/invoke/VarHandle" ∧ (parseMethodDescriptor yX3_advance.desc).map (fun d => d.parameters.length) = some 1 := by decide +kernel
theorem gg_f_X3_advance_X3_execute : GoodIn w_f_X3_advance w_f_X3_execute := goodIn_sub (fun w h => (List.mem_cons.mp h).elim (fun e => (List.mem_cons_of_mem _ (List.mem_append_left _ (List.mem_append_right _ (List.mem_append_right _ (List.mem_append_left _ (List.mem_cons.mpr (Or.inl e)))))))) (fun h => (List.mem_append.mp h).elim (fun h => (List.mem_cons_of_mem _ (List.mem_append_left _ (List.mem_append_right _ (List.mem_append_right _ (List.mem_append_left _ (List.mem_cons_of_mem _ h))))))) (fun h => List.mem_cons_of_mem _ (List.mem_append_right _ h)))) w_f_X3_execute_good
theorem g_f_X3_advance_X3_execute_V146 : GoodIn w_f_X3_advance (wsV RX3 146 RX3 yX3_execute w_f_X3_execute) := goodIn_app (nb_g4 (List.mem_cons_of_mem _ (List.mem_append_left _ (List.mem_append_left _ (List.mem_of_getElem? (i := 8) rfl)))) (List.mem_cons_of_mem _ (List.mem_append_left _ (List.mem_append_left _ (List.mem_of_getElem? (i := 9) rfl)))) (List.mem_cons_of_mem _ (List.mem_append_left _ (List.mem_append_left _ (List.mem_of_getElem? (i := 10) rfl)))) (List.mem_cons_of_mem _ (List.mem_append_left _ (List.mem_append_left _ (List.mem_of_getElem? (i := 11) rfl)))) (by decide +kernel)) gg_f_X3_advance_X3_execute
theorem gg_f_X3_advance_J7_fill_53178__a23 : GoodIn w_f_X3_advance w_y_J7_fill_53178__a23 := goodIn_sub (fun w h => (List.mem_cons.mp h).elim (fun e => (List.mem_cons_of_mem _ (List.mem_append_left _ (List.mem_append_right _ (List.mem_append_right _ (List.mem_append_right _ (List.mem_append_left _ (List.mem_cons.mpr (Or.inl e))))))))) (fun h => (List.mem_append.mp h).elim (fun h => (List.mem_cons_of_mem _ (List.mem_append_left _ (List.mem_append_right _ (List.mem_append_right _ (List.mem_append_right _ (List.mem_append_left _ (List.mem_cons_of_mem _ h)))))))) (fun h => List.mem_cons_of_mem _ (List.mem_append_right _ h)))) w_y_J7_fill_53178__a23_good
theorem g_y_X3_advance_J7_fill_53178__a23_S152 : GoodIn w_f_X3_advance (va_wsS RX3 152 yJ7_fill_53178 w_y_J7_fill_53178__a23) := goodIn_app (nb_g3 (List.mem_cons_of_mem _ (List.mem_append_left _ (List.mem_append_left _ (List.mem_of_getElem? (i := 15) rfl)))) (List.mem_cons_of_mem _ (List.mem_append_left _ (List.mem_append_left _ (List.mem_of_getElem? (i := 16) rfl)))) (List.mem_cons_of_mem _ (List.mem_append_left _ (List.mem_append_left _ (List.mem_of_getElem? (i := 17) rfl)))) (by decide +kernel)) gg_f_X3_advance_J7_fill_53178__a23
theorem gg_f_X3_advance_X9_expect : GoodIn w_f_X3_advance w_y_X9_expect := goodIn_sub (fun w h => (List.mem_cons.mp h).elim (fun e => (List.mem_cons_of_mem _ (List.mem_append_left _ (List.mem_append_right _ (List.mem_append_left _ (List.mem_cons.mpr (Or.inl e))))))) (fun h => (List.mem_append.mp h).elim (fun h => (List.mem_cons_of_mem _ (List.mem_append_left _ (List.mem_append_right _ (List.mem_append_left _ (List.mem_cons_of_mem _ h)))))) (fun h => List.mem_cons_of_mem _ (List.mem_append_right _ h)))) w_y_X9_expect_good
theorem g_y_X3_advance_X9_expect_V143 : GoodIn w_f_X3_advance (wsV RX3 143 RX9 yX9_expect w_y_X9_expect) := goodIn_app (nb_g4 (List.mem_cons_of_mem _ (List.mem_append_left _ (List.mem_append_left _ (List.mem_of_getElem? (i := 4) rfl)))) (List.mem_cons_of_mem _ (List.mem_append_left _ (List.mem_append_left _ (List.mem_of_getElem? (i := 5) rfl)))) (List.mem_cons_of_mem _ (List.mem_append_left _ (List.mem_append_left _ (List.mem_of_getElem? (i := 6) rfl)))) (List.mem_cons_of_mem _ (List.mem_append_left _ (List.mem_append_left _ (List.mem_of_getElem? (i := 7) rfl)))) (by decide +kernel)) gg_f_X3_advance_X9_expect
set_option maxHeartbeats 40000000 in
set_option maxRecDepth 100000 in
theorem c_f_X3_advance (l : Launch) (hl0 : l.stackTraces = false) (dC : Nat → ClassId) (dI : Nat → Nat → Nat) (cy : Nat → ClassId) (ek a : Nat → Nat) (k0 : Nat) (L0 : LV) (σ0 : CS) (r0 : RS) (h0 : f_X3_advance k0 0 L0 σ0 = some r0) (z : Nat → Nat) (sz : Nat) : vx_Met l yX3_advance w_f_X3_advance ({ frames := 89, cells := r0.2.2.1, slots := r0.2.2.2, locals := 2201 }) (va_Pc [.ref (a 18), .int (L0.1 1)] (nInF (dC, dI) cy ek sz (vC cy a z σ0))) (xV dC dI cy a (va_A (vC cy a z σ0) sz) [1, 2, 3, 20, 21, 22, 26] z r0) (xX dC dI cy a (va_A (vC cy a z σ0) sz) [1, 2, 3, 20, 21, 22, 26] z r0) r0.2.2.1 r0.2.2.2 (va_A (vC cy a z σ0) sz) := by
  refine vx_ofW (cc := cX3_advance) (maxL := 2) (ret := none) (by decide) rfl ?_
  intro p e s m args below meth c s₁ B hml hno hv
  obtain ⟨rfl, ⟨⟨hsz, hP, hK, hD0, hG⟩, hE⟩, hT⟩ := hv
  have hx := B.exec
  have hb := B.bytes
  have hr := B.returns
  have hts := atoms_spec (ws := w_f_X3_advance) B.pre
  have hown : s.vm.findClass RX3 = some m.cls := findClass_of_methodNamed B.named
  have hlocks := B.notSynchronized
  subst hsz
  have hD := hD0.self (sz := s.heap.size)
  generalize hAe : va_A (vC cy a z σ0) s.heap.size = A at hD hE hT ⊢
  have hA : ∀ q : Nat, s.heap.size ≤ q → A q := fun q h => by rw [← hAe]; exact Or.inr h
  have hS : va_S A s.heap s.heap [] := va_S.rf
  have hl := lv_entry ([.ref (a 18), .int (L0.1 1)]) (n := 2) (Nat.le_of_ble_eq_true rfl)
  rw [lg_entry_eq]
  generalize (lg_sl ([.ref (a 18), .int (L0.1 1)]) ++ List.replicate (2 - (lg_sl ([.ref (a 18), .int (L0.1 1)])).length) Slot.unset).toArray = ls at hl ⊢
  have hl : lv_has ls 2 [(0, .ref (a 18)), (1, .int (L0.1 1))] := hl
  generalize hmc : r0.2.2.1 = mc
  generalize hms : r0.2.2.2 = ms
  have blk : ∀ k : Nat, (bX p l e (headSpec w_f_X3_advance ({ frames := 89, cells := mc, slots := ms, locals := 2201 })).room s m #[.ref (a 18), .int (L0.1 1)] below meth c dC dI cy a A (fun r => vx_MQ below (xV dC dI cy a A [1, 2, 3, 20, 21, 22, 26] z r) (xX dC dI cy a A [1, 2, 3, 20, 21, 22, 26] z r) #[.ref (a 18), .int (L0.1 1)] s mc ms A) [1, 2, 3, 20, 21, 22, 26] z mc ms 2 (f_X3_advance k 0) (fun z L => [(0, .ref (a 18)), (1, .int (L.1 1))]) 0 (fun z L => [])) ∧ (bX p l e (headSpec w_f_X3_advance ({ frames := 89, cells := mc, slots := ms, locals := 2201 })).room s m #[.ref (a 18), .int (L0.1 1)] below meth c dC dI cy a A (fun r => vx_MQ below (xV dC dI cy a A [1, 2, 3, 20, 21, 22, 26] z r) (xX dC dI cy a A [1, 2, 3, 20, 21, 22, 26] z r) #[.ref (a 18), .int (L0.1 1)] s mc ms A) [1, 2, 3, 20, 21, 22, 26] z mc ms 2 (f_X3_advance k 1) (fun z L => []) 17 (fun z L => [])) ∧ (bX p l e (headSpec w_f_X3_advance ({ frames := 89, cells := mc, slots := ms, locals := 2201 })).room s m #[.ref (a 18), .int (L0.1 1)] below meth c dC dI cy a A (fun r => vx_MQ below (xV dC dI cy a A [1, 2, 3, 20, 21, 22, 26] z r) (xX dC dI cy a A [1, 2, 3, 20, 21, 22, 26] z r) #[.ref (a 18), .int (L0.1 1)] s mc ms A) [1, 2, 3, 20, 21, 22, 26] z mc ms 2 (f_X3_advance k 2) (fun z L => [(0, .ref (a 18)), (1, .int (L.1 1))]) 18 (fun z L => [])) ∧ (bX p l e (headSpec w_f_X3_advance ({ frames := 89, cells := mc, slots := ms, locals := 2201 })).room s m #[.ref (a 18), .int (L0.1 1)] below meth c dC dI cy a A (fun r => vx_MQ below (xV dC dI cy a A [1, 2, 3, 20, 21, 22, 26] z r) (xX dC dI cy a A [1, 2, 3, 20, 21, 22, 26] z r) #[.ref (a 18), .int (L0.1 1)] s mc ms A) [1, 2, 3, 20, 21, 22, 26] z mc ms 2 (f_X3_advance k 3) (fun z L => []) 103 (fun z L => [])) ∧ (bX p l e (headSpec w_f_X3_advance ({ frames := 89, cells := mc, slots := ms, locals := 2201 })).room s m #[.ref (a 18), .int (L0.1 1)] below meth c dC dI cy a A (fun r => vx_MQ below (xV dC dI cy a A [1, 2, 3, 20, 21, 22, 26] z r) (xX dC dI cy a A [1, 2, 3, 20, 21, 22, 26] z r) #[.ref (a 18), .int (L0.1 1)] s mc ms A) [1, 2, 3, 20, 21, 22, 26] z mc ms 2 (f_X3_advance k 4) (fun z L => [(0, .ref (a 18))]) 69 (fun z L => [])) := by
    intro k
    induction k with
    | zero => exact ⟨fun z c1 c2 L σ r h => (by cases h), fun z c1 c2 L σ r h => (by cases h), fun z c1 c2 L σ r h => (by cases h), fun z c1 c2 L σ r h => (by cases h), fun z c1 c2 L σ r h => (by cases h)⟩
    | succ k ih =>
      refine ⟨?_, ?_, ?_, ?_, ?_⟩
      · intro z cells slots L σ r h hzk hc hs H locs ls hP hD hS hl
        rw [f_X3_advance] at h
        refine lv_aload_n hx hb dX3_advance_0 rfl (lv_at hl 0 rfl) ?_
        cases hb1 : sPr σ with
        | none =>
          rw [oN_none hb1] at h
          refine hgn_18_6 hx hb hts in_f_X3_advance_X3 hown hK hP (hts _ (List.mem_cons_of_mem _ (List.mem_append_left _ (List.mem_append_left _ (List.mem_of_getElem? (i := 0) rfl))))) hb1 dX3_advance_1 ?_
          refine lv_ifnullN (tgt := 17) hx hb dX3_advance_4 (by decide) ?_
          exact ih.2.1 z _ _ L σ _ h hzk hc hs H locs ls hP hD hS (lv_sub hl [] rfl)
        | some b1 =>
          rw [oN_some hb1] at h
          refine hgq_18_6 hx hb hts in_f_X3_advance_X3 hown hK hP (hts _ (List.mem_cons_of_mem _ (List.mem_append_left _ (List.mem_append_left _ (List.mem_of_getElem? (i := 0) rfl))))) hb1 dX3_advance_1 ?_
          refine lv_ifnull hx hb dX3_advance_4 ?_
          refine lv_aload_n hx hb dX3_advance_7 rfl (lv_at hl 0 rfl) ?_
          refine hg_18_5 hx hb hts in_f_X3_advance_X3 hown hK hP (hts _ (List.mem_cons_of_mem _ (List.mem_append_left _ (List.mem_append_left _ (List.mem_of_getElem? (i := 1) rfl))))) dX3_advance_8 ?_
          refine hg_19_7n hx hb hts in_f_X3_advance_X8 hown hK hP (va_Nw.use rfl (hG.1 _ (List.mem_of_getElem? (i := 21) rfl))) dX3_advance_11 ?_
          refine lv_if_eq (tgt := 18) hx hb dX3_advance_14 (by decide) (fun c2 => ?_) (fun c2 => ?_)
          · rw [if_pos c2] at h
            exact ih.2.2.1 z _ _ L σ _ h hzk hc hs H locs ls hP hD hS (lv_sub hl [0, 1] rfl)
          · rw [if_neg c2] at h
            exact ih.2.1 z _ _ L σ _ h hzk hc hs H locs ls hP hD hS (lv_sub hl [] rfl)
      · intro z cells slots L σ r h hzk hc hs H locs ls hP hD hS hl
        rw [f_X3_advance] at h
        obtain rfl := Option.some.inj h
        subst hc
        subst hs
        exact xr_v hx hb hr hK hzk hP hD hS hlocks dX3_advance_17
      · intro z cells slots L σ r h hzk hc hs H locs ls hP hD hS hl
        rw [f_X3_advance] at h
        refine lv_aload_n hx hb dX3_advance_18 rfl (lv_at hl 0 rfl) ?_
        refine lv_iload_n hx hb dX3_advance_19 rfl (lv_at hl 1 rfl) ?_
        refine hp_18_14 hx hb hts in_f_X3_advance_X3 hown hK hP hD hS (hts _ (List.mem_cons_of_mem _ (List.mem_append_left _ (List.mem_append_left _ (List.mem_of_getElem? (i := 2) rfl))))) dX3_advance_20 (fun H locs hP hD hS => ?_)
        refine lv_aload_n hx hb dX3_advance_23 rfl (lv_at hl 0 rfl) ?_
        refine hg_18_18 hx hb hts in_f_X3_advance_X3 hown hK hP (hts _ (List.mem_cons_of_mem _ (List.mem_append_left _ (List.mem_append_left _ (List.mem_of_getElem? (i := 3) rfl))))) dX3_advance_24 ?_
        refine lv_aload_n hx hb dX3_advance_27 rfl (lv_at hl 0 rfl) ?_
        refine hg_18_5 hx hb hts in_f_X3_advance_X3 hown hK hP (hts _ (List.mem_cons_of_mem _ (List.mem_append_left _ (List.mem_append_left _ (List.mem_of_getElem? (i := 1) rfl))))) dX3_advance_28 ?_
        refine hg_19_3n hx hb hts in_f_X3_advance_X8 hown hK hP (va_Nw.use rfl (hG.1 _ (List.mem_of_getElem? (i := 12) rfl))) dX3_advance_31 ?_
        refine lv_iload_n hx hb dX3_advance_34 rfl (lv_at hl 1 rfl) ?_
        obtain ⟨r1, hc1, h⟩ := op_ex h
        refine kc_v (va_runV (As := [.int ((uI σ 1814 ((L.1 1))).1 1903), .int (L.1 1)]) (rest := []) ⟨hx, hb, hml, hown, hts⟩ (c_y_X9_expect l dC dI cy a z k (lI (lI lZ 1 (((uI σ 1814 ((L.1 1))).1 1903))) 2 ((L.1 1))) (uI σ 1814 ((L.1 1))) r1 hc1 H.size) (cwV 2 hts g_y_X3_advance_X9_expect_V143 rfl rfl rfl hd_y_X9_expect ⟨Nat.le_of_ble_eq_true rfl, Nat.le_of_ble_eq_true rfl⟩) ⟨nb_blind, va_recv hK hP (ci := 8) (q0 := 24) rfl rfl, (kb_pre hK hG hP hD)⟩ rfl rfl hl.1 rfl (lv_room (Nat.le_of_ble_eq_true rfl)) dX3_advance_35 ⟨(Nat.le_trans (Nat.le_add_right _ _) (Nat.le_of_eq hc)), (Nat.le_trans (Nat.le_add_right _ _) (Nat.le_of_eq hs))⟩) hA hP hD hS (fun H locs hP hD hS => ?_)
        refine lv_aload_n hx hb dX3_advance_38 rfl (lv_at hl 0 rfl) ?_
        obtain ⟨r2, hc2, hle2, h9⟩ := ox_ex h
        clear h
        refine kx_v (vx_runV (As := []) (rest := []) ⟨hx, hb, hml, hown, hts⟩ (c_f_X3_execute l hl0 dC dI cy ek a k lZ r1.2 r2 hc2 z H.size) (cwV 0 hts g_f_X3_advance_X3_execute_V146 rfl rfl rfl hd_f_X3_execute ⟨Nat.le_of_ble_eq_true rfl, Nat.le_of_ble_eq_true rfl⟩) ⟨nb_blindF, va_recv hK hP (ci := 3) (q0 := 18) rfl rfl, (kx_pre hK hG hE hT hA hP hD hS)⟩ rfl rfl hl.1 rfl (lv_room (Nat.le_of_ble_eq_true rfl)) dX3_advance_39 ⟨Nat.le_trans (Nat.add_le_add_left hle2.1 _) (Nat.le_of_eq hc), Nat.le_trans (Nat.add_le_add_left hle2.2 _) (Nat.le_of_eq hs)⟩) hK hA hzk hP hD hS (by decide) hno hlocks ?_
        rcases h9 with ⟨h00, y2, hny2, hy⟩ | ⟨h00, hy⟩
        · subst hy
          have h := hny2
          refine Or.inl ⟨h00, fun z H locs hz2 hzk hP hD hS => ?_⟩
          replace hc := (Nat.add_assoc _ _ _).trans hc
          replace hs := (Nat.add_assoc _ _ _).trans hs
          refine lv_aload_n hx hb dX3_advance_42 rfl (lv_at hl 0 rfl) ?_
          refine hg_18_13 hx hb hts in_f_X3_advance_X3 hown hK hP (hts _ (List.mem_cons_of_mem _ (List.mem_append_left _ (List.mem_append_left _ (List.mem_of_getElem? (i := 12) rfl))))) dX3_advance_43 ?_
          refine lv_if_eq (tgt := 103) hx hb dX3_advance_46 (by decide) (fun c3 => ?_) (fun c3 => ?_)
          · rw [if_pos c3] at h
            exact ih.2.2.2.1 z _ _ L r2.2.1 _ h hzk hc hs H locs ls hP hD hS (lv_sub hl [] rfl)
          · rw [if_neg c3] at h
            refine lv_aload_n hx hb dX3_advance_49 rfl (lv_at hl 0 rfl) ?_
            refine hg_18_10 hx hb hts in_f_X3_advance_X3 hown hK hP (hts _ (List.mem_cons_of_mem _ (List.mem_append_left _ (List.mem_append_left _ (List.mem_of_getElem? (i := 13) rfl))))) dX3_advance_50 ?_
            refine lv_ldc (v := (-2147483648)) hx hb hown (hts _ (List.mem_cons_of_mem _ (List.mem_append_left _ (List.mem_append_left _ (List.mem_of_getElem? (i := 14) rfl))))) dX3_advance_53 ?_
            obtain ⟨r4, hc4, h⟩ := op_ex h
            refine kc_v (va_runS (As := [.ref (a 23), .int (-2147483648)]) (rest := []) ⟨hx, hb, hml, hown, hts⟩ (c_y_J7_fill_53178__a23 l dC dI cy a z k (lI lZ 1 ((-2147483648))) r2.2.1 r4 hc4 H.size) (va_cwS 2 hts g_y_X3_advance_J7_fill_53178__a23_S152 rfl rfl rfl hd_y_J7_fill_53178__a23 ⟨Nat.le_of_ble_eq_true rfl, Nat.le_of_ble_eq_true rfl⟩) ⟨nb_blind, (kb_pre hK hG hP hD)⟩ rfl rfl hl.1 rfl (lv_room (Nat.le_of_ble_eq_true rfl)) dX3_advance_55 ⟨(Nat.le_trans (Nat.le_add_right _ _) (Nat.le_of_eq hc)), (Nat.le_trans (Nat.le_add_right _ _) (Nat.le_of_eq hs))⟩) hA hP hD hS (fun H locs hP hD hS => ?_)
            refine lv_aload_n hx hb dX3_advance_58 rfl (lv_at hl 0 rfl) ?_
            refine hg_18_5 hx hb hts in_f_X3_advance_X3 hown hK hP (hts _ (List.mem_cons_of_mem _ (List.mem_append_left _ (List.mem_append_left _ (List.mem_of_getElem? (i := 1) rfl))))) dX3_advance_59 ?_
            refine lv_aload_n hx hb dX3_advance_62 rfl (lv_at hl 0 rfl) ?_
            refine hg_18_13 hx hb hts in_f_X3_advance_X3 hown hK hP (hts _ (List.mem_cons_of_mem _ (List.mem_append_left _ (List.mem_append_left _ (List.mem_of_getElem? (i := 12) rfl))))) dX3_advance_63 ?_
            refine hp_19_6n hx hb hts in_f_X3_advance_X8 hown hK hP hD hS (va_Nw.use rfl (hG.1 _ (List.mem_of_getElem? (i := 19) rfl))) dX3_advance_66 (fun H locs hP hD hS => ?_)
            exact ih.2.2.2.2 z _ _ L (uI r4.2 1906 ((r4.2.1 1813))) _ h hzk hc hs H locs ls hP hD hS (lv_sub hl [0] rfl)
        · subst hy
          exact Or.inr ⟨h00, rfl, hc, hs⟩
      · intro z cells slots L σ r h hzk hc hs H locs ls hP hD hS hl
        rw [f_X3_advance] at h
        obtain rfl := Option.some.inj h
        subst hc
        subst hs
        exact xr_v hx hb hr hK hzk hP hD hS hlocks dX3_advance_103
      · intro z cells slots L σ r h hzk hc hs H locs ls hP hD hS hl
        rw [f_X3_advance] at h
        refine lv_aload_n hx hb dX3_advance_69 rfl (lv_at hl 0 rfl) ?_
        refine hg_18_5 hx hb hts in_f_X3_advance_X3 hown hK hP (hts _ (List.mem_cons_of_mem _ (List.mem_append_left _ (List.mem_append_left _ (List.mem_of_getElem? (i := 1) rfl))))) dX3_advance_70 ?_
        refine lv_iconst (v := 2) hx hb dX3_advance_73 (by decide) ?_
        refine hp_19_7n hx hb hts in_f_X3_advance_X8 hown hK hP hD hS (va_Nw.use rfl (hG.1 _ (List.mem_of_getElem? (i := 21) rfl))) dX3_advance_74 (fun H locs hP hD hS => ?_)
        refine lv_aload_n hx hb dX3_advance_77 rfl (lv_at hl 0 rfl) ?_
        refine hg_18_5 hx hb hts in_f_X3_advance_X3 hown hK hP (hts _ (List.mem_cons_of_mem _ (List.mem_append_left _ (List.mem_append_left _ (List.mem_of_getElem? (i := 1) rfl))))) dX3_advance_78 ?_
        refine lv_iconst (v := 0) hx hb dX3_advance_81 (by decide) ?_
        refine hp_19_1n hx hb hts in_f_X3_advance_X8 hown hK hP hD hS (va_Nw.use rfl (hG.1 _ (List.mem_of_getElem? (i := 9) rfl))) dX3_advance_82 (fun H locs hP hD hS => ?_)
        refine lv_aload_n hx hb dX3_advance_85 rfl (lv_at hl 0 rfl) ?_
        refine hg_18_5 hx hb hts in_f_X3_advance_X3 hown hK hP (hts _ (List.mem_cons_of_mem _ (List.mem_append_left _ (List.mem_append_left _ (List.mem_of_getElem? (i := 1) rfl))))) dX3_advance_86 ?_
        refine lv_iconst (v := 4) hx hb dX3_advance_89 (by decide) ?_
        refine lv_aload_n hx hb dX3_advance_90 rfl (lv_at hl 0 rfl) ?_
        obtain ⟨b1, hb1, h⟩ := oP_ex h
        refine hgq_18_6 hx hb hts in_f_X3_advance_X3 hown hK hP (hts _ (List.mem_cons_of_mem _ (List.mem_append_left _ (List.mem_append_left _ (List.mem_of_getElem? (i := 0) rfl))))) hb1 dX3_advance_91 ?_
        refine hg_P_18n b1 hx hb hts in_f_X3_advance_X7 hown hK hP (va_Nw.use rfl (hG.1 _ (List.mem_of_getElem? (i := 92) rfl))) dX3_advance_94 ?_
        refine lv_iconst (v := 0) hx hb dX3_advance_97 (by decide) ?_
        obtain ⟨q2, h⟩ := kr_ite1 h
        refine hl_P18 b1 hx hb hK hP q2 dX3_advance_98 ?_
        refine lv_iadd hx hb dX3_advance_99 ?_
        refine hp_19_2n hx hb hts in_f_X3_advance_X8 hown hK hP hD hS (va_Nw.use rfl (hG.1 _ (List.mem_of_getElem? (i := 10) rfl))) dX3_advance_100 (fun H locs hP hD hS => ?_)
        exact ih.2.2.2.1 z _ _ L (uI (uI (uI σ 1907 2) 1901 0) 1902 ((4 + (((uI (uI σ 1907 2) 1901 0).2.2.1 (pR18 b1) (0 : Int32).toNatClampNeg))))) _ h hzk hc hs H locs ls hP hD hS (lv_sub hl [] rfl)
  exact (blk k0).1 z 0 0 L0 σ0 r0 h0 (zk_rf _ _) ((Nat.zero_add _).trans hmc) ((Nat.zero_add _).trans hms) s.heap [] ls hP hD hS hl
/-! X11_back -/
def f_X11_back : Nat → Nat → LV → CS → Option RS
  | 0, _, _, _ => none
  | k + 1, 0, L, σ => ox (f_X11_wantRun k 0 lZ σ) (fun r1 => if ((L.1 1)) < 0 then (f_X11_back k 1 L r1.2.1) else (if ((L.1 1)) ≤ ((r1.2.1.1 1903)) then (f_X11_back k 2 L r1.2.1) else (f_X11_back k 1 L r1.2.1)))
  | k + 1, 1, L, σ => some ((1, 0), σ, (1, 6))
  | k + 1, 2, L, σ => if ((L.1 1)) ≤ 0 then (f_X11_back k 3 L σ) else (ox (f_X3_goBack k 0 (lI lZ 1 ((((σ.1 1903)) - ((L.1 1))))) σ) (fun r2 => ox (f_X3_advance k 0 (lI lZ 1 r2.1.2) r2.2.1) (fun r3 => f_X11_back k 3 L r3.2.1)))
  | k + 1, 3, L, σ => some ((0, (σ.1 1903)), σ, (0, 0))
  | _ + 1, _ + 4, _, _ => none
def o_f_X11_back : List Cond := [.methodLink RX11 175 yX11_wantRun, .instanceMethod yX11_wantRun, .selects RX11 yX11_wantRun yX11_wantRun, .initialized RX11, .fieldLink RX11 65 "SetHouse" "machine" "LSetHouse$Machine;", .classLink RX11 127 "java/lang/IllegalArgumentException", .initialized "java/lang/IllegalArgumentException", .methodLink RX11 190 yX3_goBack, .instanceMethod yX3_goBack, .selects RX3 yX3_goBack yX3_goBack, .initialized RX3, .methodLink RX11 172 yX3_advance, .instanceMethod yX3_advance, .selects RX3 yX3_advance yX3_advance]
theorem o_f_X11_back_good : o_f_X11_back.all goodWord = true := by decide +kernel
def p_f_X11_back : List Cond := o_f_X11_back ++ ((.code yX11_wantRun cX11_wantRun 1 none :: p_f_X11_wantRun) ++ (((vx_at0 RX11 129 "java/lang/IllegalArgumentException" ["java/lang/RuntimeException", "java/lang/Exception"]).filter goodWord) ++ ((.code yX3_goBack cX3_goBack 3 (some .int) :: p_f_X3_goBack) ++ ((.code yX3_advance cX3_advance 2 none :: p_f_X3_advance) ++ []))))
theorem p_f_X11_back_good : p_f_X11_back.all goodWord = true := nb_all2 o_f_X11_back_good (nb_all2 (nb_allc (by decide +kernel) p_f_X11_wantRun_good) (nb_all2 (nb_fg _) (nb_all2 (nb_allc (by decide +kernel) p_f_X3_goBack_good) (nb_all2 (nb_allc (by decide +kernel) p_f_X3_advance_good) rfl))))
def w_f_X11_back : List Cond := .code yX11_back cX11_back 2 (some .int) :: (p_f_X11_back ++ fC)
theorem w_f_X11_back_good : w_f_X11_back.all goodWord = true := nb_allc (by decide +kernel) (nb_all2 p_f_X11_back_good fC_good)
theorem in_f_X11_back_X3 : ∀ w ∈ wsX30, w ∈ w_f_X11_back := fun _ h => List.mem_cons_of_mem _ (List.mem_append_right _ (List.mem_append_right _ (List.mem_append_right _ (List.mem_append_right _ (List.mem_append_left _ h)))))
theorem in_f_X11_back_X8 : ∀ w ∈ wsX80, w ∈ w_f_X11_back := fun _ h => List.mem_cons_of_mem _ (List.mem_append_right _ (List.mem_append_right _ (List.mem_append_right _ (List.mem_append_right _ (List.mem_append_right _ (List.mem_append_right _ (List.mem_append_right _ (List.mem_append_right _ (List.mem_append_left _ h)))))))))
theorem in_f_X11_back_X11 : ∀ w ∈ wsX110, w ∈ w_f_X11_back := fun _ h => List.mem_cons_of_mem _ (List.mem_append_right _ (List.mem_append_right _ (List.mem_append_right _ (List.mem_append_right _ (List.mem_append_right _ (List.mem_append_right _ (List.mem_append_right _ (List.mem_append_right _ (List.mem_append_right _ (List.mem_append_right _ (List.mem_append_right _ h)))))))))))
theorem hd_f_X11_back : yX11_back.cls = RX11 ∧ yX11_back.cls ≠ "java/lang/invoke/MethodHandle" ∧ yX11_back.cls ≠ "java/lang/invoke/VarHandle" ∧ (parseMethodDescriptor yX11_back.desc).map (fun d => d.parameters.length) = some 1 := by decide +kernel
theorem gg_f_X11_back_X11_wantRun : GoodIn w_f_X11_back w_f_X11_wantRun := goodIn_sub (fun w h => (List.mem_cons.mp h).elim (fun e => (List.mem_cons_of_mem _ (List.mem_append_left _ (List.mem_append_right _ (List.mem_append_left _ (List.mem_cons.mpr (Or.inl e))))))) (fun h => (List.mem_append.mp h).elim (fun h => (List.mem_cons_of_mem _ (List.mem_append_left _ (List.mem_append_right _ (List.mem_append_left _ (List.mem_cons_of_mem _ h)))))) (fun h => List.mem_cons_of_mem _ (List.mem_append_right _ h)))) w_f_X11_wantRun_good
theorem g_f_X11_back_X11_wantRun_V175 : GoodIn w_f_X11_back (wsV RX11 175 RX11 yX11_wantRun w_f_X11_wantRun) := goodIn_app (nb_g4 (List.mem_cons_of_mem _ (List.mem_append_left _ (List.mem_append_left _ (List.mem_of_getElem? (i := 0) rfl)))) (List.mem_cons_of_mem _ (List.mem_append_left _ (List.mem_append_left _ (List.mem_of_getElem? (i := 1) rfl)))) (List.mem_cons_of_mem _ (List.mem_append_left _ (List.mem_append_left _ (List.mem_of_getElem? (i := 2) rfl)))) (List.mem_cons_of_mem _ (List.mem_append_left _ (List.mem_append_left _ (List.mem_of_getElem? (i := 3) rfl)))) (by decide +kernel)) gg_f_X11_back_X11_wantRun
theorem gg_f_X11_back_X3_advance : GoodIn w_f_X11_back w_f_X3_advance := goodIn_sub (fun w h => (List.mem_cons.mp h).elim (fun e => (List.mem_cons_of_mem _ (List.mem_append_left _ (List.mem_append_right _ (List.mem_append_right _ (List.mem_append_right _ (List.mem_append_right _ (List.mem_append_left _ (List.mem_cons.mpr (Or.inl e)))))))))) (fun h => (List.mem_append.mp h).elim (fun h => (List.mem_cons_of_mem _ (List.mem_append_left _ (List.mem_append_right _ (List.mem_append_right _ (List.mem_append_right _ (List.mem_append_right _ (List.mem_append_left _ (List.mem_cons_of_mem _ h))))))))) (fun h => List.mem_cons_of_mem _ (List.mem_append_right _ h)))) w_f_X3_advance_good
theorem g_f_X11_back_X3_advance_V172 : GoodIn w_f_X11_back (wsV RX11 172 RX3 yX3_advance w_f_X3_advance) := goodIn_app (nb_g4 (List.mem_cons_of_mem _ (List.mem_append_left _ (List.mem_append_left _ (List.mem_of_getElem? (i := 11) rfl)))) (List.mem_cons_of_mem _ (List.mem_append_left _ (List.mem_append_left _ (List.mem_of_getElem? (i := 12) rfl)))) (List.mem_cons_of_mem _ (List.mem_append_left _ (List.mem_append_left _ (List.mem_of_getElem? (i := 13) rfl)))) (List.mem_cons_of_mem _ (List.mem_append_left _ (List.mem_append_left _ (List.mem_of_getElem? (i := 10) rfl)))) (by decide +kernel)) gg_f_X11_back_X3_advance
theorem gg_f_X11_back_X3_goBack : GoodIn w_f_X11_back w_f_X3_goBack := goodIn_sub (fun w h => (List.mem_cons.mp h).elim (fun e => (List.mem_cons_of_mem _ (List.mem_append_left _ (List.mem_append_right _ (List.mem_append_right _ (List.mem_append_right _ (List.mem_append_left _ (List.mem_cons.mpr (Or.inl e))))))))) (fun h => (List.mem_append.mp h).elim (fun h => (List.mem_cons_of_mem _ (List.mem_append_left _ (List.mem_append_right _ (List.mem_append_right _ (List.mem_append_right _ (List.mem_append_left _ (List.mem_cons_of_mem _ h)))))))) (fun h => List.mem_cons_of_mem _ (List.mem_append_right _ h)))) w_f_X3_goBack_good
theorem g_f_X11_back_X3_goBack_V190 : GoodIn w_f_X11_back (wsV RX11 190 RX3 yX3_goBack w_f_X3_goBack) := goodIn_app (nb_g4 (List.mem_cons_of_mem _ (List.mem_append_left _ (List.mem_append_left _ (List.mem_of_getElem? (i := 7) rfl)))) (List.mem_cons_of_mem _ (List.mem_append_left _ (List.mem_append_left _ (List.mem_of_getElem? (i := 8) rfl)))) (List.mem_cons_of_mem _ (List.mem_append_left _ (List.mem_append_left _ (List.mem_of_getElem? (i := 9) rfl)))) (List.mem_cons_of_mem _ (List.mem_append_left _ (List.mem_append_left _ (List.mem_of_getElem? (i := 10) rfl)))) (by decide +kernel)) gg_f_X11_back_X3_goBack
set_option maxHeartbeats 40000000 in
set_option maxRecDepth 100000 in
theorem c_f_X11_back (l : Launch) (hl0 : l.stackTraces = false) (dC : Nat → ClassId) (dI : Nat → Nat → Nat) (cy : Nat → ClassId) (ek a : Nat → Nat) (k0 : Nat) (L0 : LV) (σ0 : CS) (r0 : RS) (h0 : f_X11_back k0 0 L0 σ0 = some r0) (z : Nat → Nat) (sz : Nat) : vx_Met l yX11_back w_f_X11_back ({ frames := 90, cells := r0.2.2.1, slots := r0.2.2.2, locals := 2222 }) (va_Pc [.ref (a 75), .int (L0.1 1)] (nInF (dC, dI) cy ek sz (vC cy a z σ0))) (xI dC dI cy a (va_A (vC cy a z σ0) sz) [1, 2, 3, 20, 21, 22, 26] z r0) (xX dC dI cy a (va_A (vC cy a z σ0) sz) [1, 2, 3, 20, 21, 22, 26] z r0) r0.2.2.1 r0.2.2.2 (va_A (vC cy a z σ0) sz) := by
  refine vx_ofW (cc := cX11_back) (maxL := 2) (ret := (some .int)) (by decide) rfl ?_
  intro p e s m args below meth c s₁ B hml hno hv
  obtain ⟨rfl, ⟨⟨hsz, hP, hK, hD0, hG⟩, hE⟩, hT⟩ := hv
  have hx := B.exec
  have hb := B.bytes
  have hr := B.returns
  have hts := atoms_spec (ws := w_f_X11_back) B.pre
  have hown : s.vm.findClass RX11 = some m.cls := findClass_of_methodNamed B.named
  have hlocks := B.notSynchronized
  subst hsz
  have hD := hD0.self (sz := s.heap.size)
  generalize hAe : va_A (vC cy a z σ0) s.heap.size = A at hD hE hT ⊢
  have hA : ∀ q : Nat, s.heap.size ≤ q → A q := fun q h => by rw [← hAe]; exact Or.inr h
  have hS : va_S A s.heap s.heap [] := va_S.rf
  have hl := lv_entry ([.ref (a 75), .int (L0.1 1)]) (n := 2) (Nat.le_of_ble_eq_true rfl)
  rw [lg_entry_eq]
  generalize (lg_sl ([.ref (a 75), .int (L0.1 1)]) ++ List.replicate (2 - (lg_sl ([.ref (a 75), .int (L0.1 1)])).length) Slot.unset).toArray = ls at hl ⊢
  have hl : lv_has ls 2 [(0, .ref (a 75)), (1, .int (L0.1 1))] := hl
  generalize hmc : r0.2.2.1 = mc
  generalize hms : r0.2.2.2 = ms
  have blk : ∀ k : Nat, (bX p l e (headSpec w_f_X11_back ({ frames := 90, cells := mc, slots := ms, locals := 2222 })).room s m #[.ref (a 75), .int (L0.1 1)] below meth c dC dI cy a A (fun r => vx_MQ below (xI dC dI cy a A [1, 2, 3, 20, 21, 22, 26] z r) (xX dC dI cy a A [1, 2, 3, 20, 21, 22, 26] z r) #[.ref (a 75), .int (L0.1 1)] s mc ms A) [1, 2, 3, 20, 21, 22, 26] z mc ms 2 (f_X11_back k 0) (fun z L => [(0, .ref (a 75)), (1, .int (L.1 1))]) 0 (fun z L => [])) ∧ (bX p l e (headSpec w_f_X11_back ({ frames := 90, cells := mc, slots := ms, locals := 2222 })).room s m #[.ref (a 75), .int (L0.1 1)] below meth c dC dI cy a A (fun r => vx_MQ below (xI dC dI cy a A [1, 2, 3, 20, 21, 22, 26] z r) (xX dC dI cy a A [1, 2, 3, 20, 21, 22, 26] z r) #[.ref (a 75), .int (L0.1 1)] s mc ms A) [1, 2, 3, 20, 21, 22, 26] z mc ms 2 (f_X11_back k 1) (fun z L => []) 22 (fun z L => [])) ∧ (bX p l e (headSpec w_f_X11_back ({ frames := 90, cells := mc, slots := ms, locals := 2222 })).room s m #[.ref (a 75), .int (L0.1 1)] below meth c dC dI cy a A (fun r => vx_MQ below (xI dC dI cy a A [1, 2, 3, 20, 21, 22, 26] z r) (xX dC dI cy a A [1, 2, 3, 20, 21, 22, 26] z r) #[.ref (a 75), .int (L0.1 1)] s mc ms A) [1, 2, 3, 20, 21, 22, 26] z mc ms 2 (f_X11_back k 2) (fun z L => [(0, .ref (a 75)), (1, .int (L.1 1))]) 30 (fun z L => [])) ∧ (bX p l e (headSpec w_f_X11_back ({ frames := 90, cells := mc, slots := ms, locals := 2222 })).room s m #[.ref (a 75), .int (L0.1 1)] below meth c dC dI cy a A (fun r => vx_MQ below (xI dC dI cy a A [1, 2, 3, 20, 21, 22, 26] z r) (xX dC dI cy a A [1, 2, 3, 20, 21, 22, 26] z r) #[.ref (a 75), .int (L0.1 1)] s mc ms A) [1, 2, 3, 20, 21, 22, 26] z mc ms 2 (f_X11_back k 3) (fun z L => [(0, .ref (a 75))]) 60 (fun z L => [])) := by
    intro k
    induction k with
    | zero => exact ⟨fun z c1 c2 L σ r h => (by cases h), fun z c1 c2 L σ r h => (by cases h), fun z c1 c2 L σ r h => (by cases h), fun z c1 c2 L σ r h => (by cases h)⟩
    | succ k ih =>
      refine ⟨?_, ?_, ?_, ?_⟩
      · intro z cells slots L σ r h hzk hc hs H locs ls hP hD hS hl
        rw [f_X11_back] at h
        refine lv_aload_n hx hb dX11_back_0 rfl (lv_at hl 0 rfl) ?_
        obtain ⟨r1, hc1, hle1, h9⟩ := ox_ex h
        clear h
        refine kx_v (vx_runV (As := []) (rest := []) ⟨hx, hb, hml, hown, hts⟩ (c_f_X11_wantRun l hl0 dC dI cy ek a k lZ σ r1 hc1 z H.size) (cwV 0 hts g_f_X11_back_X11_wantRun_V175 rfl rfl rfl hd_f_X11_wantRun ⟨Nat.le_of_ble_eq_true rfl, Nat.le_of_ble_eq_true rfl⟩) ⟨nb_blindF, va_recv hK hP (ci := 10) (q0 := 75) rfl rfl, (kx_pre hK hG hE hT hA hP hD hS)⟩ rfl rfl hl.1 rfl (lv_room (Nat.le_of_ble_eq_true rfl)) dX11_back_1 ⟨Nat.le_trans (Nat.add_le_add_left hle1.1 _) (Nat.le_of_eq hc), Nat.le_trans (Nat.add_le_add_left hle1.2 _) (Nat.le_of_eq hs)⟩) hK hA hzk hP hD hS (by decide) hno hlocks ?_
        rcases h9 with ⟨h00, y1, hny1, hy⟩ | ⟨h00, hy⟩
        · subst hy
          have h := hny1
          refine Or.inl ⟨h00, fun u H locs hz1 hzk hP hD hS => ?_⟩
          obtain rfl := (zk_nil hz1).symm
          replace hc := (Nat.add_assoc _ _ _).trans hc
          replace hs := (Nat.add_assoc _ _ _).trans hs
          refine lv_iload_n hx hb dX11_back_4 rfl (lv_at hl 1 rfl) ?_
          refine lv_if_lt (tgt := 22) hx hb dX11_back_5 (by decide) (fun c2 => ?_) (fun c2 => ?_)
          · rw [if_pos c2] at h
            exact ih.2.1 z _ _ L r1.2.1 _ h hzk hc hs H locs ls hP hD hS (lv_sub hl [] rfl)
          · rw [if_neg c2] at h
            refine lv_iload_n hx hb dX11_back_8 rfl (lv_at hl 1 rfl) ?_
            refine lv_aload_n hx hb dX11_back_9 rfl (lv_at hl 0 rfl) ?_
            refine hg_75_5 hx hb hts in_f_X11_back_X11 hown hK hP (hts _ (List.mem_cons_of_mem _ (List.mem_append_left _ (List.mem_append_left _ (List.mem_of_getElem? (i := 4) rfl))))) dX11_back_10 ?_
            refine hg_18_5n hx hb hts in_f_X11_back_X3 hown hK hP (va_Nw.use rfl (hG.1 _ (List.mem_of_getElem? (i := 47) rfl))) dX11_back_13 ?_
            refine hg_19_3n hx hb hts in_f_X11_back_X8 hown hK hP (va_Nw.use rfl (hG.1 _ (List.mem_of_getElem? (i := 14) rfl))) dX11_back_16 ?_
            refine lv_icmp_le (tgt := 30) hx hb dX11_back_19 (by decide) (fun c3 => ?_) (fun c3 => ?_)
            · rw [if_pos c3] at h
              exact ih.2.2.1 z _ _ L r1.2.1 _ h hzk hc hs H locs ls hP hD hS (lv_sub hl [0, 1] rfl)
            · rw [if_neg c3] at h
              exact ih.2.1 z _ _ L r1.2.1 _ h hzk hc hs H locs ls hP hD hS (lv_sub hl [] rfl)
        · subst hy
          exact Or.inr ⟨h00, rfl, hc, hs⟩
      · intro z cells slots L σ r h hzk hc hs H locs ls hP hD hS hl
        rw [f_X11_back] at h
        obtain rfl := Option.some.inj h
        exact vx_throw0 (cls := "java/lang/IllegalArgumentException") (names := ["java/lang/RuntimeException", "java/lang/Exception"]) hx hb hl0 hown (by decide) (by decide) (hts _ (List.mem_cons_of_mem _ (List.mem_append_left _ (List.mem_append_left _ (List.mem_of_getElem? (i := 5) rfl))))) (hts _ (List.mem_cons_of_mem _ (List.mem_append_left _ (List.mem_append_left _ (List.mem_of_getElem? (i := 6) rfl))))) (vx_hat (B := [.castable "java/lang/IllegalArgumentException" "java/lang/IllegalArgumentException", .declares (Bundle.init0 "java/lang/RuntimeException"), .declares (Bundle.init0 "java/lang/Exception"), .declares (Bundle.init0 Bundle.tN)]) (fun w h => hts w (List.mem_cons_of_mem _ (List.mem_append_left _ (List.mem_append_right _ (List.mem_append_right _ (List.mem_append_left _ h)))))) (by decide +kernel) (vx_c (va_Nw.use (by decide +kernel) (hT.2.2.1 _ (List.mem_of_getElem? (i := 1) rfl))) (vx_c (va_Nw.use (by decide +kernel) (hT.2.2.1 _ (List.mem_of_getElem? (i := 4) rfl))) (vx_c (va_Nw.use (by decide +kernel) (hT.2.2.1 _ (List.mem_of_getElem? (i := 5) rfl))) (vx_c (va_Nw.use (by decide +kernel) (hT.2.2.1 _ (List.mem_of_getElem? (i := 6) rfl))) vx_n))))) (fun w h => List.all_eq_true.mp (by decide +kernel : (Cond.classLink RX11 127 "java/lang/IllegalArgumentException" :: Cond.initialized "java/lang/IllegalArgumentException" :: (vx_at0 RX11 129 "java/lang/IllegalArgumentException" ["java/lang/RuntimeException", "java/lang/Exception"])).all vx_ot = true) w h) hT.1 hT.2.1 hS (hl.1.trans hml.symm) dX11_back_22 dX11_back_25 dX11_back_26 dX11_back_29 (fun x h => (hno x h).elim) (Nat.le_of_ble_eq_true rfl) (Nat.le_of_ble_eq_true rfl) (Nat.le_of_eq hc) (Nat.le_of_eq hs) hlocks (xt_x (n := 1) (by decide) hK hzk hP hD hS) hS.2.2 (Nat.le_of_eq hc) (Nat.le_of_eq hs)
      · intro z cells slots L σ r h hzk hc hs H locs ls hP hD hS hl
        rw [f_X11_back] at h
        refine lv_iload_n hx hb dX11_back_30 rfl (lv_at hl 1 rfl) ?_
        refine lv_if_le (tgt := 60) hx hb dX11_back_31 (by decide) (fun c1 => ?_) (fun c1 => ?_)
        · rw [if_pos c1] at h
          exact ih.2.2.2 z _ _ L σ _ h hzk hc hs H locs ls hP hD hS (lv_sub hl [0] rfl)
        · rw [if_neg c1] at h
          refine lv_aload_n hx hb dX11_back_34 rfl (lv_at hl 0 rfl) ?_
          refine hg_75_5 hx hb hts in_f_X11_back_X11 hown hK hP (hts _ (List.mem_cons_of_mem _ (List.mem_append_left _ (List.mem_append_left _ (List.mem_of_getElem? (i := 4) rfl))))) dX11_back_35 ?_
          refine lv_aload_n hx hb dX11_back_38 rfl (lv_at hl 0 rfl) ?_
          refine hg_75_5 hx hb hts in_f_X11_back_X11 hown hK hP (hts _ (List.mem_cons_of_mem _ (List.mem_append_left _ (List.mem_append_left _ (List.mem_of_getElem? (i := 4) rfl))))) dX11_back_39 ?_
          refine lv_aload_n hx hb dX11_back_42 rfl (lv_at hl 0 rfl) ?_
          refine hg_75_5 hx hb hts in_f_X11_back_X11 hown hK hP (hts _ (List.mem_cons_of_mem _ (List.mem_append_left _ (List.mem_append_left _ (List.mem_of_getElem? (i := 4) rfl))))) dX11_back_43 ?_
          refine hg_18_5n hx hb hts in_f_X11_back_X3 hown hK hP (va_Nw.use rfl (hG.1 _ (List.mem_of_getElem? (i := 47) rfl))) dX11_back_46 ?_
          refine hg_19_3n hx hb hts in_f_X11_back_X8 hown hK hP (va_Nw.use rfl (hG.1 _ (List.mem_of_getElem? (i := 14) rfl))) dX11_back_49 ?_
          refine lv_iload_n hx hb dX11_back_52 rfl (lv_at hl 1 rfl) ?_
          refine lv_isub hx hb dX11_back_53 ?_
          obtain ⟨r2, hc2, hle2, h9⟩ := ox_ex h
          clear h
          refine kx_i (vx_runV (As := [.int (((σ.1 1903)) - ((L.1 1)))]) (rest := [.ref (a 18)]) ⟨hx, hb, hml, hown, hts⟩ (c_f_X3_goBack l hl0 dC dI cy ek a k (lI lZ 1 ((((σ.1 1903)) - ((L.1 1))))) σ r2 hc2 z H.size) (cwV 1 hts g_f_X11_back_X3_goBack_V190 rfl rfl rfl hd_f_X3_goBack ⟨Nat.le_of_ble_eq_true rfl, Nat.le_of_ble_eq_true rfl⟩) ⟨nb_blindF, va_recv hK hP (ci := 3) (q0 := 18) rfl rfl, (kx_pre hK hG hE hT hA hP hD hS)⟩ rfl rfl hl.1 rfl (lv_room (Nat.le_of_ble_eq_true rfl)) dX11_back_54 ⟨Nat.le_trans (Nat.add_le_add_left hle2.1 _) (Nat.le_of_eq hc), Nat.le_trans (Nat.add_le_add_left hle2.2 _) (Nat.le_of_eq hs)⟩) hK hA hzk hP hD hS (by decide) hno hlocks ?_
          rcases h9 with ⟨h00, y2, hny2, hy⟩ | ⟨h00, hy⟩
          · subst hy
            have h := hny2
            refine Or.inl ⟨h00, fun z H locs hz2 hzk hP hD hS => ?_⟩
            replace hc := (Nat.add_assoc _ _ _).trans hc
            replace hs := (Nat.add_assoc _ _ _).trans hs
            obtain ⟨r3, hc3, hle3, h9⟩ := ox_ex h
            clear h
            refine kx_v (r := y2) (vx_runV (As := [.int r2.1.2]) (rest := []) ⟨hx, hb, hml, hown, hts⟩ (c_f_X3_advance l hl0 dC dI cy ek a k (lI lZ 1 r2.1.2) r2.2.1 r3 hc3 z H.size) (cwV 1 hts g_f_X11_back_X3_advance_V172 rfl rfl rfl hd_f_X3_advance ⟨Nat.le_of_ble_eq_true rfl, Nat.le_of_ble_eq_true rfl⟩) ⟨nb_blindF, va_recv hK hP (ci := 3) (q0 := 18) rfl rfl, (kx_pre hK hG hE hT hA hP hD hS)⟩ rfl rfl hl.1 rfl (lv_room (Nat.le_of_ble_eq_true rfl)) dX11_back_57 ⟨Nat.le_trans (Nat.add_le_add_left hle3.1 _) (Nat.le_of_eq hc), Nat.le_trans (Nat.add_le_add_left hle3.2 _) (Nat.le_of_eq hs)⟩) hK hA hzk hP hD hS (by decide) hno hlocks ?_
            rcases h9 with ⟨h00, y3, hny3, hy⟩ | ⟨h00, hy⟩
            · subst hy
              have h := hny3
              refine Or.inl ⟨h00, fun z H locs hz3 hzk hP hD hS => ?_⟩
              replace hc := (Nat.add_assoc _ _ _).trans hc
              replace hs := (Nat.add_assoc _ _ _).trans hs
              exact ih.2.2.2 z _ _ L r3.2.1 _ h hzk hc hs H locs ls hP hD hS (lv_sub hl [0] rfl)
            · subst hy
              exact Or.inr ⟨h00, rfl, hc, hs⟩
          · subst hy
            exact Or.inr ⟨h00, rfl, hc, hs⟩
      · intro z cells slots L σ r h hzk hc hs H locs ls hP hD hS hl
        rw [f_X11_back] at h
        refine lv_aload_n hx hb dX11_back_60 rfl (lv_at hl 0 rfl) ?_
        refine hg_75_5 hx hb hts in_f_X11_back_X11 hown hK hP (hts _ (List.mem_cons_of_mem _ (List.mem_append_left _ (List.mem_append_left _ (List.mem_of_getElem? (i := 4) rfl))))) dX11_back_61 ?_
        refine hg_18_5n hx hb hts in_f_X11_back_X3 hown hK hP (va_Nw.use rfl (hG.1 _ (List.mem_of_getElem? (i := 47) rfl))) dX11_back_64 ?_
        refine hg_19_3n hx hb hts in_f_X11_back_X8 hown hK hP (va_Nw.use rfl (hG.1 _ (List.mem_of_getElem? (i := 14) rfl))) dX11_back_67 ?_
        obtain rfl := Option.some.inj h
        subst hc
        subst hs
        exact xr_i hx hb hr hK hzk hP hD hS hlocks dX11_back_70
  exact (blk k0).1 z 0 0 L0 σ0 r0 h0 (zk_rf _ _) ((Nat.zero_add _).trans hmc) ((Nat.zero_add _).trans hms) s.heap [] ls hP hD hS hl
/-! X11_count -/
def f_X11_count : Nat → Nat → LV → CS → Option RS
  | 0, _, _, _ => none
  | k + 1, 0, L, σ => if ((L.1 1)) = (0 : Int32) then (f_X11_count k 1 L σ) else (if ((L.1 1)) = (1 : Int32) then (f_X11_count k 2 L σ) else (if ((L.1 1)) = (2 : Int32) then (f_X11_count k 3 L σ) else (if ((L.1 1)) = (3 : Int32) then (f_X11_count k 4 L σ) else (if ((L.1 1)) = (4 : Int32) then (f_X11_count k 5 L σ) else (f_X11_count k 6 L σ)))))
  | k + 1, 1, L, σ => some ((0, (σ.1 3701)), σ, (0, 0))
  | k + 1, 2, L, σ => some ((0, (σ.1 (fP ((sCur σ)) 3))), σ, (0, 0))
  | k + 1, 3, L, σ => if ¬ ((0 : Int32) < 0 ∨ 42 ≤ (0 : Int32).toNatClampNeg) then (some ((0, (σ.2.2.1 (pR16 (((sCur σ)))) (0 : Int32).toNatClampNeg)), σ, (0, 0))) else none
  | k + 1, 4, L, σ => some ((0, (σ.1 (fP ((sCur σ)) 4))), σ, (0, 0))
  | k + 1, 5, L, σ => some ((0, (σ.1 7513)), σ, (0, 0))
  | k + 1, 6, L, σ => some ((3, 0), σ, (1, 6))
  | _ + 1, _ + 7, _, _ => none
def o_f_X11_count : List Cond := [.fieldLink RX11 72 "SetHouse" "lex" "LSetHouse$Lexer;", .fieldLink RX11 88 "SetHouse" "current" "LSetHouse$Program;", .fieldLink RX11 159 "SetHouse" "views" "I", .classLink RX11 194 "java/lang/IndexOutOfBoundsException", .initialized "java/lang/IndexOutOfBoundsException"]
theorem o_f_X11_count_good : o_f_X11_count.all goodWord = true := by decide +kernel
def p_f_X11_count : List Cond := o_f_X11_count ++ (((vx_at0 RX11 196 "java/lang/IndexOutOfBoundsException" ["java/lang/RuntimeException", "java/lang/Exception"]).filter goodWord) ++ [])
theorem p_f_X11_count_good : p_f_X11_count.all goodWord = true := nb_all2 o_f_X11_count_good (nb_all2 (nb_fg _) rfl)
def w_f_X11_count : List Cond := .code yX11_count cX11_count 2 (some .int) :: (p_f_X11_count ++ fC)
theorem w_f_X11_count_good : w_f_X11_count.all goodWord = true := nb_allc (by decide +kernel) (nb_all2 p_f_X11_count_good fC_good)
theorem in_f_X11_count_X2 : ∀ w ∈ wsX20, w ∈ w_f_X11_count := fun _ h => List.mem_cons_of_mem _ (List.mem_append_right _ (List.mem_append_right _ (List.mem_append_right _ (List.mem_append_left _ h))))
theorem in_f_X11_count_X7 : ∀ w ∈ wsX70, w ∈ w_f_X11_count := fun _ h => List.mem_cons_of_mem _ (List.mem_append_right _ (List.mem_append_right _ (List.mem_append_right _ (List.mem_append_right _ (List.mem_append_right _ (List.mem_append_right _ (List.mem_append_right _ (List.mem_append_left _ h))))))))
theorem in_f_X11_count_X11 : ∀ w ∈ wsX110, w ∈ w_f_X11_count := fun _ h => List.mem_cons_of_mem _ (List.mem_append_right _ (List.mem_append_right _ (List.mem_append_right _ (List.mem_append_right _ (List.mem_append_right _ (List.mem_append_right _ (List.mem_append_right _ (List.mem_append_right _ (List.mem_append_right _ (List.mem_append_right _ (List.mem_append_right _ h)))))))))))
theorem hd_f_X11_count : yX11_count.cls = RX11 ∧ yX11_count.cls ≠ "java/lang/invoke/MethodHandle" ∧ yX11_count.cls ≠ "java/lang/invoke/VarHandle" ∧ (parseMethodDescriptor yX11_count.desc).map (fun d => d.parameters.length) = some 1 := by decide +kernel
set_option maxHeartbeats 40000000 in
set_option maxRecDepth 100000 in
theorem c_f_X11_count (l : Launch) (hl0 : l.stackTraces = false) (dC : Nat → ClassId) (dI : Nat → Nat → Nat) (cy : Nat → ClassId) (ek a : Nat → Nat) (k0 : Nat) (L0 : LV) (σ0 : CS) (r0 : RS) (h0 : f_X11_count k0 0 L0 σ0 = some r0) (z : Nat → Nat) (sz : Nat) : vx_Met l yX11_count w_f_X11_count ({ frames := 6, cells := r0.2.2.1, slots := r0.2.2.2, locals := 100 }) (va_Pc [.ref (a 75), .int (L0.1 1)] (nInF (dC, dI) cy ek sz (vC cy a z σ0))) (xI dC dI cy a (va_A (vC cy a z σ0) sz) [] z r0) (xX dC dI cy a (va_A (vC cy a z σ0) sz) [] z r0) r0.2.2.1 r0.2.2.2 (va_A (vC cy a z σ0) sz) := by
  refine vx_ofW (cc := cX11_count) (maxL := 2) (ret := (some .int)) (by decide) rfl ?_
  intro p e s m args below meth c s₁ B hml hno hv
  obtain ⟨rfl, ⟨⟨hsz, hP, hK, hD0, hG⟩, hE⟩, hT⟩ := hv
  have hx := B.exec
  have hb := B.bytes
  have hr := B.returns
  have hts := atoms_spec (ws := w_f_X11_count) B.pre
  have hown : s.vm.findClass RX11 = some m.cls := findClass_of_methodNamed B.named
  have hlocks := B.notSynchronized
  subst hsz
  have hD := hD0.self (sz := s.heap.size)
  generalize hAe : va_A (vC cy a z σ0) s.heap.size = A at hD hE hT ⊢
  have hA : ∀ q : Nat, s.heap.size ≤ q → A q := fun q h => by rw [← hAe]; exact Or.inr h
  have hS : va_S A s.heap s.heap [] := va_S.rf
  have hl := lv_entry ([.ref (a 75), .int (L0.1 1)]) (n := 2) (Nat.le_of_ble_eq_true rfl)
  rw [lg_entry_eq]
  generalize (lg_sl ([.ref (a 75), .int (L0.1 1)]) ++ List.replicate (2 - (lg_sl ([.ref (a 75), .int (L0.1 1)])).length) Slot.unset).toArray = ls at hl ⊢
  have hl : lv_has ls 2 [(0, .ref (a 75)), (1, .int (L0.1 1))] := hl
  generalize hmc : r0.2.2.1 = mc
  generalize hms : r0.2.2.2 = ms
  have blk : ∀ k : Nat, (bX p l e (headSpec w_f_X11_count ({ frames := 6, cells := mc, slots := ms, locals := 100 })).room s m #[.ref (a 75), .int (L0.1 1)] below meth c dC dI cy a A (fun r => vx_MQ below (xI dC dI cy a A [] z r) (xX dC dI cy a A [] z r) #[.ref (a 75), .int (L0.1 1)] s mc ms A) [] z mc ms 2 (f_X11_count k 0) (fun z L => [(0, .ref (a 75)), (1, .int (L.1 1))]) 0 (fun z L => [])) ∧ (bX p l e (headSpec w_f_X11_count ({ frames := 6, cells := mc, slots := ms, locals := 100 })).room s m #[.ref (a 75), .int (L0.1 1)] below meth c dC dI cy a A (fun r => vx_MQ below (xI dC dI cy a A [] z r) (xX dC dI cy a A [] z r) #[.ref (a 75), .int (L0.1 1)] s mc ms A) [] z mc ms 2 (f_X11_count k 1) (fun z L => [(0, .ref (a 75))]) 36 (fun z L => [])) ∧ (bX p l e (headSpec w_f_X11_count ({ frames := 6, cells := mc, slots := ms, locals := 100 })).room s m #[.ref (a 75), .int (L0.1 1)] below meth c dC dI cy a A (fun r => vx_MQ below (xI dC dI cy a A [] z r) (xX dC dI cy a A [] z r) #[.ref (a 75), .int (L0.1 1)] s mc ms A) [] z mc ms 2 (f_X11_count k 2) (fun z L => [(0, .ref (a 75))]) 44 (fun z L => [])) ∧ (bX p l e (headSpec w_f_X11_count ({ frames := 6, cells := mc, slots := ms, locals := 100 })).room s m #[.ref (a 75), .int (L0.1 1)] below meth c dC dI cy a A (fun r => vx_MQ below (xI dC dI cy a A [] z r) (xX dC dI cy a A [] z r) #[.ref (a 75), .int (L0.1 1)] s mc ms A) [] z mc ms 2 (f_X11_count k 3) (fun z L => [(0, .ref (a 75))]) 52 (fun z L => [])) ∧ (bX p l e (headSpec w_f_X11_count ({ frames := 6, cells := mc, slots := ms, locals := 100 })).room s m #[.ref (a 75), .int (L0.1 1)] below meth c dC dI cy a A (fun r => vx_MQ below (xI dC dI cy a A [] z r) (xX dC dI cy a A [] z r) #[.ref (a 75), .int (L0.1 1)] s mc ms A) [] z mc ms 2 (f_X11_count k 4) (fun z L => [(0, .ref (a 75))]) 62 (fun z L => [])) ∧ (bX p l e (headSpec w_f_X11_count ({ frames := 6, cells := mc, slots := ms, locals := 100 })).room s m #[.ref (a 75), .int (L0.1 1)] below meth c dC dI cy a A (fun r => vx_MQ below (xI dC dI cy a A [] z r) (xX dC dI cy a A [] z r) #[.ref (a 75), .int (L0.1 1)] s mc ms A) [] z mc ms 2 (f_X11_count k 5) (fun z L => [(0, .ref (a 75))]) 70 (fun z L => [])) ∧ (bX p l e (headSpec w_f_X11_count ({ frames := 6, cells := mc, slots := ms, locals := 100 })).room s m #[.ref (a 75), .int (L0.1 1)] below meth c dC dI cy a A (fun r => vx_MQ below (xI dC dI cy a A [] z r) (xX dC dI cy a A [] z r) #[.ref (a 75), .int (L0.1 1)] s mc ms A) [] z mc ms 2 (f_X11_count k 6) (fun z L => []) 75 (fun z L => [])) := by
    intro k
    induction k with
    | zero => exact ⟨fun z c1 c2 L σ r h => (by cases h), fun z c1 c2 L σ r h => (by cases h), fun z c1 c2 L σ r h => (by cases h), fun z c1 c2 L σ r h => (by cases h), fun z c1 c2 L σ r h => (by cases h), fun z c1 c2 L σ r h => (by cases h), fun z c1 c2 L σ r h => (by cases h)⟩
    | succ k ih =>
      refine ⟨?_, ?_, ?_, ?_, ?_, ?_, ?_⟩
      · intro z cells slots L σ r h hzk hc hs H locs ls hP hD hS hl
        rw [f_X11_count] at h
        refine lv_iload_n hx hb dX11_count_0 rfl (lv_at hl 1 rfl) ?_
        by_cases q1 : ((L.1 1)) = (0 : Int32)
        · rw [if_pos q1] at h
          refine lv_tableIn (off := 35) (tgt := 36) hx hb dX11_count_1 (by rw [q1]; decide) (by rw [q1]; decide) (by rw [q1]; decide) (by decide) ?_
          exact ih.2.1 z _ _ L σ _ h hzk hc hs H locs ls hP hD hS (lv_sub hl [0] rfl)
        · rw [if_neg q1] at h
          by_cases q2 : ((L.1 1)) = (1 : Int32)
          · rw [if_pos q2] at h
            refine lv_tableIn (off := 43) (tgt := 44) hx hb dX11_count_1 (by rw [q2]; decide) (by rw [q2]; decide) (by rw [q2]; decide) (by decide) ?_
            exact ih.2.2.1 z _ _ L σ _ h hzk hc hs H locs ls hP hD hS (lv_sub hl [0] rfl)
          · rw [if_neg q2] at h
            by_cases q3 : ((L.1 1)) = (2 : Int32)
            · rw [if_pos q3] at h
              refine lv_tableIn (off := 51) (tgt := 52) hx hb dX11_count_1 (by rw [q3]; decide) (by rw [q3]; decide) (by rw [q3]; decide) (by decide) ?_
              exact ih.2.2.2.1 z _ _ L σ _ h hzk hc hs H locs ls hP hD hS (lv_sub hl [0] rfl)
            · rw [if_neg q3] at h
              by_cases q4 : ((L.1 1)) = (3 : Int32)
              · rw [if_pos q4] at h
                refine lv_tableIn (off := 61) (tgt := 62) hx hb dX11_count_1 (by rw [q4]; decide) (by rw [q4]; decide) (by rw [q4]; decide) (by decide) ?_
                exact ih.2.2.2.2.1 z _ _ L σ _ h hzk hc hs H locs ls hP hD hS (lv_sub hl [0] rfl)
              · rw [if_neg q4] at h
                by_cases q5 : ((L.1 1)) = (4 : Int32)
                · rw [if_pos q5] at h
                  refine lv_tableIn (off := 69) (tgt := 70) hx hb dX11_count_1 (by rw [q5]; decide) (by rw [q5]; decide) (by rw [q5]; decide) (by decide) ?_
                  exact ih.2.2.2.2.2.1 z _ _ L σ _ h hzk hc hs H locs ls hP hD hS (lv_sub hl [0] rfl)
                · rw [if_neg q5] at h
                  have nq1 : ¬ ((L.1 1)).toInt = 0 := nb_ti q1 rfl
                  have nq2 : ¬ ((L.1 1)).toInt = 1 := nb_ti q2 rfl
                  have nq3 : ¬ ((L.1 1)).toInt = 2 := nb_ti q3 rfl
                  have nq4 : ¬ ((L.1 1)).toInt = 3 := nb_ti q4 rfl
                  have nq5 : ¬ ((L.1 1)).toInt = 4 := nb_ti q5 rfl
                  refine lv_tableOut (tgt := 75) hx hb dX11_count_1 (by omega) (by decide) ?_
                  exact ih.2.2.2.2.2.2 z _ _ L σ _ h hzk hc hs H locs ls hP hD hS (lv_sub hl [] rfl)
      · intro z cells slots L σ r h hzk hc hs H locs ls hP hD hS hl
        rw [f_X11_count] at h
        refine lv_aload_n hx hb dX11_count_36 rfl (lv_at hl 0 rfl) ?_
        refine hg_75_6 hx hb hts in_f_X11_count_X11 hown hK hP (hts _ (List.mem_cons_of_mem _ (List.mem_append_left _ (List.mem_append_left _ (List.mem_of_getElem? (i := 0) rfl))))) dX11_count_37 ?_
        refine hg_37_1n hx hb hts in_f_X11_count_X2 hown hK hP (va_Nw.use rfl (hG.1 _ (List.mem_of_getElem? (i := 51) rfl))) dX11_count_40 ?_
        obtain rfl := Option.some.inj h
        subst hc
        subst hs
        exact xr_i hx hb hr hK hzk hP hD hS hlocks dX11_count_43
      · intro z cells slots L σ r h hzk hc hs H locs ls hP hD hS hl
        rw [f_X11_count] at h
        refine lv_aload_n hx hb dX11_count_44 rfl (lv_at hl 0 rfl) ?_
        refine hg_75_8 hx hb hts in_f_X11_count_X11 hown hK hP (hts _ (List.mem_cons_of_mem _ (List.mem_append_left _ (List.mem_append_left _ (List.mem_of_getElem? (i := 1) rfl))))) dX11_count_45 ?_
        refine hg_P_3n ((sCur σ)) hx hb hts in_f_X11_count_X7 hown hK hP (va_Nw.use rfl (hG.1 _ (List.mem_of_getElem? (i := 72) rfl))) dX11_count_48 ?_
        obtain rfl := Option.some.inj h
        subst hc
        subst hs
        exact xr_i hx hb hr hK hzk hP hD hS hlocks dX11_count_51
      · intro z cells slots L σ r h hzk hc hs H locs ls hP hD hS hl
        rw [f_X11_count] at h
        refine lv_aload_n hx hb dX11_count_52 rfl (lv_at hl 0 rfl) ?_
        refine hg_75_8 hx hb hts in_f_X11_count_X11 hown hK hP (hts _ (List.mem_cons_of_mem _ (List.mem_append_left _ (List.mem_append_left _ (List.mem_of_getElem? (i := 1) rfl))))) dX11_count_53 ?_
        refine hg_P_16n ((sCur σ)) hx hb hts in_f_X11_count_X7 hown hK hP (va_Nw.use rfl (hG.1 _ (List.mem_of_getElem? (i := 89) rfl))) dX11_count_56 ?_
        refine lv_iconst (v := 0) hx hb dX11_count_59 (by decide) ?_
        obtain ⟨q1, h⟩ := kr_ite1 h
        refine hl_P16 (((sCur σ))) hx hb hK hP q1 dX11_count_60 ?_
        obtain rfl := Option.some.inj h
        subst hc
        subst hs
        exact xr_i hx hb hr hK hzk hP hD hS hlocks dX11_count_61
      · intro z cells slots L σ r h hzk hc hs H locs ls hP hD hS hl
        rw [f_X11_count] at h
        refine lv_aload_n hx hb dX11_count_62 rfl (lv_at hl 0 rfl) ?_
        refine hg_75_8 hx hb hts in_f_X11_count_X11 hown hK hP (hts _ (List.mem_cons_of_mem _ (List.mem_append_left _ (List.mem_append_left _ (List.mem_of_getElem? (i := 1) rfl))))) dX11_count_63 ?_
        refine hg_P_4n ((sCur σ)) hx hb hts in_f_X11_count_X7 hown hK hP (va_Nw.use rfl (hG.1 _ (List.mem_of_getElem? (i := 75) rfl))) dX11_count_66 ?_
        obtain rfl := Option.some.inj h
        subst hc
        subst hs
        exact xr_i hx hb hr hK hzk hP hD hS hlocks dX11_count_69
      · intro z cells slots L σ r h hzk hc hs H locs ls hP hD hS hl
        rw [f_X11_count] at h
        refine lv_aload_n hx hb dX11_count_70 rfl (lv_at hl 0 rfl) ?_
        refine hg_75_13 hx hb hts in_f_X11_count_X11 hown hK hP (hts _ (List.mem_cons_of_mem _ (List.mem_append_left _ (List.mem_append_left _ (List.mem_of_getElem? (i := 2) rfl))))) dX11_count_71 ?_
        obtain rfl := Option.some.inj h
        subst hc
        subst hs
        exact xr_i hx hb hr hK hzk hP hD hS hlocks dX11_count_74
      · intro z cells slots L σ r h hzk hc hs H locs ls hP hD hS hl
        rw [f_X11_count] at h
        obtain rfl := Option.some.inj h
        exact vx_throw0 (cls := "java/lang/IndexOutOfBoundsException") (names := ["java/lang/RuntimeException", "java/lang/Exception"]) hx hb hl0 hown (by decide) (by decide) (hts _ (List.mem_cons_of_mem _ (List.mem_append_left _ (List.mem_append_left _ (List.mem_of_getElem? (i := 3) rfl))))) (hts _ (List.mem_cons_of_mem _ (List.mem_append_left _ (List.mem_append_left _ (List.mem_of_getElem? (i := 4) rfl))))) (vx_hat (B := [.castable "java/lang/IndexOutOfBoundsException" "java/lang/IndexOutOfBoundsException", .declares (Bundle.init0 "java/lang/RuntimeException"), .declares (Bundle.init0 "java/lang/Exception"), .declares (Bundle.init0 Bundle.tN)]) (fun w h => hts w (List.mem_cons_of_mem _ (List.mem_append_left _ (List.mem_append_right _ (List.mem_append_left _ h))))) (by decide +kernel) (vx_c (va_Nw.use (by decide +kernel) (hT.2.2.1 _ (List.mem_of_getElem? (i := 2) rfl))) (vx_c (va_Nw.use (by decide +kernel) (hT.2.2.1 _ (List.mem_of_getElem? (i := 4) rfl))) (vx_c (va_Nw.use (by decide +kernel) (hT.2.2.1 _ (List.mem_of_getElem? (i := 5) rfl))) (vx_c (va_Nw.use (by decide +kernel) (hT.2.2.1 _ (List.mem_of_getElem? (i := 6) rfl))) vx_n))))) (fun w h => List.all_eq_true.mp (by decide +kernel : (Cond.classLink RX11 194 "java/lang/IndexOutOfBoundsException" :: Cond.initialized "java/lang/IndexOutOfBoundsException" :: (vx_at0 RX11 196 "java/lang/IndexOutOfBoundsException" ["java/lang/RuntimeException", "java/lang/Exception"])).all vx_ot = true) w h) hT.1 hT.2.1 hS (hl.1.trans hml.symm) dX11_count_75 dX11_count_78 dX11_count_79 dX11_count_82 (fun x h => (hno x h).elim) (Nat.le_of_ble_eq_true rfl) (Nat.le_of_ble_eq_true rfl) (Nat.le_of_eq hc) (Nat.le_of_eq hs) hlocks (xt_x (n := 3) (by decide) hK hzk hP hD hS) hS.2.2 (Nat.le_of_eq hc) (Nat.le_of_eq hs)
  exact (blk k0).1 z 0 0 L0 σ0 r0 h0 (zk_rf _ _) ((Nat.zero_add _).trans hmc) ((Nat.zero_add _).trans hms) s.heap [] ls hP hD hS hl
/-! X11_end -/
def f_X11_end : Nat → Nat → LV → CS → Option RS
  | 0, _, _, _ => none
  | k + 1, 0, L, σ => if ((L.1 1)) < 0 then (f_X11_end k 1 L σ) else (if ((L.1 1)) ≤ ((σ.1 3701)) then (f_X11_end k 2 L σ) else (f_X11_end k 1 L σ))
  | k + 1, 1, L, σ => some ((1, 0), σ, (1, 6))
  | k + 1, 2, L, σ => some ((0, 0), (uI σ 3701 ((L.1 1))), (0, 0))
  | _ + 1, _ + 3, _, _ => none
def o_f_X11_end : List Cond := [.fieldLink RX11 72 "SetHouse" "lex" "LSetHouse$Lexer;", .classLink RX11 127 "java/lang/IllegalArgumentException", .initialized "java/lang/IllegalArgumentException"]
theorem o_f_X11_end_good : o_f_X11_end.all goodWord = true := by decide +kernel
def p_f_X11_end : List Cond := o_f_X11_end ++ (((vx_at0 RX11 129 "java/lang/IllegalArgumentException" ["java/lang/RuntimeException", "java/lang/Exception"]).filter goodWord) ++ [])
theorem p_f_X11_end_good : p_f_X11_end.all goodWord = true := nb_all2 o_f_X11_end_good (nb_all2 (nb_fg _) rfl)
def w_f_X11_end : List Cond := .code yX11_end cX11_end 2 none :: (p_f_X11_end ++ fC)
theorem w_f_X11_end_good : w_f_X11_end.all goodWord = true := nb_allc (by decide +kernel) (nb_all2 p_f_X11_end_good fC_good)
theorem in_f_X11_end_X2 : ∀ w ∈ wsX20, w ∈ w_f_X11_end := fun _ h => List.mem_cons_of_mem _ (List.mem_append_right _ (List.mem_append_right _ (List.mem_append_right _ (List.mem_append_left _ h))))
theorem in_f_X11_end_X11 : ∀ w ∈ wsX110, w ∈ w_f_X11_end := fun _ h => List.mem_cons_of_mem _ (List.mem_append_right _ (List.mem_append_right _ (List.mem_append_right _ (List.mem_append_right _ (List.mem_append_right _ (List.mem_append_right _ (List.mem_append_right _ (List.mem_append_right _ (List.mem_append_right _ (List.mem_append_right _ (List.mem_append_right _ h)))))))))))
theorem hd_f_X11_end : yX11_end.cls = RX11 ∧ yX11_end.cls ≠ "java/lang/invoke/MethodHandle" ∧ yX11_end.cls ≠ "java/lang/invoke/VarHandle" ∧ (parseMethodDescriptor yX11_end.desc).map (fun d => d.parameters.length) = some 1 := by decide +kernel
set_option maxHeartbeats 40000000 in
set_option maxRecDepth 100000 in
theorem c_f_X11_end (l : Launch) (hl0 : l.stackTraces = false) (dC : Nat → ClassId) (dI : Nat → Nat → Nat) (cy : Nat → ClassId) (ek a : Nat → Nat) (k0 : Nat) (L0 : LV) (σ0 : CS) (r0 : RS) (h0 : f_X11_end k0 0 L0 σ0 = some r0) (z : Nat → Nat) (sz : Nat) : vx_Met l yX11_end w_f_X11_end ({ frames := 6, cells := r0.2.2.1, slots := r0.2.2.2, locals := 100 }) (va_Pc [.ref (a 75), .int (L0.1 1)] (nInF (dC, dI) cy ek sz (vC cy a z σ0))) (xV dC dI cy a (va_A (vC cy a z σ0) sz) [] z r0) (xX dC dI cy a (va_A (vC cy a z σ0) sz) [] z r0) r0.2.2.1 r0.2.2.2 (va_A (vC cy a z σ0) sz) := by
  refine vx_ofW (cc := cX11_end) (maxL := 2) (ret := none) (by decide) rfl ?_
  intro p e s m args below meth c s₁ B hml hno hv
  obtain ⟨rfl, ⟨⟨hsz, hP, hK, hD0, hG⟩, hE⟩, hT⟩ := hv
  have hx := B.exec
  have hb := B.bytes
  have hr := B.returns
  have hts := atoms_spec (ws := w_f_X11_end) B.pre
  have hown : s.vm.findClass RX11 = some m.cls := findClass_of_methodNamed B.named
  have hlocks := B.notSynchronized
  subst hsz
  have hD := hD0.self (sz := s.heap.size)
  generalize hAe : va_A (vC cy a z σ0) s.heap.size = A at hD hE hT ⊢
  have hA : ∀ q : Nat, s.heap.size ≤ q → A q := fun q h => by rw [← hAe]; exact Or.inr h
  have hS : va_S A s.heap s.heap [] := va_S.rf
  have hl := lv_entry ([.ref (a 75), .int (L0.1 1)]) (n := 2) (Nat.le_of_ble_eq_true rfl)
  rw [lg_entry_eq]
  generalize (lg_sl ([.ref (a 75), .int (L0.1 1)]) ++ List.replicate (2 - (lg_sl ([.ref (a 75), .int (L0.1 1)])).length) Slot.unset).toArray = ls at hl ⊢
  have hl : lv_has ls 2 [(0, .ref (a 75)), (1, .int (L0.1 1))] := hl
  generalize hmc : r0.2.2.1 = mc
  generalize hms : r0.2.2.2 = ms
  have blk : ∀ k : Nat, (bX p l e (headSpec w_f_X11_end ({ frames := 6, cells := mc, slots := ms, locals := 100 })).room s m #[.ref (a 75), .int (L0.1 1)] below meth c dC dI cy a A (fun r => vx_MQ below (xV dC dI cy a A [] z r) (xX dC dI cy a A [] z r) #[.ref (a 75), .int (L0.1 1)] s mc ms A) [] z mc ms 2 (f_X11_end k 0) (fun z L => [(0, .ref (a 75)), (1, .int (L.1 1))]) 0 (fun z L => [])) ∧ (bX p l e (headSpec w_f_X11_end ({ frames := 6, cells := mc, slots := ms, locals := 100 })).room s m #[.ref (a 75), .int (L0.1 1)] below meth c dC dI cy a A (fun r => vx_MQ below (xV dC dI cy a A [] z r) (xX dC dI cy a A [] z r) #[.ref (a 75), .int (L0.1 1)] s mc ms A) [] z mc ms 2 (f_X11_end k 1) (fun z L => []) 15 (fun z L => [])) ∧ (bX p l e (headSpec w_f_X11_end ({ frames := 6, cells := mc, slots := ms, locals := 100 })).room s m #[.ref (a 75), .int (L0.1 1)] below meth c dC dI cy a A (fun r => vx_MQ below (xV dC dI cy a A [] z r) (xX dC dI cy a A [] z r) #[.ref (a 75), .int (L0.1 1)] s mc ms A) [] z mc ms 2 (f_X11_end k 2) (fun z L => [(0, .ref (a 75)), (1, .int (L.1 1))]) 23 (fun z L => [])) := by
    intro k
    induction k with
    | zero => exact ⟨fun z c1 c2 L σ r h => (by cases h), fun z c1 c2 L σ r h => (by cases h), fun z c1 c2 L σ r h => (by cases h)⟩
    | succ k ih =>
      refine ⟨?_, ?_, ?_⟩
      · intro z cells slots L σ r h hzk hc hs H locs ls hP hD hS hl
        rw [f_X11_end] at h
        refine lv_iload_n hx hb dX11_end_0 rfl (lv_at hl 1 rfl) ?_
        refine lv_if_lt (tgt := 15) hx hb dX11_end_1 (by decide) (fun c1 => ?_) (fun c1 => ?_)
        · rw [if_pos c1] at h
          exact ih.2.1 z _ _ L σ _ h hzk hc hs H locs ls hP hD hS (lv_sub hl [] rfl)
        · rw [if_neg c1] at h
          refine lv_iload_n hx hb dX11_end_4 rfl (lv_at hl 1 rfl) ?_
          refine lv_aload_n hx hb dX11_end_5 rfl (lv_at hl 0 rfl) ?_
          refine hg_75_6 hx hb hts in_f_X11_end_X11 hown hK hP (hts _ (List.mem_cons_of_mem _ (List.mem_append_left _ (List.mem_append_left _ (List.mem_of_getElem? (i := 0) rfl))))) dX11_end_6 ?_
          refine hg_37_1n hx hb hts in_f_X11_end_X2 hown hK hP (va_Nw.use rfl (hG.1 _ (List.mem_of_getElem? (i := 51) rfl))) dX11_end_9 ?_
          refine lv_icmp_le (tgt := 23) hx hb dX11_end_12 (by decide) (fun c2 => ?_) (fun c2 => ?_)
          · rw [if_pos c2] at h
            exact ih.2.2 z _ _ L σ _ h hzk hc hs H locs ls hP hD hS (lv_sub hl [0, 1] rfl)
          · rw [if_neg c2] at h
            exact ih.2.1 z _ _ L σ _ h hzk hc hs H locs ls hP hD hS (lv_sub hl [] rfl)
      · intro z cells slots L σ r h hzk hc hs H locs ls hP hD hS hl
        rw [f_X11_end] at h
        obtain rfl := Option.some.inj h
        exact vx_throw0 (cls := "java/lang/IllegalArgumentException") (names := ["java/lang/RuntimeException", "java/lang/Exception"]) hx hb hl0 hown (by decide) (by decide) (hts _ (List.mem_cons_of_mem _ (List.mem_append_left _ (List.mem_append_left _ (List.mem_of_getElem? (i := 1) rfl))))) (hts _ (List.mem_cons_of_mem _ (List.mem_append_left _ (List.mem_append_left _ (List.mem_of_getElem? (i := 2) rfl))))) (vx_hat (B := [.castable "java/lang/IllegalArgumentException" "java/lang/IllegalArgumentException", .declares (Bundle.init0 "java/lang/RuntimeException"), .declares (Bundle.init0 "java/lang/Exception"), .declares (Bundle.init0 Bundle.tN)]) (fun w h => hts w (List.mem_cons_of_mem _ (List.mem_append_left _ (List.mem_append_right _ (List.mem_append_left _ h))))) (by decide +kernel) (vx_c (va_Nw.use (by decide +kernel) (hT.2.2.1 _ (List.mem_of_getElem? (i := 1) rfl))) (vx_c (va_Nw.use (by decide +kernel) (hT.2.2.1 _ (List.mem_of_getElem? (i := 4) rfl))) (vx_c (va_Nw.use (by decide +kernel) (hT.2.2.1 _ (List.mem_of_getElem? (i := 5) rfl))) (vx_c (va_Nw.use (by decide +kernel) (hT.2.2.1 _ (List.mem_of_getElem? (i := 6) rfl))) vx_n))))) (fun w h => List.all_eq_true.mp (by decide +kernel : (Cond.classLink RX11 127 "java/lang/IllegalArgumentException" :: Cond.initialized "java/lang/IllegalArgumentException" :: (vx_at0 RX11 129 "java/lang/IllegalArgumentException" ["java/lang/RuntimeException", "java/lang/Exception"])).all vx_ot = true) w h) hT.1 hT.2.1 hS (hl.1.trans hml.symm) dX11_end_15 dX11_end_18 dX11_end_19 dX11_end_22 (fun x h => (hno x h).elim) (Nat.le_of_ble_eq_true rfl) (Nat.le_of_ble_eq_true rfl) (Nat.le_of_eq hc) (Nat.le_of_eq hs) hlocks (xt_x (n := 1) (by decide) hK hzk hP hD hS) hS.2.2 (Nat.le_of_eq hc) (Nat.le_of_eq hs)
      · intro z cells slots L σ r h hzk hc hs H locs ls hP hD hS hl
        rw [f_X11_end] at h
        refine lv_aload_n hx hb dX11_end_23 rfl (lv_at hl 0 rfl) ?_
        refine hg_75_6 hx hb hts in_f_X11_end_X11 hown hK hP (hts _ (List.mem_cons_of_mem _ (List.mem_append_left _ (List.mem_append_left _ (List.mem_of_getElem? (i := 0) rfl))))) dX11_end_24 ?_
        refine lv_iload_n hx hb dX11_end_27 rfl (lv_at hl 1 rfl) ?_
        refine hp_37_1n hx hb hts in_f_X11_end_X2 hown hK hP hD hS (va_Nw.use rfl (hG.1 _ (List.mem_of_getElem? (i := 51) rfl))) dX11_end_28 (fun H locs hP hD hS => ?_)
        obtain rfl := Option.some.inj h
        subst hc
        subst hs
        exact xr_v hx hb hr hK hzk hP hD hS hlocks dX11_end_31
  exact (blk k0).1 z 0 0 L0 σ0 r0 h0 (zk_rf _ _) ((Nat.zero_add _).trans hmc) ((Nat.zero_add _).trans hms) s.heap [] ls hP hD hS hl
/-! X2_widen -/
def f_X2_widen : Nat → Nat → LV → CS → Option RS
  | 0, _, _, _ => none
  | k + 1, 0, L, σ => if 10242 < ((L.1 1)) then (f_X2_widen k 1 (lI L 100 ((L.1 1))) σ) else (f_X2_widen k 2 (lI (lI L 100 10242) 101 ((L.1 1))) σ)
  | k + 1, 1, L, σ => f_X2_widen k 2 (lI (lI L 100 32770) 101 ((L.1 100))) σ
  | k + 1, 2, L, σ => if ¬ ((L.1 100)) < 0 ∧ ((L.1 100)).toNatClampNeg < 134217728 ∧ (sN σ 38) < 2147483648 then (if nI (sN σ 38) < ((L.1 101)) ∧ (sN σ 38) < ((L.1 100)).toNatClampNeg then (if ∀ i, i < (sN σ 38) → fits .byte (.int (σ.2.2.1 38 i)) = true then (adR (1, ((L.1 100)).toNatClampNeg) (f_X2_widen k 3 L (uZ σ 38 ((L.1 100)).toNatClampNeg))) else none) else (f_X2_widen k 3 L σ)) else none
  | k + 1, 3, L, σ => some ((0, 0), σ, (0, 0))
  | _ + 1, _ + 4, _, _ => none
def o_f_X2_widen : List Cond := [.fieldLink RX2 11 "SetHouse$Lexer" "tape" "[B", .constant RX2 38 (32770), .initialized RX11, .static yX11_widenedBytes]
theorem o_f_X2_widen_good : o_f_X2_widen.all goodWord = true := by decide +kernel
def p_f_X2_widen : List Cond := o_f_X2_widen ++ ((.code yX11_widenedBytes cX11_widenedBytes 3 (some (.array .byte)) :: p_f_X11_widenedBytes) ++ [])
theorem p_f_X2_widen_good : p_f_X2_widen.all goodWord = true := nb_all2 o_f_X2_widen_good (nb_all2 (nb_allc (by decide +kernel) p_f_X11_widenedBytes_good) rfl)
def w_f_X2_widen : List Cond := .code yX2_widen cX2_widen 2 none :: (p_f_X2_widen ++ fC)
theorem w_f_X2_widen_good : w_f_X2_widen.all goodWord = true := nb_allc (by decide +kernel) (nb_all2 p_f_X2_widen_good fC_good)
theorem in_f_X2_widen_X2 : ∀ w ∈ wsX20, w ∈ w_f_X2_widen := fun _ h => List.mem_cons_of_mem _ (List.mem_append_right _ (List.mem_append_right _ (List.mem_append_right _ (List.mem_append_left _ h))))
theorem hd_f_X2_widen : yX2_widen.cls = RX2 ∧ yX2_widen.cls ≠ "java/lang/invoke/MethodHandle" ∧ yX2_widen.cls ≠ "java/lang/invoke/VarHandle" ∧ (parseMethodDescriptor yX2_widen.desc).map (fun d => d.parameters.length) = some 1 := by decide +kernel
theorem gg_f_X2_widen_X11_widenedBytes : GoodIn w_f_X2_widen w_f_X11_widenedBytes := goodIn_sub (fun w h => (List.mem_cons.mp h).elim (fun e => (List.mem_cons_of_mem _ (List.mem_append_left _ (List.mem_append_right _ (List.mem_append_left _ (List.mem_cons.mpr (Or.inl e))))))) (fun h => (List.mem_append.mp h).elim (fun h => (List.mem_cons_of_mem _ (List.mem_append_left _ (List.mem_append_right _ (List.mem_append_left _ (List.mem_cons_of_mem _ h)))))) (fun h => List.mem_cons_of_mem _ (List.mem_append_right _ h)))) w_f_X11_widenedBytes_good
theorem g_f_X2_widen_X11_widenedBytes_SN39 : GoodIn w_f_X2_widen w_f_X11_widenedBytes := gg_f_X2_widen_X11_widenedBytes
set_option maxHeartbeats 40000000 in
set_option maxRecDepth 100000 in
theorem c_f_X2_widen (l : Launch) (hl0 : l.stackTraces = false) (dC : Nat → ClassId) (dI : Nat → Nat → Nat) (cy : Nat → ClassId) (ek a : Nat → Nat) (k0 : Nat) (L0 : LV) (σ0 : CS) (r0 : RS) (h0 : f_X2_widen k0 0 L0 σ0 = some r0) (z : Nat → Nat) (sz : Nat) : vx_Met l yX2_widen w_f_X2_widen ({ frames := 3, cells := r0.2.2.1, slots := r0.2.2.2, locals := 114 }) (va_Pc [.ref (a 37), .int (L0.1 1)] (nInF (dC, dI) cy ek sz (vC cy a z σ0))) (xV dC dI cy a (va_A (vC cy a z σ0) sz) [38] z r0) (xX dC dI cy a (va_A (vC cy a z σ0) sz) [38] z r0) r0.2.2.1 r0.2.2.2 (va_A (vC cy a z σ0) sz) := by
  refine vx_ofW (cc := cX2_widen) (maxL := 2) (ret := none) (by decide) rfl ?_
  intro p e s m args below meth c s₁ B hml hno hv
  obtain ⟨rfl, ⟨⟨hsz, hP, hK, hD0, hG⟩, hE⟩, hT⟩ := hv
  have hx := B.exec
  have hb := B.bytes
  have hr := B.returns
  have hts := atoms_spec (ws := w_f_X2_widen) B.pre
  have hown : s.vm.findClass RX2 = some m.cls := findClass_of_methodNamed B.named
  have hlocks := B.notSynchronized
  subst hsz
  have hD := hD0.self (sz := s.heap.size)
  generalize hAe : va_A (vC cy a z σ0) s.heap.size = A at hD hE hT ⊢
  have hA : ∀ q : Nat, s.heap.size ≤ q → A q := fun q h => by rw [← hAe]; exact Or.inr h
  have hS : va_S A s.heap s.heap [] := va_S.rf
  have hl := lv_entry ([.ref (a 37), .int (L0.1 1)]) (n := 2) (Nat.le_of_ble_eq_true rfl)
  rw [lg_entry_eq]
  generalize (lg_sl ([.ref (a 37), .int (L0.1 1)]) ++ List.replicate (2 - (lg_sl ([.ref (a 37), .int (L0.1 1)])).length) Slot.unset).toArray = ls at hl ⊢
  have hl : lv_has ls 2 [(0, .ref (a 37)), (1, .int (L0.1 1))] := hl
  generalize hmc : r0.2.2.1 = mc
  generalize hms : r0.2.2.2 = ms
  have blk : ∀ k : Nat, (bX p l e (headSpec w_f_X2_widen ({ frames := 3, cells := mc, slots := ms, locals := 114 })).room s m #[.ref (a 37), .int (L0.1 1)] below meth c dC dI cy a A (fun r => vx_MQ below (xV dC dI cy a A [38] z r) (xX dC dI cy a A [38] z r) #[.ref (a 37), .int (L0.1 1)] s mc ms A) [38] z mc ms 2 (f_X2_widen k 0) (fun z L => [(0, .ref (a 37)), (1, .int (L.1 1))]) 0 (fun z L => [])) ∧ (bX p l e (headSpec w_f_X2_widen ({ frames := 3, cells := mc, slots := ms, locals := 114 })).room s m #[.ref (a 37), .int (L0.1 1)] below meth c dC dI cy a A (fun r => vx_MQ below (xV dC dI cy a A [38] z r) (xX dC dI cy a A [38] z r) #[.ref (a 37), .int (L0.1 1)] s mc ms A) [38] z mc ms 2 (f_X2_widen k 1) (fun z L => []) 19 (fun z L => [.int (L.1 100), .ref (z 38), .ref (a 37)])) ∧ (bX p l e (headSpec w_f_X2_widen ({ frames := 3, cells := mc, slots := ms, locals := 114 })).room s m #[.ref (a 37), .int (L0.1 1)] below meth c dC dI cy a A (fun r => vx_MQ below (xV dC dI cy a A [38] z r) (xX dC dI cy a A [38] z r) #[.ref (a 37), .int (L0.1 1)] s mc ms A) [38] z mc ms 2 (f_X2_widen k 2) (fun z L => []) 21 (fun z L => [.int (L.1 100), .int (L.1 101), .ref (z 38), .ref (a 37)])) ∧ (bX p l e (headSpec w_f_X2_widen ({ frames := 3, cells := mc, slots := ms, locals := 114 })).room s m #[.ref (a 37), .int (L0.1 1)] below meth c dC dI cy a A (fun r => vx_MQ below (xV dC dI cy a A [38] z r) (xX dC dI cy a A [38] z r) #[.ref (a 37), .int (L0.1 1)] s mc ms A) [38] z mc ms 2 (f_X2_widen k 3) (fun z L => []) 27 (fun z L => [])) := by
    intro k
    induction k with
    | zero => exact ⟨fun z c1 c2 L σ r h => (by cases h), fun z c1 c2 L σ r h => (by cases h), fun z c1 c2 L σ r h => (by cases h), fun z c1 c2 L σ r h => (by cases h)⟩
    | succ k ih =>
      refine ⟨?_, ?_, ?_, ?_⟩
      · intro z cells slots L σ r h hzk hc hs H locs ls hP hD hS hl
        rw [f_X2_widen] at h
        refine lv_aload_n hx hb dX2_widen_0 rfl (lv_at hl 0 rfl) ?_
        refine lv_aload_n hx hb dX2_widen_1 rfl (lv_at hl 0 rfl) ?_
        refine hg_37_0 hx hb hts in_f_X2_widen_X2 hown hK hP (hts _ (List.mem_cons_of_mem _ (List.mem_append_left _ (List.mem_append_left _ (List.mem_of_getElem? (i := 0) rfl))))) dX2_widen_2 ?_
        refine lv_iload_n hx hb dX2_widen_5 rfl (lv_at hl 1 rfl) ?_
        refine lv_iload_n hx hb dX2_widen_6 rfl (lv_at hl 1 rfl) ?_
        refine lv_sipush (v := 10242) hx hb dX2_widen_7 (by decide) ?_
        refine lv_icmp_gt (tgt := 19) hx hb dX2_widen_10 (by decide) (fun c1 => ?_) (fun c1 => ?_)
        · rw [if_pos c1] at h
          exact ih.2.1 z _ _ (lI L 100 ((L.1 1))) σ _ h hzk hc hs H locs ls hP hD hS (lv_sub hl [] rfl)
        · rw [if_neg c1] at h
          refine lv_sipush (v := 10242) hx hb dX2_widen_13 (by decide) ?_
          refine lv_goto (tgt := 21) hx hb dX2_widen_16 (by decide) ?_
          exact ih.2.2.1 z _ _ (lI (lI L 100 10242) 101 ((L.1 1))) σ _ h hzk hc hs H locs ls hP hD hS (lv_sub hl [] rfl)
      · intro z cells slots L σ r h hzk hc hs H locs ls hP hD hS hl
        rw [f_X2_widen] at h
        refine lv_ldc (v := 32770) hx hb hown (hts _ (List.mem_cons_of_mem _ (List.mem_append_left _ (List.mem_append_left _ (List.mem_of_getElem? (i := 1) rfl))))) dX2_widen_19 ?_
        exact ih.2.2.1 z _ _ (lI (lI L 100 32770) 101 ((L.1 100))) σ _ h hzk hc hs H locs ls hP hD hS (lv_sub hl [] rfl)
      · intro z cells slots L σ r h hzk hc hs H locs ls hP hD hS hl
        rw [f_X2_widen] at h
        obtain ⟨q1, h⟩ := kr_ite1 h
        by_cases q2 : nI (sN σ 38) < ((L.1 101)) ∧ (sN σ 38) < ((L.1 100)).toNatClampNeg
        · rw [if_pos q2] at h
          obtain ⟨q3, h⟩ := kr_ite1 h
          obtain ⟨y3, hny3, hy⟩ := adR_ex h
          subst hy
          have h := hny3
          refine hw_38_new ⟨hx, hb, hml, hown, hts⟩ ⟨va_cnB 3 hts g_f_X2_widen_X11_widenedBytes_SN39 rfl rfl rfl (hG.1 _ (List.mem_of_getElem? (i := 95) rfl)) (hts _ (List.mem_cons_of_mem _ (List.mem_append_left _ (List.mem_append_left _ (List.mem_of_getElem? (i := 2) rfl))))) (by decide +kernel) ⟨Nat.le_of_ble_eq_true rfl, Nat.le_of_ble_eq_true rfl⟩, (hts _ (List.mem_cons_of_mem _ (List.mem_append_left _ (List.mem_append_left _ (List.mem_of_getElem? (i := 3) rfl))))), trivial⟩ in_f_X2_widen_X2 hK hG hA hP hD hS q1 q2 q3 hl.1 (Nat.le_of_ble_eq_true rfl) dX2_widen_21 (hts _ (List.mem_cons_of_mem _ (List.mem_append_left _ (List.mem_append_left _ (List.mem_of_getElem? (i := 0) rfl))))) dX2_widen_24 (Nat.le_trans (Nat.add_le_add_left (Nat.le_add_right _ _) _) (Nat.le_of_eq hc)) (Nat.le_trans (Nat.add_le_add_left (Nat.le_add_right _ _) _) (Nat.le_of_eq hs)) (fun z H locs hz3 hP hD hS => ?_)
          have hzk := zk_tr hzk hz3 (by decide)
          replace hc := (Nat.add_assoc _ _ _).trans hc
          replace hs := (Nat.add_assoc _ _ _).trans hs
          exact ih.2.2.2 z _ _ L (uZ σ 38 ((L.1 100)).toNatClampNeg) _ h hzk hc hs H locs ls hP hD hS (lv_sub hl [] rfl)
        · rw [if_neg q2] at h
          refine hw_38_same ⟨hx, hb, hml, hown, hts⟩ ⟨va_cnB 3 hts g_f_X2_widen_X11_widenedBytes_SN39 rfl rfl rfl (hG.1 _ (List.mem_of_getElem? (i := 95) rfl)) (hts _ (List.mem_cons_of_mem _ (List.mem_append_left _ (List.mem_append_left _ (List.mem_of_getElem? (i := 2) rfl))))) (by decide +kernel) ⟨Nat.le_of_ble_eq_true rfl, Nat.le_of_ble_eq_true rfl⟩, (hts _ (List.mem_cons_of_mem _ (List.mem_append_left _ (List.mem_append_left _ (List.mem_of_getElem? (i := 3) rfl))))), trivial⟩ in_f_X2_widen_X2 hK hG hA hP hD hS q1 q2 hl.1 (Nat.le_of_ble_eq_true rfl) dX2_widen_21 (hts _ (List.mem_cons_of_mem _ (List.mem_append_left _ (List.mem_append_left _ (List.mem_of_getElem? (i := 0) rfl))))) dX2_widen_24 (Nat.le_trans (Nat.le_add_right _ _) (Nat.le_of_eq hc)) (Nat.le_trans (Nat.le_add_right _ _) (Nat.le_of_eq hs)) (fun H locs hP hD hS => ?_)
          exact ih.2.2.2 z _ _ L σ _ h hzk hc hs H locs ls hP hD hS (lv_sub hl [] rfl)
      · intro z cells slots L σ r h hzk hc hs H locs ls hP hD hS hl
        rw [f_X2_widen] at h
        obtain rfl := Option.some.inj h
        subst hc
        subst hs
        exact xr_v hx hb hr hK hzk hP hD hS hlocks dX2_widen_27
  exact (blk k0).1 z 0 0 L0 σ0 r0 h0 (zk_rf _ _) ((Nat.zero_add _).trans hmc) ((Nat.zero_add _).trans hms) s.heap [] ls hP hD hS hl
/-! X2_append -/
def f_X2_append : Nat → Nat → LV → CS → Option RS
  | 0, _, _, _ => none
  | k + 1, 0, L, σ => ox (f_X2_widen k 0 (lI lZ 1 ((((σ.1 3701)) + 4))) σ) (fun r1 => f_X2_append k 1 (lI L 2 24) r1.2.1)
  | k + 1, 1, L, σ => if ((L.1 2)) < 0 then (f_X2_append k 2 L σ) else (if ¬ (((σ.1 3701)) < 0 ∨ (sN σ 38) ≤ ((σ.1 3701)).toNatClampNeg) then (f_X2_append k 1 (lI L 2 ((((L.1 2)) - 8))) (uI (uA σ 38 ((σ.1 3701)).toNatClampNeg (vp_nar .byte ((((((L.1 1)) >>> (((L.1 2)) &&& 31))).toInt8.toInt32)))) 3701 (((((uA σ 38 ((σ.1 3701)).toNatClampNeg (vp_nar .byte ((((((L.1 1)) >>> (((L.1 2)) &&& 31))).toInt8.toInt32)))).1 3701)) + 1)))) else none)
  | k + 1, 2, L, σ => some ((0, 0), σ, (0, 0))
  | _ + 1, _ + 3, _, _ => none
def o_f_X2_append : List Cond := [.fieldLink RX2 31 "SetHouse$Lexer" "length" "I", .methodLink RX2 34 yX2_widen, .instanceMethod yX2_widen, .selects RX2 yX2_widen yX2_widen, .initialized RX2, .fieldLink RX2 11 "SetHouse$Lexer" "tape" "[B"]
theorem o_f_X2_append_good : o_f_X2_append.all goodWord = true := by decide +kernel
def p_f_X2_append : List Cond := o_f_X2_append ++ ((.code yX2_widen cX2_widen 2 none :: p_f_X2_widen) ++ [])
theorem p_f_X2_append_good : p_f_X2_append.all goodWord = true := nb_all2 o_f_X2_append_good (nb_all2 (nb_allc (by decide +kernel) p_f_X2_widen_good) rfl)
def w_f_X2_append : List Cond := .code yX2_append cX2_append 3 none :: (p_f_X2_append ++ fC)
theorem w_f_X2_append_good : w_f_X2_append.all goodWord = true := nb_allc (by decide +kernel) (nb_all2 p_f_X2_append_good fC_good)
theorem in_f_X2_append_X2 : ∀ w ∈ wsX20, w ∈ w_f_X2_append := fun _ h => List.mem_cons_of_mem _ (List.mem_append_right _ (List.mem_append_right _ (List.mem_append_right _ (List.mem_append_left _ h))))
theorem hd_f_X2_append : yX2_append.cls = RX2 ∧ yX2_append.cls ≠ "java/lang/invoke/MethodHandle" ∧ yX2_append.cls ≠ "java/lang/invoke/VarHandle" ∧ (parseMethodDescriptor yX2_append.desc).map (fun d => d.parameters.length) = some 1 := by decide +kernel
theorem gg_f_X2_append_X2_widen : GoodIn w_f_X2_append w_f_X2_widen := goodIn_sub (fun w h => (List.mem_cons.mp h).elim (fun e => (List.mem_cons_of_mem _ (List.mem_append_left _ (List.mem_append_right _ (List.mem_append_left _ (List.mem_cons.mpr (Or.inl e))))))) (fun h => (List.mem_append.mp h).elim (fun h => (List.mem_cons_of_mem _ (List.mem_append_left _ (List.mem_append_right _ (List.mem_append_left _ (List.mem_cons_of_mem _ h)))))) (fun h => List.mem_cons_of_mem _ (List.mem_append_right _ h)))) w_f_X2_widen_good
theorem g_f_X2_append_X2_widen_V34 : GoodIn w_f_X2_append (wsV RX2 34 RX2 yX2_widen w_f_X2_widen) := goodIn_app (nb_g4 (List.mem_cons_of_mem _ (List.mem_append_left _ (List.mem_append_left _ (List.mem_of_getElem? (i := 1) rfl)))) (List.mem_cons_of_mem _ (List.mem_append_left _ (List.mem_append_left _ (List.mem_of_getElem? (i := 2) rfl)))) (List.mem_cons_of_mem _ (List.mem_append_left _ (List.mem_append_left _ (List.mem_of_getElem? (i := 3) rfl)))) (List.mem_cons_of_mem _ (List.mem_append_left _ (List.mem_append_left _ (List.mem_of_getElem? (i := 4) rfl)))) (by decide +kernel)) gg_f_X2_append_X2_widen
set_option maxHeartbeats 40000000 in
set_option maxRecDepth 100000 in
theorem c_f_X2_append (l : Launch) (hl0 : l.stackTraces = false) (dC : Nat → ClassId) (dI : Nat → Nat → Nat) (cy : Nat → ClassId) (ek a : Nat → Nat) (k0 : Nat) (L0 : LV) (σ0 : CS) (r0 : RS) (h0 : f_X2_append k0 0 L0 σ0 = some r0) (z : Nat → Nat) (sz : Nat) : vx_Met l yX2_append w_f_X2_append ({ frames := 4, cells := r0.2.2.1, slots := r0.2.2.2, locals := 135 }) (va_Pc [.ref (a 37), .int (L0.1 1)] (nInF (dC, dI) cy ek sz (vC cy a z σ0))) (xV dC dI cy a (va_A (vC cy a z σ0) sz) [38] z r0) (xX dC dI cy a (va_A (vC cy a z σ0) sz) [38] z r0) r0.2.2.1 r0.2.2.2 (va_A (vC cy a z σ0) sz) := by
  refine vx_ofW (cc := cX2_append) (maxL := 3) (ret := none) (by decide) rfl ?_
  intro p e s m args below meth c s₁ B hml hno hv
  obtain ⟨rfl, ⟨⟨hsz, hP, hK, hD0, hG⟩, hE⟩, hT⟩ := hv
  have hx := B.exec
  have hb := B.bytes
  have hr := B.returns
  have hts := atoms_spec (ws := w_f_X2_append) B.pre
  have hown : s.vm.findClass RX2 = some m.cls := findClass_of_methodNamed B.named
  have hlocks := B.notSynchronized
  subst hsz
  have hD := hD0.self (sz := s.heap.size)
  generalize hAe : va_A (vC cy a z σ0) s.heap.size = A at hD hE hT ⊢
  have hA : ∀ q : Nat, s.heap.size ≤ q → A q := fun q h => by rw [← hAe]; exact Or.inr h
  have hS : va_S A s.heap s.heap [] := va_S.rf
  have hl := lv_entry ([.ref (a 37), .int (L0.1 1)]) (n := 3) (Nat.le_of_ble_eq_true rfl)
  rw [lg_entry_eq]
  generalize (lg_sl ([.ref (a 37), .int (L0.1 1)]) ++ List.replicate (3 - (lg_sl ([.ref (a 37), .int (L0.1 1)])).length) Slot.unset).toArray = ls at hl ⊢
  have hl : lv_has ls 3 [(0, .ref (a 37)), (1, .int (L0.1 1))] := hl
  generalize hmc : r0.2.2.1 = mc
  generalize hms : r0.2.2.2 = ms
  have blk : ∀ k : Nat, (bX p l e (headSpec w_f_X2_append ({ frames := 4, cells := mc, slots := ms, locals := 135 })).room s m #[.ref (a 37), .int (L0.1 1)] below meth c dC dI cy a A (fun r => vx_MQ below (xV dC dI cy a A [38] z r) (xX dC dI cy a A [38] z r) #[.ref (a 37), .int (L0.1 1)] s mc ms A) [38] z mc ms 3 (f_X2_append k 0) (fun z L => [(0, .ref (a 37)), (1, .int (L.1 1))]) 0 (fun z L => [])) ∧ (bX p l e (headSpec w_f_X2_append ({ frames := 4, cells := mc, slots := ms, locals := 135 })).room s m #[.ref (a 37), .int (L0.1 1)] below meth c dC dI cy a A (fun r => vx_MQ below (xV dC dI cy a A [38] z r) (xX dC dI cy a A [38] z r) #[.ref (a 37), .int (L0.1 1)] s mc ms A) [38] z mc ms 3 (f_X2_append k 1) (fun z L => [(0, .ref (a 37)), (1, .int (L.1 1)), (2, .int (L.1 2))]) 13 (fun z L => [])) ∧ (bX p l e (headSpec w_f_X2_append ({ frames := 4, cells := mc, slots := ms, locals := 135 })).room s m #[.ref (a 37), .int (L0.1 1)] below meth c dC dI cy a A (fun r => vx_MQ below (xV dC dI cy a A [38] z r) (xX dC dI cy a A [38] z r) #[.ref (a 37), .int (L0.1 1)] s mc ms A) [38] z mc ms 3 (f_X2_append k 2) (fun z L => []) 48 (fun z L => [])) := by
    intro k
    induction k with
    | zero => exact ⟨fun z c1 c2 L σ r h => (by cases h), fun z c1 c2 L σ r h => (by cases h), fun z c1 c2 L σ r h => (by cases h)⟩
    | succ k ih =>
      refine ⟨?_, ?_, ?_⟩
      · intro z cells slots L σ r h hzk hc hs H locs ls hP hD hS hl
        rw [f_X2_append] at h
        refine lv_aload_n hx hb dX2_append_0 rfl (lv_at hl 0 rfl) ?_
        refine lv_aload_n hx hb dX2_append_1 rfl (lv_at hl 0 rfl) ?_
        refine hg_37_1 hx hb hts in_f_X2_append_X2 hown hK hP (hts _ (List.mem_cons_of_mem _ (List.mem_append_left _ (List.mem_append_left _ (List.mem_of_getElem? (i := 0) rfl))))) dX2_append_2 ?_
        refine lv_iconst (v := 4) hx hb dX2_append_5 (by decide) ?_
        refine lv_iadd hx hb dX2_append_6 ?_
        obtain ⟨r1, hc1, hle1, h9⟩ := ox_ex h
        clear h
        refine kx_v (vx_runV (As := [.int (((σ.1 3701)) + 4)]) (rest := []) ⟨hx, hb, hml, hown, hts⟩ (c_f_X2_widen l hl0 dC dI cy ek a k (lI lZ 1 ((((σ.1 3701)) + 4))) σ r1 hc1 z H.size) (cwV 1 hts g_f_X2_append_X2_widen_V34 rfl rfl rfl hd_f_X2_widen ⟨Nat.le_of_ble_eq_true rfl, Nat.le_of_ble_eq_true rfl⟩) ⟨nb_blindF, va_recv hK hP (ci := 2) (q0 := 37) rfl rfl, (kx_pre hK hG hE hT hA hP hD hS)⟩ rfl rfl hl.1 rfl (lv_room (Nat.le_of_ble_eq_true rfl)) dX2_append_7 ⟨Nat.le_trans (Nat.add_le_add_left hle1.1 _) (Nat.le_of_eq hc), Nat.le_trans (Nat.add_le_add_left hle1.2 _) (Nat.le_of_eq hs)⟩) hK hA hzk hP hD hS (by decide) hno hlocks ?_
        rcases h9 with ⟨h00, y1, hny1, hy⟩ | ⟨h00, hy⟩
        · subst hy
          have h := hny1
          refine Or.inl ⟨h00, fun z H locs hz1 hzk hP hD hS => ?_⟩
          replace hc := (Nat.add_assoc _ _ _).trans hc
          replace hs := (Nat.add_assoc _ _ _).trans hs
          refine lv_bipush (v := 24) hx hb dX2_append_10 (by decide) ?_
          refine lv_istore_n (lv' := [(2, .int 24), (0, .ref (a 37)), (1, .int (L.1 1))]) hx hb dX2_append_12 rfl hl (by decide) rfl (fun ls hl => ?_)
          exact ih.2.1 z _ _ (lI L 2 24) r1.2.1 _ h hzk hc hs H locs ls hP hD hS (lv_sub hl [1, 2, 0] rfl)
        · subst hy
          exact Or.inr ⟨h00, rfl, hc, hs⟩
      · intro z cells slots L σ r h hzk hc hs H locs ls hP hD hS hl
        rw [f_X2_append] at h
        refine lv_iload_n hx hb dX2_append_13 rfl (lv_at hl 2 rfl) ?_
        refine lv_if_lt (tgt := 48) hx hb dX2_append_14 (by decide) (fun c1 => ?_) (fun c1 => ?_)
        · rw [if_pos c1] at h
          exact ih.2.2 z _ _ L σ _ h hzk hc hs H locs ls hP hD hS (lv_sub hl [] rfl)
        · rw [if_neg c1] at h
          refine lv_aload_n hx hb dX2_append_17 rfl (lv_at hl 0 rfl) ?_
          refine hg_37_0 hx hb hts in_f_X2_append_X2 hown hK hP (hts _ (List.mem_cons_of_mem _ (List.mem_append_left _ (List.mem_append_left _ (List.mem_of_getElem? (i := 5) rfl))))) dX2_append_18 ?_
          refine lv_aload_n hx hb dX2_append_21 rfl (lv_at hl 0 rfl) ?_
          refine hg_37_1 hx hb hts in_f_X2_append_X2 hown hK hP (hts _ (List.mem_cons_of_mem _ (List.mem_append_left _ (List.mem_append_left _ (List.mem_of_getElem? (i := 0) rfl))))) dX2_append_22 ?_
          refine lv_iload_n hx hb dX2_append_25 rfl (lv_at hl 1 rfl) ?_
          refine lv_iload_n hx hb dX2_append_26 rfl (lv_at hl 2 rfl) ?_
          refine lv_ishr hx hb dX2_append_27 ?_
          refine lv_i2b (v := ((((L.1 1)) >>> (((L.1 2)) &&& 31))).toInt8.toInt32) hx hb dX2_append_28 rfl ?_
          obtain ⟨q2, h⟩ := kr_ite1 h
          refine hs_38 hx hb hK hP hD hS q2 dX2_append_29 (fun H locs hP hD hS => ?_)
          refine lv_aload_n hx hb dX2_append_30 rfl (lv_at hl 0 rfl) ?_
          refine lv_dup hx hb dX2_append_31 rfl ?_
          refine hg_37_1 hx hb hts in_f_X2_append_X2 hown hK hP (hts _ (List.mem_cons_of_mem _ (List.mem_append_left _ (List.mem_append_left _ (List.mem_of_getElem? (i := 0) rfl))))) dX2_append_32 ?_
          refine lv_iconst (v := 1) hx hb dX2_append_35 (by decide) ?_
          refine lv_iadd hx hb dX2_append_36 ?_
          refine hp_37_1 hx hb hts in_f_X2_append_X2 hown hK hP hD hS (hts _ (List.mem_cons_of_mem _ (List.mem_append_left _ (List.mem_append_left _ (List.mem_of_getElem? (i := 0) rfl))))) dX2_append_37 (fun H locs hP hD hS => ?_)
          refine lv_iload_n hx hb dX2_append_40 rfl (lv_at hl 2 rfl) ?_
          refine lv_bipush (v := 8) hx hb dX2_append_41 (by decide) ?_
          refine lv_isub hx hb dX2_append_43 ?_
          refine lv_istore_n (lv' := [(2, .int (((L.1 2)) - 8)), (0, .ref (a 37)), (1, .int (L.1 1))]) hx hb dX2_append_44 rfl hl (by decide) rfl (fun ls hl => ?_)
          refine lv_goto (tgt := 13) hx hb dX2_append_45 (by decide) ?_
          exact ih.2.1 z _ _ (lI L 2 ((((L.1 2)) - 8))) (uI (uA σ 38 ((σ.1 3701)).toNatClampNeg (vp_nar .byte ((((((L.1 1)) >>> (((L.1 2)) &&& 31))).toInt8.toInt32)))) 3701 (((((uA σ 38 ((σ.1 3701)).toNatClampNeg (vp_nar .byte ((((((L.1 1)) >>> (((L.1 2)) &&& 31))).toInt8.toInt32)))).1 3701)) + 1))) _ h hzk hc hs H locs ls hP hD hS (lv_sub hl [1, 2, 0] rfl)
      · intro z cells slots L σ r h hzk hc hs H locs ls hP hD hS hl
        rw [f_X2_append] at h
        obtain rfl := Option.some.inj h
        subst hc
        subst hs
        exact xr_v hx hb hr hK hzk hP hD hS hlocks dX2_append_48
  exact (blk k0).1 z 0 0 L0 σ0 r0 h0 (zk_rf _ _) ((Nat.zero_add _).trans hmc) ((Nat.zero_add _).trans hms) s.heap [] ls hP hD hS hl
/-! X11_feed -/
def f_X11_feed : Nat → Nat → LV → CS → Option RS
  | 0, _, _, _ => none
  | k + 1, 0, L, σ => if ((((σ.1 3701)) + 20)) ≤ 32768 then (f_X11_feed k 1 L σ) else (some ((4, 0), σ, (1, 6)))
  | k + 1, 1, L, σ => ox (f_X2_append k 0 (lI lZ 1 ((L.1 1))) σ) (fun r1 => ox (f_X2_append k 0 (lI lZ 1 ((L.1 2))) r1.2.1) (fun r2 => ox (f_X2_append k 0 (lI lZ 1 ((L.1 3))) r2.2.1) (fun r3 => ox (f_X2_append k 0 (lI lZ 1 ((L.1 4))) r3.2.1) (fun r4 => ox (f_X2_append k 0 (lI lZ 1 ((L.1 5))) r4.2.1) (fun r5 => some ((0, (r5.2.1.1 3701)), r5.2.1, (0, 0)))))))
  | _ + 1, _ + 2, _, _ => none
def o_f_X11_feed : List Cond := [.fieldLink RX11 72 "SetHouse" "lex" "LSetHouse$Lexer;", .constant RX11 119 (32768), .classLink RX11 120 "java/lang/UnsupportedOperationException", .initialized "java/lang/UnsupportedOperationException", .methodLink RX11 123 yX2_append, .instanceMethod yX2_append, .selects RX2 yX2_append yX2_append, .initialized RX2]
theorem o_f_X11_feed_good : o_f_X11_feed.all goodWord = true := by decide +kernel
def p_f_X11_feed : List Cond := o_f_X11_feed ++ (((vx_at0 RX11 122 "java/lang/UnsupportedOperationException" ["java/lang/RuntimeException", "java/lang/Exception"]).filter goodWord) ++ ((.code yX2_append cX2_append 3 none :: p_f_X2_append) ++ []))
theorem p_f_X11_feed_good : p_f_X11_feed.all goodWord = true := nb_all2 o_f_X11_feed_good (nb_all2 (nb_fg _) (nb_all2 (nb_allc (by decide +kernel) p_f_X2_append_good) rfl))
def w_f_X11_feed : List Cond := .code yX11_feed cX11_feed 6 (some .int) :: (p_f_X11_feed ++ fC)
theorem w_f_X11_feed_good : w_f_X11_feed.all goodWord = true := nb_allc (by decide +kernel) (nb_all2 p_f_X11_feed_good fC_good)
theorem in_f_X11_feed_X2 : ∀ w ∈ wsX20, w ∈ w_f_X11_feed := fun _ h => List.mem_cons_of_mem _ (List.mem_append_right _ (List.mem_append_right _ (List.mem_append_right _ (List.mem_append_left _ h))))
theorem in_f_X11_feed_X11 : ∀ w ∈ wsX110, w ∈ w_f_X11_feed := fun _ h => List.mem_cons_of_mem _ (List.mem_append_right _ (List.mem_append_right _ (List.mem_append_right _ (List.mem_append_right _ (List.mem_append_right _ (List.mem_append_right _ (List.mem_append_right _ (List.mem_append_right _ (List.mem_append_right _ (List.mem_append_right _ (List.mem_append_right _ h)))))))))))
theorem hd_f_X11_feed : yX11_feed.cls = RX11 ∧ yX11_feed.cls ≠ "java/lang/invoke/MethodHandle" ∧ yX11_feed.cls ≠ "java/lang/invoke/VarHandle" ∧ (parseMethodDescriptor yX11_feed.desc).map (fun d => d.parameters.length) = some 5 := by decide +kernel
theorem gg_f_X11_feed_X2_append : GoodIn w_f_X11_feed w_f_X2_append := goodIn_sub (fun w h => (List.mem_cons.mp h).elim (fun e => (List.mem_cons_of_mem _ (List.mem_append_left _ (List.mem_append_right _ (List.mem_append_right _ (List.mem_append_left _ (List.mem_cons.mpr (Or.inl e)))))))) (fun h => (List.mem_append.mp h).elim (fun h => (List.mem_cons_of_mem _ (List.mem_append_left _ (List.mem_append_right _ (List.mem_append_right _ (List.mem_append_left _ (List.mem_cons_of_mem _ h))))))) (fun h => List.mem_cons_of_mem _ (List.mem_append_right _ h)))) w_f_X2_append_good
theorem g_f_X11_feed_X2_append_V123 : GoodIn w_f_X11_feed (wsV RX11 123 RX2 yX2_append w_f_X2_append) := goodIn_app (nb_g4 (List.mem_cons_of_mem _ (List.mem_append_left _ (List.mem_append_left _ (List.mem_of_getElem? (i := 4) rfl)))) (List.mem_cons_of_mem _ (List.mem_append_left _ (List.mem_append_left _ (List.mem_of_getElem? (i := 5) rfl)))) (List.mem_cons_of_mem _ (List.mem_append_left _ (List.mem_append_left _ (List.mem_of_getElem? (i := 6) rfl)))) (List.mem_cons_of_mem _ (List.mem_append_left _ (List.mem_append_left _ (List.mem_of_getElem? (i := 7) rfl)))) (by decide +kernel)) gg_f_X11_feed_X2_append
set_option maxHeartbeats 40000000 in
set_option maxRecDepth 100000 in
theorem c_f_X11_feed (l : Launch) (hl0 : l.stackTraces = false) (dC : Nat → ClassId) (dI : Nat → Nat → Nat) (cy : Nat → ClassId) (ek a : Nat → Nat) (k0 : Nat) (L0 : LV) (σ0 : CS) (r0 : RS) (h0 : f_X11_feed k0 0 L0 σ0 = some r0) (z : Nat → Nat) (sz : Nat) : vx_Met l yX11_feed w_f_X11_feed ({ frames := 6, cells := r0.2.2.1, slots := r0.2.2.2, locals := 157 }) (va_Pc [.ref (a 75), .int (L0.1 1), .int (L0.1 2), .int (L0.1 3), .int (L0.1 4), .int (L0.1 5)] (nInF (dC, dI) cy ek sz (vC cy a z σ0))) (xI dC dI cy a (va_A (vC cy a z σ0) sz) [38] z r0) (xX dC dI cy a (va_A (vC cy a z σ0) sz) [38] z r0) r0.2.2.1 r0.2.2.2 (va_A (vC cy a z σ0) sz) := by
  refine vx_ofW (cc := cX11_feed) (maxL := 6) (ret := (some .int)) (by decide) rfl ?_
  intro p e s m args below meth c s₁ B hml hno hv
  obtain ⟨rfl, ⟨⟨hsz, hP, hK, hD0, hG⟩, hE⟩, hT⟩ := hv
  have hx := B.exec
  have hb := B.bytes
  have hr := B.returns
  have hts := atoms_spec (ws := w_f_X11_feed) B.pre
  have hown : s.vm.findClass RX11 = some m.cls := findClass_of_methodNamed B.named
  have hlocks := B.notSynchronized
  subst hsz
  have hD := hD0.self (sz := s.heap.size)
  generalize hAe : va_A (vC cy a z σ0) s.heap.size = A at hD hE hT ⊢
  have hA : ∀ q : Nat, s.heap.size ≤ q → A q := fun q h => by rw [← hAe]; exact Or.inr h
  have hS : va_S A s.heap s.heap [] := va_S.rf
  have hl := lv_entry ([.ref (a 75), .int (L0.1 1), .int (L0.1 2), .int (L0.1 3), .int (L0.1 4), .int (L0.1 5)]) (n := 6) (Nat.le_of_ble_eq_true rfl)
  rw [lg_entry_eq]
  generalize (lg_sl ([.ref (a 75), .int (L0.1 1), .int (L0.1 2), .int (L0.1 3), .int (L0.1 4), .int (L0.1 5)]) ++ List.replicate (6 - (lg_sl ([.ref (a 75), .int (L0.1 1), .int (L0.1 2), .int (L0.1 3), .int (L0.1 4), .int (L0.1 5)])).length) Slot.unset).toArray = ls at hl ⊢
  have hl : lv_has ls 6 [(0, .ref (a 75)), (1, .int (L0.1 1)), (2, .int (L0.1 2)), (3, .int (L0.1 3)), (4, .int (L0.1 4)), (5, .int (L0.1 5))] := hl
  generalize hmc : r0.2.2.1 = mc
  generalize hms : r0.2.2.2 = ms
  have blk : ∀ k : Nat, (bX p l e (headSpec w_f_X11_feed ({ frames := 6, cells := mc, slots := ms, locals := 157 })).room s m #[.ref (a 75), .int (L0.1 1), .int (L0.1 2), .int (L0.1 3), .int (L0.1 4), .int (L0.1 5)] below meth c dC dI cy a A (fun r => vx_MQ below (xI dC dI cy a A [38] z r) (xX dC dI cy a A [38] z r) #[.ref (a 75), .int (L0.1 1), .int (L0.1 2), .int (L0.1 3), .int (L0.1 4), .int (L0.1 5)] s mc ms A) [38] z mc ms 6 (f_X11_feed k 0) (fun z L => [(0, .ref (a 75)), (1, .int (L.1 1)), (2, .int (L.1 2)), (3, .int (L.1 3)), (4, .int (L.1 4)), (5, .int (L.1 5))]) 0 (fun z L => [])) ∧ (bX p l e (headSpec w_f_X11_feed ({ frames := 6, cells := mc, slots := ms, locals := 157 })).room s m #[.ref (a 75), .int (L0.1 1), .int (L0.1 2), .int (L0.1 3), .int (L0.1 4), .int (L0.1 5)] below meth c dC dI cy a A (fun r => vx_MQ below (xI dC dI cy a A [38] z r) (xX dC dI cy a A [38] z r) #[.ref (a 75), .int (L0.1 1), .int (L0.1 2), .int (L0.1 3), .int (L0.1 4), .int (L0.1 5)] s mc ms A) [38] z mc ms 6 (f_X11_feed k 1) (fun z L => [(0, .ref (a 75)), (1, .int (L.1 1)), (2, .int (L.1 2)), (3, .int (L.1 3)), (4, .int (L.1 4)), (5, .int (L.1 5))]) 23 (fun z L => [])) := by
    intro k
    induction k with
    | zero => exact ⟨fun z c1 c2 L σ r h => (by cases h), fun z c1 c2 L σ r h => (by cases h)⟩
    | succ k ih =>
      refine ⟨?_, ?_⟩
      · intro z cells slots L σ r h hzk hc hs H locs ls hP hD hS hl
        rw [f_X11_feed] at h
        refine lv_aload_n hx hb dX11_feed_0 rfl (lv_at hl 0 rfl) ?_
        refine hg_75_6 hx hb hts in_f_X11_feed_X11 hown hK hP (hts _ (List.mem_cons_of_mem _ (List.mem_append_left _ (List.mem_append_left _ (List.mem_of_getElem? (i := 0) rfl))))) dX11_feed_1 ?_
        refine hg_37_1n hx hb hts in_f_X11_feed_X2 hown hK hP (va_Nw.use rfl (hG.1 _ (List.mem_of_getElem? (i := 51) rfl))) dX11_feed_4 ?_
        refine lv_bipush (v := 20) hx hb dX11_feed_7 (by decide) ?_
        refine lv_iadd hx hb dX11_feed_9 ?_
        refine lv_ldc (v := 32768) hx hb hown (hts _ (List.mem_cons_of_mem _ (List.mem_append_left _ (List.mem_append_left _ (List.mem_of_getElem? (i := 1) rfl))))) dX11_feed_10 ?_
        refine lv_icmp_le (tgt := 23) hx hb dX11_feed_12 (by decide) (fun c1 => ?_) (fun c1 => ?_)
        · rw [if_pos c1] at h
          exact ih.2 z _ _ L σ _ h hzk hc hs H locs ls hP hD hS (lv_sub hl [0, 1, 2, 3, 4, 5] rfl)
        · rw [if_neg c1] at h
          obtain rfl := Option.some.inj h
          exact vx_throw0 (cls := "java/lang/UnsupportedOperationException") (names := ["java/lang/RuntimeException", "java/lang/Exception"]) hx hb hl0 hown (by decide) (by decide) (hts _ (List.mem_cons_of_mem _ (List.mem_append_left _ (List.mem_append_left _ (List.mem_of_getElem? (i := 2) rfl))))) (hts _ (List.mem_cons_of_mem _ (List.mem_append_left _ (List.mem_append_left _ (List.mem_of_getElem? (i := 3) rfl))))) (vx_hat (B := [.castable "java/lang/UnsupportedOperationException" "java/lang/UnsupportedOperationException", .declares (Bundle.init0 "java/lang/RuntimeException"), .declares (Bundle.init0 "java/lang/Exception"), .declares (Bundle.init0 Bundle.tN)]) (fun w h => hts w (List.mem_cons_of_mem _ (List.mem_append_left _ (List.mem_append_right _ (List.mem_append_left _ h))))) (by decide +kernel) (vx_c (va_Nw.use (by decide +kernel) (hT.2.2.1 _ (List.mem_of_getElem? (i := 3) rfl))) (vx_c (va_Nw.use (by decide +kernel) (hT.2.2.1 _ (List.mem_of_getElem? (i := 4) rfl))) (vx_c (va_Nw.use (by decide +kernel) (hT.2.2.1 _ (List.mem_of_getElem? (i := 5) rfl))) (vx_c (va_Nw.use (by decide +kernel) (hT.2.2.1 _ (List.mem_of_getElem? (i := 6) rfl))) vx_n))))) (fun w h => List.all_eq_true.mp (by decide +kernel : (Cond.classLink RX11 120 "java/lang/UnsupportedOperationException" :: Cond.initialized "java/lang/UnsupportedOperationException" :: (vx_at0 RX11 122 "java/lang/UnsupportedOperationException" ["java/lang/RuntimeException", "java/lang/Exception"])).all vx_ot = true) w h) hT.1 hT.2.1 hS (hl.1.trans hml.symm) dX11_feed_15 dX11_feed_18 dX11_feed_19 dX11_feed_22 (fun x h => (hno x h).elim) (Nat.le_of_ble_eq_true rfl) (Nat.le_of_ble_eq_true rfl) (Nat.le_of_eq hc) (Nat.le_of_eq hs) hlocks (xt_x (n := 4) (by decide) hK hzk hP hD hS) hS.2.2 (Nat.le_of_eq hc) (Nat.le_of_eq hs)
      · intro z cells slots L σ r h hzk hc hs H locs ls hP hD hS hl
        rw [f_X11_feed] at h
        refine lv_aload_n hx hb dX11_feed_23 rfl (lv_at hl 0 rfl) ?_
        refine hg_75_6 hx hb hts in_f_X11_feed_X11 hown hK hP (hts _ (List.mem_cons_of_mem _ (List.mem_append_left _ (List.mem_append_left _ (List.mem_of_getElem? (i := 0) rfl))))) dX11_feed_24 ?_
        refine lv_iload_n hx hb dX11_feed_27 rfl (lv_at hl 1 rfl) ?_
        obtain ⟨r1, hc1, hle1, h9⟩ := ox_ex h
        clear h
        refine kx_v (vx_runV (As := [.int (L.1 1)]) (rest := []) ⟨hx, hb, hml, hown, hts⟩ (c_f_X2_append l hl0 dC dI cy ek a k (lI lZ 1 ((L.1 1))) σ r1 hc1 z H.size) (cwV 1 hts g_f_X11_feed_X2_append_V123 rfl rfl rfl hd_f_X2_append ⟨Nat.le_of_ble_eq_true rfl, Nat.le_of_ble_eq_true rfl⟩) ⟨nb_blindF, va_recv hK hP (ci := 2) (q0 := 37) rfl rfl, (kx_pre hK hG hE hT hA hP hD hS)⟩ rfl rfl hl.1 rfl (lv_room (Nat.le_of_ble_eq_true rfl)) dX11_feed_28 ⟨Nat.le_trans (Nat.add_le_add_left hle1.1 _) (Nat.le_of_eq hc), Nat.le_trans (Nat.add_le_add_left hle1.2 _) (Nat.le_of_eq hs)⟩) hK hA hzk hP hD hS (by decide) hno hlocks ?_
        rcases h9 with ⟨h00, y1, hny1, hy⟩ | ⟨h00, hy⟩
        · subst hy
          have h := hny1
          refine Or.inl ⟨h00, fun z H locs hz1 hzk hP hD hS => ?_⟩
          replace hc := (Nat.add_assoc _ _ _).trans hc
          replace hs := (Nat.add_assoc _ _ _).trans hs
          refine lv_aload_n hx hb dX11_feed_31 rfl (lv_at hl 0 rfl) ?_
          refine hg_75_6 hx hb hts in_f_X11_feed_X11 hown hK hP (hts _ (List.mem_cons_of_mem _ (List.mem_append_left _ (List.mem_append_left _ (List.mem_of_getElem? (i := 0) rfl))))) dX11_feed_32 ?_
          refine lv_iload_n hx hb dX11_feed_35 rfl (lv_at hl 2 rfl) ?_
          obtain ⟨r2, hc2, hle2, h9⟩ := ox_ex h
          clear h
          refine kx_v (r := y1) (vx_runV (As := [.int (L.1 2)]) (rest := []) ⟨hx, hb, hml, hown, hts⟩ (c_f_X2_append l hl0 dC dI cy ek a k (lI lZ 1 ((L.1 2))) r1.2.1 r2 hc2 z H.size) (cwV 1 hts g_f_X11_feed_X2_append_V123 rfl rfl rfl hd_f_X2_append ⟨Nat.le_of_ble_eq_true rfl, Nat.le_of_ble_eq_true rfl⟩) ⟨nb_blindF, va_recv hK hP (ci := 2) (q0 := 37) rfl rfl, (kx_pre hK hG hE hT hA hP hD hS)⟩ rfl rfl hl.1 rfl (lv_room (Nat.le_of_ble_eq_true rfl)) dX11_feed_36 ⟨Nat.le_trans (Nat.add_le_add_left hle2.1 _) (Nat.le_of_eq hc), Nat.le_trans (Nat.add_le_add_left hle2.2 _) (Nat.le_of_eq hs)⟩) hK hA hzk hP hD hS (by decide) hno hlocks ?_
          rcases h9 with ⟨h00, y2, hny2, hy⟩ | ⟨h00, hy⟩
          · subst hy
            have h := hny2
            refine Or.inl ⟨h00, fun z H locs hz2 hzk hP hD hS => ?_⟩
            replace hc := (Nat.add_assoc _ _ _).trans hc
            replace hs := (Nat.add_assoc _ _ _).trans hs
            refine lv_aload_n hx hb dX11_feed_39 rfl (lv_at hl 0 rfl) ?_
            refine hg_75_6 hx hb hts in_f_X11_feed_X11 hown hK hP (hts _ (List.mem_cons_of_mem _ (List.mem_append_left _ (List.mem_append_left _ (List.mem_of_getElem? (i := 0) rfl))))) dX11_feed_40 ?_
            refine lv_iload_n hx hb dX11_feed_43 rfl (lv_at hl 3 rfl) ?_
            obtain ⟨r3, hc3, hle3, h9⟩ := ox_ex h
            clear h
            refine kx_v (r := y2) (vx_runV (As := [.int (L.1 3)]) (rest := []) ⟨hx, hb, hml, hown, hts⟩ (c_f_X2_append l hl0 dC dI cy ek a k (lI lZ 1 ((L.1 3))) r2.2.1 r3 hc3 z H.size) (cwV 1 hts g_f_X11_feed_X2_append_V123 rfl rfl rfl hd_f_X2_append ⟨Nat.le_of_ble_eq_true rfl, Nat.le_of_ble_eq_true rfl⟩) ⟨nb_blindF, va_recv hK hP (ci := 2) (q0 := 37) rfl rfl, (kx_pre hK hG hE hT hA hP hD hS)⟩ rfl rfl hl.1 rfl (lv_room (Nat.le_of_ble_eq_true rfl)) dX11_feed_44 ⟨Nat.le_trans (Nat.add_le_add_left hle3.1 _) (Nat.le_of_eq hc), Nat.le_trans (Nat.add_le_add_left hle3.2 _) (Nat.le_of_eq hs)⟩) hK hA hzk hP hD hS (by decide) hno hlocks ?_
            rcases h9 with ⟨h00, y3, hny3, hy⟩ | ⟨h00, hy⟩
            · subst hy
              have h := hny3
              refine Or.inl ⟨h00, fun z H locs hz3 hzk hP hD hS => ?_⟩
              replace hc := (Nat.add_assoc _ _ _).trans hc
              replace hs := (Nat.add_assoc _ _ _).trans hs
              refine lv_aload_n hx hb dX11_feed_47 rfl (lv_at hl 0 rfl) ?_
              refine hg_75_6 hx hb hts in_f_X11_feed_X11 hown hK hP (hts _ (List.mem_cons_of_mem _ (List.mem_append_left _ (List.mem_append_left _ (List.mem_of_getElem? (i := 0) rfl))))) dX11_feed_48 ?_
              refine lv_iload hx hb dX11_feed_51 (lv_at hl 4 rfl) ?_
              obtain ⟨r4, hc4, hle4, h9⟩ := ox_ex h
              clear h
              refine kx_v (r := y3) (vx_runV (As := [.int (L.1 4)]) (rest := []) ⟨hx, hb, hml, hown, hts⟩ (c_f_X2_append l hl0 dC dI cy ek a k (lI lZ 1 ((L.1 4))) r3.2.1 r4 hc4 z H.size) (cwV 1 hts g_f_X11_feed_X2_append_V123 rfl rfl rfl hd_f_X2_append ⟨Nat.le_of_ble_eq_true rfl, Nat.le_of_ble_eq_true rfl⟩) ⟨nb_blindF, va_recv hK hP (ci := 2) (q0 := 37) rfl rfl, (kx_pre hK hG hE hT hA hP hD hS)⟩ rfl rfl hl.1 rfl (lv_room (Nat.le_of_ble_eq_true rfl)) dX11_feed_53 ⟨Nat.le_trans (Nat.add_le_add_left hle4.1 _) (Nat.le_of_eq hc), Nat.le_trans (Nat.add_le_add_left hle4.2 _) (Nat.le_of_eq hs)⟩) hK hA hzk hP hD hS (by decide) hno hlocks ?_
              rcases h9 with ⟨h00, y4, hny4, hy⟩ | ⟨h00, hy⟩
              · subst hy
                have h := hny4
                refine Or.inl ⟨h00, fun z H locs hz4 hzk hP hD hS => ?_⟩
                replace hc := (Nat.add_assoc _ _ _).trans hc
                replace hs := (Nat.add_assoc _ _ _).trans hs
                refine lv_aload_n hx hb dX11_feed_56 rfl (lv_at hl 0 rfl) ?_
                refine hg_75_6 hx hb hts in_f_X11_feed_X11 hown hK hP (hts _ (List.mem_cons_of_mem _ (List.mem_append_left _ (List.mem_append_left _ (List.mem_of_getElem? (i := 0) rfl))))) dX11_feed_57 ?_
                refine lv_iload hx hb dX11_feed_60 (lv_at hl 5 rfl) ?_
                obtain ⟨r5, hc5, hle5, h9⟩ := ox_ex h
                clear h
                refine kx_v (r := y4) (vx_runV (As := [.int (L.1 5)]) (rest := []) ⟨hx, hb, hml, hown, hts⟩ (c_f_X2_append l hl0 dC dI cy ek a k (lI lZ 1 ((L.1 5))) r4.2.1 r5 hc5 z H.size) (cwV 1 hts g_f_X11_feed_X2_append_V123 rfl rfl rfl hd_f_X2_append ⟨Nat.le_of_ble_eq_true rfl, Nat.le_of_ble_eq_true rfl⟩) ⟨nb_blindF, va_recv hK hP (ci := 2) (q0 := 37) rfl rfl, (kx_pre hK hG hE hT hA hP hD hS)⟩ rfl rfl hl.1 rfl (lv_room (Nat.le_of_ble_eq_true rfl)) dX11_feed_62 ⟨Nat.le_trans (Nat.add_le_add_left hle5.1 _) (Nat.le_of_eq hc), Nat.le_trans (Nat.add_le_add_left hle5.2 _) (Nat.le_of_eq hs)⟩) hK hA hzk hP hD hS (by decide) hno hlocks ?_
                rcases h9 with ⟨h00, y5, hny5, hy⟩ | ⟨h00, hy⟩
                · subst hy
                  have h := hny5
                  refine Or.inl ⟨h00, fun z H locs hz5 hzk hP hD hS => ?_⟩
                  replace hc := (Nat.add_assoc _ _ _).trans hc
                  replace hs := (Nat.add_assoc _ _ _).trans hs
                  refine lv_aload_n hx hb dX11_feed_65 rfl (lv_at hl 0 rfl) ?_
                  refine hg_75_6 hx hb hts in_f_X11_feed_X11 hown hK hP (hts _ (List.mem_cons_of_mem _ (List.mem_append_left _ (List.mem_append_left _ (List.mem_of_getElem? (i := 0) rfl))))) dX11_feed_66 ?_
                  refine hg_37_1n hx hb hts in_f_X11_feed_X2 hown hK hP (va_Nw.use rfl (hG.1 _ (List.mem_of_getElem? (i := 51) rfl))) dX11_feed_69 ?_
                  obtain rfl := Option.some.inj h
                  subst hc
                  subst hs
                  exact xr_i hx hb hr hK hzk hP hD hS hlocks dX11_feed_72
                · subst hy
                  exact Or.inr ⟨h00, rfl, hc, hs⟩
              · subst hy
                exact Or.inr ⟨h00, rfl, hc, hs⟩
            · subst hy
              exact Or.inr ⟨h00, rfl, hc, hs⟩
          · subst hy
            exact Or.inr ⟨h00, rfl, hc, hs⟩
        · subst hy
          exact Or.inr ⟨h00, rfl, hc, hs⟩
  exact (blk k0).1 z 0 0 L0 σ0 r0 h0 (zk_rf _ _) ((Nat.zero_add _).trans hmc) ((Nat.zero_add _).trans hms) s.heap [] ls hP hD hS hl
/-! X11_out -/
def f_X11_out : Nat → Nat → LV → CS → Option RS
  | 0, _, _, _ => none
  | k + 1, 0, L, σ => if ((σ.1 7511)) = 0 then (f_X11_out k 1 L σ) else (if ((L.1 1)) < 0 then (f_X11_out k 1 L σ) else (if 60000 ≤ ((L.1 1)) then (f_X11_out k 1 L σ) else (if ((σ.1 1915)) ≤ ((L.1 1)) then (f_X11_out k 1 L σ) else (if ((L.1 1)) < ((Int32.ofNat (sN σ 22))) then (f_X11_out k 2 L σ) else (f_X11_out k 1 L σ)))))
  | k + 1, 1, L, σ => some ((3, 0), σ, (1, 6))
  | k + 1, 2, L, σ => if ¬ (((L.1 1)) < 0 ∨ (sN σ 22) ≤ ((L.1 1)).toNatClampNeg) then (some ((0, (((σ.2.2.1 22 ((L.1 1)).toNatClampNeg)) &&& 255)), σ, (0, 0))) else none
  | _ + 1, _ + 3, _, _ => none
def o_f_X11_out : List Cond := [.fieldLink RX11 156 "SetHouse" "hasRun" "Z", .constant RX11 224 (60000), .fieldLink RX11 65 "SetHouse" "machine" "LSetHouse$Machine;", .classLink RX11 194 "java/lang/IndexOutOfBoundsException", .initialized "java/lang/IndexOutOfBoundsException"]
theorem o_f_X11_out_good : o_f_X11_out.all goodWord = true := by decide +kernel
def p_f_X11_out : List Cond := o_f_X11_out ++ (((vx_at0 RX11 196 "java/lang/IndexOutOfBoundsException" ["java/lang/RuntimeException", "java/lang/Exception"]).filter goodWord) ++ [])
theorem p_f_X11_out_good : p_f_X11_out.all goodWord = true := nb_all2 o_f_X11_out_good (nb_all2 (nb_fg _) rfl)
def w_f_X11_out : List Cond := .code yX11_out cX11_out 2 (some .int) :: (p_f_X11_out ++ fC)
theorem w_f_X11_out_good : w_f_X11_out.all goodWord = true := nb_allc (by decide +kernel) (nb_all2 p_f_X11_out_good fC_good)
theorem in_f_X11_out_X3 : ∀ w ∈ wsX30, w ∈ w_f_X11_out := fun _ h => List.mem_cons_of_mem _ (List.mem_append_right _ (List.mem_append_right _ (List.mem_append_right _ (List.mem_append_right _ (List.mem_append_left _ h)))))
theorem in_f_X11_out_X8 : ∀ w ∈ wsX80, w ∈ w_f_X11_out := fun _ h => List.mem_cons_of_mem _ (List.mem_append_right _ (List.mem_append_right _ (List.mem_append_right _ (List.mem_append_right _ (List.mem_append_right _ (List.mem_append_right _ (List.mem_append_right _ (List.mem_append_right _ (List.mem_append_left _ h)))))))))
theorem in_f_X11_out_X11 : ∀ w ∈ wsX110, w ∈ w_f_X11_out := fun _ h => List.mem_cons_of_mem _ (List.mem_append_right _ (List.mem_append_right _ (List.mem_append_right _ (List.mem_append_right _ (List.mem_append_right _ (List.mem_append_right _ (List.mem_append_right _ (List.mem_append_right _ (List.mem_append_right _ (List.mem_append_right _ (List.mem_append_right _ h)))))))))))
theorem hd_f_X11_out : yX11_out.cls = RX11 ∧ yX11_out.cls ≠ "java/lang/invoke/MethodHandle" ∧ yX11_out.cls ≠ "java/lang/invoke/VarHandle" ∧ (parseMethodDescriptor yX11_out.desc).map (fun d => d.parameters.length) = some 1 := by decide +kernel
set_option maxHeartbeats 40000000 in
set_option maxRecDepth 100000 in
theorem c_f_X11_out (l : Launch) (hl0 : l.stackTraces = false) (dC : Nat → ClassId) (dI : Nat → Nat → Nat) (cy : Nat → ClassId) (ek a : Nat → Nat) (k0 : Nat) (L0 : LV) (σ0 : CS) (r0 : RS) (h0 : f_X11_out k0 0 L0 σ0 = some r0) (z : Nat → Nat) (sz : Nat) : vx_Met l yX11_out w_f_X11_out ({ frames := 6, cells := r0.2.2.1, slots := r0.2.2.2, locals := 100 }) (va_Pc [.ref (a 75), .int (L0.1 1)] (nInF (dC, dI) cy ek sz (vC cy a z σ0))) (xI dC dI cy a (va_A (vC cy a z σ0) sz) [] z r0) (xX dC dI cy a (va_A (vC cy a z σ0) sz) [] z r0) r0.2.2.1 r0.2.2.2 (va_A (vC cy a z σ0) sz) := by
  refine vx_ofW (cc := cX11_out) (maxL := 2) (ret := (some .int)) (by decide) rfl ?_
  intro p e s m args below meth c s₁ B hml hno hv
  obtain ⟨rfl, ⟨⟨hsz, hP, hK, hD0, hG⟩, hE⟩, hT⟩ := hv
  have hx := B.exec
  have hb := B.bytes
  have hr := B.returns
  have hts := atoms_spec (ws := w_f_X11_out) B.pre
  have hown : s.vm.findClass RX11 = some m.cls := findClass_of_methodNamed B.named
  have hlocks := B.notSynchronized
  subst hsz
  have hD := hD0.self (sz := s.heap.size)
  generalize hAe : va_A (vC cy a z σ0) s.heap.size = A at hD hE hT ⊢
  have hA : ∀ q : Nat, s.heap.size ≤ q → A q := fun q h => by rw [← hAe]; exact Or.inr h
  have hS : va_S A s.heap s.heap [] := va_S.rf
  have hl := lv_entry ([.ref (a 75), .int (L0.1 1)]) (n := 2) (Nat.le_of_ble_eq_true rfl)
  rw [lg_entry_eq]
  generalize (lg_sl ([.ref (a 75), .int (L0.1 1)]) ++ List.replicate (2 - (lg_sl ([.ref (a 75), .int (L0.1 1)])).length) Slot.unset).toArray = ls at hl ⊢
  have hl : lv_has ls 2 [(0, .ref (a 75)), (1, .int (L0.1 1))] := hl
  generalize hmc : r0.2.2.1 = mc
  generalize hms : r0.2.2.2 = ms
  have blk : ∀ k : Nat, (bX p l e (headSpec w_f_X11_out ({ frames := 6, cells := mc, slots := ms, locals := 100 })).room s m #[.ref (a 75), .int (L0.1 1)] below meth c dC dI cy a A (fun r => vx_MQ below (xI dC dI cy a A [] z r) (xX dC dI cy a A [] z r) #[.ref (a 75), .int (L0.1 1)] s mc ms A) [] z mc ms 2 (f_X11_out k 0) (fun z L => [(0, .ref (a 75)), (1, .int (L.1 1))]) 0 (fun z L => [])) ∧ (bX p l e (headSpec w_f_X11_out ({ frames := 6, cells := mc, slots := ms, locals := 100 })).room s m #[.ref (a 75), .int (L0.1 1)] below meth c dC dI cy a A (fun r => vx_MQ below (xI dC dI cy a A [] z r) (xX dC dI cy a A [] z r) #[.ref (a 75), .int (L0.1 1)] s mc ms A) [] z mc ms 2 (f_X11_out k 1) (fun z L => []) 43 (fun z L => [])) ∧ (bX p l e (headSpec w_f_X11_out ({ frames := 6, cells := mc, slots := ms, locals := 100 })).room s m #[.ref (a 75), .int (L0.1 1)] below meth c dC dI cy a A (fun r => vx_MQ below (xI dC dI cy a A [] z r) (xX dC dI cy a A [] z r) #[.ref (a 75), .int (L0.1 1)] s mc ms A) [] z mc ms 2 (f_X11_out k 2) (fun z L => [(0, .ref (a 75)), (1, .int (L.1 1))]) 51 (fun z L => [])) := by
    intro k
    induction k with
    | zero => exact ⟨fun z c1 c2 L σ r h => (by cases h), fun z c1 c2 L σ r h => (by cases h), fun z c1 c2 L σ r h => (by cases h)⟩
    | succ k ih =>
      refine ⟨?_, ?_, ?_⟩
      · intro z cells slots L σ r h hzk hc hs H locs ls hP hD hS hl
        rw [f_X11_out] at h
        refine lv_aload_n hx hb dX11_out_0 rfl (lv_at hl 0 rfl) ?_
        refine hg_75_11 hx hb hts in_f_X11_out_X11 hown hK hP (hts _ (List.mem_cons_of_mem _ (List.mem_append_left _ (List.mem_append_left _ (List.mem_of_getElem? (i := 0) rfl))))) dX11_out_1 ?_
        refine lv_if_eq (tgt := 43) hx hb dX11_out_4 (by decide) (fun c1 => ?_) (fun c1 => ?_)
        · rw [if_pos c1] at h
          exact ih.2.1 z _ _ L σ _ h hzk hc hs H locs ls hP hD hS (lv_sub hl [] rfl)
        · rw [if_neg c1] at h
          refine lv_iload_n hx hb dX11_out_7 rfl (lv_at hl 1 rfl) ?_
          refine lv_if_lt (tgt := 43) hx hb dX11_out_8 (by decide) (fun c2 => ?_) (fun c2 => ?_)
          · rw [if_pos c2] at h
            exact ih.2.1 z _ _ L σ _ h hzk hc hs H locs ls hP hD hS (lv_sub hl [] rfl)
          · rw [if_neg c2] at h
            refine lv_iload_n hx hb dX11_out_11 rfl (lv_at hl 1 rfl) ?_
            refine lv_ldc (v := 60000) hx hb hown (hts _ (List.mem_cons_of_mem _ (List.mem_append_left _ (List.mem_append_left _ (List.mem_of_getElem? (i := 1) rfl))))) dX11_out_12 ?_
            refine lv_icmp_ge (tgt := 43) hx hb dX11_out_14 (by decide) (fun c3 => ?_) (fun c3 => ?_)
            · rw [if_pos c3] at h
              exact ih.2.1 z _ _ L σ _ h hzk hc hs H locs ls hP hD hS (lv_sub hl [] rfl)
            · rw [if_neg c3] at h
              refine lv_iload_n hx hb dX11_out_17 rfl (lv_at hl 1 rfl) ?_
              refine lv_aload_n hx hb dX11_out_18 rfl (lv_at hl 0 rfl) ?_
              refine hg_75_5 hx hb hts in_f_X11_out_X11 hown hK hP (hts _ (List.mem_cons_of_mem _ (List.mem_append_left _ (List.mem_append_left _ (List.mem_of_getElem? (i := 2) rfl))))) dX11_out_19 ?_
              refine hg_18_5n hx hb hts in_f_X11_out_X3 hown hK hP (va_Nw.use rfl (hG.1 _ (List.mem_of_getElem? (i := 47) rfl))) dX11_out_22 ?_
              refine hg_19_15n hx hb hts in_f_X11_out_X8 hown hK hP (va_Nw.use rfl (hG.1 _ (List.mem_of_getElem? (i := 39) rfl))) dX11_out_25 ?_
              refine lv_icmp_ge (tgt := 43) hx hb dX11_out_28 (by decide) (fun c4 => ?_) (fun c4 => ?_)
              · rw [if_pos c4] at h
                exact ih.2.1 z _ _ L σ _ h hzk hc hs H locs ls hP hD hS (lv_sub hl [] rfl)
              · rw [if_neg c4] at h
                refine lv_iload_n hx hb dX11_out_31 rfl (lv_at hl 1 rfl) ?_
                refine lv_aload_n hx hb dX11_out_32 rfl (lv_at hl 0 rfl) ?_
                refine hg_75_5 hx hb hts in_f_X11_out_X11 hown hK hP (hts _ (List.mem_cons_of_mem _ (List.mem_append_left _ (List.mem_append_left _ (List.mem_of_getElem? (i := 2) rfl))))) dX11_out_33 ?_
                refine hg_18_9n hx hb hts in_f_X11_out_X3 hown hK hP (va_Nw.use rfl (hG.1 _ (List.mem_of_getElem? (i := 48) rfl))) dX11_out_36 ?_
                refine hn_22 hx hb hK hP dX11_out_39 ?_
                refine lv_icmp_lt (tgt := 51) hx hb dX11_out_40 (by decide) (fun c5 => ?_) (fun c5 => ?_)
                · rw [if_pos c5] at h
                  exact ih.2.2 z _ _ L σ _ h hzk hc hs H locs ls hP hD hS (lv_sub hl [0, 1] rfl)
                · rw [if_neg c5] at h
                  exact ih.2.1 z _ _ L σ _ h hzk hc hs H locs ls hP hD hS (lv_sub hl [] rfl)
      · intro z cells slots L σ r h hzk hc hs H locs ls hP hD hS hl
        rw [f_X11_out] at h
        obtain rfl := Option.some.inj h
        exact vx_throw0 (cls := "java/lang/IndexOutOfBoundsException") (names := ["java/lang/RuntimeException", "java/lang/Exception"]) hx hb hl0 hown (by decide) (by decide) (hts _ (List.mem_cons_of_mem _ (List.mem_append_left _ (List.mem_append_left _ (List.mem_of_getElem? (i := 3) rfl))))) (hts _ (List.mem_cons_of_mem _ (List.mem_append_left _ (List.mem_append_left _ (List.mem_of_getElem? (i := 4) rfl))))) (vx_hat (B := [.castable "java/lang/IndexOutOfBoundsException" "java/lang/IndexOutOfBoundsException", .declares (Bundle.init0 "java/lang/RuntimeException"), .declares (Bundle.init0 "java/lang/Exception"), .declares (Bundle.init0 Bundle.tN)]) (fun w h => hts w (List.mem_cons_of_mem _ (List.mem_append_left _ (List.mem_append_right _ (List.mem_append_left _ h))))) (by decide +kernel) (vx_c (va_Nw.use (by decide +kernel) (hT.2.2.1 _ (List.mem_of_getElem? (i := 2) rfl))) (vx_c (va_Nw.use (by decide +kernel) (hT.2.2.1 _ (List.mem_of_getElem? (i := 4) rfl))) (vx_c (va_Nw.use (by decide +kernel) (hT.2.2.1 _ (List.mem_of_getElem? (i := 5) rfl))) (vx_c (va_Nw.use (by decide +kernel) (hT.2.2.1 _ (List.mem_of_getElem? (i := 6) rfl))) vx_n))))) (fun w h => List.all_eq_true.mp (by decide +kernel : (Cond.classLink RX11 194 "java/lang/IndexOutOfBoundsException" :: Cond.initialized "java/lang/IndexOutOfBoundsException" :: (vx_at0 RX11 196 "java/lang/IndexOutOfBoundsException" ["java/lang/RuntimeException", "java/lang/Exception"])).all vx_ot = true) w h) hT.1 hT.2.1 hS (hl.1.trans hml.symm) dX11_out_43 dX11_out_46 dX11_out_47 dX11_out_50 (fun x h => (hno x h).elim) (Nat.le_of_ble_eq_true rfl) (Nat.le_of_ble_eq_true rfl) (Nat.le_of_eq hc) (Nat.le_of_eq hs) hlocks (xt_x (n := 3) (by decide) hK hzk hP hD hS) hS.2.2 (Nat.le_of_eq hc) (Nat.le_of_eq hs)
      · intro z cells slots L σ r h hzk hc hs H locs ls hP hD hS hl
        rw [f_X11_out] at h
        refine lv_aload_n hx hb dX11_out_51 rfl (lv_at hl 0 rfl) ?_
        refine hg_75_5 hx hb hts in_f_X11_out_X11 hown hK hP (hts _ (List.mem_cons_of_mem _ (List.mem_append_left _ (List.mem_append_left _ (List.mem_of_getElem? (i := 2) rfl))))) dX11_out_52 ?_
        refine hg_18_9n hx hb hts in_f_X11_out_X3 hown hK hP (va_Nw.use rfl (hG.1 _ (List.mem_of_getElem? (i := 48) rfl))) dX11_out_55 ?_
        refine lv_iload_n hx hb dX11_out_58 rfl (lv_at hl 1 rfl) ?_
        obtain ⟨q1, h⟩ := kr_ite1 h
        refine hl_22 hx hb hK hP q1 dX11_out_59 ?_
        refine lv_sipush (v := 255) hx hb dX11_out_60 (by decide) ?_
        refine lv_iand hx hb dX11_out_63 ?_
        obtain rfl := Option.some.inj h
        subst hc
        subst hs
        exact xr_i hx hb hr hK hzk hP hD hS hlocks dX11_out_64
  exact (blk k0).1 z 0 0 L0 σ0 r0 h0 (zk_rf _ _) ((Nat.zero_add _).trans hmc) ((Nat.zero_add _).trans hms) s.heap [] ls hP hD hS hl
/-! X2_rewind -/
def f_X2_rewind : Nat → Nat → LV → CS → Option RS
  | 0, _, _, _ => none
  | k + 1, 0, L, σ => ox (f_X2_widen k 0 (lI lZ 1 ((((σ.1 3701)) + 2))) σ) (fun r1 => if ¬ (((r1.2.1.1 3701)) < 0 ∨ (sN r1.2.1 38) ≤ ((r1.2.1.1 3701)).toNatClampNeg) then (if ¬ ((((((uA r1.2.1 38 ((r1.2.1.1 3701)).toNatClampNeg (vp_nar .byte 0)).1 3701)) + 1)) < 0 ∨ (sN (uA r1.2.1 38 ((r1.2.1.1 3701)).toNatClampNeg (vp_nar .byte 0)) 38) ≤ (((((uA r1.2.1 38 ((r1.2.1.1 3701)).toNatClampNeg (vp_nar .byte 0)).1 3701)) + 1)).toNatClampNeg) then (f_X2_rewind k 1 L (uI (uA (uA r1.2.1 38 ((r1.2.1.1 3701)).toNatClampNeg (vp_nar .byte 0)) 38 (((((uA r1.2.1 38 ((r1.2.1.1 3701)).toNatClampNeg (vp_nar .byte 0)).1 3701)) + 1)).toNatClampNeg (vp_nar .byte 0)) 3704 0)) else none) else none)
  | k + 1, 1, L, σ => some ((0, 0), σ, (0, 0))
  | _ + 1, _ + 2, _, _ => none
def o_f_X2_rewind : List Cond := [.fieldLink RX2 31 "SetHouse$Lexer" "length" "I", .methodLink RX2 34 yX2_widen, .instanceMethod yX2_widen, .selects RX2 yX2_widen yX2_widen, .initialized RX2, .fieldLink RX2 11 "SetHouse$Lexer" "tape" "[B", .fieldLink RX2 43 "SetHouse$Lexer" "end" "I"]
theorem o_f_X2_rewind_good : o_f_X2_rewind.all goodWord = true := by decide +kernel
def p_f_X2_rewind : List Cond := o_f_X2_rewind ++ ((.code yX2_widen cX2_widen 2 none :: p_f_X2_widen) ++ [])
theorem p_f_X2_rewind_good : p_f_X2_rewind.all goodWord = true := nb_all2 o_f_X2_rewind_good (nb_all2 (nb_allc (by decide +kernel) p_f_X2_widen_good) rfl)
def w_f_X2_rewind : List Cond := .code yX2_rewind cX2_rewind 1 none :: (p_f_X2_rewind ++ fC)
theorem w_f_X2_rewind_good : w_f_X2_rewind.all goodWord = true := nb_allc (by decide +kernel) (nb_all2 p_f_X2_rewind_good fC_good)
theorem in_f_X2_rewind_X2 : ∀ w ∈ wsX20, w ∈ w_f_X2_rewind := fun _ h => List.mem_cons_of_mem _ (List.mem_append_right _ (List.mem_append_right _ (List.mem_append_right _ (List.mem_append_left _ h))))
theorem hd_f_X2_rewind : yX2_rewind.cls = RX2 ∧ yX2_rewind.cls ≠ "java/lang/invoke/MethodHandle" ∧ yX2_rewind.cls ≠ "java/lang/invoke/VarHandle" ∧ (parseMethodDescriptor yX2_rewind.desc).map (fun d => d.parameters.length) = some 0 := by decide +kernel
theorem gg_f_X2_rewind_X2_widen : GoodIn w_f_X2_rewind w_f_X2_widen := goodIn_sub (fun w h => (List.mem_cons.mp h).elim (fun e => (List.mem_cons_of_mem _ (List.mem_append_left _ (List.mem_append_right _ (List.mem_append_left _ (List.mem_cons.mpr (Or.inl e))))))) (fun h => (List.mem_append.mp h).elim (fun h => (List.mem_cons_of_mem _ (List.mem_append_left _ (List.mem_append_right _ (List.mem_append_left _ (List.mem_cons_of_mem _ h)))))) (fun h => List.mem_cons_of_mem _ (List.mem_append_right _ h)))) w_f_X2_widen_good
theorem g_f_X2_rewind_X2_widen_V34 : GoodIn w_f_X2_rewind (wsV RX2 34 RX2 yX2_widen w_f_X2_widen) := goodIn_app (nb_g4 (List.mem_cons_of_mem _ (List.mem_append_left _ (List.mem_append_left _ (List.mem_of_getElem? (i := 1) rfl)))) (List.mem_cons_of_mem _ (List.mem_append_left _ (List.mem_append_left _ (List.mem_of_getElem? (i := 2) rfl)))) (List.mem_cons_of_mem _ (List.mem_append_left _ (List.mem_append_left _ (List.mem_of_getElem? (i := 3) rfl)))) (List.mem_cons_of_mem _ (List.mem_append_left _ (List.mem_append_left _ (List.mem_of_getElem? (i := 4) rfl)))) (by decide +kernel)) gg_f_X2_rewind_X2_widen
set_option maxHeartbeats 40000000 in
set_option maxRecDepth 100000 in
theorem c_f_X2_rewind (l : Launch) (hl0 : l.stackTraces = false) (dC : Nat → ClassId) (dI : Nat → Nat → Nat) (cy : Nat → ClassId) (ek a : Nat → Nat) (k0 : Nat) (L0 : LV) (σ0 : CS) (r0 : RS) (h0 : f_X2_rewind k0 0 L0 σ0 = some r0) (z : Nat → Nat) (sz : Nat) : vx_Met l yX2_rewind w_f_X2_rewind ({ frames := 4, cells := r0.2.2.1, slots := r0.2.2.2, locals := 135 }) (va_Pc [.ref (a 37)] (nInF (dC, dI) cy ek sz (vC cy a z σ0))) (xV dC dI cy a (va_A (vC cy a z σ0) sz) [38] z r0) (xX dC dI cy a (va_A (vC cy a z σ0) sz) [38] z r0) r0.2.2.1 r0.2.2.2 (va_A (vC cy a z σ0) sz) := by
  refine vx_ofW (cc := cX2_rewind) (maxL := 1) (ret := none) (by decide) rfl ?_
  intro p e s m args below meth c s₁ B hml hno hv
  obtain ⟨rfl, ⟨⟨hsz, hP, hK, hD0, hG⟩, hE⟩, hT⟩ := hv
  have hx := B.exec
  have hb := B.bytes
  have hr := B.returns
  have hts := atoms_spec (ws := w_f_X2_rewind) B.pre
  have hown : s.vm.findClass RX2 = some m.cls := findClass_of_methodNamed B.named
  have hlocks := B.notSynchronized
  subst hsz
  have hD := hD0.self (sz := s.heap.size)
  generalize hAe : va_A (vC cy a z σ0) s.heap.size = A at hD hE hT ⊢
  have hA : ∀ q : Nat, s.heap.size ≤ q → A q := fun q h => by rw [← hAe]; exact Or.inr h
  have hS : va_S A s.heap s.heap [] := va_S.rf
  have hl := lv_entry ([.ref (a 37)]) (n := 1) (Nat.le_of_ble_eq_true rfl)
  rw [lg_entry_eq]
  generalize (lg_sl ([.ref (a 37)]) ++ List.replicate (1 - (lg_sl ([.ref (a 37)])).length) Slot.unset).toArray = ls at hl ⊢
  have hl : lv_has ls 1 [(0, .ref (a 37))] := hl
  generalize hmc : r0.2.2.1 = mc
  generalize hms : r0.2.2.2 = ms
  have blk : ∀ k : Nat, (bX p l e (headSpec w_f_X2_rewind ({ frames := 4, cells := mc, slots := ms, locals := 135 })).room s m #[.ref (a 37)] below meth c dC dI cy a A (fun r => vx_MQ below (xV dC dI cy a A [38] z r) (xX dC dI cy a A [38] z r) #[.ref (a 37)] s mc ms A) [38] z mc ms 1 (f_X2_rewind k 0) (fun z L => [(0, .ref (a 37))]) 0 (fun z L => [])) ∧ (bX p l e (headSpec w_f_X2_rewind ({ frames := 4, cells := mc, slots := ms, locals := 135 })).room s m #[.ref (a 37)] below meth c dC dI cy a A (fun r => vx_MQ below (xV dC dI cy a A [38] z r) (xX dC dI cy a A [38] z r) #[.ref (a 37)] s mc ms A) [38] z mc ms 1 (f_X2_rewind k 1) (fun z L => []) 37 (fun z L => [])) := by
    intro k
    induction k with
    | zero => exact ⟨fun z c1 c2 L σ r h => (by cases h), fun z c1 c2 L σ r h => (by cases h)⟩
    | succ k ih =>
      refine ⟨?_, ?_⟩
      · intro z cells slots L σ r h hzk hc hs H locs ls hP hD hS hl
        rw [f_X2_rewind] at h
        refine lv_aload_n hx hb dX2_rewind_0 rfl (lv_at hl 0 rfl) ?_
        refine lv_aload_n hx hb dX2_rewind_1 rfl (lv_at hl 0 rfl) ?_
        refine hg_37_1 hx hb hts in_f_X2_rewind_X2 hown hK hP (hts _ (List.mem_cons_of_mem _ (List.mem_append_left _ (List.mem_append_left _ (List.mem_of_getElem? (i := 0) rfl))))) dX2_rewind_2 ?_
        refine lv_iconst (v := 2) hx hb dX2_rewind_5 (by decide) ?_
        refine lv_iadd hx hb dX2_rewind_6 ?_
        obtain ⟨r1, hc1, hle1, h9⟩ := ox_ex h
        clear h
        refine kx_v (vx_runV (As := [.int (((σ.1 3701)) + 2)]) (rest := []) ⟨hx, hb, hml, hown, hts⟩ (c_f_X2_widen l hl0 dC dI cy ek a k (lI lZ 1 ((((σ.1 3701)) + 2))) σ r1 hc1 z H.size) (cwV 1 hts g_f_X2_rewind_X2_widen_V34 rfl rfl rfl hd_f_X2_widen ⟨Nat.le_of_ble_eq_true rfl, Nat.le_of_ble_eq_true rfl⟩) ⟨nb_blindF, va_recv hK hP (ci := 2) (q0 := 37) rfl rfl, (kx_pre hK hG hE hT hA hP hD hS)⟩ rfl rfl hl.1 rfl (lv_room (Nat.le_of_ble_eq_true rfl)) dX2_rewind_7 ⟨Nat.le_trans (Nat.add_le_add_left hle1.1 _) (Nat.le_of_eq hc), Nat.le_trans (Nat.add_le_add_left hle1.2 _) (Nat.le_of_eq hs)⟩) hK hA hzk hP hD hS (by decide) hno hlocks ?_
        rcases h9 with ⟨h00, y1, hny1, hy⟩ | ⟨h00, hy⟩
        · subst hy
          have h := hny1
          refine Or.inl ⟨h00, fun z H locs hz1 hzk hP hD hS => ?_⟩
          replace hc := (Nat.add_assoc _ _ _).trans hc
          replace hs := (Nat.add_assoc _ _ _).trans hs
          refine lv_aload_n hx hb dX2_rewind_10 rfl (lv_at hl 0 rfl) ?_
          refine hg_37_0 hx hb hts in_f_X2_rewind_X2 hown hK hP (hts _ (List.mem_cons_of_mem _ (List.mem_append_left _ (List.mem_append_left _ (List.mem_of_getElem? (i := 5) rfl))))) dX2_rewind_11 ?_
          refine lv_aload_n hx hb dX2_rewind_14 rfl (lv_at hl 0 rfl) ?_
          refine hg_37_1 hx hb hts in_f_X2_rewind_X2 hown hK hP (hts _ (List.mem_cons_of_mem _ (List.mem_append_left _ (List.mem_append_left _ (List.mem_of_getElem? (i := 0) rfl))))) dX2_rewind_15 ?_
          refine lv_iconst (v := 0) hx hb dX2_rewind_18 (by decide) ?_
          obtain ⟨q2, h⟩ := kr_ite1 h
          refine hs_38 hx hb hK hP hD hS q2 dX2_rewind_19 (fun H locs hP hD hS => ?_)
          refine lv_aload_n hx hb dX2_rewind_20 rfl (lv_at hl 0 rfl) ?_
          refine hg_37_0 hx hb hts in_f_X2_rewind_X2 hown hK hP (hts _ (List.mem_cons_of_mem _ (List.mem_append_left _ (List.mem_append_left _ (List.mem_of_getElem? (i := 5) rfl))))) dX2_rewind_21 ?_
          refine lv_aload_n hx hb dX2_rewind_24 rfl (lv_at hl 0 rfl) ?_
          refine hg_37_1 hx hb hts in_f_X2_rewind_X2 hown hK hP (hts _ (List.mem_cons_of_mem _ (List.mem_append_left _ (List.mem_append_left _ (List.mem_of_getElem? (i := 0) rfl))))) dX2_rewind_25 ?_
          refine lv_iconst (v := 1) hx hb dX2_rewind_28 (by decide) ?_
          refine lv_iadd hx hb dX2_rewind_29 ?_
          refine lv_iconst (v := 0) hx hb dX2_rewind_30 (by decide) ?_
          obtain ⟨q3, h⟩ := kr_ite1 h
          refine hs_38 hx hb hK hP hD hS q3 dX2_rewind_31 (fun H locs hP hD hS => ?_)
          refine lv_aload_n hx hb dX2_rewind_32 rfl (lv_at hl 0 rfl) ?_
          refine lv_iconst (v := 0) hx hb dX2_rewind_33 (by decide) ?_
          refine hp_37_4 hx hb hts in_f_X2_rewind_X2 hown hK hP hD hS (hts _ (List.mem_cons_of_mem _ (List.mem_append_left _ (List.mem_append_left _ (List.mem_of_getElem? (i := 6) rfl))))) dX2_rewind_34 (fun H locs hP hD hS => ?_)
          exact ih.2 z _ _ L (uI (uA (uA r1.2.1 38 ((r1.2.1.1 3701)).toNatClampNeg (vp_nar .byte 0)) 38 (((((uA r1.2.1 38 ((r1.2.1.1 3701)).toNatClampNeg (vp_nar .byte 0)).1 3701)) + 1)).toNatClampNeg (vp_nar .byte 0)) 3704 0) _ h hzk hc hs H locs ls hP hD hS (lv_sub hl [] rfl)
        · subst hy
          exact Or.inr ⟨h00, rfl, hc, hs⟩
      · intro z cells slots L σ r h hzk hc hs H locs ls hP hD hS hl
        rw [f_X2_rewind] at h
        obtain rfl := Option.some.inj h
        subst hc
        subst hs
        exact xr_v hx hb hr hK hzk hP hD hS hlocks dX2_rewind_37
  exact (blk k0).1 z 0 0 L0 σ0 r0 h0 (zk_rf _ _) ((Nat.zero_add _).trans hmc) ((Nat.zero_add _).trans hms) s.heap [] ls hP hD hS hl
/-! X2_advance -/
def f_X2_advance : Nat → Nat → LV → CS → Option RS
  | 0, _, _, _ => none
  | k + 1, 0, L, σ => f_X2_advance k 1 (lI (lI (lI (lI L 1 ((σ.1 3704))) 2 0) 3 1) 4 ((σ.1 3704))) σ
  | k + 1, 1, L, σ => if ((σ.1 3701)) ≤ ((L.1 4)) then (f_X2_advance k 2 L σ) else (if ((L.1 3)) = 0 then (f_X2_advance k 2 L σ) else (if ¬ (((L.1 4)) < 0 ∨ (sN σ 38) ≤ ((L.1 4)).toNatClampNeg) then (if ((L.1 2)) = 0 then (f_X2_advance k 3 (lI L 5 ((σ.2.2.1 38 ((L.1 4)).toNatClampNeg))) σ) else (if ((σ.2.2.1 38 ((L.1 4)).toNatClampNeg)) = 10 then (f_X2_advance k 4 (lI L 5 ((σ.2.2.1 38 ((L.1 4)).toNatClampNeg))) σ) else (f_X2_advance k 5 (lI (lI L 5 ((σ.2.2.1 38 ((L.1 4)).toNatClampNeg))) 100 1) σ))) else none))
  | k + 1, 2, L, σ => if (((uI σ 3703 ((L.1 1))).1 3701)) ≤ ((L.1 1)) then (f_X2_advance k 6 L (uI σ 3703 ((L.1 1)))) else (f_X2_advance k 7 (lI L 100 ((((L.1 1)) + 1))) (uI σ 3703 ((L.1 1))))
  | k + 1, 3, L, σ => if ((L.1 5)) = 45 then (if ¬ (((((L.1 4)) + 1)) < 0 ∨ (sN σ 38) ≤ ((((L.1 4)) + 1)).toNatClampNeg) then (if ((σ.2.2.1 38 ((((L.1 4)) + 1)).toNatClampNeg)) = 45 then (f_X2_advance k 5 (lI L 100 1) σ) else (f_X2_advance k 8 L σ)) else none) else (f_X2_advance k 8 L σ)
  | k + 1, 4, L, σ => f_X2_advance k 5 (lI L 100 0) σ
  | k + 1, 5, L, σ => if ((L.1 100)) = 0 then (if ((L.1 5)) < 0 then (f_X2_advance k 10 (lI L 2 ((L.1 100))) σ) else (if ¬ (((L.1 5)) < 0 ∨ 128 ≤ ((L.1 5)).toNatClampNeg) then (if ((lxC.getD ((L.1 5)).toNatClampNeg 0)) = 31 then (f_X2_advance k 9 (lI L 2 ((L.1 100))) σ) else (f_X2_advance k 10 (lI L 2 ((L.1 100))) σ)) else none)) else (f_X2_advance k 9 (lI L 2 ((L.1 100))) σ)
  | k + 1, 6, L, σ => f_X2_advance k 7 (lI L 100 ((L.1 1))) σ
  | k + 1, 7, L, σ => if ((L.1 1)) < (((uI σ 3704 ((L.1 100))).1 3701)) then (f_X2_advance k 11 L (uI σ 3704 ((L.1 100)))) else (f_X2_advance k 12 (lI L 100 1) (uI σ 3704 ((L.1 100))))
  | k + 1, 8, L, σ => f_X2_advance k 5 (lI L 100 0) σ
  | k + 1, 9, L, σ => f_X2_advance k 13 (lI L 100 1) σ
  | k + 1, 10, L, σ => f_X2_advance k 13 (lI L 100 0) σ
  | k + 1, 11, L, σ => if ¬ (((L.1 1)) < 0 ∨ (sN σ 38) ≤ ((L.1 1)).toNatClampNeg) then (if 0 ≤ ((σ.2.2.1 38 ((L.1 1)).toNatClampNeg)) then (f_X2_advance k 14 L σ) else (f_X2_advance k 12 (lI L 100 0) σ)) else none
  | k + 1, 12, L, σ => if ¬ ((((uI σ 3702 ((L.1 100))).1 3704)) < 0 ∨ (sN (uI σ 3702 ((L.1 100))) 38) ≤ (((uI σ 3702 ((L.1 100))).1 3704)).toNatClampNeg) then (if (((uI σ 3702 ((L.1 100))).1 3702)) = 2 then (f_X2_advance k 16 L (uL (uL (uI σ 3702 ((L.1 100))) 3705 0) 3706 0)) else (f_X2_advance k 15 (lI L 4 (((uI σ 3702 ((L.1 100))).2.2.1 38 (((uI σ 3702 ((L.1 100))).1 3704)).toNatClampNeg))) (uI σ 3702 ((L.1 100))))) else none
  | k + 1, 13, L, σ => if ((L.1 100)) = 0 then (f_X2_advance k 17 (lI L 3 ((L.1 100))) σ) else (f_X2_advance k 18 (lI (lI L 3 ((L.1 100))) 100 ((((L.1 4)) + 1))) σ)
  | k + 1, 14, L, σ => if ¬ (((L.1 1)) < 0 ∨ (sN σ 38) ≤ ((L.1 1)).toNatClampNeg) then (if ¬ (((σ.2.2.1 38 ((L.1 1)).toNatClampNeg)) < 0 ∨ 128 ≤ ((σ.2.2.1 38 ((L.1 1)).toNatClampNeg)).toNatClampNeg) then (f_X2_advance k 12 (lI L 100 ((lxC.getD ((σ.2.2.1 38 ((L.1 1)).toNatClampNeg)).toNatClampNeg 0))) σ) else none) else none
  | k + 1, 15, L, σ => if ((σ.1 3702)) = 3 then (f_X2_advance k 20 (lI L 5 ((L.1 1))) σ) else (f_X2_advance k 19 L σ)
  | k + 1, 16, L, σ => f_X2_advance k 21 (lI (lI L 5 2) 6 ((L.1 1))) σ
  | k + 1, 17, L, σ => f_X2_advance k 18 (lI L 100 ((L.1 4))) σ
  | k + 1, 18, L, σ => f_X2_advance k 1 (lI (lI L 1 ((L.1 100))) 4 ((((L.1 4)) + 1))) σ
  | k + 1, 19, L, σ => if ((σ.1 3702)) = 4 then (f_X2_advance k 23 (lI L 5 ((((L.1 1)) + 1))) σ) else (f_X2_advance k 22 L σ)
  | k + 1, 20, L, σ => if ((σ.1 3701)) ≤ ((L.1 5)) then (f_X2_advance k 24 L σ) else (if ¬ (((L.1 5)) < 0 ∨ (sN σ 38) ≤ ((L.1 5)).toNatClampNeg) then (if ((σ.2.2.1 38 ((L.1 5)).toNatClampNeg)) < 48 then (f_X2_advance k 24 L σ) else (if ¬ (((L.1 5)) < 0 ∨ (sN σ 38) ≤ ((L.1 5)).toNatClampNeg) then (if 57 < ((σ.2.2.1 38 ((L.1 5)).toNatClampNeg)) then (f_X2_advance k 24 L σ) else (f_X2_advance k 20 (lI L 5 ((((L.1 5)) + 1))) (uI σ 3704 ((((L.1 5)) + 1))))) else none)) else none)
  | k + 1, 21, L, σ => if ((σ.1 3701)) ≤ ((L.1 6)) then (f_X2_advance k 25 L σ) else (if ((L.1 5)) = 2 then (f_X2_advance k 26 L σ) else (if ((L.1 5)) = 3 then (f_X2_advance k 26 L σ) else (if ((L.1 5)) = 30 then (f_X2_advance k 26 L σ) else (f_X2_advance k 25 L σ))))
  | k + 1, 22, L, σ => if ((L.1 4)) = 61 then (if ((σ.1 3702)) = 27 then (f_X2_advance k 28 L σ) else (if ((σ.1 3702)) = 22 then (f_X2_advance k 28 L σ) else (if ((σ.1 3702)) = 24 then (f_X2_advance k 28 L σ) else (if ((σ.1 3702)) = 18 then (f_X2_advance k 28 L σ) else (f_X2_advance k 27 L σ))))) else (f_X2_advance k 27 L σ)
  | k + 1, 23, L, σ => if ((σ.1 3701)) ≤ ((L.1 5)) then (f_X2_advance k 29 L σ) else (if ¬ (((L.1 5)) < 0 ∨ (sN σ 38) ≤ ((L.1 5)).toNatClampNeg) then (if ((((σ.2.2.1 38 ((L.1 5)).toNatClampNeg)) &&& 255)) < 32 then (f_X2_advance k 29 L σ) else (if ¬ (((L.1 5)) < 0 ∨ (sN σ 38) ≤ ((L.1 5)).toNatClampNeg) then (if ((σ.2.2.1 38 ((L.1 5)).toNatClampNeg)) = 34 then (f_X2_advance k 29 L σ) else (f_X2_advance k 23 (lI L 5 ((((L.1 5)) + 1))) (uI σ 3704 ((((L.1 5)) + 1))))) else none)) else none)
  | k + 1, 24, L, σ => if ((((σ.1 3704)) - ((L.1 1)))) ≤ 60 then (f_X2_advance k 30 L σ) else (f_X2_advance k 31 (lI L 100 0) σ)
  | k + 1, 25, L, σ => if ((((σ.1 3704)) - ((L.1 1)))) ≤ 16 then (f_X2_advance k 32 L σ) else (f_X2_advance k 33 (lI L 100 0) σ)
  | k + 1, 26, L, σ => if 8 ≤ ((((L.1 6)) - ((L.1 1)))) then (f_X2_advance k 34 L σ) else (if ¬ (((L.1 6)) < 0 ∨ (sN σ 38) ≤ ((L.1 6)).toNatClampNeg) then (f_X2_advance k 35 (lJ L 100 ((((((σ.2.1 3705)) <<< ((8 : Int32).toInt64 &&& 63))) ||| ((((σ.2.2.1 38 ((L.1 6)).toNatClampNeg)).toInt64))))) σ) else none)
  | k + 1, 27, L, σ => if ((σ.1 3702)) = 8 then (if ((L.1 4)) = 42 then (f_X2_advance k 37 L σ) else (f_X2_advance k 36 L σ)) else (f_X2_advance k 36 L σ)
  | k + 1, 28, L, σ => if ((σ.1 3702)) = 18 then (f_X2_advance k 39 (lI L 100 5) σ) else (f_X2_advance k 38 L σ)
  | k + 1, 29, L, σ => if ((σ.1 3701)) ≤ ((σ.1 3704)) then (f_X2_advance k 40 L σ) else (if ¬ (((σ.1 3704)) < 0 ∨ (sN σ 38) ≤ ((σ.1 3704)).toNatClampNeg) then (if ((σ.2.2.1 38 ((σ.1 3704)).toNatClampNeg)) = 34 then (if 100 < ((((((σ.1 3704)) - ((L.1 1)))) - 1)) then (f_X2_advance k 40 L σ) else (f_X2_advance k 41 (lI L 100 4) σ)) else (f_X2_advance k 40 L σ)) else none)
  | k + 1, 30, L, σ => f_X2_advance k 31 (lI L 100 3) σ
  | k + 1, 31, L, σ => f_X2_advance k 42 L (uI σ 3702 ((L.1 100)))
  | k + 1, 32, L, σ => f_X2_advance k 33 (lI L 100 2) σ
  | k + 1, 33, L, σ => f_X2_advance k 43 (lI L 6 0) (uI σ 3702 ((L.1 100)))
  | k + 1, 34, L, σ => f_X2_advance k 35 (lJ L 100 ((σ.2.1 3705))) σ
  | k + 1, 35, L, σ => if 8 ≤ ((((L.1 6)) - ((L.1 1)))) then (f_X2_advance k 44 L (uL σ 3705 ((L.2.1 100)))) else (f_X2_advance k 45 (lJ L 100 (((uL σ 3705 ((L.2.1 100))).2.1 3706))) (uL σ 3705 ((L.2.1 100))))
  | k + 1, 36, L, σ => if ((σ.1 3702)) = 29 then (if ((L.1 4)) = 46 then (f_X2_advance k 37 L σ) else (f_X2_advance k 42 L σ)) else (f_X2_advance k 42 L σ)
  | k + 1, 37, L, σ => if ((σ.1 3702)) = 8 then (f_X2_advance k 47 (lI L 100 9) σ) else (f_X2_advance k 46 L σ)
  | k + 1, 38, L, σ => if ((σ.1 3702)) = 27 then (f_X2_advance k 39 (lI L 100 21) σ) else (f_X2_advance k 48 L σ)
  | k + 1, 39, L, σ => f_X2_advance k 42 L (uI (uI σ 3702 ((L.1 100))) 3704 (((((uI σ 3702 ((L.1 100))).1 3704)) + 1)))
  | k + 1, 40, L, σ => f_X2_advance k 41 (lI L 100 0) σ
  | k + 1, 41, L, σ => f_X2_advance k 42 L (uI (uI σ 3702 ((L.1 100))) 3704 (((((uI σ 3702 ((L.1 100))).1 3704)) + 1)))
  | k + 1, 42, L, σ => if ((σ.1 3702)) = 0 then (f_X2_advance k 49 L σ) else (if ((σ.1 3702)) = 29 then (f_X2_advance k 49 L σ) else (if ((σ.1 3702)) = 30 then (f_X2_advance k 49 L σ) else (f_X2_advance k 50 L σ)))
  | k + 1, 43, L, σ => if ((Int32.ofNat 53)) ≤ ((L.1 6)) then (f_X2_advance k 51 L σ) else (if 8 < ((((σ.1 3704)) - ((L.1 1)))) then (f_X2_advance k 51 L σ) else (if ¬ (((L.1 6)) < 0 ∨ 53 ≤ ((L.1 6)).toNatClampNeg) then (if ((nbCmp ((σ.2.2.2.1 39 ((L.1 6)).toNatClampNeg)) ((σ.2.1 3705)))) = 0 then (f_X2_advance k 53 (lI L 100 ((32 + ((L.1 6))))) σ) else (f_X2_advance k 52 L σ)) else none))
  | k + 1, 44, L, σ => if ¬ (((L.1 6)) < 0 ∨ (sN σ 38) ≤ ((L.1 6)).toNatClampNeg) then (f_X2_advance k 45 (lJ L 100 ((((((σ.2.1 3706)) <<< ((8 : Int32).toInt64 &&& 63))) ||| ((((σ.2.2.1 38 ((L.1 6)).toNatClampNeg)).toInt64))))) σ) else none
  | k + 1, 45, L, σ => if ¬ ((((uI (uL σ 3706 ((L.2.1 100))) 3704 ((((L.1 6)) + 1))).1 3704)) < 0 ∨ (sN (uI (uL σ 3706 ((L.2.1 100))) 3704 ((((L.1 6)) + 1))) 38) ≤ (((uI (uL σ 3706 ((L.2.1 100))) 3704 ((((L.1 6)) + 1))).1 3704)).toNatClampNeg) then (if 0 ≤ (((uI (uL σ 3706 ((L.2.1 100))) 3704 ((((L.1 6)) + 1))).2.2.1 38 (((uI (uL σ 3706 ((L.2.1 100))) 3704 ((((L.1 6)) + 1))).1 3704)).toNatClampNeg)) then (f_X2_advance k 54 L (uI (uL σ 3706 ((L.2.1 100))) 3704 ((((L.1 6)) + 1)))) else (f_X2_advance k 55 (lI L 100 0) (uI (uL σ 3706 ((L.2.1 100))) 3704 ((((L.1 6)) + 1))))) else none
  | k + 1, 46, L, σ => f_X2_advance k 47 (lI L 100 28) σ
  | k + 1, 47, L, σ => f_X2_advance k 42 L (uI (uI σ 3702 ((L.1 100))) 3704 (((((uI σ 3702 ((L.1 100))).1 3704)) + 1)))
  | k + 1, 48, L, σ => f_X2_advance k 39 (lI L 100 ((((σ.1 3702)) + 1))) σ
  | k + 1, 49, L, σ => some ((1, 0), σ, (1, 6))
  | k + 1, 50, L, σ => some ((0, 0), σ, (0, 0))
  | k + 1, 51, L, σ => f_X2_advance k 42 L σ
  | k + 1, 52, L, σ => f_X2_advance k 53 (lI L 100 ((σ.1 3702))) σ
  | k + 1, 53, L, σ => f_X2_advance k 43 (lI L 6 ((((L.1 6)) + 1))) (uI σ 3702 ((L.1 100)))
  | k + 1, 54, L, σ => if ¬ (((σ.1 3704)) < 0 ∨ (sN σ 38) ≤ ((σ.1 3704)).toNatClampNeg) then (if ¬ (((σ.2.2.1 38 ((σ.1 3704)).toNatClampNeg)) < 0 ∨ 128 ≤ ((σ.2.2.1 38 ((σ.1 3704)).toNatClampNeg)).toNatClampNeg) then (f_X2_advance k 55 (lI L 100 ((lxC.getD ((σ.2.2.1 38 ((σ.1 3704)).toNatClampNeg)).toNatClampNeg 0))) σ) else none) else none
  | k + 1, 55, L, σ => f_X2_advance k 21 (lI (lI L 5 ((L.1 100))) 6 ((((L.1 6)) + 1))) σ
  | _ + 1, _ + 56, _, _ => none
def o_f_X2_advance : List Cond := [.fieldLink RX2 43 "SetHouse$Lexer" "end" "I", .fieldLink RX2 31 "SetHouse$Lexer" "length" "I", .fieldLink RX2 11 "SetHouse$Lexer" "tape" "[B", .fieldLink RX2 49 "SetHouse$Lexer" "start" "I", .fieldLink RX2 46 "SetHouse$Lexer" "CLASSES" "[B", .fieldLink RX2 52 "SetHouse$Lexer" "kind" "I", .fieldLink RX2 55 "SetHouse$Lexer" "high" "J", .fieldLink RX2 59 "SetHouse$Lexer" "low" "J", .fieldLink RX2 15 "SetHouse$Lexer" "words" "[J", .classLink RX2 62 "java/lang/IllegalArgumentException", .initialized "java/lang/IllegalArgumentException"]
theorem o_f_X2_advance_good : o_f_X2_advance.all goodWord = true := by decide +kernel
def p_f_X2_advance : List Cond := o_f_X2_advance ++ (((vx_at0 RX2 64 "java/lang/IllegalArgumentException" ["java/lang/RuntimeException", "java/lang/Exception"]).filter goodWord) ++ [])
theorem p_f_X2_advance_good : p_f_X2_advance.all goodWord = true := nb_all2 o_f_X2_advance_good (nb_all2 (nb_fg _) rfl)
def w_f_X2_advance : List Cond := .code yX2_advance cX2_advance 7 none :: (p_f_X2_advance ++ fC)
theorem w_f_X2_advance_good : w_f_X2_advance.all goodWord = true := nb_allc (by decide +kernel) (nb_all2 p_f_X2_advance_good fC_good)
theorem in_f_X2_advance_X2 : ∀ w ∈ wsX20, w ∈ w_f_X2_advance := fun _ h => List.mem_cons_of_mem _ (List.mem_append_right _ (List.mem_append_right _ (List.mem_append_right _ (List.mem_append_left _ h))))
theorem hd_f_X2_advance : yX2_advance.cls = RX2 ∧ yX2_advance.cls ≠ "java/lang/invoke/MethodHandle" ∧ yX2_advance.cls ≠ "java/lang/invoke/VarHandle" ∧ (parseMethodDescriptor yX2_advance.desc).map (fun d => d.parameters.length) = some 0 := by decide +kernel
set_option maxHeartbeats 40000000 in
set_option maxRecDepth 100000 in
theorem c_f_X2_advance (l : Launch) (hl0 : l.stackTraces = false) (dC : Nat → ClassId) (dI : Nat → Nat → Nat) (cy : Nat → ClassId) (ek a : Nat → Nat) (k0 : Nat) (L0 : LV) (σ0 : CS) (r0 : RS) (h0 : f_X2_advance k0 0 L0 σ0 = some r0) (z : Nat → Nat) (sz : Nat) : vx_Met l yX2_advance w_f_X2_advance ({ frames := 6, cells := r0.2.2.1, slots := r0.2.2.2, locals := 100 }) (va_Pc [.ref (a 37)] (nInF (dC, dI) cy ek sz (vC cy a z σ0))) (xV dC dI cy a (va_A (vC cy a z σ0) sz) [] z r0) (xX dC dI cy a (va_A (vC cy a z σ0) sz) [] z r0) r0.2.2.1 r0.2.2.2 (va_A (vC cy a z σ0) sz) := by
  refine vx_ofW (cc := cX2_advance) (maxL := 7) (ret := none) (by decide) rfl ?_
  intro p e s m args below meth c s₁ B hml hno hv
  obtain ⟨rfl, ⟨⟨hsz, hP, hK, hD0, hG⟩, hE⟩, hT⟩ := hv
  have hx := B.exec
  have hb := B.bytes
  have hr := B.returns
  have hts := atoms_spec (ws := w_f_X2_advance) B.pre
  have hown : s.vm.findClass RX2 = some m.cls := findClass_of_methodNamed B.named
  have hlocks := B.notSynchronized
  subst hsz
  have hD := hD0.self (sz := s.heap.size)
  generalize hAe : va_A (vC cy a z σ0) s.heap.size = A at hD hE hT ⊢
  have hA : ∀ q : Nat, s.heap.size ≤ q → A q := fun q h => by rw [← hAe]; exact Or.inr h
  have hS : va_S A s.heap s.heap [] := va_S.rf
  have hl := lv_entry ([.ref (a 37)]) (n := 7) (Nat.le_of_ble_eq_true rfl)
  rw [lg_entry_eq]
  generalize (lg_sl ([.ref (a 37)]) ++ List.replicate (7 - (lg_sl ([.ref (a 37)])).length) Slot.unset).toArray = ls at hl ⊢
  have hl : lv_has ls 7 [(0, .ref (a 37))] := hl
  generalize hmc : r0.2.2.1 = mc
  generalize hms : r0.2.2.2 = ms
  have blk : ∀ k : Nat, (bX p l e (headSpec w_f_X2_advance ({ frames := 6, cells := mc, slots := ms, locals := 100 })).room s m #[.ref (a 37)] below meth c dC dI cy a A (fun r => vx_MQ below (xV dC dI cy a A [] z r) (xX dC dI cy a A [] z r) #[.ref (a 37)] s mc ms A) [] z mc ms 7 (f_X2_advance k 0) (fun z L => [(0, .ref (a 37))]) 0 (fun z L => [])) ∧ (bX p l e (headSpec w_f_X2_advance ({ frames := 6, cells := mc, slots := ms, locals := 100 })).room s m #[.ref (a 37)] below meth c dC dI cy a A (fun r => vx_MQ below (xV dC dI cy a A [] z r) (xX dC dI cy a A [] z r) #[.ref (a 37)] s mc ms A) [] z mc ms 7 (f_X2_advance k 1) (fun z L => [(0, .ref (a 37)), (1, .int (L.1 1)), (2, .int (L.1 2)), (3, .int (L.1 3)), (4, .int (L.1 4))]) 15 (fun z L => [])) ∧ (bX p l e (headSpec w_f_X2_advance ({ frames := 6, cells := mc, slots := ms, locals := 100 })).room s m #[.ref (a 37)] below meth c dC dI cy a A (fun r => vx_MQ below (xV dC dI cy a A [] z r) (xX dC dI cy a A [] z r) #[.ref (a 37)] s mc ms A) [] z mc ms 7 (f_X2_advance k 2) (fun z L => [(0, .ref (a 37)), (1, .int (L.1 1))]) 129 (fun z L => [])) ∧ (bX p l e (headSpec w_f_X2_advance ({ frames := 6, cells := mc, slots := ms, locals := 100 })).room s m #[.ref (a 37)] below meth c dC dI cy a A (fun r => vx_MQ below (xV dC dI cy a A [] z r) (xX dC dI cy a A [] z r) #[.ref (a 37)] s mc ms A) [] z mc ms 7 (f_X2_advance k 3) (fun z L => [(0, .ref (a 37)), (4, .int (L.1 4)), (5, .int (L.1 5))]) 56 (fun z L => [])) ∧ (bX p l e (headSpec w_f_X2_advance ({ frames := 6, cells := mc, slots := ms, locals := 100 })).room s m #[.ref (a 37)] below meth c dC dI cy a A (fun r => vx_MQ below (xV dC dI cy a A [] z r) (xX dC dI cy a A [] z r) #[.ref (a 37)] s mc ms A) [] z mc ms 7 (f_X2_advance k 4) (fun z L => [(0, .ref (a 37)), (4, .int (L.1 4)), (5, .int (L.1 5))]) 52 (fun z L => [])) ∧ (bX p l e (headSpec w_f_X2_advance ({ frames := 6, cells := mc, slots := ms, locals := 100 })).room s m #[.ref (a 37)] below meth c dC dI cy a A (fun r => vx_MQ below (xV dC dI cy a A [] z r) (xX dC dI cy a A [] z r) #[.ref (a 37)] s mc ms A) [] z mc ms 7 (f_X2_advance k 5) (fun z L => [(0, .ref (a 37)), (4, .int (L.1 4)), (5, .int (L.1 5))]) 82 (fun z L => [.int (L.1 100)])) ∧ (bX p l e (headSpec w_f_X2_advance ({ frames := 6, cells := mc, slots := ms, locals := 100 })).room s m #[.ref (a 37)] below meth c dC dI cy a A (fun r => vx_MQ below (xV dC dI cy a A [] z r) (xX dC dI cy a A [] z r) #[.ref (a 37)] s mc ms A) [] z mc ms 7 (f_X2_advance k 6) (fun z L => [(0, .ref (a 37)), (1, .int (L.1 1))]) 149 (fun z L => [.ref (a 37)])) ∧ (bX p l e (headSpec w_f_X2_advance ({ frames := 6, cells := mc, slots := ms, locals := 100 })).room s m #[.ref (a 37)] below meth c dC dI cy a A (fun r => vx_MQ below (xV dC dI cy a A [] z r) (xX dC dI cy a A [] z r) #[.ref (a 37)] s mc ms A) [] z mc ms 7 (f_X2_advance k 7) (fun z L => [(0, .ref (a 37)), (1, .int (L.1 1))]) 150 (fun z L => [.int (L.1 100), .ref (a 37)])) ∧ (bX p l e (headSpec w_f_X2_advance ({ frames := 6, cells := mc, slots := ms, locals := 100 })).room s m #[.ref (a 37)] below meth c dC dI cy a A (fun r => vx_MQ below (xV dC dI cy a A [] z r) (xX dC dI cy a A [] z r) #[.ref (a 37)] s mc ms A) [] z mc ms 7 (f_X2_advance k 8) (fun z L => [(0, .ref (a 37)), (4, .int (L.1 4)), (5, .int (L.1 5))]) 81 (fun z L => [])) ∧ (bX p l e (headSpec w_f_X2_advance ({ frames := 6, cells := mc, slots := ms, locals := 100 })).room s m #[.ref (a 37)] below meth c dC dI cy a A (fun r => vx_MQ below (xV dC dI cy a A [] z r) (xX dC dI cy a A [] z r) #[.ref (a 37)] s mc ms A) [] z mc ms 7 (f_X2_advance k 9) (fun z L => [(0, .ref (a 37)), (2, .int (L.1 2)), (4, .int (L.1 4))]) 103 (fun z L => [])) ∧ (bX p l e (headSpec w_f_X2_advance ({ frames := 6, cells := mc, slots := ms, locals := 100 })).room s m #[.ref (a 37)] below meth c dC dI cy a A (fun r => vx_MQ below (xV dC dI cy a A [] z r) (xX dC dI cy a A [] z r) #[.ref (a 37)] s mc ms A) [] z mc ms 7 (f_X2_advance k 10) (fun z L => [(0, .ref (a 37)), (2, .int (L.1 2)), (4, .int (L.1 4))]) 107 (fun z L => [])) ∧ (bX p l e (headSpec w_f_X2_advance ({ frames := 6, cells := mc, slots := ms, locals := 100 })).room s m #[.ref (a 37)] below meth c dC dI cy a A (fun r => vx_MQ below (xV dC dI cy a A [] z r) (xX dC dI cy a A [] z r) #[.ref (a 37)] s mc ms A) [] z mc ms 7 (f_X2_advance k 11) (fun z L => [(0, .ref (a 37)), (1, .int (L.1 1))]) 166 (fun z L => [.ref (a 37)])) ∧ (bX p l e (headSpec w_f_X2_advance ({ frames := 6, cells := mc, slots := ms, locals := 100 })).room s m #[.ref (a 37)] below meth c dC dI cy a A (fun r => vx_MQ below (xV dC dI cy a A [] z r) (xX dC dI cy a A [] z r) #[.ref (a 37)] s mc ms A) [] z mc ms 7 (f_X2_advance k 12) (fun z L => [(0, .ref (a 37)), (1, .int (L.1 1))]) 189 (fun z L => [.int (L.1 100), .ref (a 37)])) ∧ (bX p l e (headSpec w_f_X2_advance ({ frames := 6, cells := mc, slots := ms, locals := 100 })).room s m #[.ref (a 37)] below meth c dC dI cy a A (fun r => vx_MQ below (xV dC dI cy a A [] z r) (xX dC dI cy a A [] z r) #[.ref (a 37)] s mc ms A) [] z mc ms 7 (f_X2_advance k 13) (fun z L => [(0, .ref (a 37)), (2, .int (L.1 2)), (4, .int (L.1 4))]) 108 (fun z L => [.int (L.1 100)])) ∧ (bX p l e (headSpec w_f_X2_advance ({ frames := 6, cells := mc, slots := ms, locals := 100 })).room s m #[.ref (a 37)] below meth c dC dI cy a A (fun r => vx_MQ below (xV dC dI cy a A [] z r) (xX dC dI cy a A [] z r) #[.ref (a 37)] s mc ms A) [] z mc ms 7 (f_X2_advance k 14) (fun z L => [(0, .ref (a 37)), (1, .int (L.1 1))]) 179 (fun z L => [.ref (a 37)])) ∧ (bX p l e (headSpec w_f_X2_advance ({ frames := 6, cells := mc, slots := ms, locals := 100 })).room s m #[.ref (a 37)] below meth c dC dI cy a A (fun r => vx_MQ below (xV dC dI cy a A [] z r) (xX dC dI cy a A [] z r) #[.ref (a 37)] s mc ms A) [] z mc ms 7 (f_X2_advance k 15) (fun z L => [(0, .ref (a 37)), (1, .int (L.1 1)), (4, .int (L.1 4))]) 456 (fun z L => [])) ∧ (bX p l e (headSpec w_f_X2_advance ({ frames := 6, cells := mc, slots := ms, locals := 100 })).room s m #[.ref (a 37)] below meth c dC dI cy a A (fun r => vx_MQ below (xV dC dI cy a A [] z r) (xX dC dI cy a A [] z r) #[.ref (a 37)] s mc ms A) [] z mc ms 7 (f_X2_advance k 16) (fun z L => [(0, .ref (a 37)), (1, .int (L.1 1))]) 221 (fun z L => [])) ∧ (bX p l e (headSpec w_f_X2_advance ({ frames := 6, cells := mc, slots := ms, locals := 100 })).room s m #[.ref (a 37)] below meth c dC dI cy a A (fun r => vx_MQ below (xV dC dI cy a A [] z r) (xX dC dI cy a A [] z r) #[.ref (a 37)] s mc ms A) [] z mc ms 7 (f_X2_advance k 17) (fun z L => [(0, .ref (a 37)), (2, .int (L.1 2)), (3, .int (L.1 3)), (4, .int (L.1 4))]) 120 (fun z L => [])) ∧ (bX p l e (headSpec w_f_X2_advance ({ frames := 6, cells := mc, slots := ms, locals := 100 })).room s m #[.ref (a 37)] below meth c dC dI cy a A (fun r => vx_MQ below (xV dC dI cy a A [] z r) (xX dC dI cy a A [] z r) #[.ref (a 37)] s mc ms A) [] z mc ms 7 (f_X2_advance k 18) (fun z L => [(0, .ref (a 37)), (2, .int (L.1 2)), (3, .int (L.1 3)), (4, .int (L.1 4))]) 122 (fun z L => [.int (L.1 100)])) ∧ (bX p l e (headSpec w_f_X2_advance ({ frames := 6, cells := mc, slots := ms, locals := 100 })).room s m #[.ref (a 37)] below meth c dC dI cy a A (fun r => vx_MQ below (xV dC dI cy a A [] z r) (xX dC dI cy a A [] z r) #[.ref (a 37)] s mc ms A) [] z mc ms 7 (f_X2_advance k 19) (fun z L => [(0, .ref (a 37)), (1, .int (L.1 1)), (4, .int (L.1 4))]) 537 (fun z L => [])) ∧ (bX p l e (headSpec w_f_X2_advance ({ frames := 6, cells := mc, slots := ms, locals := 100 })).room s m #[.ref (a 37)] below meth c dC dI cy a A (fun r => vx_MQ below (xV dC dI cy a A [] z r) (xX dC dI cy a A [] z r) #[.ref (a 37)] s mc ms A) [] z mc ms 7 (f_X2_advance k 20) (fun z L => [(0, .ref (a 37)), (1, .int (L.1 1)), (5, .int (L.1 5))]) 467 (fun z L => [])) ∧ (bX p l e (headSpec w_f_X2_advance ({ frames := 6, cells := mc, slots := ms, locals := 100 })).room s m #[.ref (a 37)] below meth c dC dI cy a A (fun r => vx_MQ below (xV dC dI cy a A [] z r) (xX dC dI cy a A [] z r) #[.ref (a 37)] s mc ms A) [] z mc ms 7 (f_X2_advance k 21) (fun z L => [(0, .ref (a 37)), (1, .int (L.1 1)), (5, .int (L.1 5)), (6, .int (L.1 6))]) 227 (fun z L => [])) ∧ (bX p l e (headSpec w_f_X2_advance ({ frames := 6, cells := mc, slots := ms, locals := 100 })).room s m #[.ref (a 37)] below meth c dC dI cy a A (fun r => vx_MQ below (xV dC dI cy a A [] z r) (xX dC dI cy a A [] z r) #[.ref (a 37)] s mc ms A) [] z mc ms 7 (f_X2_advance k 22) (fun z L => [(0, .ref (a 37)), (4, .int (L.1 4))]) 661 (fun z L => [])) ∧ (bX p l e (headSpec w_f_X2_advance ({ frames := 6, cells := mc, slots := ms, locals := 100 })).room s m #[.ref (a 37)] below meth c dC dI cy a A (fun r => vx_MQ below (xV dC dI cy a A [] z r) (xX dC dI cy a A [] z r) #[.ref (a 37)] s mc ms A) [] z mc ms 7 (f_X2_advance k 23) (fun z L => [(0, .ref (a 37)), (1, .int (L.1 1)), (5, .int (L.1 5))]) 550 (fun z L => [])) ∧ (bX p l e (headSpec w_f_X2_advance ({ frames := 6, cells := mc, slots := ms, locals := 100 })).room s m #[.ref (a 37)] below meth c dC dI cy a A (fun r => vx_MQ below (xV dC dI cy a A [] z r) (xX dC dI cy a A [] z r) #[.ref (a 37)] s mc ms A) [] z mc ms 7 (f_X2_advance k 24) (fun z L => [(0, .ref (a 37)), (1, .int (L.1 1))]) 514 (fun z L => [])) ∧ (bX p l e (headSpec w_f_X2_advance ({ frames := 6, cells := mc, slots := ms, locals := 100 })).room s m #[.ref (a 37)] below meth c dC dI cy a A (fun r => vx_MQ below (xV dC dI cy a A [] z r) (xX dC dI cy a A [] z r) #[.ref (a 37)] s mc ms A) [] z mc ms 7 (f_X2_advance k 25) (fun z L => [(0, .ref (a 37)), (1, .int (L.1 1))]) 372 (fun z L => [])) ∧ (bX p l e (headSpec w_f_X2_advance ({ frames := 6, cells := mc, slots := ms, locals := 100 })).room s m #[.ref (a 37)] below meth c dC dI cy a A (fun r => vx_MQ below (xV dC dI cy a A [] z r) (xX dC dI cy a A [] z r) #[.ref (a 37)] s mc ms A) [] z mc ms 7 (f_X2_advance k 26) (fun z L => [(0, .ref (a 37)), (1, .int (L.1 1)), (6, .int (L.1 6))]) 255 (fun z L => [])) ∧ (bX p l e (headSpec w_f_X2_advance ({ frames := 6, cells := mc, slots := ms, locals := 100 })).room s m #[.ref (a 37)] below meth c dC dI cy a A (fun r => vx_MQ below (xV dC dI cy a A [] z r) (xX dC dI cy a A [] z r) #[.ref (a 37)] s mc ms A) [] z mc ms 7 (f_X2_advance k 27) (fun z L => [(0, .ref (a 37)), (4, .int (L.1 4))]) 754 (fun z L => [])) ∧ (bX p l e (headSpec w_f_X2_advance ({ frames := 6, cells := mc, slots := ms, locals := 100 })).room s m #[.ref (a 37)] below meth c dC dI cy a A (fun r => vx_MQ below (xV dC dI cy a A [] z r) (xX dC dI cy a A [] z r) #[.ref (a 37)] s mc ms A) [] z mc ms 7 (f_X2_advance k 28) (fun z L => [(0, .ref (a 37))]) 704 (fun z L => [])) ∧ (bX p l e (headSpec w_f_X2_advance ({ frames := 6, cells := mc, slots := ms, locals := 100 })).room s m #[.ref (a 37)] below meth c dC dI cy a A (fun r => vx_MQ below (xV dC dI cy a A [] z r) (xX dC dI cy a A [] z r) #[.ref (a 37)] s mc ms A) [] z mc ms 7 (f_X2_advance k 29) (fun z L => [(0, .ref (a 37)), (1, .int (L.1 1))]) 601 (fun z L => [])) ∧ (bX p l e (headSpec w_f_X2_advance ({ frames := 6, cells := mc, slots := ms, locals := 100 })).room s m #[.ref (a 37)] below meth c dC dI cy a A (fun r => vx_MQ below (xV dC dI cy a A [] z r) (xX dC dI cy a A [] z r) #[.ref (a 37)] s mc ms A) [] z mc ms 7 (f_X2_advance k 30) (fun z L => [(0, .ref (a 37))]) 530 (fun z L => [.ref (a 37)])) ∧ (bX p l e (headSpec w_f_X2_advance ({ frames := 6, cells := mc, slots := ms, locals := 100 })).room s m #[.ref (a 37)] below meth c dC dI cy a A (fun r => vx_MQ below (xV dC dI cy a A [] z r) (xX dC dI cy a A [] z r) #[.ref (a 37)] s mc ms A) [] z mc ms 7 (f_X2_advance k 31) (fun z L => [(0, .ref (a 37))]) 531 (fun z L => [.int (L.1 100), .ref (a 37)])) ∧ (bX p l e (headSpec w_f_X2_advance ({ frames := 6, cells := mc, slots := ms, locals := 100 })).room s m #[.ref (a 37)] below meth c dC dI cy a A (fun r => vx_MQ below (xV dC dI cy a A [] z r) (xX dC dI cy a A [] z r) #[.ref (a 37)] s mc ms A) [] z mc ms 7 (f_X2_advance k 32) (fun z L => [(0, .ref (a 37)), (1, .int (L.1 1))]) 388 (fun z L => [.ref (a 37)])) ∧ (bX p l e (headSpec w_f_X2_advance ({ frames := 6, cells := mc, slots := ms, locals := 100 })).room s m #[.ref (a 37)] below meth c dC dI cy a A (fun r => vx_MQ below (xV dC dI cy a A [] z r) (xX dC dI cy a A [] z r) #[.ref (a 37)] s mc ms A) [] z mc ms 7 (f_X2_advance k 33) (fun z L => [(0, .ref (a 37)), (1, .int (L.1 1))]) 389 (fun z L => [.int (L.1 100), .ref (a 37)])) ∧ (bX p l e (headSpec w_f_X2_advance ({ frames := 6, cells := mc, slots := ms, locals := 100 })).room s m #[.ref (a 37)] below meth c dC dI cy a A (fun r => vx_MQ below (xV dC dI cy a A [] z r) (xX dC dI cy a A [] z r) #[.ref (a 37)] s mc ms A) [] z mc ms 7 (f_X2_advance k 34) (fun z L => [(0, .ref (a 37)), (1, .int (L.1 1)), (6, .int (L.1 6))]) 284 (fun z L => [.ref (a 37)])) ∧ (bX p l e (headSpec w_f_X2_advance ({ frames := 6, cells := mc, slots := ms, locals := 100 })).room s m #[.ref (a 37)] below meth c dC dI cy a A (fun r => vx_MQ below (xV dC dI cy a A [] z r) (xX dC dI cy a A [] z r) #[.ref (a 37)] s mc ms A) [] z mc ms 7 (f_X2_advance k 35) (fun z L => [(0, .ref (a 37)), (1, .int (L.1 1)), (6, .int (L.1 6))]) 288 (fun z L => [.long (L.2.1 100), .ref (a 37)])) ∧ (bX p l e (headSpec w_f_X2_advance ({ frames := 6, cells := mc, slots := ms, locals := 100 })).room s m #[.ref (a 37)] below meth c dC dI cy a A (fun r => vx_MQ below (xV dC dI cy a A [] z r) (xX dC dI cy a A [] z r) #[.ref (a 37)] s mc ms A) [] z mc ms 7 (f_X2_advance k 36) (fun z L => [(0, .ref (a 37)), (4, .int (L.1 4))]) 770 (fun z L => [])) ∧ (bX p l e (headSpec w_f_X2_advance ({ frames := 6, cells := mc, slots := ms, locals := 100 })).room s m #[.ref (a 37)] below meth c dC dI cy a A (fun r => vx_MQ below (xV dC dI cy a A [] z r) (xX dC dI cy a A [] z r) #[.ref (a 37)] s mc ms A) [] z mc ms 7 (f_X2_advance k 37) (fun z L => [(0, .ref (a 37))]) 786 (fun z L => [])) ∧ (bX p l e (headSpec w_f_X2_advance ({ frames := 6, cells := mc, slots := ms, locals := 100 })).room s m #[.ref (a 37)] below meth c dC dI cy a A (fun r => vx_MQ below (xV dC dI cy a A [] z r) (xX dC dI cy a A [] z r) #[.ref (a 37)] s mc ms A) [] z mc ms 7 (f_X2_advance k 38) (fun z L => [(0, .ref (a 37))]) 718 (fun z L => [.ref (a 37)])) ∧ (bX p l e (headSpec w_f_X2_advance ({ frames := 6, cells := mc, slots := ms, locals := 100 })).room s m #[.ref (a 37)] below meth c dC dI cy a A (fun r => vx_MQ below (xV dC dI cy a A [] z r) (xX dC dI cy a A [] z r) #[.ref (a 37)] s mc ms A) [] z mc ms 7 (f_X2_advance k 39) (fun z L => [(0, .ref (a 37))]) 738 (fun z L => [.int (L.1 100), .ref (a 37)])) ∧ (bX p l e (headSpec w_f_X2_advance ({ frames := 6, cells := mc, slots := ms, locals := 100 })).room s m #[.ref (a 37)] below meth c dC dI cy a A (fun r => vx_MQ below (xV dC dI cy a A [] z r) (xX dC dI cy a A [] z r) #[.ref (a 37)] s mc ms A) [] z mc ms 7 (f_X2_advance k 40) (fun z L => [(0, .ref (a 37))]) 644 (fun z L => [.ref (a 37)])) ∧ (bX p l e (headSpec w_f_X2_advance ({ frames := 6, cells := mc, slots := ms, locals := 100 })).room s m #[.ref (a 37)] below meth c dC dI cy a A (fun r => vx_MQ below (xV dC dI cy a A [] z r) (xX dC dI cy a A [] z r) #[.ref (a 37)] s mc ms A) [] z mc ms 7 (f_X2_advance k 41) (fun z L => [(0, .ref (a 37))]) 645 (fun z L => [.int (L.1 100), .ref (a 37)])) ∧ (bX p l e (headSpec w_f_X2_advance ({ frames := 6, cells := mc, slots := ms, locals := 100 })).room s m #[.ref (a 37)] below meth c dC dI cy a A (fun r => vx_MQ below (xV dC dI cy a A [] z r) (xX dC dI cy a A [] z r) #[.ref (a 37)] s mc ms A) [] z mc ms 7 (f_X2_advance k 42) (fun z L => [(0, .ref (a 37))]) 816 (fun z L => [])) ∧ (bX p l e (headSpec w_f_X2_advance ({ frames := 6, cells := mc, slots := ms, locals := 100 })).room s m #[.ref (a 37)] below meth c dC dI cy a A (fun r => vx_MQ below (xV dC dI cy a A [] z r) (xX dC dI cy a A [] z r) #[.ref (a 37)] s mc ms A) [] z mc ms 7 (f_X2_advance k 43) (fun z L => [(0, .ref (a 37)), (1, .int (L.1 1)), (6, .int (L.1 6))]) 395 (fun z L => [])) ∧ (bX p l e (headSpec w_f_X2_advance ({ frames := 6, cells := mc, slots := ms, locals := 100 })).room s m #[.ref (a 37)] below meth c dC dI cy a A (fun r => vx_MQ below (xV dC dI cy a A [] z r) (xX dC dI cy a A [] z r) #[.ref (a 37)] s mc ms A) [] z mc ms 7 (f_X2_advance k 44) (fun z L => [(0, .ref (a 37)), (1, .int (L.1 1)), (6, .int (L.1 6))]) 308 (fun z L => [.ref (a 37)])) ∧ (bX p l e (headSpec w_f_X2_advance ({ frames := 6, cells := mc, slots := ms, locals := 100 })).room s m #[.ref (a 37)] below meth c dC dI cy a A (fun r => vx_MQ below (xV dC dI cy a A [] z r) (xX dC dI cy a A [] z r) #[.ref (a 37)] s mc ms A) [] z mc ms 7 (f_X2_advance k 45) (fun z L => [(0, .ref (a 37)), (1, .int (L.1 1)), (6, .int (L.1 6))]) 324 (fun z L => [.long (L.2.1 100), .ref (a 37)])) ∧ (bX p l e (headSpec w_f_X2_advance ({ frames := 6, cells := mc, slots := ms, locals := 100 })).room s m #[.ref (a 37)] below meth c dC dI cy a A (fun r => vx_MQ below (xV dC dI cy a A [] z r) (xX dC dI cy a A [] z r) #[.ref (a 37)] s mc ms A) [] z mc ms 7 (f_X2_advance k 46) (fun z L => [(0, .ref (a 37))]) 801 (fun z L => [.ref (a 37)])) ∧ (bX p l e (headSpec w_f_X2_advance ({ frames := 6, cells := mc, slots := ms, locals := 100 })).room s m #[.ref (a 37)] below meth c dC dI cy a A (fun r => vx_MQ below (xV dC dI cy a A [] z r) (xX dC dI cy a A [] z r) #[.ref (a 37)] s mc ms A) [] z mc ms 7 (f_X2_advance k 47) (fun z L => [(0, .ref (a 37))]) 803 (fun z L => [.int (L.1 100), .ref (a 37)])) ∧ (bX p l e (headSpec w_f_X2_advance ({ frames := 6, cells := mc, slots := ms, locals := 100 })).room s m #[.ref (a 37)] below meth c dC dI cy a A (fun r => vx_MQ below (xV dC dI cy a A [] z r) (xX dC dI cy a A [] z r) #[.ref (a 37)] s mc ms A) [] z mc ms 7 (f_X2_advance k 48) (fun z L => [(0, .ref (a 37))]) 732 (fun z L => [.ref (a 37)])) ∧ (bX p l e (headSpec w_f_X2_advance ({ frames := 6, cells := mc, slots := ms, locals := 100 })).room s m #[.ref (a 37)] below meth c dC dI cy a A (fun r => vx_MQ below (xV dC dI cy a A [] z r) (xX dC dI cy a A [] z r) #[.ref (a 37)] s mc ms A) [] z mc ms 7 (f_X2_advance k 49) (fun z L => []) 841 (fun z L => [])) ∧ (bX p l e (headSpec w_f_X2_advance ({ frames := 6, cells := mc, slots := ms, locals := 100 })).room s m #[.ref (a 37)] below meth c dC dI cy a A (fun r => vx_MQ below (xV dC dI cy a A [] z r) (xX dC dI cy a A [] z r) #[.ref (a 37)] s mc ms A) [] z mc ms 7 (f_X2_advance k 50) (fun z L => []) 849 (fun z L => [])) ∧ (bX p l e (headSpec w_f_X2_advance ({ frames := 6, cells := mc, slots := ms, locals := 100 })).room s m #[.ref (a 37)] below meth c dC dI cy a A (fun r => vx_MQ below (xV dC dI cy a A [] z r) (xX dC dI cy a A [] z r) #[.ref (a 37)] s mc ms A) [] z mc ms 7 (f_X2_advance k 51) (fun z L => [(0, .ref (a 37))]) 453 (fun z L => [])) ∧ (bX p l e (headSpec w_f_X2_advance ({ frames := 6, cells := mc, slots := ms, locals := 100 })).room s m #[.ref (a 37)] below meth c dC dI cy a A (fun r => vx_MQ below (xV dC dI cy a A [] z r) (xX dC dI cy a A [] z r) #[.ref (a 37)] s mc ms A) [] z mc ms 7 (f_X2_advance k 52) (fun z L => [(0, .ref (a 37)), (1, .int (L.1 1)), (6, .int (L.1 6))]) 440 (fun z L => [.ref (a 37)])) ∧ (bX p l e (headSpec w_f_X2_advance ({ frames := 6, cells := mc, slots := ms, locals := 100 })).room s m #[.ref (a 37)] below meth c dC dI cy a A (fun r => vx_MQ below (xV dC dI cy a A [] z r) (xX dC dI cy a A [] z r) #[.ref (a 37)] s mc ms A) [] z mc ms 7 (f_X2_advance k 53) (fun z L => [(0, .ref (a 37)), (1, .int (L.1 1)), (6, .int (L.1 6))]) 444 (fun z L => [.int (L.1 100), .ref (a 37)])) ∧ (bX p l e (headSpec w_f_X2_advance ({ frames := 6, cells := mc, slots := ms, locals := 100 })).room s m #[.ref (a 37)] below meth c dC dI cy a A (fun r => vx_MQ below (xV dC dI cy a A [] z r) (xX dC dI cy a A [] z r) #[.ref (a 37)] s mc ms A) [] z mc ms 7 (f_X2_advance k 54) (fun z L => [(0, .ref (a 37)), (1, .int (L.1 1)), (6, .int (L.1 6))]) 351 (fun z L => [])) ∧ (bX p l e (headSpec w_f_X2_advance ({ frames := 6, cells := mc, slots := ms, locals := 100 })).room s m #[.ref (a 37)] below meth c dC dI cy a A (fun r => vx_MQ below (xV dC dI cy a A [] z r) (xX dC dI cy a A [] z r) #[.ref (a 37)] s mc ms A) [] z mc ms 7 (f_X2_advance k 55) (fun z L => [(0, .ref (a 37)), (1, .int (L.1 1)), (6, .int (L.1 6))]) 364 (fun z L => [.int (L.1 100)])) := by
    intro k
    induction k with
    | zero => exact ⟨fun z c1 c2 L σ r h => (by cases h), fun z c1 c2 L σ r h => (by cases h), fun z c1 c2 L σ r h => (by cases h), fun z c1 c2 L σ r h => (by cases h), fun z c1 c2 L σ r h => (by cases h), fun z c1 c2 L σ r h => (by cases h), fun z c1 c2 L σ r h => (by cases h), fun z c1 c2 L σ r h => (by cases h), fun z c1 c2 L σ r h => (by cases h), fun z c1 c2 L σ r h => (by cases h), fun z c1 c2 L σ r h => (by cases h), fun z c1 c2 L σ r h => (by cases h), fun z c1 c2 L σ r h => (by cases h), fun z c1 c2 L σ r h => (by cases h), fun z c1 c2 L σ r h => (by cases h), fun z c1 c2 L σ r h => (by cases h), fun z c1 c2 L σ r h => (by cases h), fun z c1 c2 L σ r h => (by cases h), fun z c1 c2 L σ r h => (by cases h), fun z c1 c2 L σ r h => (by cases h), fun z c1 c2 L σ r h => (by cases h), fun z c1 c2 L σ r h => (by cases h), fun z c1 c2 L σ r h => (by cases h), fun z c1 c2 L σ r h => (by cases h), fun z c1 c2 L σ r h => (by cases h), fun z c1 c2 L σ r h => (by cases h), fun z c1 c2 L σ r h => (by cases h), fun z c1 c2 L σ r h => (by cases h), fun z c1 c2 L σ r h => (by cases h), fun z c1 c2 L σ r h => (by cases h), fun z c1 c2 L σ r h => (by cases h), fun z c1 c2 L σ r h => (by cases h), fun z c1 c2 L σ r h => (by cases h), fun z c1 c2 L σ r h => (by cases h), fun z c1 c2 L σ r h => (by cases h), fun z c1 c2 L σ r h => (by cases h), fun z c1 c2 L σ r h => (by cases h), fun z c1 c2 L σ r h => (by cases h), fun z c1 c2 L σ r h => (by cases h), fun z c1 c2 L σ r h => (by cases h), fun z c1 c2 L σ r h => (by cases h), fun z c1 c2 L σ r h => (by cases h), fun z c1 c2 L σ r h => (by cases h), fun z c1 c2 L σ r h => (by cases h), fun z c1 c2 L σ r h => (by cases h), fun z c1 c2 L σ r h => (by cases h), fun z c1 c2 L σ r h => (by cases h), fun z c1 c2 L σ r h => (by cases h), fun z c1 c2 L σ r h => (by cases h), fun z c1 c2 L σ r h => (by cases h), fun z c1 c2 L σ r h => (by cases h), fun z c1 c2 L σ r h => (by cases h), fun z c1 c2 L σ r h => (by cases h), fun z c1 c2 L σ r h => (by cases h), fun z c1 c2 L σ r h => (by cases h), fun z c1 c2 L σ r h => (by cases h)⟩
    | succ k ih =>
      refine ⟨?_, ?_, ?_, ?_, ?_, ?_, ?_, ?_, ?_, ?_, ?_, ?_, ?_, ?_, ?_, ?_, ?_, ?_, ?_, ?_, ?_, ?_, ?_, ?_, ?_, ?_, ?_, ?_, ?_, ?_, ?_, ?_, ?_, ?_, ?_, ?_, ?_, ?_, ?_, ?_, ?_, ?_, ?_, ?_, ?_, ?_, ?_, ?_, ?_, ?_, ?_, ?_, ?_, ?_, ?_, ?_⟩
      · intro z cells slots L σ r h hzk hc hs H locs ls hP hD hS hl
        rw [f_X2_advance] at h
        refine lv_aload_n hx hb dX2_advance_0 rfl (lv_at hl 0 rfl) ?_
        refine hg_37_4 hx hb hts in_f_X2_advance_X2 hown hK hP (hts _ (List.mem_cons_of_mem _ (List.mem_append_left _ (List.mem_append_left _ (List.mem_of_getElem? (i := 0) rfl))))) dX2_advance_1 ?_
        refine lv_istore_n (lv' := [(1, .int (σ.1 3704)), (0, .ref (a 37))]) hx hb dX2_advance_4 rfl hl (by decide) rfl (fun ls hl => ?_)
        refine lv_iconst (v := 0) hx hb dX2_advance_5 (by decide) ?_
        refine lv_istore_n (lv' := [(2, .int 0), (1, .int (σ.1 3704)), (0, .ref (a 37))]) hx hb dX2_advance_6 rfl hl (by decide) rfl (fun ls hl => ?_)
        refine lv_iconst (v := 1) hx hb dX2_advance_7 (by decide) ?_
        refine lv_istore_n (lv' := [(3, .int 1), (2, .int 0), (1, .int (σ.1 3704)), (0, .ref (a 37))]) hx hb dX2_advance_8 rfl hl (by decide) rfl (fun ls hl => ?_)
        refine lv_aload_n hx hb dX2_advance_9 rfl (lv_at hl 3 rfl) ?_
        refine hg_37_4 hx hb hts in_f_X2_advance_X2 hown hK hP (hts _ (List.mem_cons_of_mem _ (List.mem_append_left _ (List.mem_append_left _ (List.mem_of_getElem? (i := 0) rfl))))) dX2_advance_10 ?_
        refine lv_istore (lv' := [(4, .int (σ.1 3704)), (3, .int 1), (2, .int 0), (1, .int (σ.1 3704)), (0, .ref (a 37))]) hx hb dX2_advance_13 hl (by decide) rfl (fun ls hl => ?_)
        exact ih.2.1 z _ _ (lI (lI (lI (lI L 1 ((σ.1 3704))) 2 0) 3 1) 4 ((σ.1 3704))) σ _ h hzk hc hs H locs ls hP hD hS (lv_sub hl [4, 3, 2, 1, 0] rfl)
      · intro z cells slots L σ r h hzk hc hs H locs ls hP hD hS hl
        rw [f_X2_advance] at h
        refine lv_iload hx hb dX2_advance_15 (lv_at hl 4 rfl) ?_
        refine lv_aload_n hx hb dX2_advance_17 rfl (lv_at hl 0 rfl) ?_
        refine hg_37_1 hx hb hts in_f_X2_advance_X2 hown hK hP (hts _ (List.mem_cons_of_mem _ (List.mem_append_left _ (List.mem_append_left _ (List.mem_of_getElem? (i := 1) rfl))))) dX2_advance_18 ?_
        refine lv_icmp_ge (tgt := 129) hx hb dX2_advance_21 (by decide) (fun c1 => ?_) (fun c1 => ?_)
        · rw [if_pos c1] at h
          exact ih.2.2.1 z _ _ L σ _ h hzk hc hs H locs ls hP hD hS (lv_sub hl [0, 1] rfl)
        · rw [if_neg c1] at h
          refine lv_iload_n hx hb dX2_advance_24 rfl (lv_at hl 3 rfl) ?_
          refine lv_if_eq (tgt := 129) hx hb dX2_advance_25 (by decide) (fun c2 => ?_) (fun c2 => ?_)
          · rw [if_pos c2] at h
            exact ih.2.2.1 z _ _ L σ _ h hzk hc hs H locs ls hP hD hS (lv_sub hl [0, 1] rfl)
          · rw [if_neg c2] at h
            refine lv_aload_n hx hb dX2_advance_28 rfl (lv_at hl 0 rfl) ?_
            refine hg_37_0 hx hb hts in_f_X2_advance_X2 hown hK hP (hts _ (List.mem_cons_of_mem _ (List.mem_append_left _ (List.mem_append_left _ (List.mem_of_getElem? (i := 2) rfl))))) dX2_advance_29 ?_
            refine lv_iload hx hb dX2_advance_32 (lv_at hl 4 rfl) ?_
            obtain ⟨q3, h⟩ := kr_ite1 h
            refine hl_38 hx hb hK hP q3 dX2_advance_34 ?_
            refine lv_istore (lv' := [(5, .int (σ.2.2.1 38 ((L.1 4)).toNatClampNeg)), (0, .ref (a 37)), (1, .int (L.1 1)), (2, .int (L.1 2)), (3, .int (L.1 3)), (4, .int (L.1 4))]) hx hb dX2_advance_35 hl (by decide) rfl (fun ls hl => ?_)
            refine lv_iload_n hx hb dX2_advance_37 rfl (lv_at hl 3 rfl) ?_
            refine lv_if_eq (tgt := 56) hx hb dX2_advance_38 (by decide) (fun c4 => ?_) (fun c4 => ?_)
            · rw [if_pos c4] at h
              exact ih.2.2.2.1 z _ _ (lI L 5 ((σ.2.2.1 38 ((L.1 4)).toNatClampNeg))) σ _ h hzk hc hs H locs ls hP hD hS (lv_sub hl [1, 5, 0] rfl)
            · rw [if_neg c4] at h
              refine lv_iload hx hb dX2_advance_41 (lv_at hl 0 rfl) ?_
              refine lv_bipush (v := 10) hx hb dX2_advance_43 (by decide) ?_
              refine lv_icmp_eq (tgt := 52) hx hb dX2_advance_45 (by decide) (fun c5 => ?_) (fun c5 => ?_)
              · rw [if_pos c5] at h
                exact ih.2.2.2.2.1 z _ _ (lI L 5 ((σ.2.2.1 38 ((L.1 4)).toNatClampNeg))) σ _ h hzk hc hs H locs ls hP hD hS (lv_sub hl [1, 5, 0] rfl)
              · rw [if_neg c5] at h
                refine lv_iconst (v := 1) hx hb dX2_advance_48 (by decide) ?_
                refine lv_goto (tgt := 82) hx hb dX2_advance_49 (by decide) ?_
                exact ih.2.2.2.2.2.1 z _ _ (lI (lI L 5 ((σ.2.2.1 38 ((L.1 4)).toNatClampNeg))) 100 1) σ _ h hzk hc hs H locs ls hP hD hS (lv_sub hl [1, 5, 0] rfl)
      · intro z cells slots L σ r h hzk hc hs H locs ls hP hD hS hl
        rw [f_X2_advance] at h
        refine lv_aload_n hx hb dX2_advance_129 rfl (lv_at hl 0 rfl) ?_
        refine lv_iload_n hx hb dX2_advance_130 rfl (lv_at hl 1 rfl) ?_
        refine hp_37_3 hx hb hts in_f_X2_advance_X2 hown hK hP hD hS (hts _ (List.mem_cons_of_mem _ (List.mem_append_left _ (List.mem_append_left _ (List.mem_of_getElem? (i := 3) rfl))))) dX2_advance_131 (fun H locs hP hD hS => ?_)
        refine lv_aload_n hx hb dX2_advance_134 rfl (lv_at hl 0 rfl) ?_
        refine lv_iload_n hx hb dX2_advance_135 rfl (lv_at hl 1 rfl) ?_
        refine lv_aload_n hx hb dX2_advance_136 rfl (lv_at hl 0 rfl) ?_
        refine hg_37_1 hx hb hts in_f_X2_advance_X2 hown hK hP (hts _ (List.mem_cons_of_mem _ (List.mem_append_left _ (List.mem_append_left _ (List.mem_of_getElem? (i := 1) rfl))))) dX2_advance_137 ?_
        refine lv_icmp_ge (tgt := 149) hx hb dX2_advance_140 (by decide) (fun c1 => ?_) (fun c1 => ?_)
        · rw [if_pos c1] at h
          exact ih.2.2.2.2.2.2.1 z _ _ L (uI σ 3703 ((L.1 1))) _ h hzk hc hs H locs ls hP hD hS (lv_sub hl [0, 1] rfl)
        · rw [if_neg c1] at h
          refine lv_iload_n hx hb dX2_advance_143 rfl (lv_at hl 1 rfl) ?_
          refine lv_iconst (v := 1) hx hb dX2_advance_144 (by decide) ?_
          refine lv_iadd hx hb dX2_advance_145 ?_
          refine lv_goto (tgt := 150) hx hb dX2_advance_146 (by decide) ?_
          exact ih.2.2.2.2.2.2.2.1 z _ _ (lI L 100 ((((L.1 1)) + 1))) (uI σ 3703 ((L.1 1))) _ h hzk hc hs H locs ls hP hD hS (lv_sub hl [0, 1] rfl)
      · intro z cells slots L σ r h hzk hc hs H locs ls hP hD hS hl
        rw [f_X2_advance] at h
        refine lv_iload hx hb dX2_advance_56 (lv_at hl 2 rfl) ?_
        refine lv_bipush (v := 45) hx hb dX2_advance_58 (by decide) ?_
        refine lv_icmp_ne (tgt := 81) hx hb dX2_advance_60 (by decide) (fun c1 => ?_) (fun c1 => ?_)
        · rw [if_neg c1] at h
          exact ih.2.2.2.2.2.2.2.2.1 z _ _ L σ _ h hzk hc hs H locs ls hP hD hS (lv_sub hl [0, 1, 2] rfl)
        · rw [if_pos c1] at h
          refine lv_aload_n hx hb dX2_advance_63 rfl (lv_at hl 0 rfl) ?_
          refine hg_37_0 hx hb hts in_f_X2_advance_X2 hown hK hP (hts _ (List.mem_cons_of_mem _ (List.mem_append_left _ (List.mem_append_left _ (List.mem_of_getElem? (i := 2) rfl))))) dX2_advance_64 ?_
          refine lv_iload hx hb dX2_advance_67 (lv_at hl 1 rfl) ?_
          refine lv_iconst (v := 1) hx hb dX2_advance_69 (by decide) ?_
          refine lv_iadd hx hb dX2_advance_70 ?_
          obtain ⟨q2, h⟩ := kr_ite1 h
          refine hl_38 hx hb hK hP q2 dX2_advance_71 ?_
          refine lv_bipush (v := 45) hx hb dX2_advance_72 (by decide) ?_
          refine lv_icmp_ne (tgt := 81) hx hb dX2_advance_74 (by decide) (fun c3 => ?_) (fun c3 => ?_)
          · rw [if_neg c3] at h
            exact ih.2.2.2.2.2.2.2.2.1 z _ _ L σ _ h hzk hc hs H locs ls hP hD hS (lv_sub hl [0, 1, 2] rfl)
          · rw [if_pos c3] at h
            refine lv_iconst (v := 1) hx hb dX2_advance_77 (by decide) ?_
            refine lv_goto (tgt := 82) hx hb dX2_advance_78 (by decide) ?_
            exact ih.2.2.2.2.2.1 z _ _ (lI L 100 1) σ _ h hzk hc hs H locs ls hP hD hS (lv_sub hl [0, 1, 2] rfl)
      · intro z cells slots L σ r h hzk hc hs H locs ls hP hD hS hl
        rw [f_X2_advance] at h
        refine lv_iconst (v := 0) hx hb dX2_advance_52 (by decide) ?_
        refine lv_goto (tgt := 82) hx hb dX2_advance_53 (by decide) ?_
        exact ih.2.2.2.2.2.1 z _ _ (lI L 100 0) σ _ h hzk hc hs H locs ls hP hD hS (lv_sub hl [0, 1, 2] rfl)
      · intro z cells slots L σ r h hzk hc hs H locs ls hP hD hS hl
        rw [f_X2_advance] at h
        refine lv_istore_n (lv' := [(2, .int (L.1 100)), (0, .ref (a 37)), (4, .int (L.1 4)), (5, .int (L.1 5))]) hx hb dX2_advance_82 rfl hl (by decide) rfl (fun ls hl => ?_)
        refine lv_iload_n hx hb dX2_advance_83 rfl (lv_at hl 0 rfl) ?_
        refine lv_if_ne (tgt := 103) hx hb dX2_advance_84 (by decide) (fun c1 => ?_) (fun c1 => ?_)
        · rw [if_neg c1] at h
          exact ih.2.2.2.2.2.2.2.2.2.1 z _ _ (lI L 2 ((L.1 100))) σ _ h hzk hc hs H locs ls hP hD hS (lv_sub hl [1, 0, 2] rfl)
        · rw [if_pos c1] at h
          refine lv_iload hx hb dX2_advance_87 (lv_at hl 3 rfl) ?_
          refine lv_if_lt (tgt := 107) hx hb dX2_advance_89 (by decide) (fun c2 => ?_) (fun c2 => ?_)
          · rw [if_pos c2] at h
            exact ih.2.2.2.2.2.2.2.2.2.2.1 z _ _ (lI L 2 ((L.1 100))) σ _ h hzk hc hs H locs ls hP hD hS (lv_sub hl [1, 0, 2] rfl)
          · rw [if_neg c2] at h
            refine va_gets hx hb hE.2.2.2.2.1 hS hown (hts _ (List.mem_cons_of_mem _ (List.mem_append_left _ (List.mem_append_left _ (List.mem_of_getElem? (i := 4) rfl))))) (fun _ h9 => h9) dX2_advance_92 ?_
            refine lv_iload hx hb dX2_advance_95 (lv_at hl 3 rfl) ?_
            obtain ⟨q3, h⟩ := kr_ite1 h
            refine va_tb hx hb hE.2.2.2.2.2 hS (nb_inp q3) (v := .int (lxC.getD ((L.1 5)).toNatClampNeg 0)) rfl dX2_advance_97 ?_
            refine lv_bipush (v := 31) hx hb dX2_advance_98 (by decide) ?_
            refine lv_icmp_ne (tgt := 107) hx hb dX2_advance_100 (by decide) (fun c4 => ?_) (fun c4 => ?_)
            · rw [if_neg c4] at h
              exact ih.2.2.2.2.2.2.2.2.2.2.1 z _ _ (lI L 2 ((L.1 100))) σ _ h hzk hc hs H locs ls hP hD hS (lv_sub hl [1, 0, 2] rfl)
            · rw [if_pos c4] at h
              exact ih.2.2.2.2.2.2.2.2.2.1 z _ _ (lI L 2 ((L.1 100))) σ _ h hzk hc hs H locs ls hP hD hS (lv_sub hl [1, 0, 2] rfl)
      · intro z cells slots L σ r h hzk hc hs H locs ls hP hD hS hl
        rw [f_X2_advance] at h
        refine lv_iload_n hx hb dX2_advance_149 rfl (lv_at hl 1 rfl) ?_
        exact ih.2.2.2.2.2.2.2.1 z _ _ (lI L 100 ((L.1 1))) σ _ h hzk hc hs H locs ls hP hD hS (lv_sub hl [0, 1] rfl)
      · intro z cells slots L σ r h hzk hc hs H locs ls hP hD hS hl
        rw [f_X2_advance] at h
        refine hp_37_4 hx hb hts in_f_X2_advance_X2 hown hK hP hD hS (hts _ (List.mem_cons_of_mem _ (List.mem_append_left _ (List.mem_append_left _ (List.mem_of_getElem? (i := 0) rfl))))) dX2_advance_150 (fun H locs hP hD hS => ?_)
        refine lv_aload_n hx hb dX2_advance_153 rfl (lv_at hl 0 rfl) ?_
        refine lv_iload_n hx hb dX2_advance_154 rfl (lv_at hl 1 rfl) ?_
        refine lv_aload_n hx hb dX2_advance_155 rfl (lv_at hl 0 rfl) ?_
        refine hg_37_1 hx hb hts in_f_X2_advance_X2 hown hK hP (hts _ (List.mem_cons_of_mem _ (List.mem_append_left _ (List.mem_append_left _ (List.mem_of_getElem? (i := 1) rfl))))) dX2_advance_156 ?_
        refine lv_icmp_lt (tgt := 166) hx hb dX2_advance_159 (by decide) (fun c1 => ?_) (fun c1 => ?_)
        · rw [if_pos c1] at h
          exact ih.2.2.2.2.2.2.2.2.2.2.2.1 z _ _ L (uI σ 3704 ((L.1 100))) _ h hzk hc hs H locs ls hP hD hS (lv_sub hl [0, 1] rfl)
        · rw [if_neg c1] at h
          refine lv_iconst (v := 1) hx hb dX2_advance_162 (by decide) ?_
          refine lv_goto (tgt := 189) hx hb dX2_advance_163 (by decide) ?_
          exact ih.2.2.2.2.2.2.2.2.2.2.2.2.1 z _ _ (lI L 100 1) (uI σ 3704 ((L.1 100))) _ h hzk hc hs H locs ls hP hD hS (lv_sub hl [0, 1] rfl)
      · intro z cells slots L σ r h hzk hc hs H locs ls hP hD hS hl
        rw [f_X2_advance] at h
        refine lv_iconst (v := 0) hx hb dX2_advance_81 (by decide) ?_
        exact ih.2.2.2.2.2.1 z _ _ (lI L 100 0) σ _ h hzk hc hs H locs ls hP hD hS (lv_sub hl [0, 1, 2] rfl)
      · intro z cells slots L σ r h hzk hc hs H locs ls hP hD hS hl
        rw [f_X2_advance] at h
        refine lv_iconst (v := 1) hx hb dX2_advance_103 (by decide) ?_
        refine lv_goto (tgt := 108) hx hb dX2_advance_104 (by decide) ?_
        exact ih.2.2.2.2.2.2.2.2.2.2.2.2.2.1 z _ _ (lI L 100 1) σ _ h hzk hc hs H locs ls hP hD hS (lv_sub hl [0, 1, 2] rfl)
      · intro z cells slots L σ r h hzk hc hs H locs ls hP hD hS hl
        rw [f_X2_advance] at h
        refine lv_iconst (v := 0) hx hb dX2_advance_107 (by decide) ?_
        exact ih.2.2.2.2.2.2.2.2.2.2.2.2.2.1 z _ _ (lI L 100 0) σ _ h hzk hc hs H locs ls hP hD hS (lv_sub hl [0, 1, 2] rfl)
      · intro z cells slots L σ r h hzk hc hs H locs ls hP hD hS hl
        rw [f_X2_advance] at h
        refine lv_aload_n hx hb dX2_advance_166 rfl (lv_at hl 0 rfl) ?_
        refine hg_37_0 hx hb hts in_f_X2_advance_X2 hown hK hP (hts _ (List.mem_cons_of_mem _ (List.mem_append_left _ (List.mem_append_left _ (List.mem_of_getElem? (i := 2) rfl))))) dX2_advance_167 ?_
        refine lv_iload_n hx hb dX2_advance_170 rfl (lv_at hl 1 rfl) ?_
        obtain ⟨q1, h⟩ := kr_ite1 h
        refine hl_38 hx hb hK hP q1 dX2_advance_171 ?_
        refine lv_if_ge (tgt := 179) hx hb dX2_advance_172 (by decide) (fun c2 => ?_) (fun c2 => ?_)
        · rw [if_pos c2] at h
          exact ih.2.2.2.2.2.2.2.2.2.2.2.2.2.2.1 z _ _ L σ _ h hzk hc hs H locs ls hP hD hS (lv_sub hl [0, 1] rfl)
        · rw [if_neg c2] at h
          refine lv_iconst (v := 0) hx hb dX2_advance_175 (by decide) ?_
          refine lv_goto (tgt := 189) hx hb dX2_advance_176 (by decide) ?_
          exact ih.2.2.2.2.2.2.2.2.2.2.2.2.1 z _ _ (lI L 100 0) σ _ h hzk hc hs H locs ls hP hD hS (lv_sub hl [0, 1] rfl)
      · intro z cells slots L σ r h hzk hc hs H locs ls hP hD hS hl
        rw [f_X2_advance] at h
        refine hp_37_2 hx hb hts in_f_X2_advance_X2 hown hK hP hD hS (hts _ (List.mem_cons_of_mem _ (List.mem_append_left _ (List.mem_append_left _ (List.mem_of_getElem? (i := 5) rfl))))) dX2_advance_189 (fun H locs hP hD hS => ?_)
        refine lv_aload_n hx hb dX2_advance_192 rfl (lv_at hl 0 rfl) ?_
        refine hg_37_0 hx hb hts in_f_X2_advance_X2 hown hK hP (hts _ (List.mem_cons_of_mem _ (List.mem_append_left _ (List.mem_append_left _ (List.mem_of_getElem? (i := 2) rfl))))) dX2_advance_193 ?_
        refine lv_aload_n hx hb dX2_advance_196 rfl (lv_at hl 0 rfl) ?_
        refine hg_37_4 hx hb hts in_f_X2_advance_X2 hown hK hP (hts _ (List.mem_cons_of_mem _ (List.mem_append_left _ (List.mem_append_left _ (List.mem_of_getElem? (i := 0) rfl))))) dX2_advance_197 ?_
        obtain ⟨q1, h⟩ := kr_ite1 h
        refine hl_38 hx hb hK hP q1 dX2_advance_200 ?_
        refine lv_istore (lv' := [(4, .int ((uI σ 3702 ((L.1 100))).2.2.1 38 (((uI σ 3702 ((L.1 100))).1 3704)).toNatClampNeg)), (0, .ref (a 37)), (1, .int (L.1 1))]) hx hb dX2_advance_201 hl (by decide) rfl (fun ls hl => ?_)
        refine lv_aload_n hx hb dX2_advance_203 rfl (lv_at hl 1 rfl) ?_
        refine hg_37_2 hx hb hts in_f_X2_advance_X2 hown hK hP (hts _ (List.mem_cons_of_mem _ (List.mem_append_left _ (List.mem_append_left _ (List.mem_of_getElem? (i := 5) rfl))))) dX2_advance_204 ?_
        refine lv_iconst (v := 2) hx hb dX2_advance_207 (by decide) ?_
        refine lv_icmp_ne (tgt := 456) hx hb dX2_advance_208 (by decide) (fun c2 => ?_) (fun c2 => ?_)
        · rw [if_neg c2] at h
          exact ih.2.2.2.2.2.2.2.2.2.2.2.2.2.2.2.1 z _ _ (lI L 4 (((uI σ 3702 ((L.1 100))).2.2.1 38 (((uI σ 3702 ((L.1 100))).1 3704)).toNatClampNeg))) (uI σ 3702 ((L.1 100))) _ h hzk hc hs H locs ls hP hD hS (lv_sub hl [1, 2, 0] rfl)
        · rw [if_pos c2] at h
          refine lv_aload_n hx hb dX2_advance_211 rfl (lv_at hl 1 rfl) ?_
          refine lv_lconst (v := 0) hx hb dX2_advance_212 (by decide) ?_
          refine hp_37_5 hx hb hts in_f_X2_advance_X2 hown hK hP hD hS (hts _ (List.mem_cons_of_mem _ (List.mem_append_left _ (List.mem_append_left _ (List.mem_of_getElem? (i := 6) rfl))))) dX2_advance_213 (fun H locs hP hD hS => ?_)
          refine lv_aload_n hx hb dX2_advance_216 rfl (lv_at hl 1 rfl) ?_
          refine lv_lconst (v := 0) hx hb dX2_advance_217 (by decide) ?_
          refine hp_37_6 hx hb hts in_f_X2_advance_X2 hown hK hP hD hS (hts _ (List.mem_cons_of_mem _ (List.mem_append_left _ (List.mem_append_left _ (List.mem_of_getElem? (i := 7) rfl))))) dX2_advance_218 (fun H locs hP hD hS => ?_)
          exact ih.2.2.2.2.2.2.2.2.2.2.2.2.2.2.2.2.1 z _ _ L (uL (uL (uI σ 3702 ((L.1 100))) 3705 0) 3706 0) _ h hzk hc hs H locs ls hP hD hS (lv_sub hl [1, 2] rfl)
      · intro z cells slots L σ r h hzk hc hs H locs ls hP hD hS hl
        rw [f_X2_advance] at h
        refine lv_istore_n (lv' := [(3, .int (L.1 100)), (0, .ref (a 37)), (2, .int (L.1 2)), (4, .int (L.1 4))]) hx hb dX2_advance_108 rfl hl (by decide) rfl (fun ls hl => ?_)
        refine lv_iload_n hx hb dX2_advance_109 rfl (lv_at hl 0 rfl) ?_
        refine lv_if_eq (tgt := 120) hx hb dX2_advance_110 (by decide) (fun c1 => ?_) (fun c1 => ?_)
        · rw [if_pos c1] at h
          exact ih.2.2.2.2.2.2.2.2.2.2.2.2.2.2.2.2.2.1 z _ _ (lI L 3 ((L.1 100))) σ _ h hzk hc hs H locs ls hP hD hS (lv_sub hl [1, 2, 0, 3] rfl)
        · rw [if_neg c1] at h
          refine lv_iload hx hb dX2_advance_113 (lv_at hl 3 rfl) ?_
          refine lv_iconst (v := 1) hx hb dX2_advance_115 (by decide) ?_
          refine lv_iadd hx hb dX2_advance_116 ?_
          refine lv_goto (tgt := 122) hx hb dX2_advance_117 (by decide) ?_
          exact ih.2.2.2.2.2.2.2.2.2.2.2.2.2.2.2.2.2.2.1 z _ _ (lI (lI L 3 ((L.1 100))) 100 ((((L.1 4)) + 1))) σ _ h hzk hc hs H locs ls hP hD hS (lv_sub hl [1, 2, 0, 3] rfl)
      · intro z cells slots L σ r h hzk hc hs H locs ls hP hD hS hl
        rw [f_X2_advance] at h
        refine va_gets hx hb hE.2.2.2.2.1 hS hown (hts _ (List.mem_cons_of_mem _ (List.mem_append_left _ (List.mem_append_left _ (List.mem_of_getElem? (i := 4) rfl))))) (fun _ h9 => h9) dX2_advance_179 ?_
        refine lv_aload_n hx hb dX2_advance_182 rfl (lv_at hl 0 rfl) ?_
        refine hg_37_0 hx hb hts in_f_X2_advance_X2 hown hK hP (hts _ (List.mem_cons_of_mem _ (List.mem_append_left _ (List.mem_append_left _ (List.mem_of_getElem? (i := 2) rfl))))) dX2_advance_183 ?_
        refine lv_iload_n hx hb dX2_advance_186 rfl (lv_at hl 1 rfl) ?_
        obtain ⟨q1, h⟩ := kr_ite1 h
        refine hl_38 hx hb hK hP q1 dX2_advance_187 ?_
        obtain ⟨q2, h⟩ := kr_ite1 h
        refine va_tb hx hb hE.2.2.2.2.2 hS (nb_inp q2) (v := .int (lxC.getD ((σ.2.2.1 38 ((L.1 1)).toNatClampNeg)).toNatClampNeg 0)) rfl dX2_advance_188 ?_
        exact ih.2.2.2.2.2.2.2.2.2.2.2.2.1 z _ _ (lI L 100 ((lxC.getD ((σ.2.2.1 38 ((L.1 1)).toNatClampNeg)).toNatClampNeg 0))) σ _ h hzk hc hs H locs ls hP hD hS (lv_sub hl [0, 1] rfl)
      · intro z cells slots L σ r h hzk hc hs H locs ls hP hD hS hl
        rw [f_X2_advance] at h
        refine lv_aload_n hx hb dX2_advance_456 rfl (lv_at hl 0 rfl) ?_
        refine hg_37_2 hx hb hts in_f_X2_advance_X2 hown hK hP (hts _ (List.mem_cons_of_mem _ (List.mem_append_left _ (List.mem_append_left _ (List.mem_of_getElem? (i := 5) rfl))))) dX2_advance_457 ?_
        refine lv_iconst (v := 3) hx hb dX2_advance_460 (by decide) ?_
        refine lv_icmp_ne (tgt := 537) hx hb dX2_advance_461 (by decide) (fun c1 => ?_) (fun c1 => ?_)
        · rw [if_neg c1] at h
          exact ih.2.2.2.2.2.2.2.2.2.2.2.2.2.2.2.2.2.2.2.1 z _ _ L σ _ h hzk hc hs H locs ls hP hD hS (lv_sub hl [0, 1, 2] rfl)
        · rw [if_pos c1] at h
          refine lv_iload_n hx hb dX2_advance_464 rfl (lv_at hl 1 rfl) ?_
          refine lv_istore (lv' := [(5, .int (L.1 1)), (0, .ref (a 37)), (1, .int (L.1 1)), (4, .int (L.1 4))]) hx hb dX2_advance_465 hl (by decide) rfl (fun ls hl => ?_)
          exact ih.2.2.2.2.2.2.2.2.2.2.2.2.2.2.2.2.2.2.2.2.1 z _ _ (lI L 5 ((L.1 1))) σ _ h hzk hc hs H locs ls hP hD hS (lv_sub hl [1, 2, 0] rfl)
      · intro z cells slots L σ r h hzk hc hs H locs ls hP hD hS hl
        rw [f_X2_advance] at h
        refine lv_iconst (v := 2) hx hb dX2_advance_221 (by decide) ?_
        refine lv_istore (lv' := [(5, .int 2), (0, .ref (a 37)), (1, .int (L.1 1))]) hx hb dX2_advance_222 hl (by decide) rfl (fun ls hl => ?_)
        refine lv_iload_n hx hb dX2_advance_224 rfl (lv_at hl 2 rfl) ?_
        refine lv_istore (lv' := [(6, .int (L.1 1)), (5, .int 2), (0, .ref (a 37)), (1, .int (L.1 1))]) hx hb dX2_advance_225 hl (by decide) rfl (fun ls hl => ?_)
        exact ih.2.2.2.2.2.2.2.2.2.2.2.2.2.2.2.2.2.2.2.2.2.1 z _ _ (lI (lI L 5 2) 6 ((L.1 1))) σ _ h hzk hc hs H locs ls hP hD hS (lv_sub hl [2, 3, 1, 0] rfl)
      · intro z cells slots L σ r h hzk hc hs H locs ls hP hD hS hl
        rw [f_X2_advance] at h
        refine lv_iload hx hb dX2_advance_120 (lv_at hl 3 rfl) ?_
        exact ih.2.2.2.2.2.2.2.2.2.2.2.2.2.2.2.2.2.2.1 z _ _ (lI L 100 ((L.1 4))) σ _ h hzk hc hs H locs ls hP hD hS (lv_sub hl [0, 1, 2, 3] rfl)
      · intro z cells slots L σ r h hzk hc hs H locs ls hP hD hS hl
        rw [f_X2_advance] at h
        refine lv_istore_n (lv' := [(1, .int (L.1 100)), (0, .ref (a 37)), (2, .int (L.1 2)), (3, .int (L.1 3)), (4, .int (L.1 4))]) hx hb dX2_advance_122 rfl hl (by decide) rfl (fun ls hl => ?_)
        refine lv_iinc (v := ((L.1 4)) + 1) (lv' := [(4, .int (((L.1 4)) + 1)), (1, .int (L.1 100)), (0, .ref (a 37)), (2, .int (L.1 2)), (3, .int (L.1 3))]) hx hb dX2_advance_123 hl (k := 4) rfl rfl (by decide) rfl (fun ls hl => ?_)
        refine lv_goto (tgt := 15) hx hb dX2_advance_126 (by decide) ?_
        exact ih.2.1 z _ _ (lI (lI L 1 ((L.1 100))) 4 ((((L.1 4)) + 1))) σ _ h hzk hc hs H locs ls hP hD hS (lv_sub hl [2, 1, 3, 4, 0] rfl)
      · intro z cells slots L σ r h hzk hc hs H locs ls hP hD hS hl
        rw [f_X2_advance] at h
        refine lv_aload_n hx hb dX2_advance_537 rfl (lv_at hl 0 rfl) ?_
        refine hg_37_2 hx hb hts in_f_X2_advance_X2 hown hK hP (hts _ (List.mem_cons_of_mem _ (List.mem_append_left _ (List.mem_append_left _ (List.mem_of_getElem? (i := 5) rfl))))) dX2_advance_538 ?_
        refine lv_iconst (v := 4) hx hb dX2_advance_541 (by decide) ?_
        refine lv_icmp_ne (tgt := 661) hx hb dX2_advance_542 (by decide) (fun c1 => ?_) (fun c1 => ?_)
        · rw [if_neg c1] at h
          exact ih.2.2.2.2.2.2.2.2.2.2.2.2.2.2.2.2.2.2.2.2.2.2.1 z _ _ L σ _ h hzk hc hs H locs ls hP hD hS (lv_sub hl [0, 2] rfl)
        · rw [if_pos c1] at h
          refine lv_iload_n hx hb dX2_advance_545 rfl (lv_at hl 1 rfl) ?_
          refine lv_iconst (v := 1) hx hb dX2_advance_546 (by decide) ?_
          refine lv_iadd hx hb dX2_advance_547 ?_
          refine lv_istore (lv' := [(5, .int (((L.1 1)) + 1)), (0, .ref (a 37)), (1, .int (L.1 1)), (4, .int (L.1 4))]) hx hb dX2_advance_548 hl (by decide) rfl (fun ls hl => ?_)
          exact ih.2.2.2.2.2.2.2.2.2.2.2.2.2.2.2.2.2.2.2.2.2.2.2.1 z _ _ (lI L 5 ((((L.1 1)) + 1))) σ _ h hzk hc hs H locs ls hP hD hS (lv_sub hl [1, 2, 0] rfl)
      · intro z cells slots L σ r h hzk hc hs H locs ls hP hD hS hl
        rw [f_X2_advance] at h
        refine lv_iload hx hb dX2_advance_467 (lv_at hl 2 rfl) ?_
        refine lv_aload_n hx hb dX2_advance_469 rfl (lv_at hl 0 rfl) ?_
        refine hg_37_1 hx hb hts in_f_X2_advance_X2 hown hK hP (hts _ (List.mem_cons_of_mem _ (List.mem_append_left _ (List.mem_append_left _ (List.mem_of_getElem? (i := 1) rfl))))) dX2_advance_470 ?_
        refine lv_icmp_ge (tgt := 514) hx hb dX2_advance_473 (by decide) (fun c1 => ?_) (fun c1 => ?_)
        · rw [if_pos c1] at h
          exact ih.2.2.2.2.2.2.2.2.2.2.2.2.2.2.2.2.2.2.2.2.2.2.2.2.1 z _ _ L σ _ h hzk hc hs H locs ls hP hD hS (lv_sub hl [0, 1] rfl)
        · rw [if_neg c1] at h
          refine lv_aload_n hx hb dX2_advance_476 rfl (lv_at hl 0 rfl) ?_
          refine hg_37_0 hx hb hts in_f_X2_advance_X2 hown hK hP (hts _ (List.mem_cons_of_mem _ (List.mem_append_left _ (List.mem_append_left _ (List.mem_of_getElem? (i := 2) rfl))))) dX2_advance_477 ?_
          refine lv_iload hx hb dX2_advance_480 (lv_at hl 2 rfl) ?_
          obtain ⟨q2, h⟩ := kr_ite1 h
          refine hl_38 hx hb hK hP q2 dX2_advance_482 ?_
          refine lv_bipush (v := 48) hx hb dX2_advance_483 (by decide) ?_
          refine lv_icmp_lt (tgt := 514) hx hb dX2_advance_485 (by decide) (fun c3 => ?_) (fun c3 => ?_)
          · rw [if_pos c3] at h
            exact ih.2.2.2.2.2.2.2.2.2.2.2.2.2.2.2.2.2.2.2.2.2.2.2.2.1 z _ _ L σ _ h hzk hc hs H locs ls hP hD hS (lv_sub hl [0, 1] rfl)
          · rw [if_neg c3] at h
            refine lv_aload_n hx hb dX2_advance_488 rfl (lv_at hl 0 rfl) ?_
            refine hg_37_0 hx hb hts in_f_X2_advance_X2 hown hK hP (hts _ (List.mem_cons_of_mem _ (List.mem_append_left _ (List.mem_append_left _ (List.mem_of_getElem? (i := 2) rfl))))) dX2_advance_489 ?_
            refine lv_iload hx hb dX2_advance_492 (lv_at hl 2 rfl) ?_
            obtain ⟨q4, h⟩ := kr_ite1 h
            refine hl_38 hx hb hK hP q4 dX2_advance_494 ?_
            refine lv_bipush (v := 57) hx hb dX2_advance_495 (by decide) ?_
            refine lv_icmp_gt (tgt := 514) hx hb dX2_advance_497 (by decide) (fun c5 => ?_) (fun c5 => ?_)
            · rw [if_pos c5] at h
              exact ih.2.2.2.2.2.2.2.2.2.2.2.2.2.2.2.2.2.2.2.2.2.2.2.2.1 z _ _ L σ _ h hzk hc hs H locs ls hP hD hS (lv_sub hl [0, 1] rfl)
            · rw [if_neg c5] at h
              refine lv_aload_n hx hb dX2_advance_500 rfl (lv_at hl 0 rfl) ?_
              refine lv_iload hx hb dX2_advance_501 (lv_at hl 2 rfl) ?_
              refine lv_iconst (v := 1) hx hb dX2_advance_503 (by decide) ?_
              refine lv_iadd hx hb dX2_advance_504 ?_
              refine hp_37_4 hx hb hts in_f_X2_advance_X2 hown hK hP hD hS (hts _ (List.mem_cons_of_mem _ (List.mem_append_left _ (List.mem_append_left _ (List.mem_of_getElem? (i := 0) rfl))))) dX2_advance_505 (fun H locs hP hD hS => ?_)
              refine lv_iinc (v := ((L.1 5)) + 1) (lv' := [(5, .int (((L.1 5)) + 1)), (0, .ref (a 37)), (1, .int (L.1 1))]) hx hb dX2_advance_508 hl (k := 2) rfl rfl (by decide) rfl (fun ls hl => ?_)
              refine lv_goto (tgt := 467) hx hb dX2_advance_511 (by decide) ?_
              exact ih.2.2.2.2.2.2.2.2.2.2.2.2.2.2.2.2.2.2.2.2.1 z _ _ (lI L 5 ((((L.1 5)) + 1))) (uI σ 3704 ((((L.1 5)) + 1))) _ h hzk hc hs H locs ls hP hD hS (lv_sub hl [1, 2, 0] rfl)
      · intro z cells slots L σ r h hzk hc hs H locs ls hP hD hS hl
        rw [f_X2_advance] at h
        refine lv_iload hx hb dX2_advance_227 (lv_at hl 3 rfl) ?_
        refine lv_aload_n hx hb dX2_advance_229 rfl (lv_at hl 0 rfl) ?_
        refine hg_37_1 hx hb hts in_f_X2_advance_X2 hown hK hP (hts _ (List.mem_cons_of_mem _ (List.mem_append_left _ (List.mem_append_left _ (List.mem_of_getElem? (i := 1) rfl))))) dX2_advance_230 ?_
        refine lv_icmp_ge (tgt := 372) hx hb dX2_advance_233 (by decide) (fun c1 => ?_) (fun c1 => ?_)
        · rw [if_pos c1] at h
          exact ih.2.2.2.2.2.2.2.2.2.2.2.2.2.2.2.2.2.2.2.2.2.2.2.2.2.1 z _ _ L σ _ h hzk hc hs H locs ls hP hD hS (lv_sub hl [0, 1] rfl)
        · rw [if_neg c1] at h
          refine lv_iload hx hb dX2_advance_236 (lv_at hl 2 rfl) ?_
          refine lv_iconst (v := 2) hx hb dX2_advance_238 (by decide) ?_
          refine lv_icmp_eq (tgt := 255) hx hb dX2_advance_239 (by decide) (fun c2 => ?_) (fun c2 => ?_)
          · rw [if_pos c2] at h
            exact ih.2.2.2.2.2.2.2.2.2.2.2.2.2.2.2.2.2.2.2.2.2.2.2.2.2.2.1 z _ _ L σ _ h hzk hc hs H locs ls hP hD hS (lv_sub hl [0, 1, 3] rfl)
          · rw [if_neg c2] at h
            refine lv_iload hx hb dX2_advance_242 (lv_at hl 2 rfl) ?_
            refine lv_iconst (v := 3) hx hb dX2_advance_244 (by decide) ?_
            refine lv_icmp_eq (tgt := 255) hx hb dX2_advance_245 (by decide) (fun c3 => ?_) (fun c3 => ?_)
            · rw [if_pos c3] at h
              exact ih.2.2.2.2.2.2.2.2.2.2.2.2.2.2.2.2.2.2.2.2.2.2.2.2.2.2.1 z _ _ L σ _ h hzk hc hs H locs ls hP hD hS (lv_sub hl [0, 1, 3] rfl)
            · rw [if_neg c3] at h
              refine lv_iload hx hb dX2_advance_248 (lv_at hl 2 rfl) ?_
              refine lv_bipush (v := 30) hx hb dX2_advance_250 (by decide) ?_
              refine lv_icmp_ne (tgt := 372) hx hb dX2_advance_252 (by decide) (fun c4 => ?_) (fun c4 => ?_)
              · rw [if_neg c4] at h
                exact ih.2.2.2.2.2.2.2.2.2.2.2.2.2.2.2.2.2.2.2.2.2.2.2.2.2.1 z _ _ L σ _ h hzk hc hs H locs ls hP hD hS (lv_sub hl [0, 1] rfl)
              · rw [if_pos c4] at h
                exact ih.2.2.2.2.2.2.2.2.2.2.2.2.2.2.2.2.2.2.2.2.2.2.2.2.2.2.1 z _ _ L σ _ h hzk hc hs H locs ls hP hD hS (lv_sub hl [0, 1, 3] rfl)
      · intro z cells slots L σ r h hzk hc hs H locs ls hP hD hS hl
        rw [f_X2_advance] at h
        refine lv_iload hx hb dX2_advance_661 (lv_at hl 1 rfl) ?_
        refine lv_bipush (v := 61) hx hb dX2_advance_663 (by decide) ?_
        refine lv_icmp_ne (tgt := 754) hx hb dX2_advance_665 (by decide) (fun c1 => ?_) (fun c1 => ?_)
        · rw [if_neg c1] at h
          exact ih.2.2.2.2.2.2.2.2.2.2.2.2.2.2.2.2.2.2.2.2.2.2.2.2.2.2.2.1 z _ _ L σ _ h hzk hc hs H locs ls hP hD hS (lv_sub hl [0, 1] rfl)
        · rw [if_pos c1] at h
          refine lv_aload_n hx hb dX2_advance_668 rfl (lv_at hl 0 rfl) ?_
          refine hg_37_2 hx hb hts in_f_X2_advance_X2 hown hK hP (hts _ (List.mem_cons_of_mem _ (List.mem_append_left _ (List.mem_append_left _ (List.mem_of_getElem? (i := 5) rfl))))) dX2_advance_669 ?_
          refine lv_bipush (v := 27) hx hb dX2_advance_672 (by decide) ?_
          refine lv_icmp_eq (tgt := 704) hx hb dX2_advance_674 (by decide) (fun c2 => ?_) (fun c2 => ?_)
          · rw [if_pos c2] at h
            exact ih.2.2.2.2.2.2.2.2.2.2.2.2.2.2.2.2.2.2.2.2.2.2.2.2.2.2.2.2.1 z _ _ L σ _ h hzk hc hs H locs ls hP hD hS (lv_sub hl [0] rfl)
          · rw [if_neg c2] at h
            refine lv_aload_n hx hb dX2_advance_677 rfl (lv_at hl 0 rfl) ?_
            refine hg_37_2 hx hb hts in_f_X2_advance_X2 hown hK hP (hts _ (List.mem_cons_of_mem _ (List.mem_append_left _ (List.mem_append_left _ (List.mem_of_getElem? (i := 5) rfl))))) dX2_advance_678 ?_
            refine lv_bipush (v := 22) hx hb dX2_advance_681 (by decide) ?_
            refine lv_icmp_eq (tgt := 704) hx hb dX2_advance_683 (by decide) (fun c3 => ?_) (fun c3 => ?_)
            · rw [if_pos c3] at h
              exact ih.2.2.2.2.2.2.2.2.2.2.2.2.2.2.2.2.2.2.2.2.2.2.2.2.2.2.2.2.1 z _ _ L σ _ h hzk hc hs H locs ls hP hD hS (lv_sub hl [0] rfl)
            · rw [if_neg c3] at h
              refine lv_aload_n hx hb dX2_advance_686 rfl (lv_at hl 0 rfl) ?_
              refine hg_37_2 hx hb hts in_f_X2_advance_X2 hown hK hP (hts _ (List.mem_cons_of_mem _ (List.mem_append_left _ (List.mem_append_left _ (List.mem_of_getElem? (i := 5) rfl))))) dX2_advance_687 ?_
              refine lv_bipush (v := 24) hx hb dX2_advance_690 (by decide) ?_
              refine lv_icmp_eq (tgt := 704) hx hb dX2_advance_692 (by decide) (fun c4 => ?_) (fun c4 => ?_)
              · rw [if_pos c4] at h
                exact ih.2.2.2.2.2.2.2.2.2.2.2.2.2.2.2.2.2.2.2.2.2.2.2.2.2.2.2.2.1 z _ _ L σ _ h hzk hc hs H locs ls hP hD hS (lv_sub hl [0] rfl)
              · rw [if_neg c4] at h
                refine lv_aload_n hx hb dX2_advance_695 rfl (lv_at hl 0 rfl) ?_
                refine hg_37_2 hx hb hts in_f_X2_advance_X2 hown hK hP (hts _ (List.mem_cons_of_mem _ (List.mem_append_left _ (List.mem_append_left _ (List.mem_of_getElem? (i := 5) rfl))))) dX2_advance_696 ?_
                refine lv_bipush (v := 18) hx hb dX2_advance_699 (by decide) ?_
                refine lv_icmp_ne (tgt := 754) hx hb dX2_advance_701 (by decide) (fun c5 => ?_) (fun c5 => ?_)
                · rw [if_neg c5] at h
                  exact ih.2.2.2.2.2.2.2.2.2.2.2.2.2.2.2.2.2.2.2.2.2.2.2.2.2.2.2.1 z _ _ L σ _ h hzk hc hs H locs ls hP hD hS (lv_sub hl [0, 1] rfl)
                · rw [if_pos c5] at h
                  exact ih.2.2.2.2.2.2.2.2.2.2.2.2.2.2.2.2.2.2.2.2.2.2.2.2.2.2.2.2.1 z _ _ L σ _ h hzk hc hs H locs ls hP hD hS (lv_sub hl [0] rfl)
      · intro z cells slots L σ r h hzk hc hs H locs ls hP hD hS hl
        rw [f_X2_advance] at h
        refine lv_iload hx hb dX2_advance_550 (lv_at hl 2 rfl) ?_
        refine lv_aload_n hx hb dX2_advance_552 rfl (lv_at hl 0 rfl) ?_
        refine hg_37_1 hx hb hts in_f_X2_advance_X2 hown hK hP (hts _ (List.mem_cons_of_mem _ (List.mem_append_left _ (List.mem_append_left _ (List.mem_of_getElem? (i := 1) rfl))))) dX2_advance_553 ?_
        refine lv_icmp_ge (tgt := 601) hx hb dX2_advance_556 (by decide) (fun c1 => ?_) (fun c1 => ?_)
        · rw [if_pos c1] at h
          exact ih.2.2.2.2.2.2.2.2.2.2.2.2.2.2.2.2.2.2.2.2.2.2.2.2.2.2.2.2.2.1 z _ _ L σ _ h hzk hc hs H locs ls hP hD hS (lv_sub hl [0, 1] rfl)
        · rw [if_neg c1] at h
          refine lv_aload_n hx hb dX2_advance_559 rfl (lv_at hl 0 rfl) ?_
          refine hg_37_0 hx hb hts in_f_X2_advance_X2 hown hK hP (hts _ (List.mem_cons_of_mem _ (List.mem_append_left _ (List.mem_append_left _ (List.mem_of_getElem? (i := 2) rfl))))) dX2_advance_560 ?_
          refine lv_iload hx hb dX2_advance_563 (lv_at hl 2 rfl) ?_
          obtain ⟨q2, h⟩ := kr_ite1 h
          refine hl_38 hx hb hK hP q2 dX2_advance_565 ?_
          refine lv_sipush (v := 255) hx hb dX2_advance_566 (by decide) ?_
          refine lv_iand hx hb dX2_advance_569 ?_
          refine lv_bipush (v := 32) hx hb dX2_advance_570 (by decide) ?_
          refine lv_icmp_lt (tgt := 601) hx hb dX2_advance_572 (by decide) (fun c3 => ?_) (fun c3 => ?_)
          · rw [if_pos c3] at h
            exact ih.2.2.2.2.2.2.2.2.2.2.2.2.2.2.2.2.2.2.2.2.2.2.2.2.2.2.2.2.2.1 z _ _ L σ _ h hzk hc hs H locs ls hP hD hS (lv_sub hl [0, 1] rfl)
          · rw [if_neg c3] at h
            refine lv_aload_n hx hb dX2_advance_575 rfl (lv_at hl 0 rfl) ?_
            refine hg_37_0 hx hb hts in_f_X2_advance_X2 hown hK hP (hts _ (List.mem_cons_of_mem _ (List.mem_append_left _ (List.mem_append_left _ (List.mem_of_getElem? (i := 2) rfl))))) dX2_advance_576 ?_
            refine lv_iload hx hb dX2_advance_579 (lv_at hl 2 rfl) ?_
            obtain ⟨q4, h⟩ := kr_ite1 h
            refine hl_38 hx hb hK hP q4 dX2_advance_581 ?_
            refine lv_bipush (v := 34) hx hb dX2_advance_582 (by decide) ?_
            refine lv_icmp_eq (tgt := 601) hx hb dX2_advance_584 (by decide) (fun c5 => ?_) (fun c5 => ?_)
            · rw [if_pos c5] at h
              exact ih.2.2.2.2.2.2.2.2.2.2.2.2.2.2.2.2.2.2.2.2.2.2.2.2.2.2.2.2.2.1 z _ _ L σ _ h hzk hc hs H locs ls hP hD hS (lv_sub hl [0, 1] rfl)
            · rw [if_neg c5] at h
              refine lv_aload_n hx hb dX2_advance_587 rfl (lv_at hl 0 rfl) ?_
              refine lv_iload hx hb dX2_advance_588 (lv_at hl 2 rfl) ?_
              refine lv_iconst (v := 1) hx hb dX2_advance_590 (by decide) ?_
              refine lv_iadd hx hb dX2_advance_591 ?_
              refine hp_37_4 hx hb hts in_f_X2_advance_X2 hown hK hP hD hS (hts _ (List.mem_cons_of_mem _ (List.mem_append_left _ (List.mem_append_left _ (List.mem_of_getElem? (i := 0) rfl))))) dX2_advance_592 (fun H locs hP hD hS => ?_)
              refine lv_iinc (v := ((L.1 5)) + 1) (lv' := [(5, .int (((L.1 5)) + 1)), (0, .ref (a 37)), (1, .int (L.1 1))]) hx hb dX2_advance_595 hl (k := 2) rfl rfl (by decide) rfl (fun ls hl => ?_)
              refine lv_goto (tgt := 550) hx hb dX2_advance_598 (by decide) ?_
              exact ih.2.2.2.2.2.2.2.2.2.2.2.2.2.2.2.2.2.2.2.2.2.2.2.1 z _ _ (lI L 5 ((((L.1 5)) + 1))) (uI σ 3704 ((((L.1 5)) + 1))) _ h hzk hc hs H locs ls hP hD hS (lv_sub hl [1, 2, 0] rfl)
      · intro z cells slots L σ r h hzk hc hs H locs ls hP hD hS hl
        rw [f_X2_advance] at h
        refine lv_aload_n hx hb dX2_advance_514 rfl (lv_at hl 0 rfl) ?_
        refine lv_aload_n hx hb dX2_advance_515 rfl (lv_at hl 0 rfl) ?_
        refine hg_37_4 hx hb hts in_f_X2_advance_X2 hown hK hP (hts _ (List.mem_cons_of_mem _ (List.mem_append_left _ (List.mem_append_left _ (List.mem_of_getElem? (i := 0) rfl))))) dX2_advance_516 ?_
        refine lv_iload_n hx hb dX2_advance_519 rfl (lv_at hl 1 rfl) ?_
        refine lv_isub hx hb dX2_advance_520 ?_
        refine lv_bipush (v := 60) hx hb dX2_advance_521 (by decide) ?_
        refine lv_icmp_le (tgt := 530) hx hb dX2_advance_523 (by decide) (fun c1 => ?_) (fun c1 => ?_)
        · rw [if_pos c1] at h
          exact ih.2.2.2.2.2.2.2.2.2.2.2.2.2.2.2.2.2.2.2.2.2.2.2.2.2.2.2.2.2.2.1 z _ _ L σ _ h hzk hc hs H locs ls hP hD hS (lv_sub hl [0] rfl)
        · rw [if_neg c1] at h
          refine lv_iconst (v := 0) hx hb dX2_advance_526 (by decide) ?_
          refine lv_goto (tgt := 531) hx hb dX2_advance_527 (by decide) ?_
          exact ih.2.2.2.2.2.2.2.2.2.2.2.2.2.2.2.2.2.2.2.2.2.2.2.2.2.2.2.2.2.2.2.1 z _ _ (lI L 100 0) σ _ h hzk hc hs H locs ls hP hD hS (lv_sub hl [0] rfl)
      · intro z cells slots L σ r h hzk hc hs H locs ls hP hD hS hl
        rw [f_X2_advance] at h
        refine lv_aload_n hx hb dX2_advance_372 rfl (lv_at hl 0 rfl) ?_
        refine lv_aload_n hx hb dX2_advance_373 rfl (lv_at hl 0 rfl) ?_
        refine hg_37_4 hx hb hts in_f_X2_advance_X2 hown hK hP (hts _ (List.mem_cons_of_mem _ (List.mem_append_left _ (List.mem_append_left _ (List.mem_of_getElem? (i := 0) rfl))))) dX2_advance_374 ?_
        refine lv_iload_n hx hb dX2_advance_377 rfl (lv_at hl 1 rfl) ?_
        refine lv_isub hx hb dX2_advance_378 ?_
        refine lv_bipush (v := 16) hx hb dX2_advance_379 (by decide) ?_
        refine lv_icmp_le (tgt := 388) hx hb dX2_advance_381 (by decide) (fun c1 => ?_) (fun c1 => ?_)
        · rw [if_pos c1] at h
          exact ih.2.2.2.2.2.2.2.2.2.2.2.2.2.2.2.2.2.2.2.2.2.2.2.2.2.2.2.2.2.2.2.2.1 z _ _ L σ _ h hzk hc hs H locs ls hP hD hS (lv_sub hl [0, 1] rfl)
        · rw [if_neg c1] at h
          refine lv_iconst (v := 0) hx hb dX2_advance_384 (by decide) ?_
          refine lv_goto (tgt := 389) hx hb dX2_advance_385 (by decide) ?_
          exact ih.2.2.2.2.2.2.2.2.2.2.2.2.2.2.2.2.2.2.2.2.2.2.2.2.2.2.2.2.2.2.2.2.2.1 z _ _ (lI L 100 0) σ _ h hzk hc hs H locs ls hP hD hS (lv_sub hl [0, 1] rfl)
      · intro z cells slots L σ r h hzk hc hs H locs ls hP hD hS hl
        rw [f_X2_advance] at h
        refine lv_aload_n hx hb dX2_advance_255 rfl (lv_at hl 0 rfl) ?_
        refine lv_iload hx hb dX2_advance_256 (lv_at hl 2 rfl) ?_
        refine lv_iload_n hx hb dX2_advance_258 rfl (lv_at hl 1 rfl) ?_
        refine lv_isub hx hb dX2_advance_259 ?_
        refine lv_bipush (v := 8) hx hb dX2_advance_260 (by decide) ?_
        refine lv_icmp_ge (tgt := 284) hx hb dX2_advance_262 (by decide) (fun c1 => ?_) (fun c1 => ?_)
        · rw [if_pos c1] at h
          exact ih.2.2.2.2.2.2.2.2.2.2.2.2.2.2.2.2.2.2.2.2.2.2.2.2.2.2.2.2.2.2.2.2.2.2.1 z _ _ L σ _ h hzk hc hs H locs ls hP hD hS (lv_sub hl [0, 1, 2] rfl)
        · rw [if_neg c1] at h
          refine lv_aload_n hx hb dX2_advance_265 rfl (lv_at hl 0 rfl) ?_
          refine hg_37_5 hx hb hts in_f_X2_advance_X2 hown hK hP (hts _ (List.mem_cons_of_mem _ (List.mem_append_left _ (List.mem_append_left _ (List.mem_of_getElem? (i := 6) rfl))))) dX2_advance_266 ?_
          refine lv_bipush (v := 8) hx hb dX2_advance_269 (by decide) ?_
          refine lv_lshl (v := ((σ.2.1 3705)) <<< ((8 : Int32).toInt64 &&& 63)) hx hb dX2_advance_271 rfl ?_
          refine lv_aload_n hx hb dX2_advance_272 rfl (lv_at hl 0 rfl) ?_
          refine hg_37_0 hx hb hts in_f_X2_advance_X2 hown hK hP (hts _ (List.mem_cons_of_mem _ (List.mem_append_left _ (List.mem_append_left _ (List.mem_of_getElem? (i := 2) rfl))))) dX2_advance_273 ?_
          refine lv_iload hx hb dX2_advance_276 (lv_at hl 2 rfl) ?_
          obtain ⟨q2, h⟩ := kr_ite1 h
          refine hl_38 hx hb hK hP q2 dX2_advance_278 ?_
          refine lv_i2l (v := ((σ.2.2.1 38 ((L.1 6)).toNatClampNeg)).toInt64) hx hb dX2_advance_279 rfl ?_
          refine lv_lor hx hb dX2_advance_280 ?_
          refine lv_goto (tgt := 288) hx hb dX2_advance_281 (by decide) ?_
          exact ih.2.2.2.2.2.2.2.2.2.2.2.2.2.2.2.2.2.2.2.2.2.2.2.2.2.2.2.2.2.2.2.2.2.2.2.1 z _ _ (lJ L 100 ((((((σ.2.1 3705)) <<< ((8 : Int32).toInt64 &&& 63))) ||| ((((σ.2.2.1 38 ((L.1 6)).toNatClampNeg)).toInt64))))) σ _ h hzk hc hs H locs ls hP hD hS (lv_sub hl [0, 1, 2] rfl)
      · intro z cells slots L σ r h hzk hc hs H locs ls hP hD hS hl
        rw [f_X2_advance] at h
        refine lv_aload_n hx hb dX2_advance_754 rfl (lv_at hl 0 rfl) ?_
        refine hg_37_2 hx hb hts in_f_X2_advance_X2 hown hK hP (hts _ (List.mem_cons_of_mem _ (List.mem_append_left _ (List.mem_append_left _ (List.mem_of_getElem? (i := 5) rfl))))) dX2_advance_755 ?_
        refine lv_bipush (v := 8) hx hb dX2_advance_758 (by decide) ?_
        refine lv_icmp_ne (tgt := 770) hx hb dX2_advance_760 (by decide) (fun c1 => ?_) (fun c1 => ?_)
        · rw [if_neg c1] at h
          exact ih.2.2.2.2.2.2.2.2.2.2.2.2.2.2.2.2.2.2.2.2.2.2.2.2.2.2.2.2.2.2.2.2.2.2.2.2.1 z _ _ L σ _ h hzk hc hs H locs ls hP hD hS (lv_sub hl [0, 1] rfl)
        · rw [if_pos c1] at h
          refine lv_iload hx hb dX2_advance_763 (lv_at hl 1 rfl) ?_
          refine lv_bipush (v := 42) hx hb dX2_advance_765 (by decide) ?_
          refine lv_icmp_eq (tgt := 786) hx hb dX2_advance_767 (by decide) (fun c2 => ?_) (fun c2 => ?_)
          · rw [if_pos c2] at h
            exact ih.2.2.2.2.2.2.2.2.2.2.2.2.2.2.2.2.2.2.2.2.2.2.2.2.2.2.2.2.2.2.2.2.2.2.2.2.2.1 z _ _ L σ _ h hzk hc hs H locs ls hP hD hS (lv_sub hl [0] rfl)
          · rw [if_neg c2] at h
            exact ih.2.2.2.2.2.2.2.2.2.2.2.2.2.2.2.2.2.2.2.2.2.2.2.2.2.2.2.2.2.2.2.2.2.2.2.2.1 z _ _ L σ _ h hzk hc hs H locs ls hP hD hS (lv_sub hl [0, 1] rfl)
      · intro z cells slots L σ r h hzk hc hs H locs ls hP hD hS hl
        rw [f_X2_advance] at h
        refine lv_aload_n hx hb dX2_advance_704 rfl (lv_at hl 0 rfl) ?_
        refine lv_aload_n hx hb dX2_advance_705 rfl (lv_at hl 0 rfl) ?_
        refine hg_37_2 hx hb hts in_f_X2_advance_X2 hown hK hP (hts _ (List.mem_cons_of_mem _ (List.mem_append_left _ (List.mem_append_left _ (List.mem_of_getElem? (i := 5) rfl))))) dX2_advance_706 ?_
        refine lv_bipush (v := 18) hx hb dX2_advance_709 (by decide) ?_
        refine lv_icmp_ne (tgt := 718) hx hb dX2_advance_711 (by decide) (fun c1 => ?_) (fun c1 => ?_)
        · rw [if_neg c1] at h
          exact ih.2.2.2.2.2.2.2.2.2.2.2.2.2.2.2.2.2.2.2.2.2.2.2.2.2.2.2.2.2.2.2.2.2.2.2.2.2.2.1 z _ _ L σ _ h hzk hc hs H locs ls hP hD hS (lv_sub hl [0] rfl)
        · rw [if_pos c1] at h
          refine lv_iconst (v := 5) hx hb dX2_advance_714 (by decide) ?_
          refine lv_goto (tgt := 738) hx hb dX2_advance_715 (by decide) ?_
          exact ih.2.2.2.2.2.2.2.2.2.2.2.2.2.2.2.2.2.2.2.2.2.2.2.2.2.2.2.2.2.2.2.2.2.2.2.2.2.2.2.1 z _ _ (lI L 100 5) σ _ h hzk hc hs H locs ls hP hD hS (lv_sub hl [0] rfl)
      · intro z cells slots L σ r h hzk hc hs H locs ls hP hD hS hl
        rw [f_X2_advance] at h
        refine lv_aload_n hx hb dX2_advance_601 rfl (lv_at hl 0 rfl) ?_
        refine lv_aload_n hx hb dX2_advance_602 rfl (lv_at hl 0 rfl) ?_
        refine hg_37_4 hx hb hts in_f_X2_advance_X2 hown hK hP (hts _ (List.mem_cons_of_mem _ (List.mem_append_left _ (List.mem_append_left _ (List.mem_of_getElem? (i := 0) rfl))))) dX2_advance_603 ?_
        refine lv_aload_n hx hb dX2_advance_606 rfl (lv_at hl 0 rfl) ?_
        refine hg_37_1 hx hb hts in_f_X2_advance_X2 hown hK hP (hts _ (List.mem_cons_of_mem _ (List.mem_append_left _ (List.mem_append_left _ (List.mem_of_getElem? (i := 1) rfl))))) dX2_advance_607 ?_
        refine lv_icmp_ge (tgt := 644) hx hb dX2_advance_610 (by decide) (fun c1 => ?_) (fun c1 => ?_)
        · rw [if_pos c1] at h
          exact ih.2.2.2.2.2.2.2.2.2.2.2.2.2.2.2.2.2.2.2.2.2.2.2.2.2.2.2.2.2.2.2.2.2.2.2.2.2.2.2.2.1 z _ _ L σ _ h hzk hc hs H locs ls hP hD hS (lv_sub hl [0] rfl)
        · rw [if_neg c1] at h
          refine lv_aload_n hx hb dX2_advance_613 rfl (lv_at hl 0 rfl) ?_
          refine hg_37_0 hx hb hts in_f_X2_advance_X2 hown hK hP (hts _ (List.mem_cons_of_mem _ (List.mem_append_left _ (List.mem_append_left _ (List.mem_of_getElem? (i := 2) rfl))))) dX2_advance_614 ?_
          refine lv_aload_n hx hb dX2_advance_617 rfl (lv_at hl 0 rfl) ?_
          refine hg_37_4 hx hb hts in_f_X2_advance_X2 hown hK hP (hts _ (List.mem_cons_of_mem _ (List.mem_append_left _ (List.mem_append_left _ (List.mem_of_getElem? (i := 0) rfl))))) dX2_advance_618 ?_
          obtain ⟨q2, h⟩ := kr_ite1 h
          refine hl_38 hx hb hK hP q2 dX2_advance_621 ?_
          refine lv_bipush (v := 34) hx hb dX2_advance_622 (by decide) ?_
          refine lv_icmp_ne (tgt := 644) hx hb dX2_advance_624 (by decide) (fun c3 => ?_) (fun c3 => ?_)
          · rw [if_neg c3] at h
            exact ih.2.2.2.2.2.2.2.2.2.2.2.2.2.2.2.2.2.2.2.2.2.2.2.2.2.2.2.2.2.2.2.2.2.2.2.2.2.2.2.2.1 z _ _ L σ _ h hzk hc hs H locs ls hP hD hS (lv_sub hl [0] rfl)
          · rw [if_pos c3] at h
            refine lv_aload_n hx hb dX2_advance_627 rfl (lv_at hl 0 rfl) ?_
            refine hg_37_4 hx hb hts in_f_X2_advance_X2 hown hK hP (hts _ (List.mem_cons_of_mem _ (List.mem_append_left _ (List.mem_append_left _ (List.mem_of_getElem? (i := 0) rfl))))) dX2_advance_628 ?_
            refine lv_iload_n hx hb dX2_advance_631 rfl (lv_at hl 1 rfl) ?_
            refine lv_isub hx hb dX2_advance_632 ?_
            refine lv_iconst (v := 1) hx hb dX2_advance_633 (by decide) ?_
            refine lv_isub hx hb dX2_advance_634 ?_
            refine lv_bipush (v := 100) hx hb dX2_advance_635 (by decide) ?_
            refine lv_icmp_gt (tgt := 644) hx hb dX2_advance_637 (by decide) (fun c4 => ?_) (fun c4 => ?_)
            · rw [if_pos c4] at h
              exact ih.2.2.2.2.2.2.2.2.2.2.2.2.2.2.2.2.2.2.2.2.2.2.2.2.2.2.2.2.2.2.2.2.2.2.2.2.2.2.2.2.1 z _ _ L σ _ h hzk hc hs H locs ls hP hD hS (lv_sub hl [0] rfl)
            · rw [if_neg c4] at h
              refine lv_iconst (v := 4) hx hb dX2_advance_640 (by decide) ?_
              refine lv_goto (tgt := 645) hx hb dX2_advance_641 (by decide) ?_
              exact ih.2.2.2.2.2.2.2.2.2.2.2.2.2.2.2.2.2.2.2.2.2.2.2.2.2.2.2.2.2.2.2.2.2.2.2.2.2.2.2.2.2.1 z _ _ (lI L 100 4) σ _ h hzk hc hs H locs ls hP hD hS (lv_sub hl [0] rfl)
      · intro z cells slots L σ r h hzk hc hs H locs ls hP hD hS hl
        rw [f_X2_advance] at h
        refine lv_iconst (v := 3) hx hb dX2_advance_530 (by decide) ?_
        exact ih.2.2.2.2.2.2.2.2.2.2.2.2.2.2.2.2.2.2.2.2.2.2.2.2.2.2.2.2.2.2.2.1 z _ _ (lI L 100 3) σ _ h hzk hc hs H locs ls hP hD hS (lv_sub hl [0] rfl)
      · intro z cells slots L σ r h hzk hc hs H locs ls hP hD hS hl
        rw [f_X2_advance] at h
        refine hp_37_2 hx hb hts in_f_X2_advance_X2 hown hK hP hD hS (hts _ (List.mem_cons_of_mem _ (List.mem_append_left _ (List.mem_append_left _ (List.mem_of_getElem? (i := 5) rfl))))) dX2_advance_531 (fun H locs hP hD hS => ?_)
        refine lv_goto (tgt := 816) hx hb dX2_advance_534 (by decide) ?_
        exact ih.2.2.2.2.2.2.2.2.2.2.2.2.2.2.2.2.2.2.2.2.2.2.2.2.2.2.2.2.2.2.2.2.2.2.2.2.2.2.2.2.2.2.1 z _ _ L (uI σ 3702 ((L.1 100))) _ h hzk hc hs H locs ls hP hD hS (lv_sub hl [0] rfl)
      · intro z cells slots L σ r h hzk hc hs H locs ls hP hD hS hl
        rw [f_X2_advance] at h
        refine lv_iconst (v := 2) hx hb dX2_advance_388 (by decide) ?_
        exact ih.2.2.2.2.2.2.2.2.2.2.2.2.2.2.2.2.2.2.2.2.2.2.2.2.2.2.2.2.2.2.2.2.2.1 z _ _ (lI L 100 2) σ _ h hzk hc hs H locs ls hP hD hS (lv_sub hl [0, 1] rfl)
      · intro z cells slots L σ r h hzk hc hs H locs ls hP hD hS hl
        rw [f_X2_advance] at h
        refine hp_37_2 hx hb hts in_f_X2_advance_X2 hown hK hP hD hS (hts _ (List.mem_cons_of_mem _ (List.mem_append_left _ (List.mem_append_left _ (List.mem_of_getElem? (i := 5) rfl))))) dX2_advance_389 (fun H locs hP hD hS => ?_)
        refine lv_iconst (v := 0) hx hb dX2_advance_392 (by decide) ?_
        refine lv_istore (lv' := [(6, .int 0), (0, .ref (a 37)), (1, .int (L.1 1))]) hx hb dX2_advance_393 hl (by decide) rfl (fun ls hl => ?_)
        exact ih.2.2.2.2.2.2.2.2.2.2.2.2.2.2.2.2.2.2.2.2.2.2.2.2.2.2.2.2.2.2.2.2.2.2.2.2.2.2.2.2.2.2.2.1 z _ _ (lI L 6 0) (uI σ 3702 ((L.1 100))) _ h hzk hc hs H locs ls hP hD hS (lv_sub hl [1, 2, 0] rfl)
      · intro z cells slots L σ r h hzk hc hs H locs ls hP hD hS hl
        rw [f_X2_advance] at h
        refine lv_aload_n hx hb dX2_advance_284 rfl (lv_at hl 0 rfl) ?_
        refine hg_37_5 hx hb hts in_f_X2_advance_X2 hown hK hP (hts _ (List.mem_cons_of_mem _ (List.mem_append_left _ (List.mem_append_left _ (List.mem_of_getElem? (i := 6) rfl))))) dX2_advance_285 ?_
        exact ih.2.2.2.2.2.2.2.2.2.2.2.2.2.2.2.2.2.2.2.2.2.2.2.2.2.2.2.2.2.2.2.2.2.2.2.1 z _ _ (lJ L 100 ((σ.2.1 3705))) σ _ h hzk hc hs H locs ls hP hD hS (lv_sub hl [0, 1, 2] rfl)
      · intro z cells slots L σ r h hzk hc hs H locs ls hP hD hS hl
        rw [f_X2_advance] at h
        refine hp_37_5 hx hb hts in_f_X2_advance_X2 hown hK hP hD hS (hts _ (List.mem_cons_of_mem _ (List.mem_append_left _ (List.mem_append_left _ (List.mem_of_getElem? (i := 6) rfl))))) dX2_advance_288 (fun H locs hP hD hS => ?_)
        refine lv_aload_n hx hb dX2_advance_291 rfl (lv_at hl 0 rfl) ?_
        refine lv_iload hx hb dX2_advance_292 (lv_at hl 2 rfl) ?_
        refine lv_iload_n hx hb dX2_advance_294 rfl (lv_at hl 1 rfl) ?_
        refine lv_isub hx hb dX2_advance_295 ?_
        refine lv_bipush (v := 8) hx hb dX2_advance_296 (by decide) ?_
        refine lv_icmp_ge (tgt := 308) hx hb dX2_advance_298 (by decide) (fun c1 => ?_) (fun c1 => ?_)
        · rw [if_pos c1] at h
          exact ih.2.2.2.2.2.2.2.2.2.2.2.2.2.2.2.2.2.2.2.2.2.2.2.2.2.2.2.2.2.2.2.2.2.2.2.2.2.2.2.2.2.2.2.2.1 z _ _ L (uL σ 3705 ((L.2.1 100))) _ h hzk hc hs H locs ls hP hD hS (lv_sub hl [0, 1, 2] rfl)
        · rw [if_neg c1] at h
          refine lv_aload_n hx hb dX2_advance_301 rfl (lv_at hl 0 rfl) ?_
          refine hg_37_6 hx hb hts in_f_X2_advance_X2 hown hK hP (hts _ (List.mem_cons_of_mem _ (List.mem_append_left _ (List.mem_append_left _ (List.mem_of_getElem? (i := 7) rfl))))) dX2_advance_302 ?_
          refine lv_goto (tgt := 324) hx hb dX2_advance_305 (by decide) ?_
          exact ih.2.2.2.2.2.2.2.2.2.2.2.2.2.2.2.2.2.2.2.2.2.2.2.2.2.2.2.2.2.2.2.2.2.2.2.2.2.2.2.2.2.2.2.2.2.1 z _ _ (lJ L 100 (((uL σ 3705 ((L.2.1 100))).2.1 3706))) (uL σ 3705 ((L.2.1 100))) _ h hzk hc hs H locs ls hP hD hS (lv_sub hl [0, 1, 2] rfl)
      · intro z cells slots L σ r h hzk hc hs H locs ls hP hD hS hl
        rw [f_X2_advance] at h
        refine lv_aload_n hx hb dX2_advance_770 rfl (lv_at hl 0 rfl) ?_
        refine hg_37_2 hx hb hts in_f_X2_advance_X2 hown hK hP (hts _ (List.mem_cons_of_mem _ (List.mem_append_left _ (List.mem_append_left _ (List.mem_of_getElem? (i := 5) rfl))))) dX2_advance_771 ?_
        refine lv_bipush (v := 29) hx hb dX2_advance_774 (by decide) ?_
        refine lv_icmp_ne (tgt := 816) hx hb dX2_advance_776 (by decide) (fun c1 => ?_) (fun c1 => ?_)
        · rw [if_neg c1] at h
          exact ih.2.2.2.2.2.2.2.2.2.2.2.2.2.2.2.2.2.2.2.2.2.2.2.2.2.2.2.2.2.2.2.2.2.2.2.2.2.2.2.2.2.2.1 z _ _ L σ _ h hzk hc hs H locs ls hP hD hS (lv_sub hl [0] rfl)
        · rw [if_pos c1] at h
          refine lv_iload hx hb dX2_advance_779 (lv_at hl 1 rfl) ?_
          refine lv_bipush (v := 46) hx hb dX2_advance_781 (by decide) ?_
          refine lv_icmp_ne (tgt := 816) hx hb dX2_advance_783 (by decide) (fun c2 => ?_) (fun c2 => ?_)
          · rw [if_neg c2] at h
            exact ih.2.2.2.2.2.2.2.2.2.2.2.2.2.2.2.2.2.2.2.2.2.2.2.2.2.2.2.2.2.2.2.2.2.2.2.2.2.2.2.2.2.2.1 z _ _ L σ _ h hzk hc hs H locs ls hP hD hS (lv_sub hl [0] rfl)
          · rw [if_pos c2] at h
            exact ih.2.2.2.2.2.2.2.2.2.2.2.2.2.2.2.2.2.2.2.2.2.2.2.2.2.2.2.2.2.2.2.2.2.2.2.2.2.1 z _ _ L σ _ h hzk hc hs H locs ls hP hD hS (lv_sub hl [0] rfl)
      · intro z cells slots L σ r h hzk hc hs H locs ls hP hD hS hl
        rw [f_X2_advance] at h
        refine lv_aload_n hx hb dX2_advance_786 rfl (lv_at hl 0 rfl) ?_
        refine lv_aload_n hx hb dX2_advance_787 rfl (lv_at hl 0 rfl) ?_
        refine hg_37_2 hx hb hts in_f_X2_advance_X2 hown hK hP (hts _ (List.mem_cons_of_mem _ (List.mem_append_left _ (List.mem_append_left _ (List.mem_of_getElem? (i := 5) rfl))))) dX2_advance_788 ?_
        refine lv_bipush (v := 8) hx hb dX2_advance_791 (by decide) ?_
        refine lv_icmp_ne (tgt := 801) hx hb dX2_advance_793 (by decide) (fun c1 => ?_) (fun c1 => ?_)
        · rw [if_neg c1] at h
          exact ih.2.2.2.2.2.2.2.2.2.2.2.2.2.2.2.2.2.2.2.2.2.2.2.2.2.2.2.2.2.2.2.2.2.2.2.2.2.2.2.2.2.2.2.2.2.2.1 z _ _ L σ _ h hzk hc hs H locs ls hP hD hS (lv_sub hl [0] rfl)
        · rw [if_pos c1] at h
          refine lv_bipush (v := 9) hx hb dX2_advance_796 (by decide) ?_
          refine lv_goto (tgt := 803) hx hb dX2_advance_798 (by decide) ?_
          exact ih.2.2.2.2.2.2.2.2.2.2.2.2.2.2.2.2.2.2.2.2.2.2.2.2.2.2.2.2.2.2.2.2.2.2.2.2.2.2.2.2.2.2.2.2.2.2.2.1 z _ _ (lI L 100 9) σ _ h hzk hc hs H locs ls hP hD hS (lv_sub hl [0] rfl)
      · intro z cells slots L σ r h hzk hc hs H locs ls hP hD hS hl
        rw [f_X2_advance] at h
        refine lv_aload_n hx hb dX2_advance_718 rfl (lv_at hl 0 rfl) ?_
        refine hg_37_2 hx hb hts in_f_X2_advance_X2 hown hK hP (hts _ (List.mem_cons_of_mem _ (List.mem_append_left _ (List.mem_append_left _ (List.mem_of_getElem? (i := 5) rfl))))) dX2_advance_719 ?_
        refine lv_bipush (v := 27) hx hb dX2_advance_722 (by decide) ?_
        refine lv_icmp_ne (tgt := 732) hx hb dX2_advance_724 (by decide) (fun c1 => ?_) (fun c1 => ?_)
        · rw [if_neg c1] at h
          exact ih.2.2.2.2.2.2.2.2.2.2.2.2.2.2.2.2.2.2.2.2.2.2.2.2.2.2.2.2.2.2.2.2.2.2.2.2.2.2.2.2.2.2.2.2.2.2.2.2.1 z _ _ L σ _ h hzk hc hs H locs ls hP hD hS (lv_sub hl [0] rfl)
        · rw [if_pos c1] at h
          refine lv_bipush (v := 21) hx hb dX2_advance_727 (by decide) ?_
          refine lv_goto (tgt := 738) hx hb dX2_advance_729 (by decide) ?_
          exact ih.2.2.2.2.2.2.2.2.2.2.2.2.2.2.2.2.2.2.2.2.2.2.2.2.2.2.2.2.2.2.2.2.2.2.2.2.2.2.2.1 z _ _ (lI L 100 21) σ _ h hzk hc hs H locs ls hP hD hS (lv_sub hl [0] rfl)
      · intro z cells slots L σ r h hzk hc hs H locs ls hP hD hS hl
        rw [f_X2_advance] at h
        refine hp_37_2 hx hb hts in_f_X2_advance_X2 hown hK hP hD hS (hts _ (List.mem_cons_of_mem _ (List.mem_append_left _ (List.mem_append_left _ (List.mem_of_getElem? (i := 5) rfl))))) dX2_advance_738 (fun H locs hP hD hS => ?_)
        refine lv_aload_n hx hb dX2_advance_741 rfl (lv_at hl 0 rfl) ?_
        refine lv_dup hx hb dX2_advance_742 rfl ?_
        refine hg_37_4 hx hb hts in_f_X2_advance_X2 hown hK hP (hts _ (List.mem_cons_of_mem _ (List.mem_append_left _ (List.mem_append_left _ (List.mem_of_getElem? (i := 0) rfl))))) dX2_advance_743 ?_
        refine lv_iconst (v := 1) hx hb dX2_advance_746 (by decide) ?_
        refine lv_iadd hx hb dX2_advance_747 ?_
        refine hp_37_4 hx hb hts in_f_X2_advance_X2 hown hK hP hD hS (hts _ (List.mem_cons_of_mem _ (List.mem_append_left _ (List.mem_append_left _ (List.mem_of_getElem? (i := 0) rfl))))) dX2_advance_748 (fun H locs hP hD hS => ?_)
        refine lv_goto (tgt := 816) hx hb dX2_advance_751 (by decide) ?_
        exact ih.2.2.2.2.2.2.2.2.2.2.2.2.2.2.2.2.2.2.2.2.2.2.2.2.2.2.2.2.2.2.2.2.2.2.2.2.2.2.2.2.2.2.1 z _ _ L (uI (uI σ 3702 ((L.1 100))) 3704 (((((uI σ 3702 ((L.1 100))).1 3704)) + 1))) _ h hzk hc hs H locs ls hP hD hS (lv_sub hl [0] rfl)
      · intro z cells slots L σ r h hzk hc hs H locs ls hP hD hS hl
        rw [f_X2_advance] at h
        refine lv_iconst (v := 0) hx hb dX2_advance_644 (by decide) ?_
        exact ih.2.2.2.2.2.2.2.2.2.2.2.2.2.2.2.2.2.2.2.2.2.2.2.2.2.2.2.2.2.2.2.2.2.2.2.2.2.2.2.2.2.1 z _ _ (lI L 100 0) σ _ h hzk hc hs H locs ls hP hD hS (lv_sub hl [0] rfl)
      · intro z cells slots L σ r h hzk hc hs H locs ls hP hD hS hl
        rw [f_X2_advance] at h
        refine hp_37_2 hx hb hts in_f_X2_advance_X2 hown hK hP hD hS (hts _ (List.mem_cons_of_mem _ (List.mem_append_left _ (List.mem_append_left _ (List.mem_of_getElem? (i := 5) rfl))))) dX2_advance_645 (fun H locs hP hD hS => ?_)
        refine lv_aload_n hx hb dX2_advance_648 rfl (lv_at hl 0 rfl) ?_
        refine lv_dup hx hb dX2_advance_649 rfl ?_
        refine hg_37_4 hx hb hts in_f_X2_advance_X2 hown hK hP (hts _ (List.mem_cons_of_mem _ (List.mem_append_left _ (List.mem_append_left _ (List.mem_of_getElem? (i := 0) rfl))))) dX2_advance_650 ?_
        refine lv_iconst (v := 1) hx hb dX2_advance_653 (by decide) ?_
        refine lv_iadd hx hb dX2_advance_654 ?_
        refine hp_37_4 hx hb hts in_f_X2_advance_X2 hown hK hP hD hS (hts _ (List.mem_cons_of_mem _ (List.mem_append_left _ (List.mem_append_left _ (List.mem_of_getElem? (i := 0) rfl))))) dX2_advance_655 (fun H locs hP hD hS => ?_)
        refine lv_goto (tgt := 816) hx hb dX2_advance_658 (by decide) ?_
        exact ih.2.2.2.2.2.2.2.2.2.2.2.2.2.2.2.2.2.2.2.2.2.2.2.2.2.2.2.2.2.2.2.2.2.2.2.2.2.2.2.2.2.2.1 z _ _ L (uI (uI σ 3702 ((L.1 100))) 3704 (((((uI σ 3702 ((L.1 100))).1 3704)) + 1))) _ h hzk hc hs H locs ls hP hD hS (lv_sub hl [0] rfl)
      · intro z cells slots L σ r h hzk hc hs H locs ls hP hD hS hl
        rw [f_X2_advance] at h
        refine lv_aload_n hx hb dX2_advance_816 rfl (lv_at hl 0 rfl) ?_
        refine hg_37_2 hx hb hts in_f_X2_advance_X2 hown hK hP (hts _ (List.mem_cons_of_mem _ (List.mem_append_left _ (List.mem_append_left _ (List.mem_of_getElem? (i := 5) rfl))))) dX2_advance_817 ?_
        refine lv_if_eq (tgt := 841) hx hb dX2_advance_820 (by decide) (fun c1 => ?_) (fun c1 => ?_)
        · rw [if_pos c1] at h
          exact ih.2.2.2.2.2.2.2.2.2.2.2.2.2.2.2.2.2.2.2.2.2.2.2.2.2.2.2.2.2.2.2.2.2.2.2.2.2.2.2.2.2.2.2.2.2.2.2.2.2.1 z _ _ L σ _ h hzk hc hs H locs ls hP hD hS (lv_sub hl [] rfl)
        · rw [if_neg c1] at h
          refine lv_aload_n hx hb dX2_advance_823 rfl (lv_at hl 0 rfl) ?_
          refine hg_37_2 hx hb hts in_f_X2_advance_X2 hown hK hP (hts _ (List.mem_cons_of_mem _ (List.mem_append_left _ (List.mem_append_left _ (List.mem_of_getElem? (i := 5) rfl))))) dX2_advance_824 ?_
          refine lv_bipush (v := 29) hx hb dX2_advance_827 (by decide) ?_
          refine lv_icmp_eq (tgt := 841) hx hb dX2_advance_829 (by decide) (fun c2 => ?_) (fun c2 => ?_)
          · rw [if_pos c2] at h
            exact ih.2.2.2.2.2.2.2.2.2.2.2.2.2.2.2.2.2.2.2.2.2.2.2.2.2.2.2.2.2.2.2.2.2.2.2.2.2.2.2.2.2.2.2.2.2.2.2.2.2.1 z _ _ L σ _ h hzk hc hs H locs ls hP hD hS (lv_sub hl [] rfl)
          · rw [if_neg c2] at h
            refine lv_aload_n hx hb dX2_advance_832 rfl (lv_at hl 0 rfl) ?_
            refine hg_37_2 hx hb hts in_f_X2_advance_X2 hown hK hP (hts _ (List.mem_cons_of_mem _ (List.mem_append_left _ (List.mem_append_left _ (List.mem_of_getElem? (i := 5) rfl))))) dX2_advance_833 ?_
            refine lv_bipush (v := 30) hx hb dX2_advance_836 (by decide) ?_
            refine lv_icmp_ne (tgt := 849) hx hb dX2_advance_838 (by decide) (fun c3 => ?_) (fun c3 => ?_)
            · rw [if_neg c3] at h
              exact ih.2.2.2.2.2.2.2.2.2.2.2.2.2.2.2.2.2.2.2.2.2.2.2.2.2.2.2.2.2.2.2.2.2.2.2.2.2.2.2.2.2.2.2.2.2.2.2.2.2.2.1 z _ _ L σ _ h hzk hc hs H locs ls hP hD hS (lv_sub hl [] rfl)
            · rw [if_pos c3] at h
              exact ih.2.2.2.2.2.2.2.2.2.2.2.2.2.2.2.2.2.2.2.2.2.2.2.2.2.2.2.2.2.2.2.2.2.2.2.2.2.2.2.2.2.2.2.2.2.2.2.2.2.1 z _ _ L σ _ h hzk hc hs H locs ls hP hD hS (lv_sub hl [] rfl)
      · intro z cells slots L σ r h hzk hc hs H locs ls hP hD hS hl
        rw [f_X2_advance] at h
        refine lv_iload hx hb dX2_advance_395 (lv_at hl 2 rfl) ?_
        refine lv_aload_n hx hb dX2_advance_397 rfl (lv_at hl 0 rfl) ?_
        refine hg_37_7 hx hb hts in_f_X2_advance_X2 hown hK hP (hts _ (List.mem_cons_of_mem _ (List.mem_append_left _ (List.mem_append_left _ (List.mem_of_getElem? (i := 8) rfl))))) dX2_advance_398 ?_
        refine hn_39 hx hb hK hP dX2_advance_401 ?_
        refine lv_icmp_ge (tgt := 453) hx hb dX2_advance_402 (by decide) (fun c1 => ?_) (fun c1 => ?_)
        · rw [if_pos c1] at h
          exact ih.2.2.2.2.2.2.2.2.2.2.2.2.2.2.2.2.2.2.2.2.2.2.2.2.2.2.2.2.2.2.2.2.2.2.2.2.2.2.2.2.2.2.2.2.2.2.2.2.2.2.2.1 z _ _ L σ _ h hzk hc hs H locs ls hP hD hS (lv_sub hl [0] rfl)
        · rw [if_neg c1] at h
          refine lv_aload_n hx hb dX2_advance_405 rfl (lv_at hl 0 rfl) ?_
          refine hg_37_4 hx hb hts in_f_X2_advance_X2 hown hK hP (hts _ (List.mem_cons_of_mem _ (List.mem_append_left _ (List.mem_append_left _ (List.mem_of_getElem? (i := 0) rfl))))) dX2_advance_406 ?_
          refine lv_iload_n hx hb dX2_advance_409 rfl (lv_at hl 1 rfl) ?_
          refine lv_isub hx hb dX2_advance_410 ?_
          refine lv_bipush (v := 8) hx hb dX2_advance_411 (by decide) ?_
          refine lv_icmp_gt (tgt := 453) hx hb dX2_advance_413 (by decide) (fun c2 => ?_) (fun c2 => ?_)
          · rw [if_pos c2] at h
            exact ih.2.2.2.2.2.2.2.2.2.2.2.2.2.2.2.2.2.2.2.2.2.2.2.2.2.2.2.2.2.2.2.2.2.2.2.2.2.2.2.2.2.2.2.2.2.2.2.2.2.2.2.1 z _ _ L σ _ h hzk hc hs H locs ls hP hD hS (lv_sub hl [0] rfl)
          · rw [if_neg c2] at h
            refine lv_aload_n hx hb dX2_advance_416 rfl (lv_at hl 0 rfl) ?_
            refine lv_aload_n hx hb dX2_advance_417 rfl (lv_at hl 0 rfl) ?_
            refine hg_37_7 hx hb hts in_f_X2_advance_X2 hown hK hP (hts _ (List.mem_cons_of_mem _ (List.mem_append_left _ (List.mem_append_left _ (List.mem_of_getElem? (i := 8) rfl))))) dX2_advance_418 ?_
            refine lv_iload hx hb dX2_advance_421 (lv_at hl 2 rfl) ?_
            obtain ⟨q3, h⟩ := kr_ite1 h
            refine hl_39 hx hb hK hP q3 dX2_advance_423 ?_
            refine lv_aload_n hx hb dX2_advance_424 rfl (lv_at hl 0 rfl) ?_
            refine hg_37_5 hx hb hts in_f_X2_advance_X2 hown hK hP (hts _ (List.mem_cons_of_mem _ (List.mem_append_left _ (List.mem_append_left _ (List.mem_of_getElem? (i := 6) rfl))))) dX2_advance_425 ?_
            refine nb_lcmp hx hb dX2_advance_428 ?_
            refine lv_if_ne (tgt := 440) hx hb dX2_advance_429 (by decide) (fun c4 => ?_) (fun c4 => ?_)
            · rw [if_neg c4] at h
              exact ih.2.2.2.2.2.2.2.2.2.2.2.2.2.2.2.2.2.2.2.2.2.2.2.2.2.2.2.2.2.2.2.2.2.2.2.2.2.2.2.2.2.2.2.2.2.2.2.2.2.2.2.2.1 z _ _ L σ _ h hzk hc hs H locs ls hP hD hS (lv_sub hl [0, 1, 2] rfl)
            · rw [if_pos c4] at h
              refine lv_bipush (v := 32) hx hb dX2_advance_432 (by decide) ?_
              refine lv_iload hx hb dX2_advance_434 (lv_at hl 2 rfl) ?_
              refine lv_iadd hx hb dX2_advance_436 ?_
              refine lv_goto (tgt := 444) hx hb dX2_advance_437 (by decide) ?_
              exact ih.2.2.2.2.2.2.2.2.2.2.2.2.2.2.2.2.2.2.2.2.2.2.2.2.2.2.2.2.2.2.2.2.2.2.2.2.2.2.2.2.2.2.2.2.2.2.2.2.2.2.2.2.2.1 z _ _ (lI L 100 ((32 + ((L.1 6))))) σ _ h hzk hc hs H locs ls hP hD hS (lv_sub hl [0, 1, 2] rfl)
      · intro z cells slots L σ r h hzk hc hs H locs ls hP hD hS hl
        rw [f_X2_advance] at h
        refine lv_aload_n hx hb dX2_advance_308 rfl (lv_at hl 0 rfl) ?_
        refine hg_37_6 hx hb hts in_f_X2_advance_X2 hown hK hP (hts _ (List.mem_cons_of_mem _ (List.mem_append_left _ (List.mem_append_left _ (List.mem_of_getElem? (i := 7) rfl))))) dX2_advance_309 ?_
        refine lv_bipush (v := 8) hx hb dX2_advance_312 (by decide) ?_
        refine lv_lshl (v := ((σ.2.1 3706)) <<< ((8 : Int32).toInt64 &&& 63)) hx hb dX2_advance_314 rfl ?_
        refine lv_aload_n hx hb dX2_advance_315 rfl (lv_at hl 0 rfl) ?_
        refine hg_37_0 hx hb hts in_f_X2_advance_X2 hown hK hP (hts _ (List.mem_cons_of_mem _ (List.mem_append_left _ (List.mem_append_left _ (List.mem_of_getElem? (i := 2) rfl))))) dX2_advance_316 ?_
        refine lv_iload hx hb dX2_advance_319 (lv_at hl 2 rfl) ?_
        obtain ⟨q1, h⟩ := kr_ite1 h
        refine hl_38 hx hb hK hP q1 dX2_advance_321 ?_
        refine lv_i2l (v := ((σ.2.2.1 38 ((L.1 6)).toNatClampNeg)).toInt64) hx hb dX2_advance_322 rfl ?_
        refine lv_lor hx hb dX2_advance_323 ?_
        exact ih.2.2.2.2.2.2.2.2.2.2.2.2.2.2.2.2.2.2.2.2.2.2.2.2.2.2.2.2.2.2.2.2.2.2.2.2.2.2.2.2.2.2.2.2.2.1 z _ _ (lJ L 100 ((((((σ.2.1 3706)) <<< ((8 : Int32).toInt64 &&& 63))) ||| ((((σ.2.2.1 38 ((L.1 6)).toNatClampNeg)).toInt64))))) σ _ h hzk hc hs H locs ls hP hD hS (lv_sub hl [0, 1, 2] rfl)
      · intro z cells slots L σ r h hzk hc hs H locs ls hP hD hS hl
        rw [f_X2_advance] at h
        refine hp_37_6 hx hb hts in_f_X2_advance_X2 hown hK hP hD hS (hts _ (List.mem_cons_of_mem _ (List.mem_append_left _ (List.mem_append_left _ (List.mem_of_getElem? (i := 7) rfl))))) dX2_advance_324 (fun H locs hP hD hS => ?_)
        refine lv_aload_n hx hb dX2_advance_327 rfl (lv_at hl 0 rfl) ?_
        refine lv_iload hx hb dX2_advance_328 (lv_at hl 2 rfl) ?_
        refine lv_iconst (v := 1) hx hb dX2_advance_330 (by decide) ?_
        refine lv_iadd hx hb dX2_advance_331 ?_
        refine hp_37_4 hx hb hts in_f_X2_advance_X2 hown hK hP hD hS (hts _ (List.mem_cons_of_mem _ (List.mem_append_left _ (List.mem_append_left _ (List.mem_of_getElem? (i := 0) rfl))))) dX2_advance_332 (fun H locs hP hD hS => ?_)
        refine lv_aload_n hx hb dX2_advance_335 rfl (lv_at hl 0 rfl) ?_
        refine hg_37_0 hx hb hts in_f_X2_advance_X2 hown hK hP (hts _ (List.mem_cons_of_mem _ (List.mem_append_left _ (List.mem_append_left _ (List.mem_of_getElem? (i := 2) rfl))))) dX2_advance_336 ?_
        refine lv_aload_n hx hb dX2_advance_339 rfl (lv_at hl 0 rfl) ?_
        refine hg_37_4 hx hb hts in_f_X2_advance_X2 hown hK hP (hts _ (List.mem_cons_of_mem _ (List.mem_append_left _ (List.mem_append_left _ (List.mem_of_getElem? (i := 0) rfl))))) dX2_advance_340 ?_
        obtain ⟨q1, h⟩ := kr_ite1 h
        refine hl_38 hx hb hK hP q1 dX2_advance_343 ?_
        refine lv_if_ge (tgt := 351) hx hb dX2_advance_344 (by decide) (fun c2 => ?_) (fun c2 => ?_)
        · rw [if_pos c2] at h
          exact ih.2.2.2.2.2.2.2.2.2.2.2.2.2.2.2.2.2.2.2.2.2.2.2.2.2.2.2.2.2.2.2.2.2.2.2.2.2.2.2.2.2.2.2.2.2.2.2.2.2.2.2.2.2.2.1 z _ _ L (uI (uL σ 3706 ((L.2.1 100))) 3704 ((((L.1 6)) + 1))) _ h hzk hc hs H locs ls hP hD hS (lv_sub hl [0, 1, 2] rfl)
        · rw [if_neg c2] at h
          refine lv_iconst (v := 0) hx hb dX2_advance_347 (by decide) ?_
          refine lv_goto (tgt := 364) hx hb dX2_advance_348 (by decide) ?_
          exact ih.2.2.2.2.2.2.2.2.2.2.2.2.2.2.2.2.2.2.2.2.2.2.2.2.2.2.2.2.2.2.2.2.2.2.2.2.2.2.2.2.2.2.2.2.2.2.2.2.2.2.2.2.2.2.2 z _ _ (lI L 100 0) (uI (uL σ 3706 ((L.2.1 100))) 3704 ((((L.1 6)) + 1))) _ h hzk hc hs H locs ls hP hD hS (lv_sub hl [0, 1, 2] rfl)
      · intro z cells slots L σ r h hzk hc hs H locs ls hP hD hS hl
        rw [f_X2_advance] at h
        refine lv_bipush (v := 28) hx hb dX2_advance_801 (by decide) ?_
        exact ih.2.2.2.2.2.2.2.2.2.2.2.2.2.2.2.2.2.2.2.2.2.2.2.2.2.2.2.2.2.2.2.2.2.2.2.2.2.2.2.2.2.2.2.2.2.2.2.1 z _ _ (lI L 100 28) σ _ h hzk hc hs H locs ls hP hD hS (lv_sub hl [0] rfl)
      · intro z cells slots L σ r h hzk hc hs H locs ls hP hD hS hl
        rw [f_X2_advance] at h
        refine hp_37_2 hx hb hts in_f_X2_advance_X2 hown hK hP hD hS (hts _ (List.mem_cons_of_mem _ (List.mem_append_left _ (List.mem_append_left _ (List.mem_of_getElem? (i := 5) rfl))))) dX2_advance_803 (fun H locs hP hD hS => ?_)
        refine lv_aload_n hx hb dX2_advance_806 rfl (lv_at hl 0 rfl) ?_
        refine lv_dup hx hb dX2_advance_807 rfl ?_
        refine hg_37_4 hx hb hts in_f_X2_advance_X2 hown hK hP (hts _ (List.mem_cons_of_mem _ (List.mem_append_left _ (List.mem_append_left _ (List.mem_of_getElem? (i := 0) rfl))))) dX2_advance_808 ?_
        refine lv_iconst (v := 1) hx hb dX2_advance_811 (by decide) ?_
        refine lv_iadd hx hb dX2_advance_812 ?_
        refine hp_37_4 hx hb hts in_f_X2_advance_X2 hown hK hP hD hS (hts _ (List.mem_cons_of_mem _ (List.mem_append_left _ (List.mem_append_left _ (List.mem_of_getElem? (i := 0) rfl))))) dX2_advance_813 (fun H locs hP hD hS => ?_)
        exact ih.2.2.2.2.2.2.2.2.2.2.2.2.2.2.2.2.2.2.2.2.2.2.2.2.2.2.2.2.2.2.2.2.2.2.2.2.2.2.2.2.2.2.1 z _ _ L (uI (uI σ 3702 ((L.1 100))) 3704 (((((uI σ 3702 ((L.1 100))).1 3704)) + 1))) _ h hzk hc hs H locs ls hP hD hS (lv_sub hl [0] rfl)
      · intro z cells slots L σ r h hzk hc hs H locs ls hP hD hS hl
        rw [f_X2_advance] at h
        refine lv_aload_n hx hb dX2_advance_732 rfl (lv_at hl 0 rfl) ?_
        refine hg_37_2 hx hb hts in_f_X2_advance_X2 hown hK hP (hts _ (List.mem_cons_of_mem _ (List.mem_append_left _ (List.mem_append_left _ (List.mem_of_getElem? (i := 5) rfl))))) dX2_advance_733 ?_
        refine lv_iconst (v := 1) hx hb dX2_advance_736 (by decide) ?_
        refine lv_iadd hx hb dX2_advance_737 ?_
        exact ih.2.2.2.2.2.2.2.2.2.2.2.2.2.2.2.2.2.2.2.2.2.2.2.2.2.2.2.2.2.2.2.2.2.2.2.2.2.2.2.1 z _ _ (lI L 100 ((((σ.1 3702)) + 1))) σ _ h hzk hc hs H locs ls hP hD hS (lv_sub hl [0] rfl)
      · intro z cells slots L σ r h hzk hc hs H locs ls hP hD hS hl
        rw [f_X2_advance] at h
        obtain rfl := Option.some.inj h
        exact vx_throw0 (cls := "java/lang/IllegalArgumentException") (names := ["java/lang/RuntimeException", "java/lang/Exception"]) hx hb hl0 hown (by decide) (by decide) (hts _ (List.mem_cons_of_mem _ (List.mem_append_left _ (List.mem_append_left _ (List.mem_of_getElem? (i := 9) rfl))))) (hts _ (List.mem_cons_of_mem _ (List.mem_append_left _ (List.mem_append_left _ (List.mem_of_getElem? (i := 10) rfl))))) (vx_hat (B := [.castable "java/lang/IllegalArgumentException" "java/lang/IllegalArgumentException", .declares (Bundle.init0 "java/lang/RuntimeException"), .declares (Bundle.init0 "java/lang/Exception"), .declares (Bundle.init0 Bundle.tN)]) (fun w h => hts w (List.mem_cons_of_mem _ (List.mem_append_left _ (List.mem_append_right _ (List.mem_append_left _ h))))) (by decide +kernel) (vx_c (va_Nw.use (by decide +kernel) (hT.2.2.1 _ (List.mem_of_getElem? (i := 1) rfl))) (vx_c (va_Nw.use (by decide +kernel) (hT.2.2.1 _ (List.mem_of_getElem? (i := 4) rfl))) (vx_c (va_Nw.use (by decide +kernel) (hT.2.2.1 _ (List.mem_of_getElem? (i := 5) rfl))) (vx_c (va_Nw.use (by decide +kernel) (hT.2.2.1 _ (List.mem_of_getElem? (i := 6) rfl))) vx_n))))) (fun w h => List.all_eq_true.mp (by decide +kernel : (Cond.classLink RX2 62 "java/lang/IllegalArgumentException" :: Cond.initialized "java/lang/IllegalArgumentException" :: (vx_at0 RX2 64 "java/lang/IllegalArgumentException" ["java/lang/RuntimeException", "java/lang/Exception"])).all vx_ot = true) w h) hT.1 hT.2.1 hS (hl.1.trans hml.symm) dX2_advance_841 dX2_advance_844 dX2_advance_845 dX2_advance_848 (fun x h => (hno x h).elim) (Nat.le_of_ble_eq_true rfl) (Nat.le_of_ble_eq_true rfl) (Nat.le_of_eq hc) (Nat.le_of_eq hs) hlocks (xt_x (n := 1) (by decide) hK hzk hP hD hS) hS.2.2 (Nat.le_of_eq hc) (Nat.le_of_eq hs)
      · intro z cells slots L σ r h hzk hc hs H locs ls hP hD hS hl
        rw [f_X2_advance] at h
        obtain rfl := Option.some.inj h
        subst hc
        subst hs
        exact xr_v hx hb hr hK hzk hP hD hS hlocks dX2_advance_849
      · intro z cells slots L σ r h hzk hc hs H locs ls hP hD hS hl
        rw [f_X2_advance] at h
        refine lv_goto (tgt := 816) hx hb dX2_advance_453 (by decide) ?_
        exact ih.2.2.2.2.2.2.2.2.2.2.2.2.2.2.2.2.2.2.2.2.2.2.2.2.2.2.2.2.2.2.2.2.2.2.2.2.2.2.2.2.2.2.1 z _ _ L σ _ h hzk hc hs H locs ls hP hD hS (lv_sub hl [0] rfl)
      · intro z cells slots L σ r h hzk hc hs H locs ls hP hD hS hl
        rw [f_X2_advance] at h
        refine lv_aload_n hx hb dX2_advance_440 rfl (lv_at hl 0 rfl) ?_
        refine hg_37_2 hx hb hts in_f_X2_advance_X2 hown hK hP (hts _ (List.mem_cons_of_mem _ (List.mem_append_left _ (List.mem_append_left _ (List.mem_of_getElem? (i := 5) rfl))))) dX2_advance_441 ?_
        exact ih.2.2.2.2.2.2.2.2.2.2.2.2.2.2.2.2.2.2.2.2.2.2.2.2.2.2.2.2.2.2.2.2.2.2.2.2.2.2.2.2.2.2.2.2.2.2.2.2.2.2.2.2.2.1 z _ _ (lI L 100 ((σ.1 3702))) σ _ h hzk hc hs H locs ls hP hD hS (lv_sub hl [0, 1, 2] rfl)
      · intro z cells slots L σ r h hzk hc hs H locs ls hP hD hS hl
        rw [f_X2_advance] at h
        refine hp_37_2 hx hb hts in_f_X2_advance_X2 hown hK hP hD hS (hts _ (List.mem_cons_of_mem _ (List.mem_append_left _ (List.mem_append_left _ (List.mem_of_getElem? (i := 5) rfl))))) dX2_advance_444 (fun H locs hP hD hS => ?_)
        refine lv_iinc (v := ((L.1 6)) + 1) (lv' := [(6, .int (((L.1 6)) + 1)), (0, .ref (a 37)), (1, .int (L.1 1))]) hx hb dX2_advance_447 hl (k := 2) rfl rfl (by decide) rfl (fun ls hl => ?_)
        refine lv_goto (tgt := 395) hx hb dX2_advance_450 (by decide) ?_
        exact ih.2.2.2.2.2.2.2.2.2.2.2.2.2.2.2.2.2.2.2.2.2.2.2.2.2.2.2.2.2.2.2.2.2.2.2.2.2.2.2.2.2.2.2.1 z _ _ (lI L 6 ((((L.1 6)) + 1))) (uI σ 3702 ((L.1 100))) _ h hzk hc hs H locs ls hP hD hS (lv_sub hl [1, 2, 0] rfl)
      · intro z cells slots L σ r h hzk hc hs H locs ls hP hD hS hl
        rw [f_X2_advance] at h
        refine va_gets hx hb hE.2.2.2.2.1 hS hown (hts _ (List.mem_cons_of_mem _ (List.mem_append_left _ (List.mem_append_left _ (List.mem_of_getElem? (i := 4) rfl))))) (fun _ h9 => h9) dX2_advance_351 ?_
        refine lv_aload_n hx hb dX2_advance_354 rfl (lv_at hl 0 rfl) ?_
        refine hg_37_0 hx hb hts in_f_X2_advance_X2 hown hK hP (hts _ (List.mem_cons_of_mem _ (List.mem_append_left _ (List.mem_append_left _ (List.mem_of_getElem? (i := 2) rfl))))) dX2_advance_355 ?_
        refine lv_aload_n hx hb dX2_advance_358 rfl (lv_at hl 0 rfl) ?_
        refine hg_37_4 hx hb hts in_f_X2_advance_X2 hown hK hP (hts _ (List.mem_cons_of_mem _ (List.mem_append_left _ (List.mem_append_left _ (List.mem_of_getElem? (i := 0) rfl))))) dX2_advance_359 ?_
        obtain ⟨q1, h⟩ := kr_ite1 h
        refine hl_38 hx hb hK hP q1 dX2_advance_362 ?_
        obtain ⟨q2, h⟩ := kr_ite1 h
        refine va_tb hx hb hE.2.2.2.2.2 hS (nb_inp q2) (v := .int (lxC.getD ((σ.2.2.1 38 ((σ.1 3704)).toNatClampNeg)).toNatClampNeg 0)) rfl dX2_advance_363 ?_
        exact ih.2.2.2.2.2.2.2.2.2.2.2.2.2.2.2.2.2.2.2.2.2.2.2.2.2.2.2.2.2.2.2.2.2.2.2.2.2.2.2.2.2.2.2.2.2.2.2.2.2.2.2.2.2.2.2 z _ _ (lI L 100 ((lxC.getD ((σ.2.2.1 38 ((σ.1 3704)).toNatClampNeg)).toNatClampNeg 0))) σ _ h hzk hc hs H locs ls hP hD hS (lv_sub hl [0, 1, 2] rfl)
      · intro z cells slots L σ r h hzk hc hs H locs ls hP hD hS hl
        rw [f_X2_advance] at h
        refine lv_istore (lv' := [(5, .int (L.1 100)), (0, .ref (a 37)), (1, .int (L.1 1)), (6, .int (L.1 6))]) hx hb dX2_advance_364 hl (by decide) rfl (fun ls hl => ?_)
        refine lv_iinc (v := ((L.1 6)) + 1) (lv' := [(6, .int (((L.1 6)) + 1)), (5, .int (L.1 100)), (0, .ref (a 37)), (1, .int (L.1 1))]) hx hb dX2_advance_366 hl (k := 3) rfl rfl (by decide) rfl (fun ls hl => ?_)
        refine lv_goto (tgt := 227) hx hb dX2_advance_369 (by decide) ?_
        exact ih.2.2.2.2.2.2.2.2.2.2.2.2.2.2.2.2.2.2.2.2.2.1 z _ _ (lI (lI L 5 ((L.1 100))) 6 ((((L.1 6)) + 1))) σ _ h hzk hc hs H locs ls hP hD hS (lv_sub hl [2, 3, 1, 0] rfl)
  exact (blk k0).1 z 0 0 L0 σ0 r0 h0 (zk_rf _ _) ((Nat.zero_add _).trans hmc) ((Nat.zero_add _).trans hms) s.heap [] ls hP hD hS hl

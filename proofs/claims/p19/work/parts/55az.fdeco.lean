/-! X7_emptyBehind__P__P -/
def y_X7_emptyBehind__P__P : Nat → Nat → LV → CS → Option (Int32 × CS)
  | 0, _, _, _ => none
  | k + 1, 0, L, σ => y_X7_emptyBehind__P__P k 1 L (uI (uI (uKd σ ((L.2.2.1 0)) ((sKd σ ((L.2.2.1 1))))) (fP ((L.2.2.1 0)) 1) (((uKd σ ((L.2.2.1 0)) ((sKd σ ((L.2.2.1 1))))).1 (fP ((L.2.2.1 1)) 1)))) (fP ((L.2.2.1 0)) 2) (((uI (uKd σ ((L.2.2.1 0)) ((sKd σ ((L.2.2.1 1))))) (fP ((L.2.2.1 0)) 1) (((uKd σ ((L.2.2.1 0)) ((sKd σ ((L.2.2.1 1))))).1 (fP ((L.2.2.1 1)) 1)))).1 (fP ((L.2.2.1 1)) 1))))
  | k + 1, 1, L, σ => y_X7_emptyBehind__P__P k 2 L (uI (uI (uI σ (fP ((L.2.2.1 0)) 3) 0) (fP ((L.2.2.1 0)) 4) 0) (fP ((L.2.2.1 0)) 11) 0)
  | k + 1, 2, L, σ => oc (y_X7_openUnit__P k 0 (lI (lB lZ 0 ((L.2.2.1 0))) 1 0) (uI σ (fP ((L.2.2.1 0)) 12) 0)) (fun r1 => some (0, r1.2))
  | _ + 1, _ + 3, _, _ => none
def o_y_X7_emptyBehind__P__P : List Cond := [.fieldLink RX7 9 "SetHouse$Program" "code" "[I", .fieldLink RX7 53 "SetHouse$Program" "size" "I", .fieldLink RX7 57 "SetHouse$Program" "entry" "I", .fieldLink RX7 60 "SetHouse$Program" "statements" "I", .fieldLink RX7 63 "SetHouse$Program" "procs" "I", .fieldLink RX7 66 "SetHouse$Program" "names" "I", .fieldLink RX7 69 "SetHouse$Program" "units" "I", .methodLink RX7 72 yX7_openUnit, .instanceMethod yX7_openUnit, .selects RX7 yX7_openUnit yX7_openUnit, .initialized RX7]
theorem o_y_X7_emptyBehind__P__P_good : o_y_X7_emptyBehind__P__P.all goodWord = true := by decide +kernel
def p_y_X7_emptyBehind__P__P : List Cond := o_y_X7_emptyBehind__P__P ++ ((.code yX7_openUnit cX7_openUnit 2 none :: p_y_X7_openUnit__P) ++ [])
theorem p_y_X7_emptyBehind__P__P_good : p_y_X7_emptyBehind__P__P.all goodWord = true := nb_all2 o_y_X7_emptyBehind__P__P_good (nb_all2 (nb_allc (by decide +kernel) p_y_X7_openUnit__P_good) rfl)
def w_y_X7_emptyBehind__P__P : List Cond := .code yX7_emptyBehind cX7_emptyBehind 2 none :: (p_y_X7_emptyBehind__P__P ++ fC)
theorem w_y_X7_emptyBehind__P__P_good : w_y_X7_emptyBehind__P__P.all goodWord = true := nb_allc (by decide +kernel) (nb_all2 p_y_X7_emptyBehind__P__P_good fC_good)
theorem in_y_X7_emptyBehind__P__P_X7 : ∀ w ∈ wsX70, w ∈ w_y_X7_emptyBehind__P__P := fun _ h => List.mem_cons_of_mem _ (List.mem_append_right _ (List.mem_append_right _ (List.mem_append_right _ (List.mem_append_right _ (List.mem_append_right _ (List.mem_append_right _ (List.mem_append_right _ (List.mem_append_left _ h))))))))
theorem hd_y_X7_emptyBehind__P__P : yX7_emptyBehind.cls = RX7 ∧ yX7_emptyBehind.cls ≠ "java/lang/invoke/MethodHandle" ∧ yX7_emptyBehind.cls ≠ "java/lang/invoke/VarHandle" ∧ (parseMethodDescriptor yX7_emptyBehind.desc).map (fun d => d.parameters.length) = some 1 := by decide +kernel
theorem gg_y_X7_emptyBehind__P__P_X7_openUnit__P : GoodIn w_y_X7_emptyBehind__P__P w_y_X7_openUnit__P := goodIn_sub (fun w h => (List.mem_cons.mp h).elim (fun e => (List.mem_cons_of_mem _ (List.mem_append_left _ (List.mem_append_right _ (List.mem_append_left _ (List.mem_cons.mpr (Or.inl e))))))) (fun h => (List.mem_append.mp h).elim (fun h => (List.mem_cons_of_mem _ (List.mem_append_left _ (List.mem_append_right _ (List.mem_append_left _ (List.mem_cons_of_mem _ h)))))) (fun h => List.mem_cons_of_mem _ (List.mem_append_right _ h)))) w_y_X7_openUnit__P_good
theorem g_y_X7_emptyBehind__P__P_X7_openUnit__P_V72 : GoodIn w_y_X7_emptyBehind__P__P (wsV RX7 72 RX7 yX7_openUnit w_y_X7_openUnit__P) := goodIn_app (nb_g4 (List.mem_cons_of_mem _ (List.mem_append_left _ (List.mem_append_left _ (List.mem_of_getElem? (i := 7) rfl)))) (List.mem_cons_of_mem _ (List.mem_append_left _ (List.mem_append_left _ (List.mem_of_getElem? (i := 8) rfl)))) (List.mem_cons_of_mem _ (List.mem_append_left _ (List.mem_append_left _ (List.mem_of_getElem? (i := 9) rfl)))) (List.mem_cons_of_mem _ (List.mem_append_left _ (List.mem_append_left _ (List.mem_of_getElem? (i := 10) rfl)))) (by decide +kernel)) gg_y_X7_emptyBehind__P__P_X7_openUnit__P
set_option maxHeartbeats 40000000 in
set_option maxRecDepth 100000 in
theorem c_y_X7_emptyBehind__P__P (l : Launch) (dC : Nat → ClassId) (dI : Nat → Nat → Nat) (cy : Nat → ClassId) (a z : Nat → Nat) (k0 : Nat) (L0 : LV) (σ0 : CS) (r0 : Int32 × CS) (h0 : y_X7_emptyBehind__P__P k0 0 L0 σ0 = some r0) (sz : Nat) : Met l yX7_emptyBehind w_y_X7_emptyBehind__P__P ({ frames := 1, cells := 0, slots := 0, locals := 21 }) (va_Pc [.ref (a (pA (L0.2.2.1 0))), .ref (a (pA (L0.2.2.1 1)))] (nIn (dC, dI) cy sz (vC cy a z σ0))) (va_Qv (fun _ : Unit => True) (fun _ t => nOut (dC, dI) cy (va_A (vC cy a z σ0) sz) (vC cy a z r0.2) t) (va_A (vC cy a z σ0) sz)) 0 0 (va_A (vC cy a z σ0) sz) := by
  refine Met.ofW (cc := cX7_emptyBehind) (maxL := 2) (ret := none) (by decide) rfl ?_
  intro p e s m args below meth c s₁ B hml hv
  obtain ⟨rfl, hsz, hP, hK, hD0, hG⟩ := hv
  have hx := B.exec
  have hb := B.bytes
  have hr := B.returns
  have hts := atoms_spec (ws := w_y_X7_emptyBehind__P__P) B.pre
  have hown : s.vm.findClass RX7 = some m.cls := findClass_of_methodNamed B.named
  have hlocks := B.notSynchronized
  subst hsz
  have hD := hD0.self (sz := s.heap.size)
  generalize hAe : va_A (vC cy a z σ0) s.heap.size = A at hD ⊢
  have hA : ∀ q : Nat, s.heap.size ≤ q → A q := fun q h => by rw [← hAe]; exact Or.inr h
  have hS : va_S A s.heap s.heap [] := va_S.rf
  have hl := lv_entry ([.ref (a (pA (L0.2.2.1 0))), .ref (a (pA (L0.2.2.1 1)))]) (n := 2) (Nat.le_of_ble_eq_true rfl)
  rw [lg_entry_eq]
  generalize (lg_sl ([.ref (a (pA (L0.2.2.1 0))), .ref (a (pA (L0.2.2.1 1)))]) ++ List.replicate (2 - (lg_sl ([.ref (a (pA (L0.2.2.1 0))), .ref (a (pA (L0.2.2.1 1)))])).length) Slot.unset).toArray = ls at hl ⊢
  have hl : lv_has ls 2 [(0, .ref (a (pA (L0.2.2.1 0)))), (1, .ref (a (pA (L0.2.2.1 1))))] := hl
  have blk : ∀ k : Nat, (bC p l e (headSpec w_y_X7_emptyBehind__P__P ({ frames := 1, cells := 0, slots := 0, locals := 21 })).room s m #[.ref (a (pA (L0.2.2.1 0))), .ref (a (pA (L0.2.2.1 1)))] below meth c dC dI cy a z A (kV dC dI cy a z A below #[.ref (a (pA (L0.2.2.1 0))), .ref (a (pA (L0.2.2.1 1)))] s) 2 (y_X7_emptyBehind__P__P k 0) (fun L => [(0, .ref (a (pA (L.2.2.1 0)))), (1, .ref (a (pA (L.2.2.1 1))))]) 0 (fun L => [])) ∧ (bC p l e (headSpec w_y_X7_emptyBehind__P__P ({ frames := 1, cells := 0, slots := 0, locals := 21 })).room s m #[.ref (a (pA (L0.2.2.1 0))), .ref (a (pA (L0.2.2.1 1)))] below meth c dC dI cy a z A (kV dC dI cy a z A below #[.ref (a (pA (L0.2.2.1 0))), .ref (a (pA (L0.2.2.1 1)))] s) 2 (y_X7_emptyBehind__P__P k 1) (fun L => [(0, .ref (a (pA (L.2.2.1 0))))]) 24 (fun L => [])) ∧ (bC p l e (headSpec w_y_X7_emptyBehind__P__P ({ frames := 1, cells := 0, slots := 0, locals := 21 })).room s m #[.ref (a (pA (L0.2.2.1 0))), .ref (a (pA (L0.2.2.1 1)))] below meth c dC dI cy a z A (kV dC dI cy a z A below #[.ref (a (pA (L0.2.2.1 0))), .ref (a (pA (L0.2.2.1 1)))] s) 2 (y_X7_emptyBehind__P__P k 2) (fun L => [(0, .ref (a (pA (L.2.2.1 0))))]) 39 (fun L => [])) := by
    intro k
    induction k with
    | zero => exact ⟨fun L σ r h => (by cases h), fun L σ r h => (by cases h), fun L σ r h => (by cases h)⟩
    | succ k ih =>
      refine ⟨?_, ?_, ?_⟩
      · intro L σ r h H locs ls hP hD hS hl
        rw [y_X7_emptyBehind__P__P] at h
        refine lv_aload_n hx hb dX7_emptyBehind_0 rfl (lv_at hl 0 rfl) ?_
        refine lv_aload_n hx hb dX7_emptyBehind_1 rfl (lv_at hl 1 rfl) ?_
        refine hg_P_0 ((L.2.2.1 1)) hx hb hts in_y_X7_emptyBehind__P__P_X7 hown hK hP (hts _ (List.mem_cons_of_mem _ (List.mem_append_left _ (List.mem_append_left _ (List.mem_of_getElem? (i := 0) rfl))))) dX7_emptyBehind_2 ?_
        refine hpq_P_0 ((L.2.2.1 0)) hx hb hts in_y_X7_emptyBehind__P__P_X7 hown hK hP hD hS (hts _ (List.mem_cons_of_mem _ (List.mem_append_left _ (List.mem_append_left _ (List.mem_of_getElem? (i := 0) rfl))))) dX7_emptyBehind_5 (fun H locs hP hD hS => ?_)
        refine lv_aload_n hx hb dX7_emptyBehind_8 rfl (lv_at hl 0 rfl) ?_
        refine lv_aload_n hx hb dX7_emptyBehind_9 rfl (lv_at hl 1 rfl) ?_
        refine hg_P_1 ((L.2.2.1 1)) hx hb hts in_y_X7_emptyBehind__P__P_X7 hown hK hP (hts _ (List.mem_cons_of_mem _ (List.mem_append_left _ (List.mem_append_left _ (List.mem_of_getElem? (i := 1) rfl))))) dX7_emptyBehind_10 ?_
        refine hp_P_1 ((L.2.2.1 0)) hx hb hts in_y_X7_emptyBehind__P__P_X7 hown hK hP hD hS (hts _ (List.mem_cons_of_mem _ (List.mem_append_left _ (List.mem_append_left _ (List.mem_of_getElem? (i := 1) rfl))))) dX7_emptyBehind_13 (fun H locs hP hD hS => ?_)
        refine lv_aload_n hx hb dX7_emptyBehind_16 rfl (lv_at hl 0 rfl) ?_
        refine lv_aload_n hx hb dX7_emptyBehind_17 rfl (lv_at hl 1 rfl) ?_
        refine hg_P_1 ((L.2.2.1 1)) hx hb hts in_y_X7_emptyBehind__P__P_X7 hown hK hP (hts _ (List.mem_cons_of_mem _ (List.mem_append_left _ (List.mem_append_left _ (List.mem_of_getElem? (i := 1) rfl))))) dX7_emptyBehind_18 ?_
        refine hp_P_2 ((L.2.2.1 0)) hx hb hts in_y_X7_emptyBehind__P__P_X7 hown hK hP hD hS (hts _ (List.mem_cons_of_mem _ (List.mem_append_left _ (List.mem_append_left _ (List.mem_of_getElem? (i := 2) rfl))))) dX7_emptyBehind_21 (fun H locs hP hD hS => ?_)
        exact ih.2.1 L (uI (uI (uKd σ ((L.2.2.1 0)) ((sKd σ ((L.2.2.1 1))))) (fP ((L.2.2.1 0)) 1) (((uKd σ ((L.2.2.1 0)) ((sKd σ ((L.2.2.1 1))))).1 (fP ((L.2.2.1 1)) 1)))) (fP ((L.2.2.1 0)) 2) (((uI (uKd σ ((L.2.2.1 0)) ((sKd σ ((L.2.2.1 1))))) (fP ((L.2.2.1 0)) 1) (((uKd σ ((L.2.2.1 0)) ((sKd σ ((L.2.2.1 1))))).1 (fP ((L.2.2.1 1)) 1)))).1 (fP ((L.2.2.1 1)) 1)))) r h H locs ls hP hD hS (lv_sub hl [0] rfl)
      · intro L σ r h H locs ls hP hD hS hl
        rw [y_X7_emptyBehind__P__P] at h
        refine lv_aload_n hx hb dX7_emptyBehind_24 rfl (lv_at hl 0 rfl) ?_
        refine lv_iconst (v := 0) hx hb dX7_emptyBehind_25 (by decide) ?_
        refine hp_P_3 ((L.2.2.1 0)) hx hb hts in_y_X7_emptyBehind__P__P_X7 hown hK hP hD hS (hts _ (List.mem_cons_of_mem _ (List.mem_append_left _ (List.mem_append_left _ (List.mem_of_getElem? (i := 3) rfl))))) dX7_emptyBehind_26 (fun H locs hP hD hS => ?_)
        refine lv_aload_n hx hb dX7_emptyBehind_29 rfl (lv_at hl 0 rfl) ?_
        refine lv_iconst (v := 0) hx hb dX7_emptyBehind_30 (by decide) ?_
        refine hp_P_4 ((L.2.2.1 0)) hx hb hts in_y_X7_emptyBehind__P__P_X7 hown hK hP hD hS (hts _ (List.mem_cons_of_mem _ (List.mem_append_left _ (List.mem_append_left _ (List.mem_of_getElem? (i := 4) rfl))))) dX7_emptyBehind_31 (fun H locs hP hD hS => ?_)
        refine lv_aload_n hx hb dX7_emptyBehind_34 rfl (lv_at hl 0 rfl) ?_
        refine lv_iconst (v := 0) hx hb dX7_emptyBehind_35 (by decide) ?_
        refine hp_P_11 ((L.2.2.1 0)) hx hb hts in_y_X7_emptyBehind__P__P_X7 hown hK hP hD hS (hts _ (List.mem_cons_of_mem _ (List.mem_append_left _ (List.mem_append_left _ (List.mem_of_getElem? (i := 5) rfl))))) dX7_emptyBehind_36 (fun H locs hP hD hS => ?_)
        exact ih.2.2 L (uI (uI (uI σ (fP ((L.2.2.1 0)) 3) 0) (fP ((L.2.2.1 0)) 4) 0) (fP ((L.2.2.1 0)) 11) 0) r h H locs ls hP hD hS (lv_sub hl [0] rfl)
      · intro L σ r h H locs ls hP hD hS hl
        rw [y_X7_emptyBehind__P__P] at h
        refine lv_aload_n hx hb dX7_emptyBehind_39 rfl (lv_at hl 0 rfl) ?_
        refine lv_iconst (v := 0) hx hb dX7_emptyBehind_40 (by decide) ?_
        refine hp_P_12 ((L.2.2.1 0)) hx hb hts in_y_X7_emptyBehind__P__P_X7 hown hK hP hD hS (hts _ (List.mem_cons_of_mem _ (List.mem_append_left _ (List.mem_append_left _ (List.mem_of_getElem? (i := 6) rfl))))) dX7_emptyBehind_41 (fun H locs hP hD hS => ?_)
        refine lv_aload_n hx hb dX7_emptyBehind_44 rfl (lv_at hl 0 rfl) ?_
        refine lv_iconst (v := 0) hx hb dX7_emptyBehind_45 (by decide) ?_
        obtain ⟨r1, hc1, h⟩ := oc_ex h
        refine kc_v (va_runV (As := [.int 0]) (rest := []) ⟨hx, hb, hml, hown, hts⟩ (c_y_X7_openUnit__P l dC dI cy a z k (lI (lB lZ 0 ((L.2.2.1 0))) 1 0) (uI σ (fP ((L.2.2.1 0)) 12) 0) r1 hc1 H.size) (cwV 1 hts g_y_X7_emptyBehind__P__P_X7_openUnit__P_V72 rfl rfl rfl hd_y_X7_openUnit__P ⟨Nat.le_of_ble_eq_true rfl, Nat.le_of_ble_eq_true rfl⟩) ⟨nb_blind, recvP ((L.2.2.1 0)) hK hP, (kb_pre hK hG hP hD)⟩ rfl rfl hl.1 rfl (lv_room (Nat.le_of_ble_eq_true rfl)) dX7_emptyBehind_46 ⟨Nat.le_refl _, Nat.le_refl _⟩) hA hP hD hS (fun H locs hP hD hS => ?_)
        obtain rfl := Option.some.inj h
        exact W.vret hx hb hr (fun t ht hW => ⟨⟨(), rfl, trivial, by rw [ht]; exact hP, va_K.moved hW.alike hK, hD⟩, hS.F ht⟩) hS.2.2 dX7_emptyBehind_49
  exact (blk k0).1 L0 σ0 r0 h0 s.heap [] ls hP hD hS hl
/-! X5_begin__P -/
def f_X5_begin__P : Nat → Nat → LV → CS → Option RS
  | 0, _, _, _ => none
  | k + 1, 0, L, σ => f_X5_begin__P k 1 L (uI (uI (uPp σ (some ((L.2.2.1 1)))) 4003 ((L.1 2))) 4004 ((L.1 3)))
  | k + 1, 1, L, σ => f_X5_begin__P k 2 L (uI (uI (uI σ 4005 0) 4006 0) 4007 0)
  | k + 1, 2, L, σ => f_X5_begin__P k 3 L (uI (uI (uI σ 4008 ((-1))) 4009 0) 4011 0)
  | k + 1, 3, L, σ => ox (f_X2_rewind k 0 lZ (uI (uI σ 4013 0) 4016 ((-1)))) (fun r1 => some ((0, 0), r1.2.1, (0, 0)))
  | _ + 1, _ + 4, _, _ => none
def o_f_X5_begin__P : List Cond := [.fieldLink RX5 93 "SetHouse$Parser" "p" "LSetHouse$Program;", .fieldLink RX5 97 "SetHouse$Parser" "unit" "I", .fieldLink RX5 100 "SetHouse$Parser" "allowed" "I", .fieldLink RX5 103 "SetHouse$Parser" "open" "I", .fieldLink RX5 75 "SetHouse$Parser" "faultCode" "I", .fieldLink RX5 81 "SetHouse$Parser" "faultPlace" "I", .fieldLink RX5 106 "SetHouse$Parser" "loopNext" "I", .fieldLink RX5 109 "SetHouse$Parser" "quits" "I", .fieldLink RX5 112 "SetHouse$Parser" "marked" "I", .fieldLink RX5 115 "SetHouse$Parser" "kept" "I", .fieldLink RX5 118 "SetHouse$Parser" "targetPlace" "I", .fieldLink RX5 18 "SetHouse$Parser" "lex" "LSetHouse$Lexer;", .methodLink RX5 121 yX2_rewind, .instanceMethod yX2_rewind, .selects RX2 yX2_rewind yX2_rewind, .initialized RX2]
theorem o_f_X5_begin__P_good : o_f_X5_begin__P.all goodWord = true := by decide +kernel
def p_f_X5_begin__P : List Cond := o_f_X5_begin__P ++ ((.code yX2_rewind cX2_rewind 1 none :: p_f_X2_rewind) ++ [])
theorem p_f_X5_begin__P_good : p_f_X5_begin__P.all goodWord = true := nb_all2 o_f_X5_begin__P_good (nb_all2 (nb_allc (by decide +kernel) p_f_X2_rewind_good) rfl)
def w_f_X5_begin__P : List Cond := .code yX5_begin cX5_begin 4 none :: (p_f_X5_begin__P ++ fC)
theorem w_f_X5_begin__P_good : w_f_X5_begin__P.all goodWord = true := nb_allc (by decide +kernel) (nb_all2 p_f_X5_begin__P_good fC_good)
theorem in_f_X5_begin__P_X5 : ∀ w ∈ wsX50, w ∈ w_f_X5_begin__P := fun _ h => List.mem_cons_of_mem _ (List.mem_append_right _ (List.mem_append_right _ (List.mem_append_right _ (List.mem_append_right _ (List.mem_append_right _ (List.mem_append_left _ h))))))
theorem hd_f_X5_begin__P : yX5_begin.cls = RX5 ∧ yX5_begin.cls ≠ "java/lang/invoke/MethodHandle" ∧ yX5_begin.cls ≠ "java/lang/invoke/VarHandle" ∧ (parseMethodDescriptor yX5_begin.desc).map (fun d => d.parameters.length) = some 3 := by decide +kernel
theorem gg_f_X5_begin__P_X2_rewind : GoodIn w_f_X5_begin__P w_f_X2_rewind := goodIn_sub (fun w h => (List.mem_cons.mp h).elim (fun e => (List.mem_cons_of_mem _ (List.mem_append_left _ (List.mem_append_right _ (List.mem_append_left _ (List.mem_cons.mpr (Or.inl e))))))) (fun h => (List.mem_append.mp h).elim (fun h => (List.mem_cons_of_mem _ (List.mem_append_left _ (List.mem_append_right _ (List.mem_append_left _ (List.mem_cons_of_mem _ h)))))) (fun h => List.mem_cons_of_mem _ (List.mem_append_right _ h)))) w_f_X2_rewind_good
theorem g_f_X5_begin__P_X2_rewind_V121 : GoodIn w_f_X5_begin__P (wsV RX5 121 RX2 yX2_rewind w_f_X2_rewind) := goodIn_app (nb_g4 (List.mem_cons_of_mem _ (List.mem_append_left _ (List.mem_append_left _ (List.mem_of_getElem? (i := 12) rfl)))) (List.mem_cons_of_mem _ (List.mem_append_left _ (List.mem_append_left _ (List.mem_of_getElem? (i := 13) rfl)))) (List.mem_cons_of_mem _ (List.mem_append_left _ (List.mem_append_left _ (List.mem_of_getElem? (i := 14) rfl)))) (List.mem_cons_of_mem _ (List.mem_append_left _ (List.mem_append_left _ (List.mem_of_getElem? (i := 15) rfl)))) (by decide +kernel)) gg_f_X5_begin__P_X2_rewind
set_option maxHeartbeats 40000000 in
set_option maxRecDepth 100000 in
theorem c_f_X5_begin__P (l : Launch) (hl0 : l.stackTraces = false) (dC : Nat → ClassId) (dI : Nat → Nat → Nat) (cy : Nat → ClassId) (ek a : Nat → Nat) (k0 : Nat) (L0 : LV) (σ0 : CS) (r0 : RS) (h0 : f_X5_begin__P k0 0 L0 σ0 = some r0) (z : Nat → Nat) (sz : Nat) : vx_Met l yX5_begin w_f_X5_begin__P ({ frames := 5, cells := r0.2.2.1, slots := r0.2.2.2, locals := 155 }) (va_Pc [.ref (a 40), .ref (a (pA (L0.2.2.1 1))), .int (L0.1 2), .int (L0.1 3)] (nInF (dC, dI) cy ek sz (vC cy a z σ0))) (xV dC dI cy a (va_A (vC cy a z σ0) sz) [38] z r0) (xX dC dI cy a (va_A (vC cy a z σ0) sz) [38] z r0) r0.2.2.1 r0.2.2.2 (va_A (vC cy a z σ0) sz) := by
  refine vx_ofW (cc := cX5_begin) (maxL := 4) (ret := none) (by decide) rfl ?_
  intro p e s m args below meth c s₁ B hml hno hv
  obtain ⟨rfl, ⟨⟨hsz, hP, hK, hD0, hG⟩, hE⟩, hT⟩ := hv
  have hx := B.exec
  have hb := B.bytes
  have hr := B.returns
  have hts := atoms_spec (ws := w_f_X5_begin__P) B.pre
  have hown : s.vm.findClass RX5 = some m.cls := findClass_of_methodNamed B.named
  have hlocks := B.notSynchronized
  subst hsz
  have hD := hD0.self (sz := s.heap.size)
  generalize hAe : va_A (vC cy a z σ0) s.heap.size = A at hD hE hT ⊢
  have hA : ∀ q : Nat, s.heap.size ≤ q → A q := fun q h => by rw [← hAe]; exact Or.inr h
  have hS : va_S A s.heap s.heap [] := va_S.rf
  have hl := lv_entry ([.ref (a 40), .ref (a (pA (L0.2.2.1 1))), .int (L0.1 2), .int (L0.1 3)]) (n := 4) (Nat.le_of_ble_eq_true rfl)
  rw [lg_entry_eq]
  generalize (lg_sl ([.ref (a 40), .ref (a (pA (L0.2.2.1 1))), .int (L0.1 2), .int (L0.1 3)]) ++ List.replicate (4 - (lg_sl ([.ref (a 40), .ref (a (pA (L0.2.2.1 1))), .int (L0.1 2), .int (L0.1 3)])).length) Slot.unset).toArray = ls at hl ⊢
  have hl : lv_has ls 4 [(0, .ref (a 40)), (1, .ref (a (pA (L0.2.2.1 1)))), (2, .int (L0.1 2)), (3, .int (L0.1 3))] := hl
  generalize hmc : r0.2.2.1 = mc
  generalize hms : r0.2.2.2 = ms
  have blk : ∀ k : Nat, (bX p l e (headSpec w_f_X5_begin__P ({ frames := 5, cells := mc, slots := ms, locals := 155 })).room s m #[.ref (a 40), .ref (a (pA (L0.2.2.1 1))), .int (L0.1 2), .int (L0.1 3)] below meth c dC dI cy a A (fun r => vx_MQ below (xV dC dI cy a A [38] z r) (xX dC dI cy a A [38] z r) #[.ref (a 40), .ref (a (pA (L0.2.2.1 1))), .int (L0.1 2), .int (L0.1 3)] s mc ms A) [38] z mc ms 4 (f_X5_begin__P k 0) (fun z L => [(0, .ref (a 40)), (1, .ref (a (pA (L.2.2.1 1)))), (2, .int (L.1 2)), (3, .int (L.1 3))]) 0 (fun z L => [])) ∧ (bX p l e (headSpec w_f_X5_begin__P ({ frames := 5, cells := mc, slots := ms, locals := 155 })).room s m #[.ref (a 40), .ref (a (pA (L0.2.2.1 1))), .int (L0.1 2), .int (L0.1 3)] below meth c dC dI cy a A (fun r => vx_MQ below (xV dC dI cy a A [38] z r) (xX dC dI cy a A [38] z r) #[.ref (a 40), .ref (a (pA (L0.2.2.1 1))), .int (L0.1 2), .int (L0.1 3)] s mc ms A) [38] z mc ms 4 (f_X5_begin__P k 1) (fun z L => [(0, .ref (a 40))]) 15 (fun z L => [])) ∧ (bX p l e (headSpec w_f_X5_begin__P ({ frames := 5, cells := mc, slots := ms, locals := 155 })).room s m #[.ref (a 40), .ref (a (pA (L0.2.2.1 1))), .int (L0.1 2), .int (L0.1 3)] below meth c dC dI cy a A (fun r => vx_MQ below (xV dC dI cy a A [38] z r) (xX dC dI cy a A [38] z r) #[.ref (a 40), .ref (a (pA (L0.2.2.1 1))), .int (L0.1 2), .int (L0.1 3)] s mc ms A) [38] z mc ms 4 (f_X5_begin__P k 2) (fun z L => [(0, .ref (a 40))]) 30 (fun z L => [])) ∧ (bX p l e (headSpec w_f_X5_begin__P ({ frames := 5, cells := mc, slots := ms, locals := 155 })).room s m #[.ref (a 40), .ref (a (pA (L0.2.2.1 1))), .int (L0.1 2), .int (L0.1 3)] below meth c dC dI cy a A (fun r => vx_MQ below (xV dC dI cy a A [38] z r) (xX dC dI cy a A [38] z r) #[.ref (a 40), .ref (a (pA (L0.2.2.1 1))), .int (L0.1 2), .int (L0.1 3)] s mc ms A) [38] z mc ms 4 (f_X5_begin__P k 3) (fun z L => [(0, .ref (a 40))]) 45 (fun z L => [])) := by
    intro k
    induction k with
    | zero => exact ⟨fun z c1 c2 L σ r h => (by cases h), fun z c1 c2 L σ r h => (by cases h), fun z c1 c2 L σ r h => (by cases h), fun z c1 c2 L σ r h => (by cases h)⟩
    | succ k ih =>
      refine ⟨?_, ?_, ?_, ?_⟩
      · intro z cells slots L σ r h hzk hc hs H locs ls hP hD hS hl
        rw [f_X5_begin__P] at h
        refine lv_aload_n hx hb dX5_begin_0 rfl (lv_at hl 0 rfl) ?_
        refine lv_aload_n hx hb dX5_begin_1 rfl (lv_at hl 1 rfl) ?_
        refine hpq_40_2 hx hb hts in_f_X5_begin__P_X5 hown hK hP hD hS (hts _ (List.mem_cons_of_mem _ (List.mem_append_left _ (List.mem_append_left _ (List.mem_of_getElem? (i := 0) rfl))))) dX5_begin_2 (fun H locs hP hD hS => ?_)
        refine lv_aload_n hx hb dX5_begin_5 rfl (lv_at hl 0 rfl) ?_
        refine lv_iload_n hx hb dX5_begin_6 rfl (lv_at hl 2 rfl) ?_
        refine hp_40_3 hx hb hts in_f_X5_begin__P_X5 hown hK hP hD hS (hts _ (List.mem_cons_of_mem _ (List.mem_append_left _ (List.mem_append_left _ (List.mem_of_getElem? (i := 1) rfl))))) dX5_begin_7 (fun H locs hP hD hS => ?_)
        refine lv_aload_n hx hb dX5_begin_10 rfl (lv_at hl 0 rfl) ?_
        refine lv_iload_n hx hb dX5_begin_11 rfl (lv_at hl 3 rfl) ?_
        refine hp_40_4 hx hb hts in_f_X5_begin__P_X5 hown hK hP hD hS (hts _ (List.mem_cons_of_mem _ (List.mem_append_left _ (List.mem_append_left _ (List.mem_of_getElem? (i := 2) rfl))))) dX5_begin_12 (fun H locs hP hD hS => ?_)
        exact ih.2.1 z _ _ L (uI (uI (uPp σ (some ((L.2.2.1 1)))) 4003 ((L.1 2))) 4004 ((L.1 3))) _ h hzk hc hs H locs ls hP hD hS (lv_sub hl [0] rfl)
      · intro z cells slots L σ r h hzk hc hs H locs ls hP hD hS hl
        rw [f_X5_begin__P] at h
        refine lv_aload_n hx hb dX5_begin_15 rfl (lv_at hl 0 rfl) ?_
        refine lv_iconst (v := 0) hx hb dX5_begin_16 (by decide) ?_
        refine hp_40_5 hx hb hts in_f_X5_begin__P_X5 hown hK hP hD hS (hts _ (List.mem_cons_of_mem _ (List.mem_append_left _ (List.mem_append_left _ (List.mem_of_getElem? (i := 3) rfl))))) dX5_begin_17 (fun H locs hP hD hS => ?_)
        refine lv_aload_n hx hb dX5_begin_20 rfl (lv_at hl 0 rfl) ?_
        refine lv_iconst (v := 0) hx hb dX5_begin_21 (by decide) ?_
        refine hp_40_6 hx hb hts in_f_X5_begin__P_X5 hown hK hP hD hS (hts _ (List.mem_cons_of_mem _ (List.mem_append_left _ (List.mem_append_left _ (List.mem_of_getElem? (i := 4) rfl))))) dX5_begin_22 (fun H locs hP hD hS => ?_)
        refine lv_aload_n hx hb dX5_begin_25 rfl (lv_at hl 0 rfl) ?_
        refine lv_iconst (v := 0) hx hb dX5_begin_26 (by decide) ?_
        refine hp_40_7 hx hb hts in_f_X5_begin__P_X5 hown hK hP hD hS (hts _ (List.mem_cons_of_mem _ (List.mem_append_left _ (List.mem_append_left _ (List.mem_of_getElem? (i := 5) rfl))))) dX5_begin_27 (fun H locs hP hD hS => ?_)
        exact ih.2.2.1 z _ _ L (uI (uI (uI σ 4005 0) 4006 0) 4007 0) _ h hzk hc hs H locs ls hP hD hS (lv_sub hl [0] rfl)
      · intro z cells slots L σ r h hzk hc hs H locs ls hP hD hS hl
        rw [f_X5_begin__P] at h
        refine lv_aload_n hx hb dX5_begin_30 rfl (lv_at hl 0 rfl) ?_
        refine lv_iconst (v := (-1)) hx hb dX5_begin_31 (by decide) ?_
        refine hp_40_8 hx hb hts in_f_X5_begin__P_X5 hown hK hP hD hS (hts _ (List.mem_cons_of_mem _ (List.mem_append_left _ (List.mem_append_left _ (List.mem_of_getElem? (i := 6) rfl))))) dX5_begin_32 (fun H locs hP hD hS => ?_)
        refine lv_aload_n hx hb dX5_begin_35 rfl (lv_at hl 0 rfl) ?_
        refine lv_iconst (v := 0) hx hb dX5_begin_36 (by decide) ?_
        refine hp_40_9 hx hb hts in_f_X5_begin__P_X5 hown hK hP hD hS (hts _ (List.mem_cons_of_mem _ (List.mem_append_left _ (List.mem_append_left _ (List.mem_of_getElem? (i := 7) rfl))))) dX5_begin_37 (fun H locs hP hD hS => ?_)
        refine lv_aload_n hx hb dX5_begin_40 rfl (lv_at hl 0 rfl) ?_
        refine lv_iconst (v := 0) hx hb dX5_begin_41 (by decide) ?_
        refine hp_40_11 hx hb hts in_f_X5_begin__P_X5 hown hK hP hD hS (hts _ (List.mem_cons_of_mem _ (List.mem_append_left _ (List.mem_append_left _ (List.mem_of_getElem? (i := 8) rfl))))) dX5_begin_42 (fun H locs hP hD hS => ?_)
        exact ih.2.2.2 z _ _ L (uI (uI (uI σ 4008 ((-1))) 4009 0) 4011 0) _ h hzk hc hs H locs ls hP hD hS (lv_sub hl [0] rfl)
      · intro z cells slots L σ r h hzk hc hs H locs ls hP hD hS hl
        rw [f_X5_begin__P] at h
        refine lv_aload_n hx hb dX5_begin_45 rfl (lv_at hl 0 rfl) ?_
        refine lv_iconst (v := 0) hx hb dX5_begin_46 (by decide) ?_
        refine hp_40_13 hx hb hts in_f_X5_begin__P_X5 hown hK hP hD hS (hts _ (List.mem_cons_of_mem _ (List.mem_append_left _ (List.mem_append_left _ (List.mem_of_getElem? (i := 9) rfl))))) dX5_begin_47 (fun H locs hP hD hS => ?_)
        refine lv_aload_n hx hb dX5_begin_50 rfl (lv_at hl 0 rfl) ?_
        refine lv_iconst (v := (-1)) hx hb dX5_begin_51 (by decide) ?_
        refine hp_40_16 hx hb hts in_f_X5_begin__P_X5 hown hK hP hD hS (hts _ (List.mem_cons_of_mem _ (List.mem_append_left _ (List.mem_append_left _ (List.mem_of_getElem? (i := 10) rfl))))) dX5_begin_52 (fun H locs hP hD hS => ?_)
        refine lv_aload_n hx hb dX5_begin_55 rfl (lv_at hl 0 rfl) ?_
        refine hg_40_0 hx hb hts in_f_X5_begin__P_X5 hown hK hP (hts _ (List.mem_cons_of_mem _ (List.mem_append_left _ (List.mem_append_left _ (List.mem_of_getElem? (i := 11) rfl))))) dX5_begin_56 ?_
        obtain ⟨r1, hc1, hle1, h9⟩ := ox_ex h
        clear h
        refine kx_v (vx_runV (As := []) (rest := []) ⟨hx, hb, hml, hown, hts⟩ (c_f_X2_rewind l hl0 dC dI cy ek a k lZ (uI (uI σ 4013 0) 4016 ((-1))) r1 hc1 z H.size) (cwV 0 hts g_f_X5_begin__P_X2_rewind_V121 rfl rfl rfl hd_f_X2_rewind ⟨Nat.le_of_ble_eq_true rfl, Nat.le_of_ble_eq_true rfl⟩) ⟨nb_blindF, va_recv hK hP (ci := 2) (q0 := 37) rfl rfl, (kx_pre hK hG hE hT hA hP hD hS)⟩ rfl rfl hl.1 rfl (lv_room (Nat.le_of_ble_eq_true rfl)) dX5_begin_59 ⟨Nat.le_trans (Nat.add_le_add_left hle1.1 _) (Nat.le_of_eq hc), Nat.le_trans (Nat.add_le_add_left hle1.2 _) (Nat.le_of_eq hs)⟩) hK hA hzk hP hD hS (by decide) hno hlocks ?_
        rcases h9 with ⟨h00, y1, hny1, hy⟩ | ⟨h00, hy⟩
        · subst hy
          have h := hny1
          refine Or.inl ⟨h00, fun z H locs hz1 hzk hP hD hS => ?_⟩
          replace hc := (Nat.add_assoc _ _ _).trans hc
          replace hs := (Nat.add_assoc _ _ _).trans hs
          obtain rfl := Option.some.inj h
          subst hc
          subst hs
          exact xr_v hx hb hr hK hzk hP hD hS hlocks dX5_begin_62
        · subst hy
          exact Or.inr ⟨h00, rfl, hc, hs⟩
  exact (blk k0).1 z 0 0 L0 σ0 r0 h0 (zk_rf _ _) ((Nat.zero_add _).trans hmc) ((Nat.zero_add _).trans hms) s.heap [] ls hP hD hS hl
/-! X5_readProgram__P -/
def f_X5_readProgram__P : Nat → Nat → LV → CS → Option RS
  | 0, _, _, _ => none
  | k + 1, 0, L, σ => ox (f_X5_begin__P k 0 (lI (lI (lB lZ 1 ((L.2.2.1 1))) 2 0) 3 2) σ) (fun r1 => oh (f_X2_advance k 0 lZ r1.2.1) (fun r2 => f_X5_readProgram__P k 1 (lI L 2 0) r2.2.1) (fun r2 => op (y_X5_noteFault k 0 lZ r2.2.1) (fun r3 => some ((0, 0), r3.2, (0, 0)))))
  | k + 1, 1, L, σ => if 32768 < ((L.1 2)) then (f_X5_readProgram__P k 2 L σ) else (if ((σ.1 3702)) < 32 then (f_X5_readProgram__P k 2 L σ) else (if 34 < ((σ.1 3702)) then (f_X5_readProgram__P k 2 L σ) else (if ((σ.1 3702)) = 32 then (oh (f_X5_variables k 0 (lI lZ 1 0) σ) (fun r5 => f_X5_readProgram__P k 4 L r5.2.1) (fun r5 => op (y_X5_noteFault k 0 lZ r5.2.1) (fun r6 => some ((0, 0), r6.2, (0, 0))))) else (f_X5_readProgram__P k 3 L σ))))
  | k + 1, 2, L, σ => oh (f_X5_block k 0 lZ (uI σ (fP ((L.2.2.1 1)) 2) ((σ.1 (fP ((L.2.2.1 1)) 1))))) (fun r1 => oh (f_X5_want k 0 (lI lZ 1 1) r1.2.1) (fun r2 => oh (f_X7_emit__P k 0 (lI (lI (lB lZ 0 ((L.2.2.1 1))) 1 1) 2 0) r2.2.1) (fun r3 => some ((0, 1), r3.2.1, (0, 0))) (fun r3 => op (y_X5_noteFault k 0 lZ r3.2.1) (fun r5 => some ((0, 0), r5.2, (0, 0))))) (fun r2 => op (y_X5_noteFault k 0 lZ r2.2.1) (fun r7 => some ((0, 0), r7.2, (0, 0))))) (fun r1 => op (y_X5_noteFault k 0 lZ r1.2.1) (fun r9 => some ((0, 0), r9.2, (0, 0))))
  | k + 1, 3, L, σ => if ((σ.1 3702)) = 34 then (oh (f_X5_function k 0 lZ σ) (fun r2 => f_X5_readProgram__P k 4 L r2.2.1) (fun r2 => op (y_X5_noteFault k 0 lZ r2.2.1) (fun r3 => some ((0, 0), r3.2, (0, 0))))) else (f_X5_readProgram__P k 5 L σ)
  | k + 1, 4, L, σ => f_X5_readProgram__P k 1 (lI L 2 ((((L.1 2)) + 1))) σ
  | k + 1, 5, L, σ => oh (f_X5_procedure k 0 lZ σ) (fun r1 => f_X5_readProgram__P k 4 L r1.2.1) (fun r1 => op (y_X5_noteFault k 0 lZ r1.2.1) (fun r2 => some ((0, 0), r2.2, (0, 0))))
  | _ + 1, _ + 6, _, _ => none
def o_f_X5_readProgram__P : List Cond := [.methodLink RX5 26 yX5_begin, .instanceMethod yX5_begin, .selects RX5 yX5_begin yX5_begin, .initialized RX5, .fieldLink RX5 18 "SetHouse$Parser" "lex" "LSetHouse$Lexer;", .methodLink RX5 30 yX2_advance, .instanceMethod yX2_advance, .selects RX2 yX2_advance yX2_advance, .initialized RX2, .methodLink RX5 72 yX5_noteFault, .instanceMethod yX5_noteFault, .selects RX5 yX5_noteFault yX5_noteFault, .classLink RX5 70 "java/lang/IllegalArgumentException", .constant RX5 35 (32768), .methodLink RX5 40 yX5_variables, .instanceMethod yX5_variables, .selects RX5 yX5_variables yX5_variables, .methodLink RX5 58 yX5_block, .instanceMethod yX5_block, .selects RX5 yX5_block yX5_block, .methodLink RX5 61 yX5_want, .instanceMethod yX5_want, .selects RX5 yX5_want yX5_want, .methodLink RX5 66 yX7_emit, .instanceMethod yX7_emit, .selects RX7 yX7_emit yX7_emit, .initialized RX7, .methodLink RX5 44 yX5_function, .instanceMethod yX5_function, .selects RX5 yX5_function yX5_function, .methodLink RX5 47 yX5_procedure, .instanceMethod yX5_procedure, .selects RX5 yX5_procedure yX5_procedure]
theorem o_f_X5_readProgram__P_good : o_f_X5_readProgram__P.all goodWord = true := by decide +kernel
def p_f_X5_readProgram__P : List Cond := o_f_X5_readProgram__P ++ ((.code yX5_begin cX5_begin 4 none :: p_f_X5_begin__P) ++ ((.code yX2_advance cX2_advance 7 none :: p_f_X2_advance) ++ ((.code yX5_noteFault cX5_noteFault 1 none :: p_y_X5_noteFault) ++ ((.code yX5_variables cX5_variables 3 none :: p_f_X5_variables) ++ ((.code yX5_block cX5_block 3 none :: p_f_F3) ++ ((.code yX5_want cX5_want 2 none :: p_f_X5_want) ++ ((.code yX7_emit cX7_emit 3 (some .int) :: p_f_X7_emit__P) ++ ((.code yX5_function cX5_function 3 none :: p_f_X5_function) ++ ((.code yX5_procedure cX5_procedure 3 none :: p_f_X5_procedure) ++ [])))))))))
theorem p_f_X5_readProgram__P_good : p_f_X5_readProgram__P.all goodWord = true := nb_all2 o_f_X5_readProgram__P_good (nb_all2 (nb_allc (by decide +kernel) p_f_X5_begin__P_good) (nb_all2 (nb_allc (by decide +kernel) p_f_X2_advance_good) (nb_all2 (nb_allc (by decide +kernel) p_y_X5_noteFault_good) (nb_all2 (nb_allc (by decide +kernel) p_f_X5_variables_good) (nb_all2 (nb_allc (by decide +kernel) p_f_F3_good) (nb_all2 (nb_allc (by decide +kernel) p_f_X5_want_good) (nb_all2 (nb_allc (by decide +kernel) p_f_X7_emit__P_good) (nb_all2 (nb_allc (by decide +kernel) p_f_X5_function_good) (nb_all2 (nb_allc (by decide +kernel) p_f_X5_procedure_good) rfl)))))))))
def w_f_X5_readProgram__P : List Cond := .codeWith yX5_readProgram cX5_readProgram 3 (some .boolean) [(7, 120, 121, 70)] :: (p_f_X5_readProgram__P ++ fC)
theorem w_f_X5_readProgram__P_good : w_f_X5_readProgram__P.all goodWord = true := nb_allc (by decide +kernel) (nb_all2 p_f_X5_readProgram__P_good fC_good)
theorem in_f_X5_readProgram__P_X2 : ∀ w ∈ wsX20, w ∈ w_f_X5_readProgram__P := fun _ h => List.mem_cons_of_mem _ (List.mem_append_right _ (List.mem_append_right _ (List.mem_append_right _ (List.mem_append_left _ h))))
theorem in_f_X5_readProgram__P_X5 : ∀ w ∈ wsX50, w ∈ w_f_X5_readProgram__P := fun _ h => List.mem_cons_of_mem _ (List.mem_append_right _ (List.mem_append_right _ (List.mem_append_right _ (List.mem_append_right _ (List.mem_append_right _ (List.mem_append_left _ h))))))
theorem in_f_X5_readProgram__P_X7 : ∀ w ∈ wsX70, w ∈ w_f_X5_readProgram__P := fun _ h => List.mem_cons_of_mem _ (List.mem_append_right _ (List.mem_append_right _ (List.mem_append_right _ (List.mem_append_right _ (List.mem_append_right _ (List.mem_append_right _ (List.mem_append_right _ (List.mem_append_left _ h))))))))
theorem hd_f_X5_readProgram__P : yX5_readProgram.cls = RX5 ∧ yX5_readProgram.cls ≠ "java/lang/invoke/MethodHandle" ∧ yX5_readProgram.cls ≠ "java/lang/invoke/VarHandle" ∧ (parseMethodDescriptor yX5_readProgram.desc).map (fun d => d.parameters.length) = some 1 := by decide +kernel
theorem gg_f_X5_readProgram__P_X2_advance : GoodIn w_f_X5_readProgram__P w_f_X2_advance := goodIn_sub (fun w h => (List.mem_cons.mp h).elim (fun e => (List.mem_cons_of_mem _ (List.mem_append_left _ (List.mem_append_right _ (List.mem_append_right _ (List.mem_append_left _ (List.mem_cons.mpr (Or.inl e)))))))) (fun h => (List.mem_append.mp h).elim (fun h => (List.mem_cons_of_mem _ (List.mem_append_left _ (List.mem_append_right _ (List.mem_append_right _ (List.mem_append_left _ (List.mem_cons_of_mem _ h))))))) (fun h => List.mem_cons_of_mem _ (List.mem_append_right _ h)))) w_f_X2_advance_good
theorem g_f_X5_readProgram__P_X2_advance_V30 : GoodIn w_f_X5_readProgram__P (wsV RX5 30 RX2 yX2_advance w_f_X2_advance) := goodIn_app (nb_g4 (List.mem_cons_of_mem _ (List.mem_append_left _ (List.mem_append_left _ (List.mem_of_getElem? (i := 5) rfl)))) (List.mem_cons_of_mem _ (List.mem_append_left _ (List.mem_append_left _ (List.mem_of_getElem? (i := 6) rfl)))) (List.mem_cons_of_mem _ (List.mem_append_left _ (List.mem_append_left _ (List.mem_of_getElem? (i := 7) rfl)))) (List.mem_cons_of_mem _ (List.mem_append_left _ (List.mem_append_left _ (List.mem_of_getElem? (i := 8) rfl)))) (by decide +kernel)) gg_f_X5_readProgram__P_X2_advance
theorem gg_f_X5_readProgram__P_X5_begin__P : GoodIn w_f_X5_readProgram__P w_f_X5_begin__P := goodIn_sub (fun w h => (List.mem_cons.mp h).elim (fun e => (List.mem_cons_of_mem _ (List.mem_append_left _ (List.mem_append_right _ (List.mem_append_left _ (List.mem_cons.mpr (Or.inl e))))))) (fun h => (List.mem_append.mp h).elim (fun h => (List.mem_cons_of_mem _ (List.mem_append_left _ (List.mem_append_right _ (List.mem_append_left _ (List.mem_cons_of_mem _ h)))))) (fun h => List.mem_cons_of_mem _ (List.mem_append_right _ h)))) w_f_X5_begin__P_good
theorem g_f_X5_readProgram__P_X5_begin__P_V26 : GoodIn w_f_X5_readProgram__P (wsV RX5 26 RX5 yX5_begin w_f_X5_begin__P) := goodIn_app (nb_g4 (List.mem_cons_of_mem _ (List.mem_append_left _ (List.mem_append_left _ (List.mem_of_getElem? (i := 0) rfl)))) (List.mem_cons_of_mem _ (List.mem_append_left _ (List.mem_append_left _ (List.mem_of_getElem? (i := 1) rfl)))) (List.mem_cons_of_mem _ (List.mem_append_left _ (List.mem_append_left _ (List.mem_of_getElem? (i := 2) rfl)))) (List.mem_cons_of_mem _ (List.mem_append_left _ (List.mem_append_left _ (List.mem_of_getElem? (i := 3) rfl)))) (by decide +kernel)) gg_f_X5_readProgram__P_X5_begin__P
theorem gg_f_X5_readProgram__P_X5_block : GoodIn w_f_X5_readProgram__P w_f_X5_block := goodIn_sub (fun w h => (List.mem_cons.mp h).elim (fun e => (List.mem_cons_of_mem _ (List.mem_append_left _ (List.mem_append_right _ (List.mem_append_right _ (List.mem_append_right _ (List.mem_append_right _ (List.mem_append_right _ (List.mem_append_left _ (List.mem_cons.mpr (Or.inl e))))))))))) (fun h => (List.mem_append.mp h).elim (fun h => (List.mem_cons_of_mem _ (List.mem_append_left _ (List.mem_append_right _ (List.mem_append_right _ (List.mem_append_right _ (List.mem_append_right _ (List.mem_append_right _ (List.mem_append_left _ (List.mem_cons_of_mem _ h)))))))))) (fun h => List.mem_cons_of_mem _ (List.mem_append_right _ h)))) w_f_X5_block_good
theorem g_f_X5_readProgram__P_X5_block_V58 : GoodIn w_f_X5_readProgram__P (wsV RX5 58 RX5 yX5_block w_f_X5_block) := goodIn_app (nb_g4 (List.mem_cons_of_mem _ (List.mem_append_left _ (List.mem_append_left _ (List.mem_of_getElem? (i := 17) rfl)))) (List.mem_cons_of_mem _ (List.mem_append_left _ (List.mem_append_left _ (List.mem_of_getElem? (i := 18) rfl)))) (List.mem_cons_of_mem _ (List.mem_append_left _ (List.mem_append_left _ (List.mem_of_getElem? (i := 19) rfl)))) (List.mem_cons_of_mem _ (List.mem_append_left _ (List.mem_append_left _ (List.mem_of_getElem? (i := 3) rfl)))) (by decide +kernel)) gg_f_X5_readProgram__P_X5_block
theorem gg_f_X5_readProgram__P_X5_function : GoodIn w_f_X5_readProgram__P w_f_X5_function := goodIn_sub (fun w h => (List.mem_cons.mp h).elim (fun e => (List.mem_cons_of_mem _ (List.mem_append_left _ (List.mem_append_right _ (List.mem_append_right _ (List.mem_append_right _ (List.mem_append_right _ (List.mem_append_right _ (List.mem_append_right _ (List.mem_append_right _ (List.mem_append_right _ (List.mem_append_left _ (List.mem_cons.mpr (Or.inl e)))))))))))))) (fun h => (List.mem_append.mp h).elim (fun h => (List.mem_cons_of_mem _ (List.mem_append_left _ (List.mem_append_right _ (List.mem_append_right _ (List.mem_append_right _ (List.mem_append_right _ (List.mem_append_right _ (List.mem_append_right _ (List.mem_append_right _ (List.mem_append_right _ (List.mem_append_left _ (List.mem_cons_of_mem _ h))))))))))))) (fun h => List.mem_cons_of_mem _ (List.mem_append_right _ h)))) w_f_X5_function_good
theorem g_f_X5_readProgram__P_X5_function_V44 : GoodIn w_f_X5_readProgram__P (wsV RX5 44 RX5 yX5_function w_f_X5_function) := goodIn_app (nb_g4 (List.mem_cons_of_mem _ (List.mem_append_left _ (List.mem_append_left _ (List.mem_of_getElem? (i := 27) rfl)))) (List.mem_cons_of_mem _ (List.mem_append_left _ (List.mem_append_left _ (List.mem_of_getElem? (i := 28) rfl)))) (List.mem_cons_of_mem _ (List.mem_append_left _ (List.mem_append_left _ (List.mem_of_getElem? (i := 29) rfl)))) (List.mem_cons_of_mem _ (List.mem_append_left _ (List.mem_append_left _ (List.mem_of_getElem? (i := 3) rfl)))) (by decide +kernel)) gg_f_X5_readProgram__P_X5_function
theorem gg_f_X5_readProgram__P_X5_procedure : GoodIn w_f_X5_readProgram__P w_f_X5_procedure := goodIn_sub (fun w h => (List.mem_cons.mp h).elim (fun e => (List.mem_cons_of_mem _ (List.mem_append_left _ (List.mem_append_right _ (List.mem_append_right _ (List.mem_append_right _ (List.mem_append_right _ (List.mem_append_right _ (List.mem_append_right _ (List.mem_append_right _ (List.mem_append_right _ (List.mem_append_right _ (List.mem_append_left _ (List.mem_cons.mpr (Or.inl e))))))))))))))) (fun h => (List.mem_append.mp h).elim (fun h => (List.mem_cons_of_mem _ (List.mem_append_left _ (List.mem_append_right _ (List.mem_append_right _ (List.mem_append_right _ (List.mem_append_right _ (List.mem_append_right _ (List.mem_append_right _ (List.mem_append_right _ (List.mem_append_right _ (List.mem_append_right _ (List.mem_append_left _ (List.mem_cons_of_mem _ h)))))))))))))) (fun h => List.mem_cons_of_mem _ (List.mem_append_right _ h)))) w_f_X5_procedure_good
theorem g_f_X5_readProgram__P_X5_procedure_V47 : GoodIn w_f_X5_readProgram__P (wsV RX5 47 RX5 yX5_procedure w_f_X5_procedure) := goodIn_app (nb_g4 (List.mem_cons_of_mem _ (List.mem_append_left _ (List.mem_append_left _ (List.mem_of_getElem? (i := 30) rfl)))) (List.mem_cons_of_mem _ (List.mem_append_left _ (List.mem_append_left _ (List.mem_of_getElem? (i := 31) rfl)))) (List.mem_cons_of_mem _ (List.mem_append_left _ (List.mem_append_left _ (List.mem_of_getElem? (i := 32) rfl)))) (List.mem_cons_of_mem _ (List.mem_append_left _ (List.mem_append_left _ (List.mem_of_getElem? (i := 3) rfl)))) (by decide +kernel)) gg_f_X5_readProgram__P_X5_procedure
theorem gg_f_X5_readProgram__P_X5_variables : GoodIn w_f_X5_readProgram__P w_f_X5_variables := goodIn_sub (fun w h => (List.mem_cons.mp h).elim (fun e => (List.mem_cons_of_mem _ (List.mem_append_left _ (List.mem_append_right _ (List.mem_append_right _ (List.mem_append_right _ (List.mem_append_right _ (List.mem_append_left _ (List.mem_cons.mpr (Or.inl e)))))))))) (fun h => (List.mem_append.mp h).elim (fun h => (List.mem_cons_of_mem _ (List.mem_append_left _ (List.mem_append_right _ (List.mem_append_right _ (List.mem_append_right _ (List.mem_append_right _ (List.mem_append_left _ (List.mem_cons_of_mem _ h))))))))) (fun h => List.mem_cons_of_mem _ (List.mem_append_right _ h)))) w_f_X5_variables_good
theorem g_f_X5_readProgram__P_X5_variables_V40 : GoodIn w_f_X5_readProgram__P (wsV RX5 40 RX5 yX5_variables w_f_X5_variables) := goodIn_app (nb_g4 (List.mem_cons_of_mem _ (List.mem_append_left _ (List.mem_append_left _ (List.mem_of_getElem? (i := 14) rfl)))) (List.mem_cons_of_mem _ (List.mem_append_left _ (List.mem_append_left _ (List.mem_of_getElem? (i := 15) rfl)))) (List.mem_cons_of_mem _ (List.mem_append_left _ (List.mem_append_left _ (List.mem_of_getElem? (i := 16) rfl)))) (List.mem_cons_of_mem _ (List.mem_append_left _ (List.mem_append_left _ (List.mem_of_getElem? (i := 3) rfl)))) (by decide +kernel)) gg_f_X5_readProgram__P_X5_variables
theorem gg_f_X5_readProgram__P_X5_want : GoodIn w_f_X5_readProgram__P w_f_X5_want := goodIn_sub (fun w h => (List.mem_cons.mp h).elim (fun e => (List.mem_cons_of_mem _ (List.mem_append_left _ (List.mem_append_right _ (List.mem_append_right _ (List.mem_append_right _ (List.mem_append_right _ (List.mem_append_right _ (List.mem_append_right _ (List.mem_append_left _ (List.mem_cons.mpr (Or.inl e)))))))))))) (fun h => (List.mem_append.mp h).elim (fun h => (List.mem_cons_of_mem _ (List.mem_append_left _ (List.mem_append_right _ (List.mem_append_right _ (List.mem_append_right _ (List.mem_append_right _ (List.mem_append_right _ (List.mem_append_right _ (List.mem_append_left _ (List.mem_cons_of_mem _ h))))))))))) (fun h => List.mem_cons_of_mem _ (List.mem_append_right _ h)))) w_f_X5_want_good
theorem g_f_X5_readProgram__P_X5_want_V61 : GoodIn w_f_X5_readProgram__P (wsV RX5 61 RX5 yX5_want w_f_X5_want) := goodIn_app (nb_g4 (List.mem_cons_of_mem _ (List.mem_append_left _ (List.mem_append_left _ (List.mem_of_getElem? (i := 20) rfl)))) (List.mem_cons_of_mem _ (List.mem_append_left _ (List.mem_append_left _ (List.mem_of_getElem? (i := 21) rfl)))) (List.mem_cons_of_mem _ (List.mem_append_left _ (List.mem_append_left _ (List.mem_of_getElem? (i := 22) rfl)))) (List.mem_cons_of_mem _ (List.mem_append_left _ (List.mem_append_left _ (List.mem_of_getElem? (i := 3) rfl)))) (by decide +kernel)) gg_f_X5_readProgram__P_X5_want
theorem gg_f_X5_readProgram__P_X7_emit__P : GoodIn w_f_X5_readProgram__P w_f_X7_emit__P := goodIn_sub (fun w h => (List.mem_cons.mp h).elim (fun e => (List.mem_cons_of_mem _ (List.mem_append_left _ (List.mem_append_right _ (List.mem_append_right _ (List.mem_append_right _ (List.mem_append_right _ (List.mem_append_right _ (List.mem_append_right _ (List.mem_append_right _ (List.mem_append_left _ (List.mem_cons.mpr (Or.inl e))))))))))))) (fun h => (List.mem_append.mp h).elim (fun h => (List.mem_cons_of_mem _ (List.mem_append_left _ (List.mem_append_right _ (List.mem_append_right _ (List.mem_append_right _ (List.mem_append_right _ (List.mem_append_right _ (List.mem_append_right _ (List.mem_append_right _ (List.mem_append_left _ (List.mem_cons_of_mem _ h)))))))))))) (fun h => List.mem_cons_of_mem _ (List.mem_append_right _ h)))) w_f_X7_emit__P_good
theorem g_f_X5_readProgram__P_X7_emit__P_V66 : GoodIn w_f_X5_readProgram__P (wsV RX5 66 RX7 yX7_emit w_f_X7_emit__P) := goodIn_app (nb_g4 (List.mem_cons_of_mem _ (List.mem_append_left _ (List.mem_append_left _ (List.mem_of_getElem? (i := 23) rfl)))) (List.mem_cons_of_mem _ (List.mem_append_left _ (List.mem_append_left _ (List.mem_of_getElem? (i := 24) rfl)))) (List.mem_cons_of_mem _ (List.mem_append_left _ (List.mem_append_left _ (List.mem_of_getElem? (i := 25) rfl)))) (List.mem_cons_of_mem _ (List.mem_append_left _ (List.mem_append_left _ (List.mem_of_getElem? (i := 26) rfl)))) (by decide +kernel)) gg_f_X5_readProgram__P_X7_emit__P
theorem gg_f_X5_readProgram__P_X5_noteFault : GoodIn w_f_X5_readProgram__P w_y_X5_noteFault := goodIn_sub (fun w h => (List.mem_cons.mp h).elim (fun e => (List.mem_cons_of_mem _ (List.mem_append_left _ (List.mem_append_right _ (List.mem_append_right _ (List.mem_append_right _ (List.mem_append_left _ (List.mem_cons.mpr (Or.inl e))))))))) (fun h => (List.mem_append.mp h).elim (fun h => (List.mem_cons_of_mem _ (List.mem_append_left _ (List.mem_append_right _ (List.mem_append_right _ (List.mem_append_right _ (List.mem_append_left _ (List.mem_cons_of_mem _ h)))))))) (fun h => List.mem_cons_of_mem _ (List.mem_append_right _ h)))) w_y_X5_noteFault_good
theorem g_y_X5_readProgram__P_X5_noteFault_V72 : GoodIn w_f_X5_readProgram__P (wsV RX5 72 RX5 yX5_noteFault w_y_X5_noteFault) := goodIn_app (nb_g4 (List.mem_cons_of_mem _ (List.mem_append_left _ (List.mem_append_left _ (List.mem_of_getElem? (i := 9) rfl)))) (List.mem_cons_of_mem _ (List.mem_append_left _ (List.mem_append_left _ (List.mem_of_getElem? (i := 10) rfl)))) (List.mem_cons_of_mem _ (List.mem_append_left _ (List.mem_append_left _ (List.mem_of_getElem? (i := 11) rfl)))) (List.mem_cons_of_mem _ (List.mem_append_left _ (List.mem_append_left _ (List.mem_of_getElem? (i := 3) rfl)))) (by decide +kernel)) gg_f_X5_readProgram__P_X5_noteFault
set_option maxHeartbeats 40000000 in
set_option maxRecDepth 100000 in
theorem c_f_X5_readProgram__P (l : Launch) (hl0 : l.stackTraces = false) (dC : Nat → ClassId) (dI : Nat → Nat → Nat) (cy : Nat → ClassId) (ek a : Nat → Nat) (k0 : Nat) (L0 : LV) (σ0 : CS) (r0 : RS) (h0 : f_X5_readProgram__P k0 0 L0 σ0 = some r0) (z : Nat → Nat) (sz : Nat) : vx_Met l yX5_readProgram w_f_X5_readProgram__P ({ frames := 534, cells := r0.2.2.1, slots := r0.2.2.2, locals := 16859 }) (va_Pc [.ref (a 40), .ref (a (pA (L0.2.2.1 1)))] (nInF (dC, dI) cy ek sz (vC cy a z σ0))) (xI dC dI cy a (va_A (vC cy a z σ0) sz) [38, 41, 42, 43, 51] z r0) (xX dC dI cy a (va_A (vC cy a z σ0) sz) [38, 41, 42, 43, 51] z r0) r0.2.2.1 r0.2.2.2 (va_A (vC cy a z σ0) sz) := by
  refine vx_ofWH (cc := cX5_readProgram) (maxL := 3) (ret := (some .boolean)) (by decide) rfl ?_
  intro p e s m args below meth c s₁ B hml hv
  obtain ⟨rfl, ⟨⟨hsz, hP, hK, hD0, hG⟩, hE⟩, hT⟩ := hv
  have hx := B.exec
  have hb := B.bytes
  have hr := B.returns
  have hts := atoms_spec (ws := w_f_X5_readProgram__P) B.pre
  have hown : s.vm.findClass RX5 = some m.cls := findClass_of_methodNamed B.named
  have hTb : c.exceptionTable.toList = tableOf [(7, 120, 121, 70)] := vx_table (x := yX5_readProgram) B (hts _ List.mem_cons_self)
  have hlocks := B.notSynchronized
  subst hsz
  have hD := hD0.self (sz := s.heap.size)
  generalize hAe : va_A (vC cy a z σ0) s.heap.size = A at hD hE hT ⊢
  have hA : ∀ q : Nat, s.heap.size ≤ q → A q := fun q h => by rw [← hAe]; exact Or.inr h
  have hS : va_S A s.heap s.heap [] := va_S.rf
  have hl := lv_entry ([.ref (a 40), .ref (a (pA (L0.2.2.1 1)))]) (n := 3) (Nat.le_of_ble_eq_true rfl)
  rw [lg_entry_eq]
  generalize (lg_sl ([.ref (a 40), .ref (a (pA (L0.2.2.1 1)))]) ++ List.replicate (3 - (lg_sl ([.ref (a 40), .ref (a (pA (L0.2.2.1 1)))])).length) Slot.unset).toArray = ls at hl ⊢
  have hl : lv_has ls 3 [(0, .ref (a 40)), (1, .ref (a (pA (L0.2.2.1 1))))] := hl
  generalize hmc : r0.2.2.1 = mc
  generalize hms : r0.2.2.2 = ms
  have blk : ∀ k : Nat, (bX p l e (headSpec w_f_X5_readProgram__P ({ frames := 534, cells := mc, slots := ms, locals := 16859 })).room s m #[.ref (a 40), .ref (a (pA (L0.2.2.1 1)))] below meth c dC dI cy a A (fun r => vx_MQ below (xI dC dI cy a A [38, 41, 42, 43, 51] z r) (xX dC dI cy a A [38, 41, 42, 43, 51] z r) #[.ref (a 40), .ref (a (pA (L0.2.2.1 1)))] s mc ms A) [38, 41, 42, 43, 51] z mc ms 3 (f_X5_readProgram__P k 0) (fun z L => [(0, .ref (a 40)), (1, .ref (a (pA (L.2.2.1 1))))]) 0 (fun z L => [])) ∧ (bX p l e (headSpec w_f_X5_readProgram__P ({ frames := 534, cells := mc, slots := ms, locals := 16859 })).room s m #[.ref (a 40), .ref (a (pA (L0.2.2.1 1)))] below meth c dC dI cy a A (fun r => vx_MQ below (xI dC dI cy a A [38, 41, 42, 43, 51] z r) (xX dC dI cy a A [38, 41, 42, 43, 51] z r) #[.ref (a 40), .ref (a (pA (L0.2.2.1 1)))] s mc ms A) [38, 41, 42, 43, 51] z mc ms 3 (f_X5_readProgram__P k 1) (fun z L => [(0, .ref (a 40)), (1, .ref (a (pA (L.2.2.1 1)))), (2, .int (L.1 2))]) 16 (fun z L => [])) ∧ (bX p l e (headSpec w_f_X5_readProgram__P ({ frames := 534, cells := mc, slots := ms, locals := 16859 })).room s m #[.ref (a 40), .ref (a (pA (L0.2.2.1 1)))] below meth c dC dI cy a A (fun r => vx_MQ below (xI dC dI cy a A [38, 41, 42, 43, 51] z r) (xX dC dI cy a A [38, 41, 42, 43, 51] z r) #[.ref (a 40), .ref (a (pA (L0.2.2.1 1)))] s mc ms A) [38, 41, 42, 43, 51] z mc ms 3 (f_X5_readProgram__P k 2) (fun z L => [(0, .ref (a 40)), (1, .ref (a (pA (L.2.2.1 1))))]) 95 (fun z L => [])) ∧ (bX p l e (headSpec w_f_X5_readProgram__P ({ frames := 534, cells := mc, slots := ms, locals := 16859 })).room s m #[.ref (a 40), .ref (a (pA (L0.2.2.1 1)))] below meth c dC dI cy a A (fun r => vx_MQ below (xI dC dI cy a A [38, 41, 42, 43, 51] z r) (xX dC dI cy a A [38, 41, 42, 43, 51] z r) #[.ref (a 40), .ref (a (pA (L0.2.2.1 1)))] s mc ms A) [38, 41, 42, 43, 51] z mc ms 3 (f_X5_readProgram__P k 3) (fun z L => [(0, .ref (a 40)), (1, .ref (a (pA (L.2.2.1 1)))), (2, .int (L.1 2))]) 66 (fun z L => [])) ∧ (bX p l e (headSpec w_f_X5_readProgram__P ({ frames := 534, cells := mc, slots := ms, locals := 16859 })).room s m #[.ref (a 40), .ref (a (pA (L0.2.2.1 1)))] below meth c dC dI cy a A (fun r => vx_MQ below (xI dC dI cy a A [38, 41, 42, 43, 51] z r) (xX dC dI cy a A [38, 41, 42, 43, 51] z r) #[.ref (a 40), .ref (a (pA (L0.2.2.1 1)))] s mc ms A) [38, 41, 42, 43, 51] z mc ms 3 (f_X5_readProgram__P k 4) (fun z L => [(0, .ref (a 40)), (1, .ref (a (pA (L.2.2.1 1)))), (2, .int (L.1 2))]) 89 (fun z L => [])) ∧ (bX p l e (headSpec w_f_X5_readProgram__P ({ frames := 534, cells := mc, slots := ms, locals := 16859 })).room s m #[.ref (a 40), .ref (a (pA (L0.2.2.1 1)))] below meth c dC dI cy a A (fun r => vx_MQ below (xI dC dI cy a A [38, 41, 42, 43, 51] z r) (xX dC dI cy a A [38, 41, 42, 43, 51] z r) #[.ref (a 40), .ref (a (pA (L0.2.2.1 1)))] s mc ms A) [38, 41, 42, 43, 51] z mc ms 3 (f_X5_readProgram__P k 5) (fun z L => [(0, .ref (a 40)), (1, .ref (a (pA (L.2.2.1 1)))), (2, .int (L.1 2))]) 85 (fun z L => [])) := by
    intro k
    induction k with
    | zero => exact ⟨fun z c1 c2 L σ r h => (by cases h), fun z c1 c2 L σ r h => (by cases h), fun z c1 c2 L σ r h => (by cases h), fun z c1 c2 L σ r h => (by cases h), fun z c1 c2 L σ r h => (by cases h), fun z c1 c2 L σ r h => (by cases h)⟩
    | succ k ih =>
      refine ⟨?_, ?_, ?_, ?_, ?_, ?_⟩
      · intro z cells slots L σ r h hzk hc hs H locs ls hP hD hS hl
        rw [f_X5_readProgram__P] at h
        refine lv_aload_n hx hb dX5_readProgram_0 rfl (lv_at hl 0 rfl) ?_
        refine lv_aload_n hx hb dX5_readProgram_1 rfl (lv_at hl 1 rfl) ?_
        refine lv_iconst (v := 0) hx hb dX5_readProgram_2 (by decide) ?_
        refine lv_iconst (v := 2) hx hb dX5_readProgram_3 (by decide) ?_
        obtain ⟨r1, hc1, hle1, h9⟩ := ox_ex h
        clear h
        refine kt_v (vx_runV (As := [.ref (a (pA (L.2.2.1 1))), .int 0, .int 2]) (rest := []) ⟨hx, hb, hml, hown, hts⟩ (c_f_X5_begin__P l hl0 dC dI cy ek a k (lI (lI (lB lZ 1 ((L.2.2.1 1))) 2 0) 3 2) σ r1 hc1 z H.size) (cwV 3 hts g_f_X5_readProgram__P_X5_begin__P_V26 rfl rfl rfl hd_f_X5_begin__P ⟨Nat.le_of_ble_eq_true rfl, Nat.le_of_ble_eq_true rfl⟩) ⟨nb_blindF, va_recv hK hP (ci := 4) (q0 := 40) rfl rfl, (kx_pre hK hG hE hT hA hP hD hS)⟩ rfl rfl hl.1 rfl (lv_room (Nat.le_of_ble_eq_true rfl)) dX5_readProgram_4 ⟨Nat.le_trans (Nat.add_le_add_left hle1.1 _) (Nat.le_of_eq hc), Nat.le_trans (Nat.add_le_add_left hle1.2 _) (Nat.le_of_eq hs)⟩) hA hP hD hS ?_ ?_
        · intro h00 z H locs hz1 hP hD hS
          rcases h9 with ⟨_, y1, hny1, hy⟩ | ⟨h01, _⟩
          · subst hy
            have h := hny1
            have hzk := zk_tr hzk hz1 (by decide)
            replace hc := (Nat.add_assoc _ _ _).trans hc
            replace hs := (Nat.add_assoc _ _ _).trans hs
            refine lv_aload_n hx hb dX5_readProgram_7 rfl (lv_at hl 0 rfl) ?_
            refine hg_40_0 hx hb hts in_f_X5_readProgram__P_X5 hown hK hP (hts _ (List.mem_cons_of_mem _ (List.mem_append_left _ (List.mem_append_left _ (List.mem_of_getElem? (i := 4) rfl))))) dX5_readProgram_8 ?_
            obtain ⟨r2, hc2, hle2, h9⟩ := oh_ex h
            clear h
            refine kt_v (vx_runV (As := []) (rest := []) ⟨hx, hb, hml, hown, hts⟩ (c_f_X2_advance l hl0 dC dI cy ek a k lZ r1.2.1 r2 hc2 z H.size) (cwV 0 hts g_f_X5_readProgram__P_X2_advance_V30 rfl rfl rfl hd_f_X2_advance ⟨Nat.le_of_ble_eq_true rfl, Nat.le_of_ble_eq_true rfl⟩) ⟨nb_blindF, va_recv hK hP (ci := 2) (q0 := 37) rfl rfl, (kx_pre hK hG hE hT hA hP hD hS)⟩ rfl rfl hl.1 rfl (lv_room (Nat.le_of_ble_eq_true rfl)) dX5_readProgram_11 ⟨Nat.le_trans (Nat.add_le_add_left hle2.1 _) (Nat.le_of_eq hc), Nat.le_trans (Nat.add_le_add_left hle2.2 _) (Nat.le_of_eq hs)⟩) hA hP hD hS ?_ ?_
            · intro h00 u H locs hz2 hP hD hS
              rcases h9 with ⟨_, y2, hny2, hy⟩ | ⟨h01, _⟩
              · subst hy
                have h := hny2
                obtain rfl := (zk_nil hz2).symm
                replace hc := (Nat.add_assoc _ _ _).trans hc
                replace hs := (Nat.add_assoc _ _ _).trans hs
                refine lv_iconst (v := 0) hx hb dX5_readProgram_14 (by decide) ?_
                refine lv_istore_n (lv' := [(2, .int 0), (0, .ref (a 40)), (1, .ref (a (pA (L.2.2.1 1))))]) hx hb dX5_readProgram_15 rfl hl (by decide) rfl (fun ls hl => ?_)
                exact ih.2.1 z _ _ (lI L 2 0) r2.2.1 _ h hzk hc hs H locs ls hP hD hS (lv_sub hl [1, 2, 0] rfl)
              · exact absurd h00 (by rw [h01]; decide)
            · intro h00 u H locs q9 ce hz2 hP hD hS hce hcv hcl
              rcases h9 with ⟨h01, _⟩ | ⟨h01, y2, hny2, hy⟩
              · exact absurd h01 h00
              · subst hy
                have h := hny2
                rw [h01] at hcl
                obtain rfl := (zk_nil hz2).symm
                replace hc := (Nat.add_assoc _ _ _).trans hc
                replace hs := (Nat.add_assoc _ _ _).trans hs
                refine vx_catch (E := "java/lang/IllegalArgumentException") (name := "java/lang/IllegalArgumentException") hown [] (⟨7, 120, 121, 70⟩ : ExceptionTableEntry) [] (by rw [hTb]; rfl) (fun z h => absurd h List.not_mem_nil) (by decide) (by decide) (hts _ (List.mem_cons_of_mem _ (List.mem_append_left _ (List.mem_append_left _ (List.mem_of_getElem? (i := 12) rfl))))) (va_Nw.use (by decide +kernel) (hT.2.2.1 _ (List.mem_of_getElem? (i := 1) rfl))) hce hcv hcl ?_
                refine lv_astore_n (lv' := [(2, .ref q9), (0, .ref (a 40)), (1, .ref (a (pA (L.2.2.1 1))))]) hx hb dX5_readProgram_121 rfl hl (by decide) rfl (fun ls hl => ?_)
                refine lv_aload_n hx hb dX5_readProgram_122 rfl (lv_at hl 1 rfl) ?_
                obtain ⟨r3, hc3, h⟩ := op_ex h
                refine kc_v (va_runV (As := []) (rest := []) ⟨hx, hb, hml, hown, hts⟩ (c_y_X5_noteFault l dC dI cy a z k lZ r2.2.1 r3 hc3 H.size) (cwV 0 hts g_y_X5_readProgram__P_X5_noteFault_V72 rfl rfl rfl hd_y_X5_noteFault ⟨Nat.le_of_ble_eq_true rfl, Nat.le_of_ble_eq_true rfl⟩) ⟨nb_blind, va_recv hK hP (ci := 4) (q0 := 40) rfl rfl, (kb_pre hK hG hP hD)⟩ rfl rfl hl.1 rfl (lv_room (Nat.le_of_ble_eq_true rfl)) dX5_readProgram_123 ⟨(Nat.le_trans (Nat.le_add_right _ _) (Nat.le_of_eq hc)), (Nat.le_trans (Nat.le_add_right _ _) (Nat.le_of_eq hs))⟩) hA hP hD hS (fun H locs hP hD hS => ?_)
                refine lv_iconst (v := 0) hx hb dX5_readProgram_126 (by decide) ?_
                obtain rfl := Option.some.inj h
                subst hc
                subst hs
                exact xr_z (Or.inl rfl) hx hb hr hK hzk hP hD hS hlocks dX5_readProgram_127
          · exact absurd h00 h01
        · intro h00 u H locs q9 ce hz1 hP hD hS hce hcv hcl
          rcases h9 with ⟨h01, _⟩ | ⟨_, hy⟩
          · exact absurd h01 h00
          · subst hy
            exact ko_x (fun x hx => by rw [hTb] at hx; simp only [tableOf, List.map, List.mem_singleton] at hx; subst hx; decide) hlocks h00 hK (zk_tr hzk hz1 (by decide)) hP hD hS hce hcv hcl hc hs
      · intro z cells slots L σ r h hzk hc hs H locs ls hP hD hS hl
        rw [f_X5_readProgram__P] at h
        refine lv_iload_n hx hb dX5_readProgram_16 rfl (lv_at hl 2 rfl) ?_
        refine lv_ldc (v := 32768) hx hb hown (hts _ (List.mem_cons_of_mem _ (List.mem_append_left _ (List.mem_append_left _ (List.mem_of_getElem? (i := 13) rfl))))) dX5_readProgram_17 ?_
        refine lv_icmp_gt (tgt := 95) hx hb dX5_readProgram_19 (by decide) (fun c1 => ?_) (fun c1 => ?_)
        · rw [if_pos c1] at h
          exact ih.2.2.1 z _ _ L σ _ h hzk hc hs H locs ls hP hD hS (lv_sub hl [0, 1] rfl)
        · rw [if_neg c1] at h
          refine lv_aload_n hx hb dX5_readProgram_22 rfl (lv_at hl 0 rfl) ?_
          refine hg_40_0 hx hb hts in_f_X5_readProgram__P_X5 hown hK hP (hts _ (List.mem_cons_of_mem _ (List.mem_append_left _ (List.mem_append_left _ (List.mem_of_getElem? (i := 4) rfl))))) dX5_readProgram_23 ?_
          refine hg_37_2n hx hb hts in_f_X5_readProgram__P_X2 hown hK hP (va_Nw.use rfl (hG.1 _ (List.mem_of_getElem? (i := 52) rfl))) dX5_readProgram_26 ?_
          refine lv_bipush (v := 32) hx hb dX5_readProgram_29 (by decide) ?_
          refine lv_icmp_lt (tgt := 95) hx hb dX5_readProgram_31 (by decide) (fun c2 => ?_) (fun c2 => ?_)
          · rw [if_pos c2] at h
            exact ih.2.2.1 z _ _ L σ _ h hzk hc hs H locs ls hP hD hS (lv_sub hl [0, 1] rfl)
          · rw [if_neg c2] at h
            refine lv_aload_n hx hb dX5_readProgram_34 rfl (lv_at hl 0 rfl) ?_
            refine hg_40_0 hx hb hts in_f_X5_readProgram__P_X5 hown hK hP (hts _ (List.mem_cons_of_mem _ (List.mem_append_left _ (List.mem_append_left _ (List.mem_of_getElem? (i := 4) rfl))))) dX5_readProgram_35 ?_
            refine hg_37_2n hx hb hts in_f_X5_readProgram__P_X2 hown hK hP (va_Nw.use rfl (hG.1 _ (List.mem_of_getElem? (i := 52) rfl))) dX5_readProgram_38 ?_
            refine lv_bipush (v := 34) hx hb dX5_readProgram_41 (by decide) ?_
            refine lv_icmp_gt (tgt := 95) hx hb dX5_readProgram_43 (by decide) (fun c3 => ?_) (fun c3 => ?_)
            · rw [if_pos c3] at h
              exact ih.2.2.1 z _ _ L σ _ h hzk hc hs H locs ls hP hD hS (lv_sub hl [0, 1] rfl)
            · rw [if_neg c3] at h
              refine lv_aload_n hx hb dX5_readProgram_46 rfl (lv_at hl 0 rfl) ?_
              refine hg_40_0 hx hb hts in_f_X5_readProgram__P_X5 hown hK hP (hts _ (List.mem_cons_of_mem _ (List.mem_append_left _ (List.mem_append_left _ (List.mem_of_getElem? (i := 4) rfl))))) dX5_readProgram_47 ?_
              refine hg_37_2n hx hb hts in_f_X5_readProgram__P_X2 hown hK hP (va_Nw.use rfl (hG.1 _ (List.mem_of_getElem? (i := 52) rfl))) dX5_readProgram_50 ?_
              refine lv_bipush (v := 32) hx hb dX5_readProgram_53 (by decide) ?_
              refine lv_icmp_ne (tgt := 66) hx hb dX5_readProgram_55 (by decide) (fun c4 => ?_) (fun c4 => ?_)
              · rw [if_neg c4] at h
                exact ih.2.2.2.1 z _ _ L σ _ h hzk hc hs H locs ls hP hD hS (lv_sub hl [0, 1, 2] rfl)
              · rw [if_pos c4] at h
                refine lv_aload_n hx hb dX5_readProgram_58 rfl (lv_at hl 0 rfl) ?_
                refine lv_iconst (v := 0) hx hb dX5_readProgram_59 (by decide) ?_
                obtain ⟨r5, hc5, hle5, h9⟩ := oh_ex h
                clear h
                refine kt_v (vx_runV (As := [.int 0]) (rest := []) ⟨hx, hb, hml, hown, hts⟩ (c_f_X5_variables l hl0 dC dI cy ek a k (lI lZ 1 0) σ r5 hc5 z H.size) (cwV 1 hts g_f_X5_readProgram__P_X5_variables_V40 rfl rfl rfl hd_f_X5_variables ⟨Nat.le_of_ble_eq_true rfl, Nat.le_of_ble_eq_true rfl⟩) ⟨nb_blindF, va_recv hK hP (ci := 4) (q0 := 40) rfl rfl, (kx_pre hK hG hE hT hA hP hD hS)⟩ rfl rfl hl.1 rfl (lv_room (Nat.le_of_ble_eq_true rfl)) dX5_readProgram_60 ⟨Nat.le_trans (Nat.add_le_add_left hle5.1 _) (Nat.le_of_eq hc), Nat.le_trans (Nat.add_le_add_left hle5.2 _) (Nat.le_of_eq hs)⟩) hA hP hD hS ?_ ?_
                · intro h00 u H locs hz5 hP hD hS
                  rcases h9 with ⟨_, y5, hny5, hy⟩ | ⟨h01, _⟩
                  · subst hy
                    have h := hny5
                    obtain rfl := (zk_nil hz5).symm
                    replace hc := (Nat.add_assoc _ _ _).trans hc
                    replace hs := (Nat.add_assoc _ _ _).trans hs
                    refine lv_goto (tgt := 89) hx hb dX5_readProgram_63 (by decide) ?_
                    exact ih.2.2.2.2.1 z _ _ L r5.2.1 _ h hzk hc hs H locs ls hP hD hS (lv_sub hl [0, 1, 2] rfl)
                  · exact absurd h00 (by rw [h01]; decide)
                · intro h00 u H locs q9 ce hz5 hP hD hS hce hcv hcl
                  rcases h9 with ⟨h01, _⟩ | ⟨h01, y5, hny5, hy⟩
                  · exact absurd h01 h00
                  · subst hy
                    have h := hny5
                    rw [h01] at hcl
                    obtain rfl := (zk_nil hz5).symm
                    replace hc := (Nat.add_assoc _ _ _).trans hc
                    replace hs := (Nat.add_assoc _ _ _).trans hs
                    refine vx_catch (E := "java/lang/IllegalArgumentException") (name := "java/lang/IllegalArgumentException") hown [] (⟨7, 120, 121, 70⟩ : ExceptionTableEntry) [] (by rw [hTb]; rfl) (fun z h => absurd h List.not_mem_nil) (by decide) (by decide) (hts _ (List.mem_cons_of_mem _ (List.mem_append_left _ (List.mem_append_left _ (List.mem_of_getElem? (i := 12) rfl))))) (va_Nw.use (by decide +kernel) (hT.2.2.1 _ (List.mem_of_getElem? (i := 1) rfl))) hce hcv hcl ?_
                    refine lv_astore_n (lv' := [(2, .ref q9), (0, .ref (a 40)), (1, .ref (a (pA (L.2.2.1 1))))]) hx hb dX5_readProgram_121 rfl hl (by decide) rfl (fun ls hl => ?_)
                    refine lv_aload_n hx hb dX5_readProgram_122 rfl (lv_at hl 1 rfl) ?_
                    obtain ⟨r6, hc6, h⟩ := op_ex h
                    refine kc_v (va_runV (As := []) (rest := []) ⟨hx, hb, hml, hown, hts⟩ (c_y_X5_noteFault l dC dI cy a z k lZ r5.2.1 r6 hc6 H.size) (cwV 0 hts g_y_X5_readProgram__P_X5_noteFault_V72 rfl rfl rfl hd_y_X5_noteFault ⟨Nat.le_of_ble_eq_true rfl, Nat.le_of_ble_eq_true rfl⟩) ⟨nb_blind, va_recv hK hP (ci := 4) (q0 := 40) rfl rfl, (kb_pre hK hG hP hD)⟩ rfl rfl hl.1 rfl (lv_room (Nat.le_of_ble_eq_true rfl)) dX5_readProgram_123 ⟨(Nat.le_trans (Nat.le_add_right _ _) (Nat.le_of_eq hc)), (Nat.le_trans (Nat.le_add_right _ _) (Nat.le_of_eq hs))⟩) hA hP hD hS (fun H locs hP hD hS => ?_)
                    refine lv_iconst (v := 0) hx hb dX5_readProgram_126 (by decide) ?_
                    obtain rfl := Option.some.inj h
                    subst hc
                    subst hs
                    exact xr_z (Or.inl rfl) hx hb hr hK hzk hP hD hS hlocks dX5_readProgram_127
      · intro z cells slots L σ r h hzk hc hs H locs ls hP hD hS hl
        rw [f_X5_readProgram__P] at h
        refine lv_aload_n hx hb dX5_readProgram_95 rfl (lv_at hl 1 rfl) ?_
        refine lv_aload_n hx hb dX5_readProgram_96 rfl (lv_at hl 1 rfl) ?_
        refine hg_P_1n ((L.2.2.1 1)) hx hb hts in_f_X5_readProgram__P_X7 hown hK hP (va_Nw.use rfl (hG.1 _ (List.mem_of_getElem? (i := 68) rfl))) dX5_readProgram_97 ?_
        refine hp_P_2n ((L.2.2.1 1)) hx hb hts in_f_X5_readProgram__P_X7 hown hK hP hD hS (va_Nw.use rfl (hG.1 _ (List.mem_of_getElem? (i := 70) rfl))) dX5_readProgram_100 (fun H locs hP hD hS => ?_)
        refine lv_aload_n hx hb dX5_readProgram_103 rfl (lv_at hl 0 rfl) ?_
        obtain ⟨r1, hc1, hle1, h9⟩ := oh_ex h
        clear h
        refine kt_v (vx_runV (As := []) (rest := []) ⟨hx, hb, hml, hown, hts⟩ (c_f_X5_block l hl0 dC dI cy ek a k lZ (uI σ (fP ((L.2.2.1 1)) 2) ((σ.1 (fP ((L.2.2.1 1)) 1)))) r1 hc1 z H.size) (cwV 0 hts g_f_X5_readProgram__P_X5_block_V58 rfl rfl rfl hd_f_X5_block ⟨Nat.le_of_ble_eq_true rfl, Nat.le_of_ble_eq_true rfl⟩) ⟨nb_blindF, va_recv hK hP (ci := 4) (q0 := 40) rfl rfl, (kx_pre hK hG hE hT hA hP hD hS)⟩ rfl rfl hl.1 rfl (lv_room (Nat.le_of_ble_eq_true rfl)) dX5_readProgram_104 ⟨Nat.le_trans (Nat.add_le_add_left hle1.1 _) (Nat.le_of_eq hc), Nat.le_trans (Nat.add_le_add_left hle1.2 _) (Nat.le_of_eq hs)⟩) hA hP hD hS ?_ ?_
        · intro h00 z H locs hz1 hP hD hS
          rcases h9 with ⟨_, y1, hny1, hy⟩ | ⟨h01, _⟩
          · subst hy
            have h := hny1
            have hzk := zk_tr hzk hz1 (by decide)
            replace hc := (Nat.add_assoc _ _ _).trans hc
            replace hs := (Nat.add_assoc _ _ _).trans hs
            refine lv_aload_n hx hb dX5_readProgram_107 rfl (lv_at hl 0 rfl) ?_
            refine lv_iconst (v := 1) hx hb dX5_readProgram_108 (by decide) ?_
            obtain ⟨r2, hc2, hle2, h9⟩ := oh_ex h
            clear h
            refine kt_v (vx_runV (As := [.int 1]) (rest := []) ⟨hx, hb, hml, hown, hts⟩ (c_f_X5_want l hl0 dC dI cy ek a k (lI lZ 1 1) r1.2.1 r2 hc2 z H.size) (cwV 1 hts g_f_X5_readProgram__P_X5_want_V61 rfl rfl rfl hd_f_X5_want ⟨Nat.le_of_ble_eq_true rfl, Nat.le_of_ble_eq_true rfl⟩) ⟨nb_blindF, va_recv hK hP (ci := 4) (q0 := 40) rfl rfl, (kx_pre hK hG hE hT hA hP hD hS)⟩ rfl rfl hl.1 rfl (lv_room (Nat.le_of_ble_eq_true rfl)) dX5_readProgram_109 ⟨Nat.le_trans (Nat.add_le_add_left hle2.1 _) (Nat.le_of_eq hc), Nat.le_trans (Nat.add_le_add_left hle2.2 _) (Nat.le_of_eq hs)⟩) hA hP hD hS ?_ ?_
            · intro h00 u H locs hz2 hP hD hS
              rcases h9 with ⟨_, y2, hny2, hy⟩ | ⟨h01, _⟩
              · subst hy
                have h := hny2
                obtain rfl := (zk_nil hz2).symm
                replace hc := (Nat.add_assoc _ _ _).trans hc
                replace hs := (Nat.add_assoc _ _ _).trans hs
                refine lv_aload_n hx hb dX5_readProgram_112 rfl (lv_at hl 1 rfl) ?_
                refine lv_iconst (v := 1) hx hb dX5_readProgram_113 (by decide) ?_
                refine lv_iconst (v := 0) hx hb dX5_readProgram_114 (by decide) ?_
                obtain ⟨r3, hc3, hle3, h9⟩ := oh_ex h
                clear h
                refine kt_i (vx_runV (As := [.int 1, .int 0]) (rest := []) ⟨hx, hb, hml, hown, hts⟩ (c_f_X7_emit__P l hl0 dC dI cy ek a k (lI (lI (lB lZ 0 ((L.2.2.1 1))) 1 1) 2 0) r2.2.1 r3 hc3 z H.size) (cwV 2 hts g_f_X5_readProgram__P_X7_emit__P_V66 rfl rfl rfl hd_f_X7_emit__P ⟨Nat.le_of_ble_eq_true rfl, Nat.le_of_ble_eq_true rfl⟩) ⟨nb_blindF, recvP ((L.2.2.1 1)) hK hP, (kx_pre hK hG hE hT hA hP hD hS)⟩ rfl rfl hl.1 rfl (lv_room (Nat.le_of_ble_eq_true rfl)) dX5_readProgram_115 ⟨Nat.le_trans (Nat.add_le_add_left hle3.1 _) (Nat.le_of_eq hc), Nat.le_trans (Nat.add_le_add_left hle3.2 _) (Nat.le_of_eq hs)⟩) hA hP hD hS ?_ ?_
                · intro h00 z H locs hz3 hP hD hS
                  rcases h9 with ⟨_, y3, hny3, hy⟩ | ⟨h01, _⟩
                  · subst hy
                    have h := hny3
                    have hzk := zk_tr hzk hz3 (by decide)
                    replace hc := (Nat.add_assoc _ _ _).trans hc
                    replace hs := (Nat.add_assoc _ _ _).trans hs
                    refine lv_pop hx hb dX5_readProgram_118 rfl ?_
                    refine lv_iconst (v := 1) hx hb dX5_readProgram_119 (by decide) ?_
                    obtain rfl := Option.some.inj h
                    subst hc
                    subst hs
                    exact xr_z (Or.inr rfl) hx hb hr hK hzk hP hD hS hlocks dX5_readProgram_120
                  · exact absurd h00 (by rw [h01]; decide)
                · intro h00 z H locs q9 ce hz3 hP hD hS hce hcv hcl
                  rcases h9 with ⟨h01, _⟩ | ⟨h01, y3, hny3, hy⟩
                  · exact absurd h01 h00
                  · subst hy
                    have h := hny3
                    rw [h01] at hcl
                    have hzk := zk_tr hzk hz3 (by decide)
                    replace hc := (Nat.add_assoc _ _ _).trans hc
                    replace hs := (Nat.add_assoc _ _ _).trans hs
                    refine vx_catch (E := "java/lang/IllegalArgumentException") (name := "java/lang/IllegalArgumentException") hown [] (⟨7, 120, 121, 70⟩ : ExceptionTableEntry) [] (by rw [hTb]; rfl) (fun z h => absurd h List.not_mem_nil) (by decide) (by decide) (hts _ (List.mem_cons_of_mem _ (List.mem_append_left _ (List.mem_append_left _ (List.mem_of_getElem? (i := 12) rfl))))) (va_Nw.use (by decide +kernel) (hT.2.2.1 _ (List.mem_of_getElem? (i := 1) rfl))) hce hcv hcl ?_
                    refine lv_astore_n (lv' := [(2, .ref q9), (0, .ref (a 40)), (1, .ref (a (pA (L.2.2.1 1))))]) hx hb dX5_readProgram_121 rfl hl (by decide) rfl (fun ls hl => ?_)
                    refine lv_aload_n hx hb dX5_readProgram_122 rfl (lv_at hl 1 rfl) ?_
                    obtain ⟨r5, hc5, h⟩ := op_ex h
                    refine kc_v (va_runV (As := []) (rest := []) ⟨hx, hb, hml, hown, hts⟩ (c_y_X5_noteFault l dC dI cy a z k lZ r3.2.1 r5 hc5 H.size) (cwV 0 hts g_y_X5_readProgram__P_X5_noteFault_V72 rfl rfl rfl hd_y_X5_noteFault ⟨Nat.le_of_ble_eq_true rfl, Nat.le_of_ble_eq_true rfl⟩) ⟨nb_blind, va_recv hK hP (ci := 4) (q0 := 40) rfl rfl, (kb_pre hK hG hP hD)⟩ rfl rfl hl.1 rfl (lv_room (Nat.le_of_ble_eq_true rfl)) dX5_readProgram_123 ⟨(Nat.le_trans (Nat.le_add_right _ _) (Nat.le_of_eq hc)), (Nat.le_trans (Nat.le_add_right _ _) (Nat.le_of_eq hs))⟩) hA hP hD hS (fun H locs hP hD hS => ?_)
                    refine lv_iconst (v := 0) hx hb dX5_readProgram_126 (by decide) ?_
                    obtain rfl := Option.some.inj h
                    subst hc
                    subst hs
                    exact xr_z (Or.inl rfl) hx hb hr hK hzk hP hD hS hlocks dX5_readProgram_127
              · exact absurd h00 (by rw [h01]; decide)
            · intro h00 u H locs q9 ce hz2 hP hD hS hce hcv hcl
              rcases h9 with ⟨h01, _⟩ | ⟨h01, y2, hny2, hy⟩
              · exact absurd h01 h00
              · subst hy
                have h := hny2
                rw [h01] at hcl
                obtain rfl := (zk_nil hz2).symm
                replace hc := (Nat.add_assoc _ _ _).trans hc
                replace hs := (Nat.add_assoc _ _ _).trans hs
                refine vx_catch (E := "java/lang/IllegalArgumentException") (name := "java/lang/IllegalArgumentException") hown [] (⟨7, 120, 121, 70⟩ : ExceptionTableEntry) [] (by rw [hTb]; rfl) (fun z h => absurd h List.not_mem_nil) (by decide) (by decide) (hts _ (List.mem_cons_of_mem _ (List.mem_append_left _ (List.mem_append_left _ (List.mem_of_getElem? (i := 12) rfl))))) (va_Nw.use (by decide +kernel) (hT.2.2.1 _ (List.mem_of_getElem? (i := 1) rfl))) hce hcv hcl ?_
                refine lv_astore_n (lv' := [(2, .ref q9), (0, .ref (a 40)), (1, .ref (a (pA (L.2.2.1 1))))]) hx hb dX5_readProgram_121 rfl hl (by decide) rfl (fun ls hl => ?_)
                refine lv_aload_n hx hb dX5_readProgram_122 rfl (lv_at hl 1 rfl) ?_
                obtain ⟨r7, hc7, h⟩ := op_ex h
                refine kc_v (va_runV (As := []) (rest := []) ⟨hx, hb, hml, hown, hts⟩ (c_y_X5_noteFault l dC dI cy a z k lZ r2.2.1 r7 hc7 H.size) (cwV 0 hts g_y_X5_readProgram__P_X5_noteFault_V72 rfl rfl rfl hd_y_X5_noteFault ⟨Nat.le_of_ble_eq_true rfl, Nat.le_of_ble_eq_true rfl⟩) ⟨nb_blind, va_recv hK hP (ci := 4) (q0 := 40) rfl rfl, (kb_pre hK hG hP hD)⟩ rfl rfl hl.1 rfl (lv_room (Nat.le_of_ble_eq_true rfl)) dX5_readProgram_123 ⟨(Nat.le_trans (Nat.le_add_right _ _) (Nat.le_of_eq hc)), (Nat.le_trans (Nat.le_add_right _ _) (Nat.le_of_eq hs))⟩) hA hP hD hS (fun H locs hP hD hS => ?_)
                refine lv_iconst (v := 0) hx hb dX5_readProgram_126 (by decide) ?_
                obtain rfl := Option.some.inj h
                subst hc
                subst hs
                exact xr_z (Or.inl rfl) hx hb hr hK hzk hP hD hS hlocks dX5_readProgram_127
          · exact absurd h00 (by rw [h01]; decide)
        · intro h00 z H locs q9 ce hz1 hP hD hS hce hcv hcl
          rcases h9 with ⟨h01, _⟩ | ⟨h01, y1, hny1, hy⟩
          · exact absurd h01 h00
          · subst hy
            have h := hny1
            rw [h01] at hcl
            have hzk := zk_tr hzk hz1 (by decide)
            replace hc := (Nat.add_assoc _ _ _).trans hc
            replace hs := (Nat.add_assoc _ _ _).trans hs
            refine vx_catch (E := "java/lang/IllegalArgumentException") (name := "java/lang/IllegalArgumentException") hown [] (⟨7, 120, 121, 70⟩ : ExceptionTableEntry) [] (by rw [hTb]; rfl) (fun z h => absurd h List.not_mem_nil) (by decide) (by decide) (hts _ (List.mem_cons_of_mem _ (List.mem_append_left _ (List.mem_append_left _ (List.mem_of_getElem? (i := 12) rfl))))) (va_Nw.use (by decide +kernel) (hT.2.2.1 _ (List.mem_of_getElem? (i := 1) rfl))) hce hcv hcl ?_
            refine lv_astore_n (lv' := [(2, .ref q9), (0, .ref (a 40)), (1, .ref (a (pA (L.2.2.1 1))))]) hx hb dX5_readProgram_121 rfl hl (by decide) rfl (fun ls hl => ?_)
            refine lv_aload_n hx hb dX5_readProgram_122 rfl (lv_at hl 1 rfl) ?_
            obtain ⟨r9, hc9, h⟩ := op_ex h
            refine kc_v (va_runV (As := []) (rest := []) ⟨hx, hb, hml, hown, hts⟩ (c_y_X5_noteFault l dC dI cy a z k lZ r1.2.1 r9 hc9 H.size) (cwV 0 hts g_y_X5_readProgram__P_X5_noteFault_V72 rfl rfl rfl hd_y_X5_noteFault ⟨Nat.le_of_ble_eq_true rfl, Nat.le_of_ble_eq_true rfl⟩) ⟨nb_blind, va_recv hK hP (ci := 4) (q0 := 40) rfl rfl, (kb_pre hK hG hP hD)⟩ rfl rfl hl.1 rfl (lv_room (Nat.le_of_ble_eq_true rfl)) dX5_readProgram_123 ⟨(Nat.le_trans (Nat.le_add_right _ _) (Nat.le_of_eq hc)), (Nat.le_trans (Nat.le_add_right _ _) (Nat.le_of_eq hs))⟩) hA hP hD hS (fun H locs hP hD hS => ?_)
            refine lv_iconst (v := 0) hx hb dX5_readProgram_126 (by decide) ?_
            obtain rfl := Option.some.inj h
            subst hc
            subst hs
            exact xr_z (Or.inl rfl) hx hb hr hK hzk hP hD hS hlocks dX5_readProgram_127
      · intro z cells slots L σ r h hzk hc hs H locs ls hP hD hS hl
        rw [f_X5_readProgram__P] at h
        refine lv_aload_n hx hb dX5_readProgram_66 rfl (lv_at hl 0 rfl) ?_
        refine hg_40_0 hx hb hts in_f_X5_readProgram__P_X5 hown hK hP (hts _ (List.mem_cons_of_mem _ (List.mem_append_left _ (List.mem_append_left _ (List.mem_of_getElem? (i := 4) rfl))))) dX5_readProgram_67 ?_
        refine hg_37_2n hx hb hts in_f_X5_readProgram__P_X2 hown hK hP (va_Nw.use rfl (hG.1 _ (List.mem_of_getElem? (i := 52) rfl))) dX5_readProgram_70 ?_
        refine lv_bipush (v := 34) hx hb dX5_readProgram_73 (by decide) ?_
        refine lv_icmp_ne (tgt := 85) hx hb dX5_readProgram_75 (by decide) (fun c1 => ?_) (fun c1 => ?_)
        · rw [if_neg c1] at h
          exact ih.2.2.2.2.2 z _ _ L σ _ h hzk hc hs H locs ls hP hD hS (lv_sub hl [0, 1, 2] rfl)
        · rw [if_pos c1] at h
          refine lv_aload_n hx hb dX5_readProgram_78 rfl (lv_at hl 0 rfl) ?_
          obtain ⟨r2, hc2, hle2, h9⟩ := oh_ex h
          clear h
          refine kt_v (vx_runV (As := []) (rest := []) ⟨hx, hb, hml, hown, hts⟩ (c_f_X5_function l hl0 dC dI cy ek a k lZ σ r2 hc2 z H.size) (cwV 0 hts g_f_X5_readProgram__P_X5_function_V44 rfl rfl rfl hd_f_X5_function ⟨Nat.le_of_ble_eq_true rfl, Nat.le_of_ble_eq_true rfl⟩) ⟨nb_blindF, va_recv hK hP (ci := 4) (q0 := 40) rfl rfl, (kx_pre hK hG hE hT hA hP hD hS)⟩ rfl rfl hl.1 rfl (lv_room (Nat.le_of_ble_eq_true rfl)) dX5_readProgram_79 ⟨Nat.le_trans (Nat.add_le_add_left hle2.1 _) (Nat.le_of_eq hc), Nat.le_trans (Nat.add_le_add_left hle2.2 _) (Nat.le_of_eq hs)⟩) hA hP hD hS ?_ ?_
          · intro h00 z H locs hz2 hP hD hS
            rcases h9 with ⟨_, y2, hny2, hy⟩ | ⟨h01, _⟩
            · subst hy
              have h := hny2
              have hzk := zk_tr hzk hz2 (by decide)
              replace hc := (Nat.add_assoc _ _ _).trans hc
              replace hs := (Nat.add_assoc _ _ _).trans hs
              refine lv_goto (tgt := 89) hx hb dX5_readProgram_82 (by decide) ?_
              exact ih.2.2.2.2.1 z _ _ L r2.2.1 _ h hzk hc hs H locs ls hP hD hS (lv_sub hl [0, 1, 2] rfl)
            · exact absurd h00 (by rw [h01]; decide)
          · intro h00 z H locs q9 ce hz2 hP hD hS hce hcv hcl
            rcases h9 with ⟨h01, _⟩ | ⟨h01, y2, hny2, hy⟩
            · exact absurd h01 h00
            · subst hy
              have h := hny2
              rw [h01] at hcl
              have hzk := zk_tr hzk hz2 (by decide)
              replace hc := (Nat.add_assoc _ _ _).trans hc
              replace hs := (Nat.add_assoc _ _ _).trans hs
              refine vx_catch (E := "java/lang/IllegalArgumentException") (name := "java/lang/IllegalArgumentException") hown [] (⟨7, 120, 121, 70⟩ : ExceptionTableEntry) [] (by rw [hTb]; rfl) (fun z h => absurd h List.not_mem_nil) (by decide) (by decide) (hts _ (List.mem_cons_of_mem _ (List.mem_append_left _ (List.mem_append_left _ (List.mem_of_getElem? (i := 12) rfl))))) (va_Nw.use (by decide +kernel) (hT.2.2.1 _ (List.mem_of_getElem? (i := 1) rfl))) hce hcv hcl ?_
              refine lv_astore_n (lv' := [(2, .ref q9), (0, .ref (a 40)), (1, .ref (a (pA (L.2.2.1 1))))]) hx hb dX5_readProgram_121 rfl hl (by decide) rfl (fun ls hl => ?_)
              refine lv_aload_n hx hb dX5_readProgram_122 rfl (lv_at hl 1 rfl) ?_
              obtain ⟨r3, hc3, h⟩ := op_ex h
              refine kc_v (va_runV (As := []) (rest := []) ⟨hx, hb, hml, hown, hts⟩ (c_y_X5_noteFault l dC dI cy a z k lZ r2.2.1 r3 hc3 H.size) (cwV 0 hts g_y_X5_readProgram__P_X5_noteFault_V72 rfl rfl rfl hd_y_X5_noteFault ⟨Nat.le_of_ble_eq_true rfl, Nat.le_of_ble_eq_true rfl⟩) ⟨nb_blind, va_recv hK hP (ci := 4) (q0 := 40) rfl rfl, (kb_pre hK hG hP hD)⟩ rfl rfl hl.1 rfl (lv_room (Nat.le_of_ble_eq_true rfl)) dX5_readProgram_123 ⟨(Nat.le_trans (Nat.le_add_right _ _) (Nat.le_of_eq hc)), (Nat.le_trans (Nat.le_add_right _ _) (Nat.le_of_eq hs))⟩) hA hP hD hS (fun H locs hP hD hS => ?_)
              refine lv_iconst (v := 0) hx hb dX5_readProgram_126 (by decide) ?_
              obtain rfl := Option.some.inj h
              subst hc
              subst hs
              exact xr_z (Or.inl rfl) hx hb hr hK hzk hP hD hS hlocks dX5_readProgram_127
      · intro z cells slots L σ r h hzk hc hs H locs ls hP hD hS hl
        rw [f_X5_readProgram__P] at h
        refine lv_iinc (v := ((L.1 2)) + 1) (lv' := [(2, .int (((L.1 2)) + 1)), (0, .ref (a 40)), (1, .ref (a (pA (L.2.2.1 1))))]) hx hb dX5_readProgram_89 hl (k := 2) rfl rfl (by decide) rfl (fun ls hl => ?_)
        refine lv_goto (tgt := 16) hx hb dX5_readProgram_92 (by decide) ?_
        exact ih.2.1 z _ _ (lI L 2 ((((L.1 2)) + 1))) σ _ h hzk hc hs H locs ls hP hD hS (lv_sub hl [1, 2, 0] rfl)
      · intro z cells slots L σ r h hzk hc hs H locs ls hP hD hS hl
        rw [f_X5_readProgram__P] at h
        refine lv_aload_n hx hb dX5_readProgram_85 rfl (lv_at hl 0 rfl) ?_
        obtain ⟨r1, hc1, hle1, h9⟩ := oh_ex h
        clear h
        refine kt_v (vx_runV (As := []) (rest := []) ⟨hx, hb, hml, hown, hts⟩ (c_f_X5_procedure l hl0 dC dI cy ek a k lZ σ r1 hc1 z H.size) (cwV 0 hts g_f_X5_readProgram__P_X5_procedure_V47 rfl rfl rfl hd_f_X5_procedure ⟨Nat.le_of_ble_eq_true rfl, Nat.le_of_ble_eq_true rfl⟩) ⟨nb_blindF, va_recv hK hP (ci := 4) (q0 := 40) rfl rfl, (kx_pre hK hG hE hT hA hP hD hS)⟩ rfl rfl hl.1 rfl (lv_room (Nat.le_of_ble_eq_true rfl)) dX5_readProgram_86 ⟨Nat.le_trans (Nat.add_le_add_left hle1.1 _) (Nat.le_of_eq hc), Nat.le_trans (Nat.add_le_add_left hle1.2 _) (Nat.le_of_eq hs)⟩) hA hP hD hS ?_ ?_
        · intro h00 z H locs hz1 hP hD hS
          rcases h9 with ⟨_, y1, hny1, hy⟩ | ⟨h01, _⟩
          · subst hy
            have h := hny1
            have hzk := zk_tr hzk hz1 (by decide)
            replace hc := (Nat.add_assoc _ _ _).trans hc
            replace hs := (Nat.add_assoc _ _ _).trans hs
            exact ih.2.2.2.2.1 z _ _ L r1.2.1 _ h hzk hc hs H locs ls hP hD hS (lv_sub hl [0, 1, 2] rfl)
          · exact absurd h00 (by rw [h01]; decide)
        · intro h00 z H locs q9 ce hz1 hP hD hS hce hcv hcl
          rcases h9 with ⟨h01, _⟩ | ⟨h01, y1, hny1, hy⟩
          · exact absurd h01 h00
          · subst hy
            have h := hny1
            rw [h01] at hcl
            have hzk := zk_tr hzk hz1 (by decide)
            replace hc := (Nat.add_assoc _ _ _).trans hc
            replace hs := (Nat.add_assoc _ _ _).trans hs
            refine vx_catch (E := "java/lang/IllegalArgumentException") (name := "java/lang/IllegalArgumentException") hown [] (⟨7, 120, 121, 70⟩ : ExceptionTableEntry) [] (by rw [hTb]; rfl) (fun z h => absurd h List.not_mem_nil) (by decide) (by decide) (hts _ (List.mem_cons_of_mem _ (List.mem_append_left _ (List.mem_append_left _ (List.mem_of_getElem? (i := 12) rfl))))) (va_Nw.use (by decide +kernel) (hT.2.2.1 _ (List.mem_of_getElem? (i := 1) rfl))) hce hcv hcl ?_
            refine lv_astore_n (lv' := [(2, .ref q9), (0, .ref (a 40)), (1, .ref (a (pA (L.2.2.1 1))))]) hx hb dX5_readProgram_121 rfl hl (by decide) rfl (fun ls hl => ?_)
            refine lv_aload_n hx hb dX5_readProgram_122 rfl (lv_at hl 1 rfl) ?_
            obtain ⟨r2, hc2, h⟩ := op_ex h
            refine kc_v (va_runV (As := []) (rest := []) ⟨hx, hb, hml, hown, hts⟩ (c_y_X5_noteFault l dC dI cy a z k lZ r1.2.1 r2 hc2 H.size) (cwV 0 hts g_y_X5_readProgram__P_X5_noteFault_V72 rfl rfl rfl hd_y_X5_noteFault ⟨Nat.le_of_ble_eq_true rfl, Nat.le_of_ble_eq_true rfl⟩) ⟨nb_blind, va_recv hK hP (ci := 4) (q0 := 40) rfl rfl, (kb_pre hK hG hP hD)⟩ rfl rfl hl.1 rfl (lv_room (Nat.le_of_ble_eq_true rfl)) dX5_readProgram_123 ⟨(Nat.le_trans (Nat.le_add_right _ _) (Nat.le_of_eq hc)), (Nat.le_trans (Nat.le_add_right _ _) (Nat.le_of_eq hs))⟩) hA hP hD hS (fun H locs hP hD hS => ?_)
            refine lv_iconst (v := 0) hx hb dX5_readProgram_126 (by decide) ?_
            obtain rfl := Option.some.inj h
            subst hc
            subst hs
            exact xr_z (Or.inl rfl) hx hb hr hK hzk hP hD hS hlocks dX5_readProgram_127
  exact (blk k0).1 z 0 0 L0 σ0 r0 h0 (zk_rf _ _) ((Nat.zero_add _).trans hmc) ((Nat.zero_add _).trans hms) s.heap [] ls hP hD hS hl
/-! X11_program -/
def f_X11_program : Nat → Nat → LV → CS → Option RS
  | 0, _, _, _ => none
  | k + 1, 0, L, σ => op (y_X7_emptyBehind__P__P k 0 (lB (lB lZ 0 ((sOt σ))) 1 ((sCur σ))) σ) (fun r1 => ox (f_X5_readProgram__P k 0 (lB lZ 1 ((sOt r1.2))) r1.2) (fun r2 => f_X11_program k 1 (lI L 1 r2.1.2) (uKd (uI (uI r2.2.1 3701 0) 7512 (((uI r2.2.1 3701 0).1 4006))) ((sCur (uI (uI r2.2.1 3701 0) 7512 (((uI r2.2.1 3701 0).1 4006))))) ((sKd (uI (uI r2.2.1 3701 0) 7512 (((uI r2.2.1 3701 0).1 4006))) ((sOt (uI (uI r2.2.1 3701 0) 7512 (((uI r2.2.1 3701 0).1 4006))))))))))
  | k + 1, 1, L, σ => if ((L.1 1)) = 0 then (some ((0, (((-1)) - ((σ.1 4007)))), σ, (0, 0))) else (f_X11_program k 2 L σ)
  | k + 1, 2, L, σ => op (y_X7_moveDown__P k 0 (lI (lB lZ 0 ((sOt σ))) 1 ((σ.1 (fP ((sCur σ)) 1)))) σ) (fun r1 => f_X11_program k 3 L (uI (uOt (uCur r1.2 ((sOt r1.2))) ((sCur r1.2))) 7510 1))
  | k + 1, 3, L, σ => some ((0, ((uI (uI σ 7511 0) 7513 0).1 (fP ((sCur (uI (uI σ 7511 0) 7513 0))) 3))), (uI (uI σ 7511 0) 7513 0), (0, 0))
  | _ + 1, _ + 4, _, _ => none
def o_f_X11_program : List Cond := [.fieldLink RX11 92 "SetHouse" "other" "LSetHouse$Program;", .fieldLink RX11 88 "SetHouse" "current" "LSetHouse$Program;", .methodLink RX11 111 yX7_emptyBehind, .instanceMethod yX7_emptyBehind, .selects RX7 yX7_emptyBehind yX7_emptyBehind, .initialized RX7, .fieldLink RX11 81 "SetHouse" "parser" "LSetHouse$Parser;", .methodLink RX11 130 yX5_readProgram, .instanceMethod yX5_readProgram, .selects RX5 yX5_readProgram yX5_readProgram, .initialized RX5, .fieldLink RX11 72 "SetHouse" "lex" "LSetHouse$Lexer;", .fieldLink RX11 137 "SetHouse" "latestFault" "I", .methodLink RX11 149 yX7_moveDown, .instanceMethod yX7_moveDown, .selects RX7 yX7_moveDown yX7_moveDown, .fieldLink RX11 152 "SetHouse" "hasProgram" "Z", .fieldLink RX11 156 "SetHouse" "hasRun" "Z", .fieldLink RX11 159 "SetHouse" "views" "I"]
theorem o_f_X11_program_good : o_f_X11_program.all goodWord = true := by decide +kernel
def p_f_X11_program : List Cond := o_f_X11_program ++ ((.code yX7_emptyBehind cX7_emptyBehind 2 none :: p_y_X7_emptyBehind__P__P) ++ ((.codeWith yX5_readProgram cX5_readProgram 3 (some .boolean) [(7, 120, 121, 70)] :: p_f_X5_readProgram__P) ++ ((.code yX7_moveDown cX7_moveDown 3 none :: p_y_X7_moveDown__P) ++ [])))
theorem p_f_X11_program_good : p_f_X11_program.all goodWord = true := nb_all2 o_f_X11_program_good (nb_all2 (nb_allc (by decide +kernel) p_y_X7_emptyBehind__P__P_good) (nb_all2 (nb_allc (by decide +kernel) p_f_X5_readProgram__P_good) (nb_all2 (nb_allc (by decide +kernel) p_y_X7_moveDown__P_good) rfl)))
def w_f_X11_program : List Cond := .code yX11_program cX11_program 3 (some .int) :: (p_f_X11_program ++ fC)
theorem w_f_X11_program_good : w_f_X11_program.all goodWord = true := nb_allc (by decide +kernel) (nb_all2 p_f_X11_program_good fC_good)
theorem in_f_X11_program_X2 : ∀ w ∈ wsX20, w ∈ w_f_X11_program := fun _ h => List.mem_cons_of_mem _ (List.mem_append_right _ (List.mem_append_right _ (List.mem_append_right _ (List.mem_append_left _ h))))
theorem in_f_X11_program_X5 : ∀ w ∈ wsX50, w ∈ w_f_X11_program := fun _ h => List.mem_cons_of_mem _ (List.mem_append_right _ (List.mem_append_right _ (List.mem_append_right _ (List.mem_append_right _ (List.mem_append_right _ (List.mem_append_left _ h))))))
theorem in_f_X11_program_X7 : ∀ w ∈ wsX70, w ∈ w_f_X11_program := fun _ h => List.mem_cons_of_mem _ (List.mem_append_right _ (List.mem_append_right _ (List.mem_append_right _ (List.mem_append_right _ (List.mem_append_right _ (List.mem_append_right _ (List.mem_append_right _ (List.mem_append_left _ h))))))))
theorem in_f_X11_program_X11 : ∀ w ∈ wsX110, w ∈ w_f_X11_program := fun _ h => List.mem_cons_of_mem _ (List.mem_append_right _ (List.mem_append_right _ (List.mem_append_right _ (List.mem_append_right _ (List.mem_append_right _ (List.mem_append_right _ (List.mem_append_right _ (List.mem_append_right _ (List.mem_append_right _ (List.mem_append_right _ (List.mem_append_right _ h)))))))))))
theorem hd_f_X11_program : yX11_program.cls = RX11 ∧ yX11_program.cls ≠ "java/lang/invoke/MethodHandle" ∧ yX11_program.cls ≠ "java/lang/invoke/VarHandle" ∧ (parseMethodDescriptor yX11_program.desc).map (fun d => d.parameters.length) = some 0 := by decide +kernel
theorem gg_f_X11_program_X5_readProgram__P : GoodIn w_f_X11_program w_f_X5_readProgram__P := goodIn_sub (fun w h => (List.mem_cons.mp h).elim (fun e => (List.mem_cons_of_mem _ (List.mem_append_left _ (List.mem_append_right _ (List.mem_append_right _ (List.mem_append_left _ (List.mem_cons.mpr (Or.inl e)))))))) (fun h => (List.mem_append.mp h).elim (fun h => (List.mem_cons_of_mem _ (List.mem_append_left _ (List.mem_append_right _ (List.mem_append_right _ (List.mem_append_left _ (List.mem_cons_of_mem _ h))))))) (fun h => List.mem_cons_of_mem _ (List.mem_append_right _ h)))) w_f_X5_readProgram__P_good
theorem g_f_X11_program_X5_readProgram__P_V130 : GoodIn w_f_X11_program (wsV RX11 130 RX5 yX5_readProgram w_f_X5_readProgram__P) := goodIn_app (nb_g4 (List.mem_cons_of_mem _ (List.mem_append_left _ (List.mem_append_left _ (List.mem_of_getElem? (i := 7) rfl)))) (List.mem_cons_of_mem _ (List.mem_append_left _ (List.mem_append_left _ (List.mem_of_getElem? (i := 8) rfl)))) (List.mem_cons_of_mem _ (List.mem_append_left _ (List.mem_append_left _ (List.mem_of_getElem? (i := 9) rfl)))) (List.mem_cons_of_mem _ (List.mem_append_left _ (List.mem_append_left _ (List.mem_of_getElem? (i := 10) rfl)))) (by decide +kernel)) gg_f_X11_program_X5_readProgram__P
theorem gg_f_X11_program_X7_emptyBehind__P__P : GoodIn w_f_X11_program w_y_X7_emptyBehind__P__P := goodIn_sub (fun w h => (List.mem_cons.mp h).elim (fun e => (List.mem_cons_of_mem _ (List.mem_append_left _ (List.mem_append_right _ (List.mem_append_left _ (List.mem_cons.mpr (Or.inl e))))))) (fun h => (List.mem_append.mp h).elim (fun h => (List.mem_cons_of_mem _ (List.mem_append_left _ (List.mem_append_right _ (List.mem_append_left _ (List.mem_cons_of_mem _ h)))))) (fun h => List.mem_cons_of_mem _ (List.mem_append_right _ h)))) w_y_X7_emptyBehind__P__P_good
theorem g_y_X11_program_X7_emptyBehind__P__P_V111 : GoodIn w_f_X11_program (wsV RX11 111 RX7 yX7_emptyBehind w_y_X7_emptyBehind__P__P) := goodIn_app (nb_g4 (List.mem_cons_of_mem _ (List.mem_append_left _ (List.mem_append_left _ (List.mem_of_getElem? (i := 2) rfl)))) (List.mem_cons_of_mem _ (List.mem_append_left _ (List.mem_append_left _ (List.mem_of_getElem? (i := 3) rfl)))) (List.mem_cons_of_mem _ (List.mem_append_left _ (List.mem_append_left _ (List.mem_of_getElem? (i := 4) rfl)))) (List.mem_cons_of_mem _ (List.mem_append_left _ (List.mem_append_left _ (List.mem_of_getElem? (i := 5) rfl)))) (by decide +kernel)) gg_f_X11_program_X7_emptyBehind__P__P
theorem gg_f_X11_program_X7_moveDown__P : GoodIn w_f_X11_program w_y_X7_moveDown__P := goodIn_sub (fun w h => (List.mem_cons.mp h).elim (fun e => (List.mem_cons_of_mem _ (List.mem_append_left _ (List.mem_append_right _ (List.mem_append_right _ (List.mem_append_right _ (List.mem_append_left _ (List.mem_cons.mpr (Or.inl e))))))))) (fun h => (List.mem_append.mp h).elim (fun h => (List.mem_cons_of_mem _ (List.mem_append_left _ (List.mem_append_right _ (List.mem_append_right _ (List.mem_append_right _ (List.mem_append_left _ (List.mem_cons_of_mem _ h)))))))) (fun h => List.mem_cons_of_mem _ (List.mem_append_right _ h)))) w_y_X7_moveDown__P_good
theorem g_y_X11_program_X7_moveDown__P_V149 : GoodIn w_f_X11_program (wsV RX11 149 RX7 yX7_moveDown w_y_X7_moveDown__P) := goodIn_app (nb_g4 (List.mem_cons_of_mem _ (List.mem_append_left _ (List.mem_append_left _ (List.mem_of_getElem? (i := 13) rfl)))) (List.mem_cons_of_mem _ (List.mem_append_left _ (List.mem_append_left _ (List.mem_of_getElem? (i := 14) rfl)))) (List.mem_cons_of_mem _ (List.mem_append_left _ (List.mem_append_left _ (List.mem_of_getElem? (i := 15) rfl)))) (List.mem_cons_of_mem _ (List.mem_append_left _ (List.mem_append_left _ (List.mem_of_getElem? (i := 5) rfl)))) (by decide +kernel)) gg_f_X11_program_X7_moveDown__P
set_option maxHeartbeats 40000000 in
set_option maxRecDepth 100000 in
theorem c_f_X11_program (l : Launch) (hl0 : l.stackTraces = false) (dC : Nat → ClassId) (dI : Nat → Nat → Nat) (cy : Nat → ClassId) (ek a : Nat → Nat) (k0 : Nat) (L0 : LV) (σ0 : CS) (r0 : RS) (h0 : f_X11_program k0 0 L0 σ0 = some r0) (z : Nat → Nat) (sz : Nat) : vx_Met l yX11_program w_f_X11_program ({ frames := 535, cells := r0.2.2.1, slots := r0.2.2.2, locals := 16881 }) (va_Pc [.ref (a 75)] (nInF (dC, dI) cy ek sz (vC cy a z σ0))) (xI dC dI cy a (va_A (vC cy a z σ0) sz) [38, 41, 42, 43, 51] z r0) (xX dC dI cy a (va_A (vC cy a z σ0) sz) [38, 41, 42, 43, 51] z r0) r0.2.2.1 r0.2.2.2 (va_A (vC cy a z σ0) sz) := by
  refine vx_ofW (cc := cX11_program) (maxL := 3) (ret := (some .int)) (by decide) rfl ?_
  intro p e s m args below meth c s₁ B hml hno hv
  obtain ⟨rfl, ⟨⟨hsz, hP, hK, hD0, hG⟩, hE⟩, hT⟩ := hv
  have hx := B.exec
  have hb := B.bytes
  have hr := B.returns
  have hts := atoms_spec (ws := w_f_X11_program) B.pre
  have hown : s.vm.findClass RX11 = some m.cls := findClass_of_methodNamed B.named
  have hlocks := B.notSynchronized
  subst hsz
  have hD := hD0.self (sz := s.heap.size)
  generalize hAe : va_A (vC cy a z σ0) s.heap.size = A at hD hE hT ⊢
  have hA : ∀ q : Nat, s.heap.size ≤ q → A q := fun q h => by rw [← hAe]; exact Or.inr h
  have hS : va_S A s.heap s.heap [] := va_S.rf
  have hl := lv_entry ([.ref (a 75)]) (n := 3) (Nat.le_of_ble_eq_true rfl)
  rw [lg_entry_eq]
  generalize (lg_sl ([.ref (a 75)]) ++ List.replicate (3 - (lg_sl ([.ref (a 75)])).length) Slot.unset).toArray = ls at hl ⊢
  have hl : lv_has ls 3 [(0, .ref (a 75))] := hl
  generalize hmc : r0.2.2.1 = mc
  generalize hms : r0.2.2.2 = ms
  have blk : ∀ k : Nat, (bX p l e (headSpec w_f_X11_program ({ frames := 535, cells := mc, slots := ms, locals := 16881 })).room s m #[.ref (a 75)] below meth c dC dI cy a A (fun r => vx_MQ below (xI dC dI cy a A [38, 41, 42, 43, 51] z r) (xX dC dI cy a A [38, 41, 42, 43, 51] z r) #[.ref (a 75)] s mc ms A) [38, 41, 42, 43, 51] z mc ms 3 (f_X11_program k 0) (fun z L => [(0, .ref (a 75))]) 0 (fun z L => [])) ∧ (bX p l e (headSpec w_f_X11_program ({ frames := 535, cells := mc, slots := ms, locals := 16881 })).room s m #[.ref (a 75)] below meth c dC dI cy a A (fun r => vx_MQ below (xI dC dI cy a A [38, 41, 42, 43, 51] z r) (xX dC dI cy a A [38, 41, 42, 43, 51] z r) #[.ref (a 75)] s mc ms A) [38, 41, 42, 43, 51] z mc ms 3 (f_X11_program k 1) (fun z L => [(0, .ref (a 75)), (1, .int (L.1 1))]) 56 (fun z L => [])) ∧ (bX p l e (headSpec w_f_X11_program ({ frames := 535, cells := mc, slots := ms, locals := 16881 })).room s m #[.ref (a 75)] below meth c dC dI cy a A (fun r => vx_MQ below (xI dC dI cy a A [38, 41, 42, 43, 51] z r) (xX dC dI cy a A [38, 41, 42, 43, 51] z r) #[.ref (a 75)] s mc ms A) [38, 41, 42, 43, 51] z mc ms 3 (f_X11_program k 2) (fun z L => [(0, .ref (a 75))]) 70 (fun z L => [])) ∧ (bX p l e (headSpec w_f_X11_program ({ frames := 535, cells := mc, slots := ms, locals := 16881 })).room s m #[.ref (a 75)] below meth c dC dI cy a A (fun r => vx_MQ below (xI dC dI cy a A [38, 41, 42, 43, 51] z r) (xX dC dI cy a A [38, 41, 42, 43, 51] z r) #[.ref (a 75)] s mc ms A) [38, 41, 42, 43, 51] z mc ms 3 (f_X11_program k 3) (fun z L => [(0, .ref (a 75))]) 107 (fun z L => [])) := by
    intro k
    induction k with
    | zero => exact ⟨fun z c1 c2 L σ r h => (by cases h), fun z c1 c2 L σ r h => (by cases h), fun z c1 c2 L σ r h => (by cases h), fun z c1 c2 L σ r h => (by cases h)⟩
    | succ k ih =>
      refine ⟨?_, ?_, ?_, ?_⟩
      · intro z cells slots L σ r h hzk hc hs H locs ls hP hD hS hl
        rw [f_X11_program] at h
        refine lv_aload_n hx hb dX11_program_0 rfl (lv_at hl 0 rfl) ?_
        refine hg_75_9 hx hb hts in_f_X11_program_X11 hown hK hP (hts _ (List.mem_cons_of_mem _ (List.mem_append_left _ (List.mem_append_left _ (List.mem_of_getElem? (i := 0) rfl))))) dX11_program_1 ?_
        refine lv_aload_n hx hb dX11_program_4 rfl (lv_at hl 0 rfl) ?_
        refine hg_75_8 hx hb hts in_f_X11_program_X11 hown hK hP (hts _ (List.mem_cons_of_mem _ (List.mem_append_left _ (List.mem_append_left _ (List.mem_of_getElem? (i := 1) rfl))))) dX11_program_5 ?_
        obtain ⟨r1, hc1, h⟩ := op_ex h
        refine kc_v (va_runV (As := [.ref (a (pA (sCur σ)))]) (rest := []) ⟨hx, hb, hml, hown, hts⟩ (c_y_X7_emptyBehind__P__P l dC dI cy a z k (lB (lB lZ 0 ((sOt σ))) 1 ((sCur σ))) σ r1 hc1 H.size) (cwV 1 hts g_y_X11_program_X7_emptyBehind__P__P_V111 rfl rfl rfl hd_y_X7_emptyBehind__P__P ⟨Nat.le_of_ble_eq_true rfl, Nat.le_of_ble_eq_true rfl⟩) ⟨nb_blind, recvP ((sOt σ)) hK hP, (kb_pre hK hG hP hD)⟩ rfl rfl hl.1 rfl (lv_room (Nat.le_of_ble_eq_true rfl)) dX11_program_8 ⟨(Nat.le_trans (Nat.le_add_right _ _) (Nat.le_of_eq hc)), (Nat.le_trans (Nat.le_add_right _ _) (Nat.le_of_eq hs))⟩) hA hP hD hS (fun H locs hP hD hS => ?_)
        refine lv_aload_n hx hb dX11_program_11 rfl (lv_at hl 0 rfl) ?_
        refine hg_75_7 hx hb hts in_f_X11_program_X11 hown hK hP (hts _ (List.mem_cons_of_mem _ (List.mem_append_left _ (List.mem_append_left _ (List.mem_of_getElem? (i := 6) rfl))))) dX11_program_12 ?_
        refine lv_aload_n hx hb dX11_program_15 rfl (lv_at hl 0 rfl) ?_
        refine hg_75_9 hx hb hts in_f_X11_program_X11 hown hK hP (hts _ (List.mem_cons_of_mem _ (List.mem_append_left _ (List.mem_append_left _ (List.mem_of_getElem? (i := 0) rfl))))) dX11_program_16 ?_
        obtain ⟨r2, hc2, hle2, h9⟩ := ox_ex h
        clear h
        refine kx_i (vx_runVX (As := [.ref (a (pA (sOt r1.2)))]) (rest := []) ⟨hx, hb, hml, hown, hts⟩ (c_f_X5_readProgram__P l hl0 dC dI cy ek a k (lB lZ 1 ((sOt r1.2))) r1.2 r2 hc2 z H.size) (vx_cwVW 1 hts g_f_X11_program_X5_readProgram__P_V130 rfl rfl rfl hd_f_X5_readProgram__P ⟨Nat.le_of_ble_eq_true rfl, Nat.le_of_ble_eq_true rfl⟩) ⟨nb_blindF, va_recv hK hP (ci := 4) (q0 := 40) rfl rfl, (kx_pre hK hG hE hT hA hP hD hS)⟩ rfl rfl hl.1 rfl (lv_room (Nat.le_of_ble_eq_true rfl)) dX11_program_19 ⟨Nat.le_trans (Nat.add_le_add_left hle2.1 _) (Nat.le_of_eq hc), Nat.le_trans (Nat.add_le_add_left hle2.2 _) (Nat.le_of_eq hs)⟩) hK hA hzk hP hD hS (by decide) hno hlocks ?_
        rcases h9 with ⟨h00, y2, hny2, hy⟩ | ⟨h00, hy⟩
        · subst hy
          have h := hny2
          refine Or.inl ⟨h00, fun z H locs hz2 hzk hP hD hS => ?_⟩
          replace hc := (Nat.add_assoc _ _ _).trans hc
          replace hs := (Nat.add_assoc _ _ _).trans hs
          refine lv_istore_n (lv' := [(1, .int r2.1.2), (0, .ref (a 75))]) hx hb dX11_program_22 rfl hl (by decide) rfl (fun ls hl => ?_)
          refine lv_aload_n hx hb dX11_program_23 rfl (lv_at hl 1 rfl) ?_
          refine hg_75_6 hx hb hts in_f_X11_program_X11 hown hK hP (hts _ (List.mem_cons_of_mem _ (List.mem_append_left _ (List.mem_append_left _ (List.mem_of_getElem? (i := 11) rfl))))) dX11_program_24 ?_
          refine lv_iconst (v := 0) hx hb dX11_program_27 (by decide) ?_
          refine hp_37_1n hx hb hts in_f_X11_program_X2 hown hK hP hD hS (va_Nw.use rfl (hG.1 _ (List.mem_of_getElem? (i := 51) rfl))) dX11_program_28 (fun H locs hP hD hS => ?_)
          refine lv_aload_n hx hb dX11_program_31 rfl (lv_at hl 1 rfl) ?_
          refine lv_aload_n hx hb dX11_program_32 rfl (lv_at hl 1 rfl) ?_
          refine hg_75_7 hx hb hts in_f_X11_program_X11 hown hK hP (hts _ (List.mem_cons_of_mem _ (List.mem_append_left _ (List.mem_append_left _ (List.mem_of_getElem? (i := 6) rfl))))) dX11_program_33 ?_
          refine hg_40_6n hx hb hts in_f_X11_program_X5 hown hK hP (va_Nw.use rfl (hG.1 _ (List.mem_of_getElem? (i := 62) rfl))) dX11_program_36 ?_
          refine hp_75_12 hx hb hts in_f_X11_program_X11 hown hK hP hD hS (hts _ (List.mem_cons_of_mem _ (List.mem_append_left _ (List.mem_append_left _ (List.mem_of_getElem? (i := 12) rfl))))) dX11_program_39 (fun H locs hP hD hS => ?_)
          refine lv_aload_n hx hb dX11_program_42 rfl (lv_at hl 1 rfl) ?_
          refine hg_75_8 hx hb hts in_f_X11_program_X11 hown hK hP (hts _ (List.mem_cons_of_mem _ (List.mem_append_left _ (List.mem_append_left _ (List.mem_of_getElem? (i := 1) rfl))))) dX11_program_43 ?_
          refine lv_aload_n hx hb dX11_program_46 rfl (lv_at hl 1 rfl) ?_
          refine hg_75_9 hx hb hts in_f_X11_program_X11 hown hK hP (hts _ (List.mem_cons_of_mem _ (List.mem_append_left _ (List.mem_append_left _ (List.mem_of_getElem? (i := 0) rfl))))) dX11_program_47 ?_
          refine hg_P_0n ((sOt (uI (uI r2.2.1 3701 0) 7512 (((uI r2.2.1 3701 0).1 4006))))) hx hb hts in_f_X11_program_X7 hown hK hP (va_Nw.use rfl (hG.1 _ (List.mem_of_getElem? (i := 65) rfl))) dX11_program_50 ?_
          refine hpq_P_0n ((sCur (uI (uI r2.2.1 3701 0) 7512 (((uI r2.2.1 3701 0).1 4006))))) hx hb hts in_f_X11_program_X7 hown hK hP hD hS (va_Nw.use rfl (hG.1 _ (List.mem_of_getElem? (i := 65) rfl))) dX11_program_53 (fun H locs hP hD hS => ?_)
          exact ih.2.1 z _ _ (lI L 1 r2.1.2) (uKd (uI (uI r2.2.1 3701 0) 7512 (((uI r2.2.1 3701 0).1 4006))) ((sCur (uI (uI r2.2.1 3701 0) 7512 (((uI r2.2.1 3701 0).1 4006))))) ((sKd (uI (uI r2.2.1 3701 0) 7512 (((uI r2.2.1 3701 0).1 4006))) ((sOt (uI (uI r2.2.1 3701 0) 7512 (((uI r2.2.1 3701 0).1 4006)))))))) _ h hzk hc hs H locs ls hP hD hS (lv_sub hl [1, 0] rfl)
        · subst hy
          exact Or.inr ⟨h00, rfl, hc, hs⟩
      · intro z cells slots L σ r h hzk hc hs H locs ls hP hD hS hl
        rw [f_X11_program] at h
        refine lv_iload_n hx hb dX11_program_56 rfl (lv_at hl 1 rfl) ?_
        refine lv_if_ne (tgt := 70) hx hb dX11_program_57 (by decide) (fun c1 => ?_) (fun c1 => ?_)
        · rw [if_neg c1] at h
          exact ih.2.2.1 z _ _ L σ _ h hzk hc hs H locs ls hP hD hS (lv_sub hl [0] rfl)
        · rw [if_pos c1] at h
          refine lv_iconst (v := (-1)) hx hb dX11_program_60 (by decide) ?_
          refine lv_aload_n hx hb dX11_program_61 rfl (lv_at hl 0 rfl) ?_
          refine hg_75_7 hx hb hts in_f_X11_program_X11 hown hK hP (hts _ (List.mem_cons_of_mem _ (List.mem_append_left _ (List.mem_append_left _ (List.mem_of_getElem? (i := 6) rfl))))) dX11_program_62 ?_
          refine hg_40_7n hx hb hts in_f_X11_program_X5 hown hK hP (va_Nw.use rfl (hG.1 _ (List.mem_of_getElem? (i := 63) rfl))) dX11_program_65 ?_
          refine lv_isub hx hb dX11_program_68 ?_
          obtain rfl := Option.some.inj h
          subst hc
          subst hs
          exact xr_i hx hb hr hK hzk hP hD hS hlocks dX11_program_69
      · intro z cells slots L σ r h hzk hc hs H locs ls hP hD hS hl
        rw [f_X11_program] at h
        refine lv_aload_n hx hb dX11_program_70 rfl (lv_at hl 0 rfl) ?_
        refine hg_75_9 hx hb hts in_f_X11_program_X11 hown hK hP (hts _ (List.mem_cons_of_mem _ (List.mem_append_left _ (List.mem_append_left _ (List.mem_of_getElem? (i := 0) rfl))))) dX11_program_71 ?_
        refine lv_aload_n hx hb dX11_program_74 rfl (lv_at hl 0 rfl) ?_
        refine hg_75_8 hx hb hts in_f_X11_program_X11 hown hK hP (hts _ (List.mem_cons_of_mem _ (List.mem_append_left _ (List.mem_append_left _ (List.mem_of_getElem? (i := 1) rfl))))) dX11_program_75 ?_
        refine hg_P_1n ((sCur σ)) hx hb hts in_f_X11_program_X7 hown hK hP (va_Nw.use rfl (hG.1 _ (List.mem_of_getElem? (i := 69) rfl))) dX11_program_78 ?_
        obtain ⟨r1, hc1, h⟩ := op_ex h
        refine kc_v (va_runV (As := [.int (σ.1 (fP ((sCur σ)) 1))]) (rest := []) ⟨hx, hb, hml, hown, hts⟩ (c_y_X7_moveDown__P l dC dI cy a z k (lI (lB lZ 0 ((sOt σ))) 1 ((σ.1 (fP ((sCur σ)) 1)))) σ r1 hc1 H.size) (cwV 1 hts g_y_X11_program_X7_moveDown__P_V149 rfl rfl rfl hd_y_X7_moveDown__P ⟨Nat.le_of_ble_eq_true rfl, Nat.le_of_ble_eq_true rfl⟩) ⟨nb_blind, recvP ((sOt σ)) hK hP, (kb_pre hK hG hP hD)⟩ rfl rfl hl.1 rfl (lv_room (Nat.le_of_ble_eq_true rfl)) dX11_program_81 ⟨(Nat.le_trans (Nat.le_add_right _ _) (Nat.le_of_eq hc)), (Nat.le_trans (Nat.le_add_right _ _) (Nat.le_of_eq hs))⟩) hA hP hD hS (fun H locs hP hD hS => ?_)
        refine lv_aload_n hx hb dX11_program_84 rfl (lv_at hl 0 rfl) ?_
        refine hg_75_8 hx hb hts in_f_X11_program_X11 hown hK hP (hts _ (List.mem_cons_of_mem _ (List.mem_append_left _ (List.mem_append_left _ (List.mem_of_getElem? (i := 1) rfl))))) dX11_program_85 ?_
        refine lv_astore_n (lv' := [(2, .ref (a (pA (sCur r1.2)))), (0, .ref (a 75))]) hx hb dX11_program_88 rfl hl (by decide) rfl (fun ls hl => ?_)
        refine lv_aload_n hx hb dX11_program_89 rfl (lv_at hl 1 rfl) ?_
        refine lv_aload_n hx hb dX11_program_90 rfl (lv_at hl 1 rfl) ?_
        refine hg_75_9 hx hb hts in_f_X11_program_X11 hown hK hP (hts _ (List.mem_cons_of_mem _ (List.mem_append_left _ (List.mem_append_left _ (List.mem_of_getElem? (i := 0) rfl))))) dX11_program_91 ?_
        refine hpq_75_8 hx hb hts in_f_X11_program_X11 hown hK hP hD hS (hts _ (List.mem_cons_of_mem _ (List.mem_append_left _ (List.mem_append_left _ (List.mem_of_getElem? (i := 1) rfl))))) dX11_program_94 (fun H locs hP hD hS => ?_)
        refine lv_aload_n hx hb dX11_program_97 rfl (lv_at hl 1 rfl) ?_
        refine lv_aload_n hx hb dX11_program_98 rfl (lv_at hl 0 rfl) ?_
        refine hpq_75_9 hx hb hts in_f_X11_program_X11 hown hK hP hD hS (hts _ (List.mem_cons_of_mem _ (List.mem_append_left _ (List.mem_append_left _ (List.mem_of_getElem? (i := 0) rfl))))) dX11_program_99 (fun H locs hP hD hS => ?_)
        refine lv_aload_n hx hb dX11_program_102 rfl (lv_at hl 1 rfl) ?_
        refine lv_iconst (v := 1) hx hb dX11_program_103 (by decide) ?_
        refine hp_75_10 hx hb hts in_f_X11_program_X11 hown hK hP hD hS (hts _ (List.mem_cons_of_mem _ (List.mem_append_left _ (List.mem_append_left _ (List.mem_of_getElem? (i := 16) rfl))))) (Or.inr rfl) dX11_program_104 (fun H locs hP hD hS => ?_)
        exact ih.2.2.2 z _ _ L (uI (uOt (uCur r1.2 ((sOt r1.2))) ((sCur r1.2))) 7510 1) _ h hzk hc hs H locs ls hP hD hS (lv_sub hl [1] rfl)
      · intro z cells slots L σ r h hzk hc hs H locs ls hP hD hS hl
        rw [f_X11_program] at h
        refine lv_aload_n hx hb dX11_program_107 rfl (lv_at hl 0 rfl) ?_
        refine lv_iconst (v := 0) hx hb dX11_program_108 (by decide) ?_
        refine hp_75_11 hx hb hts in_f_X11_program_X11 hown hK hP hD hS (hts _ (List.mem_cons_of_mem _ (List.mem_append_left _ (List.mem_append_left _ (List.mem_of_getElem? (i := 17) rfl))))) (Or.inl rfl) dX11_program_109 (fun H locs hP hD hS => ?_)
        refine lv_aload_n hx hb dX11_program_112 rfl (lv_at hl 0 rfl) ?_
        refine lv_iconst (v := 0) hx hb dX11_program_113 (by decide) ?_
        refine hp_75_13 hx hb hts in_f_X11_program_X11 hown hK hP hD hS (hts _ (List.mem_cons_of_mem _ (List.mem_append_left _ (List.mem_append_left _ (List.mem_of_getElem? (i := 18) rfl))))) dX11_program_114 (fun H locs hP hD hS => ?_)
        refine lv_aload_n hx hb dX11_program_117 rfl (lv_at hl 0 rfl) ?_
        refine hg_75_8 hx hb hts in_f_X11_program_X11 hown hK hP (hts _ (List.mem_cons_of_mem _ (List.mem_append_left _ (List.mem_append_left _ (List.mem_of_getElem? (i := 1) rfl))))) dX11_program_118 ?_
        refine hg_P_3n ((sCur (uI (uI σ 7511 0) 7513 0))) hx hb hts in_f_X11_program_X7 hown hK hP (va_Nw.use rfl (hG.1 _ (List.mem_of_getElem? (i := 72) rfl))) dX11_program_121 ?_
        obtain rfl := Option.some.inj h
        subst hc
        subst hs
        exact xr_i hx hb hr hK hzk hP hD hS hlocks dX11_program_124
  exact (blk k0).1 z 0 0 L0 σ0 r0 h0 (zk_rf _ _) ((Nat.zero_add _).trans hmc) ((Nat.zero_add _).trans hms) s.heap [] ls hP hD hS hl
/-! X3_evaluate -/
def f_X3_evaluate : Nat → Nat → LV → CS → Option RS
  | 0, _, _, _ => none
  | k + 1, 0, L, σ => f_X3_evaluate k 1 (lJ (lI (lI (lI (lI L 2 ((σ.1 1900))) 3 ((σ.1 1901))) 4 ((σ.1 1902))) 5 ((σ.1 1905))) 6 ((σ.2.1 1916))) (uI (uI (uI σ 1901 ((σ.1 1902))) 1900 ((L.1 1))) 1905 0)
  | k + 1, 1, L, σ => ox (f_X3_pushAll k 0 (lI (lI lZ 1 ((-268435456))) 2 4) σ) (fun r1 => ox (f_X3_execute k 0 lZ r1.2.1) (fun r2 => if ¬ (((((r2.2.1.1 1902)) - 1)) < 0 ∨ (sN r2.2.1 20) ≤ ((((r2.2.1.1 1902)) - 1)).toNatClampNeg) then (if ((r2.2.1.1 1813)) = 0 then (f_X3_evaluate k 2 (lI L 8 ((r2.2.1.2.2.1 20 ((((r2.2.1.1 1902)) - 1)).toNatClampNeg))) r2.2.1) else (op (y_J7_fill_53178__a23 k 0 (lI lZ 1 ((-2147483648))) r2.2.1) (fun r5 => op (y_X11_raw k 0 (lI lZ 0 ((r5.2.1 1813))) r5.2) (fun r6 => f_X3_evaluate k 2 (lI L 8 r6.1) r6.2)))) else none))
  | k + 1, 2, L, σ => f_X3_evaluate k 3 L (uI (uI (uI σ 1819 ((σ.1 1905))) 1900 ((L.1 2))) 1901 ((L.1 3)))
  | k + 1, 3, L, σ => f_X3_evaluate k 4 L (uL (uI (uI σ 1902 ((L.1 4))) 1905 ((L.1 5))) 1916 ((L.2.1 6)))
  | k + 1, 4, L, σ => some ((0, (L.1 8)), σ, (0, 0))
  | _ + 1, _ + 5, _, _ => none
def o_f_X3_evaluate : List Cond := [.fieldLink RX3 14 "SetHouse$Machine" "run" "LSetHouse$Run;", .constant RX3 131 (-268435456), .methodLink RX3 132 yX3_pushAll, .instanceMethod yX3_pushAll, .selects RX3 yX3_pushAll yX3_pushAll, .initialized RX3, .methodLink RX3 146 yX3_execute, .instanceMethod yX3_execute, .selects RX3 yX3_execute yX3_execute, .fieldLink RX3 18 "SetHouse$Machine" "stack" "[I", .fieldLink RX3 149 "SetHouse$Machine" "trouble" "I", .fieldLink RX3 29 "SetHouse$Machine" "passing" "[I", .constant RX3 136 (-2147483648), .methodLink RX3 152 yJ7_fill_53178, .static yJ7_fill_53178, .initialized RJ7, .initialized RX11, .static yX11_raw, .fieldLink RX3 185 "SetHouse$Machine" "workDone" "I"]
theorem o_f_X3_evaluate_good : o_f_X3_evaluate.all goodWord = true := by decide +kernel
def p_f_X3_evaluate : List Cond := o_f_X3_evaluate ++ ((.code yX3_pushAll cX3_pushAll 4 none :: p_f_X3_pushAll) ++ ((.code yX3_execute cX3_execute 7 none :: p_f_X3_execute) ++ ((.code yJ7_fill_53178 cJ7_fill_53178 4 none :: p_y_J7_fill_53178__a23) ++ ((.code yX11_raw cX11_raw 1 (some .int) :: p_y_X11_raw) ++ []))))
theorem p_f_X3_evaluate_good : p_f_X3_evaluate.all goodWord = true := nb_all2 o_f_X3_evaluate_good (nb_all2 (nb_allc (by decide +kernel) p_f_X3_pushAll_good) (nb_all2 (nb_allc (by decide +kernel) p_f_X3_execute_good) (nb_all2 (nb_allc (by decide +kernel) p_y_J7_fill_53178__a23_good) (nb_all2 (nb_allc (by decide +kernel) p_y_X11_raw_good) rfl))))
def w_f_X3_evaluate : List Cond := .code yX3_evaluate cX3_evaluate 9 (some .int) :: (p_f_X3_evaluate ++ fC)
theorem w_f_X3_evaluate_good : w_f_X3_evaluate.all goodWord = true := nb_allc (by decide +kernel) (nb_all2 p_f_X3_evaluate_good fC_good)
theorem in_f_X3_evaluate_X3 : ∀ w ∈ wsX30, w ∈ w_f_X3_evaluate := fun _ h => List.mem_cons_of_mem _ (List.mem_append_right _ (List.mem_append_right _ (List.mem_append_right _ (List.mem_append_right _ (List.mem_append_left _ h)))))
theorem in_f_X3_evaluate_X8 : ∀ w ∈ wsX80, w ∈ w_f_X3_evaluate := fun _ h => List.mem_cons_of_mem _ (List.mem_append_right _ (List.mem_append_right _ (List.mem_append_right _ (List.mem_append_right _ (List.mem_append_right _ (List.mem_append_right _ (List.mem_append_right _ (List.mem_append_right _ (List.mem_append_left _ h)))))))))
theorem hd_f_X3_evaluate : yX3_evaluate.cls = RX3 ∧ yX3_evaluate.cls ≠ "java/lang/invoke/MethodHandle" ∧ yX3_evaluate.cls ≠ "java/lang/invoke/VarHandle" ∧ (parseMethodDescriptor yX3_evaluate.desc).map (fun d => d.parameters.length) = some 1 := by decide +kernel
theorem gg_f_X3_evaluate_X3_execute : GoodIn w_f_X3_evaluate w_f_X3_execute := goodIn_sub (fun w h => (List.mem_cons.mp h).elim (fun e => (List.mem_cons_of_mem _ (List.mem_append_left _ (List.mem_append_right _ (List.mem_append_right _ (List.mem_append_left _ (List.mem_cons.mpr (Or.inl e)))))))) (fun h => (List.mem_append.mp h).elim (fun h => (List.mem_cons_of_mem _ (List.mem_append_left _ (List.mem_append_right _ (List.mem_append_right _ (List.mem_append_left _ (List.mem_cons_of_mem _ h))))))) (fun h => List.mem_cons_of_mem _ (List.mem_append_right _ h)))) w_f_X3_execute_good
theorem g_f_X3_evaluate_X3_execute_V146 : GoodIn w_f_X3_evaluate (wsV RX3 146 RX3 yX3_execute w_f_X3_execute) := goodIn_app (nb_g4 (List.mem_cons_of_mem _ (List.mem_append_left _ (List.mem_append_left _ (List.mem_of_getElem? (i := 6) rfl)))) (List.mem_cons_of_mem _ (List.mem_append_left _ (List.mem_append_left _ (List.mem_of_getElem? (i := 7) rfl)))) (List.mem_cons_of_mem _ (List.mem_append_left _ (List.mem_append_left _ (List.mem_of_getElem? (i := 8) rfl)))) (List.mem_cons_of_mem _ (List.mem_append_left _ (List.mem_append_left _ (List.mem_of_getElem? (i := 5) rfl)))) (by decide +kernel)) gg_f_X3_evaluate_X3_execute
theorem gg_f_X3_evaluate_X3_pushAll : GoodIn w_f_X3_evaluate w_f_X3_pushAll := goodIn_sub (fun w h => (List.mem_cons.mp h).elim (fun e => (List.mem_cons_of_mem _ (List.mem_append_left _ (List.mem_append_right _ (List.mem_append_left _ (List.mem_cons.mpr (Or.inl e))))))) (fun h => (List.mem_append.mp h).elim (fun h => (List.mem_cons_of_mem _ (List.mem_append_left _ (List.mem_append_right _ (List.mem_append_left _ (List.mem_cons_of_mem _ h)))))) (fun h => List.mem_cons_of_mem _ (List.mem_append_right _ h)))) w_f_X3_pushAll_good
theorem g_f_X3_evaluate_X3_pushAll_V132 : GoodIn w_f_X3_evaluate (wsV RX3 132 RX3 yX3_pushAll w_f_X3_pushAll) := goodIn_app (nb_g4 (List.mem_cons_of_mem _ (List.mem_append_left _ (List.mem_append_left _ (List.mem_of_getElem? (i := 2) rfl)))) (List.mem_cons_of_mem _ (List.mem_append_left _ (List.mem_append_left _ (List.mem_of_getElem? (i := 3) rfl)))) (List.mem_cons_of_mem _ (List.mem_append_left _ (List.mem_append_left _ (List.mem_of_getElem? (i := 4) rfl)))) (List.mem_cons_of_mem _ (List.mem_append_left _ (List.mem_append_left _ (List.mem_of_getElem? (i := 5) rfl)))) (by decide +kernel)) gg_f_X3_evaluate_X3_pushAll
theorem gg_f_X3_evaluate_J7_fill_53178__a23 : GoodIn w_f_X3_evaluate w_y_J7_fill_53178__a23 := goodIn_sub (fun w h => (List.mem_cons.mp h).elim (fun e => (List.mem_cons_of_mem _ (List.mem_append_left _ (List.mem_append_right _ (List.mem_append_right _ (List.mem_append_right _ (List.mem_append_left _ (List.mem_cons.mpr (Or.inl e))))))))) (fun h => (List.mem_append.mp h).elim (fun h => (List.mem_cons_of_mem _ (List.mem_append_left _ (List.mem_append_right _ (List.mem_append_right _ (List.mem_append_right _ (List.mem_append_left _ (List.mem_cons_of_mem _ h)))))))) (fun h => List.mem_cons_of_mem _ (List.mem_append_right _ h)))) w_y_J7_fill_53178__a23_good
theorem g_y_X3_evaluate_J7_fill_53178__a23_S152 : GoodIn w_f_X3_evaluate (va_wsS RX3 152 yJ7_fill_53178 w_y_J7_fill_53178__a23) := goodIn_app (nb_g3 (List.mem_cons_of_mem _ (List.mem_append_left _ (List.mem_append_left _ (List.mem_of_getElem? (i := 13) rfl)))) (List.mem_cons_of_mem _ (List.mem_append_left _ (List.mem_append_left _ (List.mem_of_getElem? (i := 14) rfl)))) (List.mem_cons_of_mem _ (List.mem_append_left _ (List.mem_append_left _ (List.mem_of_getElem? (i := 15) rfl)))) (by decide +kernel)) gg_f_X3_evaluate_J7_fill_53178__a23
theorem gg_f_X3_evaluate_X11_raw : GoodIn w_f_X3_evaluate w_y_X11_raw := goodIn_sub (fun w h => (List.mem_cons.mp h).elim (fun e => (List.mem_cons_of_mem _ (List.mem_append_left _ (List.mem_append_right _ (List.mem_append_right _ (List.mem_append_right _ (List.mem_append_right _ (List.mem_append_left _ (List.mem_cons.mpr (Or.inl e)))))))))) (fun h => (List.mem_append.mp h).elim (fun h => (List.mem_cons_of_mem _ (List.mem_append_left _ (List.mem_append_right _ (List.mem_append_right _ (List.mem_append_right _ (List.mem_append_right _ (List.mem_append_left _ (List.mem_cons_of_mem _ h))))))))) (fun h => List.mem_cons_of_mem _ (List.mem_append_right _ h)))) w_y_X11_raw_good
theorem g_y_X3_evaluate_X11_raw_SN182 : GoodIn w_f_X3_evaluate w_y_X11_raw := gg_f_X3_evaluate_X11_raw
set_option maxHeartbeats 40000000 in
set_option maxRecDepth 100000 in
theorem c_f_X3_evaluate (l : Launch) (hl0 : l.stackTraces = false) (dC : Nat → ClassId) (dI : Nat → Nat → Nat) (cy : Nat → ClassId) (ek a : Nat → Nat) (k0 : Nat) (L0 : LV) (σ0 : CS) (r0 : RS) (h0 : f_X3_evaluate k0 0 L0 σ0 = some r0) (z : Nat → Nat) (sz : Nat) : vx_Met l yX3_evaluate w_f_X3_evaluate ({ frames := 89, cells := r0.2.2.1, slots := r0.2.2.2, locals := 2201 }) (va_Pc [.ref (a 18), .int (L0.1 1)] (nInF (dC, dI) cy ek sz (vC cy a z σ0))) (xI dC dI cy a (va_A (vC cy a z σ0) sz) [1, 2, 3, 20, 21, 22, 26] z r0) (xX dC dI cy a (va_A (vC cy a z σ0) sz) [1, 2, 3, 20, 21, 22, 26] z r0) r0.2.2.1 r0.2.2.2 (va_A (vC cy a z σ0) sz) := by
  refine vx_ofW (cc := cX3_evaluate) (maxL := 9) (ret := (some .int)) (by decide) rfl ?_
  intro p e s m args below meth c s₁ B hml hno hv
  obtain ⟨rfl, ⟨⟨hsz, hP, hK, hD0, hG⟩, hE⟩, hT⟩ := hv
  have hx := B.exec
  have hb := B.bytes
  have hr := B.returns
  have hts := atoms_spec (ws := w_f_X3_evaluate) B.pre
  have hown : s.vm.findClass RX3 = some m.cls := findClass_of_methodNamed B.named
  have hlocks := B.notSynchronized
  subst hsz
  have hD := hD0.self (sz := s.heap.size)
  generalize hAe : va_A (vC cy a z σ0) s.heap.size = A at hD hE hT ⊢
  have hA : ∀ q : Nat, s.heap.size ≤ q → A q := fun q h => by rw [← hAe]; exact Or.inr h
  have hS : va_S A s.heap s.heap [] := va_S.rf
  have hl := lv_entry ([.ref (a 18), .int (L0.1 1)]) (n := 9) (Nat.le_of_ble_eq_true rfl)
  rw [lg_entry_eq]
  generalize (lg_sl ([.ref (a 18), .int (L0.1 1)]) ++ List.replicate (9 - (lg_sl ([.ref (a 18), .int (L0.1 1)])).length) Slot.unset).toArray = ls at hl ⊢
  have hl : lv_has ls 9 [(0, .ref (a 18)), (1, .int (L0.1 1))] := hl
  generalize hmc : r0.2.2.1 = mc
  generalize hms : r0.2.2.2 = ms
  have blk : ∀ k : Nat, (bX p l e (headSpec w_f_X3_evaluate ({ frames := 89, cells := mc, slots := ms, locals := 2201 })).room s m #[.ref (a 18), .int (L0.1 1)] below meth c dC dI cy a A (fun r => vx_MQ below (xI dC dI cy a A [1, 2, 3, 20, 21, 22, 26] z r) (xX dC dI cy a A [1, 2, 3, 20, 21, 22, 26] z r) #[.ref (a 18), .int (L0.1 1)] s mc ms A) [1, 2, 3, 20, 21, 22, 26] z mc ms 9 (f_X3_evaluate k 0) (fun z L => [(0, .ref (a 18)), (1, .int (L.1 1))]) 0 (fun z L => [])) ∧ (bX p l e (headSpec w_f_X3_evaluate ({ frames := 89, cells := mc, slots := ms, locals := 2201 })).room s m #[.ref (a 18), .int (L0.1 1)] below meth c dC dI cy a A (fun r => vx_MQ below (xI dC dI cy a A [1, 2, 3, 20, 21, 22, 26] z r) (xX dC dI cy a A [1, 2, 3, 20, 21, 22, 26] z r) #[.ref (a 18), .int (L0.1 1)] s mc ms A) [1, 2, 3, 20, 21, 22, 26] z mc ms 9 (f_X3_evaluate k 1) (fun z L => [(0, .ref (a 18)), (2, .int (L.1 2)), (3, .int (L.1 3)), (4, .int (L.1 4)), (5, .int (L.1 5)), (6, .long (L.2.1 6))]) 68 (fun z L => [])) ∧ (bX p l e (headSpec w_f_X3_evaluate ({ frames := 89, cells := mc, slots := ms, locals := 2201 })).room s m #[.ref (a 18), .int (L0.1 1)] below meth c dC dI cy a A (fun r => vx_MQ below (xI dC dI cy a A [1, 2, 3, 20, 21, 22, 26] z r) (xX dC dI cy a A [1, 2, 3, 20, 21, 22, 26] z r) #[.ref (a 18), .int (L0.1 1)] s mc ms A) [1, 2, 3, 20, 21, 22, 26] z mc ms 9 (f_X3_evaluate k 2) (fun z L => [(0, .ref (a 18)), (2, .int (L.1 2)), (3, .int (L.1 3)), (4, .int (L.1 4)), (5, .int (L.1 5)), (6, .long (L.2.1 6)), (8, .int (L.1 8))]) 120 (fun z L => [])) ∧ (bX p l e (headSpec w_f_X3_evaluate ({ frames := 89, cells := mc, slots := ms, locals := 2201 })).room s m #[.ref (a 18), .int (L0.1 1)] below meth c dC dI cy a A (fun r => vx_MQ below (xI dC dI cy a A [1, 2, 3, 20, 21, 22, 26] z r) (xX dC dI cy a A [1, 2, 3, 20, 21, 22, 26] z r) #[.ref (a 18), .int (L0.1 1)] s mc ms A) [1, 2, 3, 20, 21, 22, 26] z mc ms 9 (f_X3_evaluate k 3) (fun z L => [(0, .ref (a 18)), (4, .int (L.1 4)), (5, .int (L.1 5)), (6, .long (L.2.1 6)), (8, .int (L.1 8))]) 147 (fun z L => [])) ∧ (bX p l e (headSpec w_f_X3_evaluate ({ frames := 89, cells := mc, slots := ms, locals := 2201 })).room s m #[.ref (a 18), .int (L0.1 1)] below meth c dC dI cy a A (fun r => vx_MQ below (xI dC dI cy a A [1, 2, 3, 20, 21, 22, 26] z r) (xX dC dI cy a A [1, 2, 3, 20, 21, 22, 26] z r) #[.ref (a 18), .int (L0.1 1)] s mc ms A) [1, 2, 3, 20, 21, 22, 26] z mc ms 9 (f_X3_evaluate k 4) (fun z L => [(8, .int (L.1 8))]) 174 (fun z L => [])) := by
    intro k
    induction k with
    | zero => exact ⟨fun z c1 c2 L σ r h => (by cases h), fun z c1 c2 L σ r h => (by cases h), fun z c1 c2 L σ r h => (by cases h), fun z c1 c2 L σ r h => (by cases h), fun z c1 c2 L σ r h => (by cases h)⟩
    | succ k ih =>
      refine ⟨?_, ?_, ?_, ?_, ?_⟩
      · intro z cells slots L σ r h hzk hc hs H locs ls hP hD hS hl
        rw [f_X3_evaluate] at h
        refine lv_aload_n hx hb dX3_evaluate_0 rfl (lv_at hl 0 rfl) ?_
        refine hg_18_5 hx hb hts in_f_X3_evaluate_X3 hown hK hP (hts _ (List.mem_cons_of_mem _ (List.mem_append_left _ (List.mem_append_left _ (List.mem_of_getElem? (i := 0) rfl))))) dX3_evaluate_1 ?_
        refine hg_19_0n hx hb hts in_f_X3_evaluate_X8 hown hK hP (va_Nw.use rfl (hG.1 _ (List.mem_of_getElem? (i := 8) rfl))) dX3_evaluate_4 ?_
        refine lv_istore_n (lv' := [(2, .int (σ.1 1900)), (0, .ref (a 18)), (1, .int (L.1 1))]) hx hb dX3_evaluate_7 rfl hl (by decide) rfl (fun ls hl => ?_)
        refine lv_aload_n hx hb dX3_evaluate_8 rfl (lv_at hl 1 rfl) ?_
        refine hg_18_5 hx hb hts in_f_X3_evaluate_X3 hown hK hP (hts _ (List.mem_cons_of_mem _ (List.mem_append_left _ (List.mem_append_left _ (List.mem_of_getElem? (i := 0) rfl))))) dX3_evaluate_9 ?_
        refine hg_19_1n hx hb hts in_f_X3_evaluate_X8 hown hK hP (va_Nw.use rfl (hG.1 _ (List.mem_of_getElem? (i := 9) rfl))) dX3_evaluate_12 ?_
        refine lv_istore_n (lv' := [(3, .int (σ.1 1901)), (2, .int (σ.1 1900)), (0, .ref (a 18)), (1, .int (L.1 1))]) hx hb dX3_evaluate_15 rfl hl (by decide) rfl (fun ls hl => ?_)
        refine lv_aload_n hx hb dX3_evaluate_16 rfl (lv_at hl 2 rfl) ?_
        refine hg_18_5 hx hb hts in_f_X3_evaluate_X3 hown hK hP (hts _ (List.mem_cons_of_mem _ (List.mem_append_left _ (List.mem_append_left _ (List.mem_of_getElem? (i := 0) rfl))))) dX3_evaluate_17 ?_
        refine hg_19_2n hx hb hts in_f_X3_evaluate_X8 hown hK hP (va_Nw.use rfl (hG.1 _ (List.mem_of_getElem? (i := 10) rfl))) dX3_evaluate_20 ?_
        refine lv_istore (lv' := [(4, .int (σ.1 1902)), (3, .int (σ.1 1901)), (2, .int (σ.1 1900)), (0, .ref (a 18)), (1, .int (L.1 1))]) hx hb dX3_evaluate_23 hl (by decide) rfl (fun ls hl => ?_)
        refine lv_aload_n hx hb dX3_evaluate_25 rfl (lv_at hl 3 rfl) ?_
        refine hg_18_5 hx hb hts in_f_X3_evaluate_X3 hown hK hP (hts _ (List.mem_cons_of_mem _ (List.mem_append_left _ (List.mem_append_left _ (List.mem_of_getElem? (i := 0) rfl))))) dX3_evaluate_26 ?_
        refine hg_19_5n hx hb hts in_f_X3_evaluate_X8 hown hK hP (va_Nw.use rfl (hG.1 _ (List.mem_of_getElem? (i := 17) rfl))) dX3_evaluate_29 ?_
        refine lv_istore (lv' := [(5, .int (σ.1 1905)), (4, .int (σ.1 1902)), (3, .int (σ.1 1901)), (2, .int (σ.1 1900)), (0, .ref (a 18)), (1, .int (L.1 1))]) hx hb dX3_evaluate_32 hl (by decide) rfl (fun ls hl => ?_)
        refine lv_aload_n hx hb dX3_evaluate_34 rfl (lv_at hl 4 rfl) ?_
        refine hg_18_5 hx hb hts in_f_X3_evaluate_X3 hown hK hP (hts _ (List.mem_cons_of_mem _ (List.mem_append_left _ (List.mem_append_left _ (List.mem_of_getElem? (i := 0) rfl))))) dX3_evaluate_35 ?_
        refine hg_19_16n hx hb hts in_f_X3_evaluate_X8 hown hK hP (va_Nw.use rfl (hG.1 _ (List.mem_of_getElem? (i := 40) rfl))) dX3_evaluate_38 ?_
        refine lv_lstore (lv' := [(6, .long (σ.2.1 1916)), (5, .int (σ.1 1905)), (4, .int (σ.1 1902)), (3, .int (σ.1 1901)), (2, .int (σ.1 1900)), (0, .ref (a 18)), (1, .int (L.1 1))]) hx hb dX3_evaluate_41 hl (by decide) rfl (fun ls hl => ?_)
        refine lv_aload_n hx hb dX3_evaluate_43 rfl (lv_at hl 5 rfl) ?_
        refine hg_18_5 hx hb hts in_f_X3_evaluate_X3 hown hK hP (hts _ (List.mem_cons_of_mem _ (List.mem_append_left _ (List.mem_append_left _ (List.mem_of_getElem? (i := 0) rfl))))) dX3_evaluate_44 ?_
        refine lv_iload hx hb dX3_evaluate_47 (lv_at hl 2 rfl) ?_
        refine hp_19_1n hx hb hts in_f_X3_evaluate_X8 hown hK hP hD hS (va_Nw.use rfl (hG.1 _ (List.mem_of_getElem? (i := 9) rfl))) dX3_evaluate_49 (fun H locs hP hD hS => ?_)
        refine lv_aload_n hx hb dX3_evaluate_52 rfl (lv_at hl 5 rfl) ?_
        refine hg_18_5 hx hb hts in_f_X3_evaluate_X3 hown hK hP (hts _ (List.mem_cons_of_mem _ (List.mem_append_left _ (List.mem_append_left _ (List.mem_of_getElem? (i := 0) rfl))))) dX3_evaluate_53 ?_
        refine lv_iload_n hx hb dX3_evaluate_56 rfl (lv_at hl 6 rfl) ?_
        refine hp_19_0n hx hb hts in_f_X3_evaluate_X8 hown hK hP hD hS (va_Nw.use rfl (hG.1 _ (List.mem_of_getElem? (i := 8) rfl))) dX3_evaluate_57 (fun H locs hP hD hS => ?_)
        refine lv_aload_n hx hb dX3_evaluate_60 rfl (lv_at hl 5 rfl) ?_
        refine hg_18_5 hx hb hts in_f_X3_evaluate_X3 hown hK hP (hts _ (List.mem_cons_of_mem _ (List.mem_append_left _ (List.mem_append_left _ (List.mem_of_getElem? (i := 0) rfl))))) dX3_evaluate_61 ?_
        refine lv_iconst (v := 0) hx hb dX3_evaluate_64 (by decide) ?_
        refine hp_19_5n hx hb hts in_f_X3_evaluate_X8 hown hK hP hD hS (va_Nw.use rfl (hG.1 _ (List.mem_of_getElem? (i := 17) rfl))) dX3_evaluate_65 (fun H locs hP hD hS => ?_)
        exact ih.2.1 z _ _ (lJ (lI (lI (lI (lI L 2 ((σ.1 1900))) 3 ((σ.1 1901))) 4 ((σ.1 1902))) 5 ((σ.1 1905))) 6 ((σ.2.1 1916))) (uI (uI (uI σ 1901 ((σ.1 1902))) 1900 ((L.1 1))) 1905 0) _ h hzk hc hs H locs ls hP hD hS (lv_sub hl [5, 4, 3, 2, 1, 0] rfl)
      · intro z cells slots L σ r h hzk hc hs H locs ls hP hD hS hl
        rw [f_X3_evaluate] at h
        refine lv_aload_n hx hb dX3_evaluate_68 rfl (lv_at hl 0 rfl) ?_
        refine lv_ldc (v := (-268435456)) hx hb hown (hts _ (List.mem_cons_of_mem _ (List.mem_append_left _ (List.mem_append_left _ (List.mem_of_getElem? (i := 1) rfl))))) dX3_evaluate_69 ?_
        refine lv_iconst (v := 4) hx hb dX3_evaluate_71 (by decide) ?_
        obtain ⟨r1, hc1, hle1, h9⟩ := ox_ex h
        clear h
        refine kx_v (vx_runV (As := [.int (-268435456), .int 4]) (rest := []) ⟨hx, hb, hml, hown, hts⟩ (c_f_X3_pushAll l hl0 dC dI cy ek a k (lI (lI lZ 1 ((-268435456))) 2 4) σ r1 hc1 z H.size) (cwV 2 hts g_f_X3_evaluate_X3_pushAll_V132 rfl rfl rfl hd_f_X3_pushAll ⟨Nat.le_of_ble_eq_true rfl, Nat.le_of_ble_eq_true rfl⟩) ⟨nb_blindF, va_recv hK hP (ci := 3) (q0 := 18) rfl rfl, (kx_pre hK hG hE hT hA hP hD hS)⟩ rfl rfl hl.1 rfl (lv_room (Nat.le_of_ble_eq_true rfl)) dX3_evaluate_72 ⟨Nat.le_trans (Nat.add_le_add_left hle1.1 _) (Nat.le_of_eq hc), Nat.le_trans (Nat.add_le_add_left hle1.2 _) (Nat.le_of_eq hs)⟩) hK hA hzk hP hD hS (by decide) hno hlocks ?_
        rcases h9 with ⟨h00, y1, hny1, hy⟩ | ⟨h00, hy⟩
        · subst hy
          have h := hny1
          refine Or.inl ⟨h00, fun z H locs hz1 hzk hP hD hS => ?_⟩
          replace hc := (Nat.add_assoc _ _ _).trans hc
          replace hs := (Nat.add_assoc _ _ _).trans hs
          refine lv_aload_n hx hb dX3_evaluate_75 rfl (lv_at hl 0 rfl) ?_
          obtain ⟨r2, hc2, hle2, h9⟩ := ox_ex h
          clear h
          refine kx_v (r := y1) (vx_runV (As := []) (rest := []) ⟨hx, hb, hml, hown, hts⟩ (c_f_X3_execute l hl0 dC dI cy ek a k lZ r1.2.1 r2 hc2 z H.size) (cwV 0 hts g_f_X3_evaluate_X3_execute_V146 rfl rfl rfl hd_f_X3_execute ⟨Nat.le_of_ble_eq_true rfl, Nat.le_of_ble_eq_true rfl⟩) ⟨nb_blindF, va_recv hK hP (ci := 3) (q0 := 18) rfl rfl, (kx_pre hK hG hE hT hA hP hD hS)⟩ rfl rfl hl.1 rfl (lv_room (Nat.le_of_ble_eq_true rfl)) dX3_evaluate_76 ⟨Nat.le_trans (Nat.add_le_add_left hle2.1 _) (Nat.le_of_eq hc), Nat.le_trans (Nat.add_le_add_left hle2.2 _) (Nat.le_of_eq hs)⟩) hK hA hzk hP hD hS (by decide) hno hlocks ?_
          rcases h9 with ⟨h00, y2, hny2, hy⟩ | ⟨h00, hy⟩
          · subst hy
            have h := hny2
            refine Or.inl ⟨h00, fun z H locs hz2 hzk hP hD hS => ?_⟩
            replace hc := (Nat.add_assoc _ _ _).trans hc
            replace hs := (Nat.add_assoc _ _ _).trans hs
            refine lv_aload_n hx hb dX3_evaluate_79 rfl (lv_at hl 0 rfl) ?_
            refine hg_18_7 hx hb hts in_f_X3_evaluate_X3 hown hK hP (hts _ (List.mem_cons_of_mem _ (List.mem_append_left _ (List.mem_append_left _ (List.mem_of_getElem? (i := 9) rfl))))) dX3_evaluate_80 ?_
            refine lv_aload_n hx hb dX3_evaluate_83 rfl (lv_at hl 0 rfl) ?_
            refine hg_18_5 hx hb hts in_f_X3_evaluate_X3 hown hK hP (hts _ (List.mem_cons_of_mem _ (List.mem_append_left _ (List.mem_append_left _ (List.mem_of_getElem? (i := 0) rfl))))) dX3_evaluate_84 ?_
            refine hg_19_2n hx hb hts in_f_X3_evaluate_X8 hown hK hP (va_Nw.use rfl (hG.1 _ (List.mem_of_getElem? (i := 10) rfl))) dX3_evaluate_87 ?_
            refine lv_iconst (v := 1) hx hb dX3_evaluate_90 (by decide) ?_
            refine lv_isub hx hb dX3_evaluate_91 ?_
            obtain ⟨q3, h⟩ := kr_ite1 h
            refine hl_20 hx hb hK hP q3 dX3_evaluate_92 ?_
            refine lv_istore (lv' := [(8, .int (r2.2.1.2.2.1 20 ((((r2.2.1.1 1902)) - 1)).toNatClampNeg)), (0, .ref (a 18)), (2, .int (L.1 2)), (3, .int (L.1 3)), (4, .int (L.1 4)), (5, .int (L.1 5)), (6, .long (L.2.1 6))]) hx hb dX3_evaluate_93 hl (by decide) rfl (fun ls hl => ?_)
            refine lv_aload_n hx hb dX3_evaluate_95 rfl (lv_at hl 1 rfl) ?_
            refine hg_18_13 hx hb hts in_f_X3_evaluate_X3 hown hK hP (hts _ (List.mem_cons_of_mem _ (List.mem_append_left _ (List.mem_append_left _ (List.mem_of_getElem? (i := 10) rfl))))) dX3_evaluate_96 ?_
            refine lv_if_eq (tgt := 120) hx hb dX3_evaluate_99 (by decide) (fun c4 => ?_) (fun c4 => ?_)
            · rw [if_pos c4] at h
              exact ih.2.2.1 z _ _ (lI L 8 ((r2.2.1.2.2.1 20 ((((r2.2.1.1 1902)) - 1)).toNatClampNeg))) r2.2.1 _ h hzk hc hs H locs ls hP hD hS (lv_sub hl [1, 2, 3, 4, 5, 6, 0] rfl)
            · rw [if_neg c4] at h
              refine lv_aload_n hx hb dX3_evaluate_102 rfl (lv_at hl 1 rfl) ?_
              refine hg_18_10 hx hb hts in_f_X3_evaluate_X3 hown hK hP (hts _ (List.mem_cons_of_mem _ (List.mem_append_left _ (List.mem_append_left _ (List.mem_of_getElem? (i := 11) rfl))))) dX3_evaluate_103 ?_
              refine lv_ldc (v := (-2147483648)) hx hb hown (hts _ (List.mem_cons_of_mem _ (List.mem_append_left _ (List.mem_append_left _ (List.mem_of_getElem? (i := 12) rfl))))) dX3_evaluate_106 ?_
              obtain ⟨r5, hc5, h⟩ := op_ex h
              refine kc_v (va_runS (As := [.ref (a 23), .int (-2147483648)]) (rest := []) ⟨hx, hb, hml, hown, hts⟩ (c_y_J7_fill_53178__a23 l dC dI cy a z k (lI lZ 1 ((-2147483648))) r2.2.1 r5 hc5 H.size) (va_cwS 2 hts g_y_X3_evaluate_J7_fill_53178__a23_S152 rfl rfl rfl hd_y_J7_fill_53178__a23 ⟨Nat.le_of_ble_eq_true rfl, Nat.le_of_ble_eq_true rfl⟩) ⟨nb_blind, (kb_pre hK hG hP hD)⟩ rfl rfl hl.1 rfl (lv_room (Nat.le_of_ble_eq_true rfl)) dX3_evaluate_108 ⟨(Nat.le_trans (Nat.le_add_right _ _) (Nat.le_of_eq hc)), (Nat.le_trans (Nat.le_add_right _ _) (Nat.le_of_eq hs))⟩) hA hP hD hS (fun H locs hP hD hS => ?_)
              refine lv_aload_n hx hb dX3_evaluate_111 rfl (lv_at hl 1 rfl) ?_
              refine hg_18_13 hx hb hts in_f_X3_evaluate_X3 hown hK hP (hts _ (List.mem_cons_of_mem _ (List.mem_append_left _ (List.mem_append_left _ (List.mem_of_getElem? (i := 10) rfl))))) dX3_evaluate_112 ?_
              obtain ⟨r6, hc6, h⟩ := op_ex h
              refine kc_i (va_runSN (As := [.int (r5.2.1 1813)]) (rest := []) ⟨hx, hb, hml, hown, hts⟩ (c_y_X11_raw l dC dI cy a z k (lI lZ 0 ((r5.2.1 1813))) r5.2 r6 hc6 H.size) ⟨va_cnB 1 hts g_y_X3_evaluate_X11_raw_SN182 rfl rfl rfl (hG.1 _ (List.mem_of_getElem? (i := 103) rfl)) (hts _ (List.mem_cons_of_mem _ (List.mem_append_left _ (List.mem_append_left _ (List.mem_of_getElem? (i := 16) rfl))))) hd_y_X11_raw ⟨Nat.le_of_ble_eq_true rfl, Nat.le_of_ble_eq_true rfl⟩, (hts _ (List.mem_cons_of_mem _ (List.mem_append_left _ (List.mem_append_left _ (List.mem_of_getElem? (i := 17) rfl))))), trivial⟩ ⟨nb_blind, (kb_pre hK hG hP hD)⟩ rfl rfl hl.1 rfl (lv_room (Nat.le_of_ble_eq_true rfl)) dX3_evaluate_115 ⟨(Nat.le_trans (Nat.le_add_right _ _) (Nat.le_of_eq hc)), (Nat.le_trans (Nat.le_add_right _ _) (Nat.le_of_eq hs))⟩) hA hP hD hS (fun H locs hP hD hS => ?_)
              refine lv_istore (lv' := [(8, .int r6.1), (0, .ref (a 18)), (2, .int (L.1 2)), (3, .int (L.1 3)), (4, .int (L.1 4)), (5, .int (L.1 5)), (6, .long (L.2.1 6))]) hx hb dX3_evaluate_118 hl (by decide) rfl (fun ls hl => ?_)
              exact ih.2.2.1 z _ _ (lI L 8 r6.1) r6.2 _ h hzk hc hs H locs ls hP hD hS (lv_sub hl [1, 2, 3, 4, 5, 6, 0] rfl)
          · subst hy
            exact Or.inr ⟨h00, rfl, hc, hs⟩
        · subst hy
          exact Or.inr ⟨h00, rfl, hc, hs⟩
      · intro z cells slots L σ r h hzk hc hs H locs ls hP hD hS hl
        rw [f_X3_evaluate] at h
        refine lv_aload_n hx hb dX3_evaluate_120 rfl (lv_at hl 0 rfl) ?_
        refine lv_aload_n hx hb dX3_evaluate_121 rfl (lv_at hl 0 rfl) ?_
        refine hg_18_5 hx hb hts in_f_X3_evaluate_X3 hown hK hP (hts _ (List.mem_cons_of_mem _ (List.mem_append_left _ (List.mem_append_left _ (List.mem_of_getElem? (i := 0) rfl))))) dX3_evaluate_122 ?_
        refine hg_19_5n hx hb hts in_f_X3_evaluate_X8 hown hK hP (va_Nw.use rfl (hG.1 _ (List.mem_of_getElem? (i := 17) rfl))) dX3_evaluate_125 ?_
        refine hp_18_19 hx hb hts in_f_X3_evaluate_X3 hown hK hP hD hS (hts _ (List.mem_cons_of_mem _ (List.mem_append_left _ (List.mem_append_left _ (List.mem_of_getElem? (i := 18) rfl))))) dX3_evaluate_128 (fun H locs hP hD hS => ?_)
        refine lv_aload_n hx hb dX3_evaluate_131 rfl (lv_at hl 0 rfl) ?_
        refine hg_18_5 hx hb hts in_f_X3_evaluate_X3 hown hK hP (hts _ (List.mem_cons_of_mem _ (List.mem_append_left _ (List.mem_append_left _ (List.mem_of_getElem? (i := 0) rfl))))) dX3_evaluate_132 ?_
        refine lv_iload_n hx hb dX3_evaluate_135 rfl (lv_at hl 1 rfl) ?_
        refine hp_19_0n hx hb hts in_f_X3_evaluate_X8 hown hK hP hD hS (va_Nw.use rfl (hG.1 _ (List.mem_of_getElem? (i := 8) rfl))) dX3_evaluate_136 (fun H locs hP hD hS => ?_)
        refine lv_aload_n hx hb dX3_evaluate_139 rfl (lv_at hl 0 rfl) ?_
        refine hg_18_5 hx hb hts in_f_X3_evaluate_X3 hown hK hP (hts _ (List.mem_cons_of_mem _ (List.mem_append_left _ (List.mem_append_left _ (List.mem_of_getElem? (i := 0) rfl))))) dX3_evaluate_140 ?_
        refine lv_iload_n hx hb dX3_evaluate_143 rfl (lv_at hl 2 rfl) ?_
        refine hp_19_1n hx hb hts in_f_X3_evaluate_X8 hown hK hP hD hS (va_Nw.use rfl (hG.1 _ (List.mem_of_getElem? (i := 9) rfl))) dX3_evaluate_144 (fun H locs hP hD hS => ?_)
        exact ih.2.2.2.1 z _ _ L (uI (uI (uI σ 1819 ((σ.1 1905))) 1900 ((L.1 2))) 1901 ((L.1 3))) _ h hzk hc hs H locs ls hP hD hS (lv_sub hl [0, 3, 4, 5, 6] rfl)
      · intro z cells slots L σ r h hzk hc hs H locs ls hP hD hS hl
        rw [f_X3_evaluate] at h
        refine lv_aload_n hx hb dX3_evaluate_147 rfl (lv_at hl 0 rfl) ?_
        refine hg_18_5 hx hb hts in_f_X3_evaluate_X3 hown hK hP (hts _ (List.mem_cons_of_mem _ (List.mem_append_left _ (List.mem_append_left _ (List.mem_of_getElem? (i := 0) rfl))))) dX3_evaluate_148 ?_
        refine lv_iload hx hb dX3_evaluate_151 (lv_at hl 1 rfl) ?_
        refine hp_19_2n hx hb hts in_f_X3_evaluate_X8 hown hK hP hD hS (va_Nw.use rfl (hG.1 _ (List.mem_of_getElem? (i := 10) rfl))) dX3_evaluate_153 (fun H locs hP hD hS => ?_)
        refine lv_aload_n hx hb dX3_evaluate_156 rfl (lv_at hl 0 rfl) ?_
        refine hg_18_5 hx hb hts in_f_X3_evaluate_X3 hown hK hP (hts _ (List.mem_cons_of_mem _ (List.mem_append_left _ (List.mem_append_left _ (List.mem_of_getElem? (i := 0) rfl))))) dX3_evaluate_157 ?_
        refine lv_iload hx hb dX3_evaluate_160 (lv_at hl 2 rfl) ?_
        refine hp_19_5n hx hb hts in_f_X3_evaluate_X8 hown hK hP hD hS (va_Nw.use rfl (hG.1 _ (List.mem_of_getElem? (i := 17) rfl))) dX3_evaluate_162 (fun H locs hP hD hS => ?_)
        refine lv_aload_n hx hb dX3_evaluate_165 rfl (lv_at hl 0 rfl) ?_
        refine hg_18_5 hx hb hts in_f_X3_evaluate_X3 hown hK hP (hts _ (List.mem_cons_of_mem _ (List.mem_append_left _ (List.mem_append_left _ (List.mem_of_getElem? (i := 0) rfl))))) dX3_evaluate_166 ?_
        refine lv_lload hx hb dX3_evaluate_169 (lv_at hl 3 rfl) ?_
        refine hp_19_16n hx hb hts in_f_X3_evaluate_X8 hown hK hP hD hS (va_Nw.use rfl (hG.1 _ (List.mem_of_getElem? (i := 40) rfl))) dX3_evaluate_171 (fun H locs hP hD hS => ?_)
        exact ih.2.2.2.2 z _ _ L (uL (uI (uI σ 1902 ((L.1 4))) 1905 ((L.1 5))) 1916 ((L.2.1 6))) _ h hzk hc hs H locs ls hP hD hS (lv_sub hl [4] rfl)
      · intro z cells slots L σ r h hzk hc hs H locs ls hP hD hS hl
        rw [f_X3_evaluate] at h
        refine lv_iload hx hb dX3_evaluate_174 (lv_at hl 0 rfl) ?_
        obtain rfl := Option.some.inj h
        subst hc
        subst hs
        exact xr_i hx hb hr hK hzk hP hD hS hlocks dX3_evaluate_176
  exact (blk k0).1 z 0 0 L0 σ0 r0 h0 (zk_rf _ _) ((Nat.zero_add _).trans hmc) ((Nat.zero_add _).trans hms) s.heap [] ls hP hD hS hl
/-! X11_round -/
def f_X11_round : Nat → Nat → LV → CS → Option RS
  | 0, _, _, _ => none
  | k + 1, 0, L, σ => ox (f_X11_wantRun k 0 lZ σ) (fun r1 => f_X11_round k 1 (lI (lI L 1 0) 2 0) r1.2.1)
  | k + 1, 1, L, σ => if ((σ.1 7513)) ≤ ((L.1 2)) then (f_X11_round k 2 L σ) else (if ¬ (((L.1 2)) < 0 ∨ 8 ≤ ((L.1 2)).toNatClampNeg) then (ox (f_X3_evaluate k 0 (lI lZ 1 ((σ.2.2.1 64 ((L.1 2)).toNatClampNeg))) σ) (fun r3 => op (y_X11_isError k 0 (lI lZ 0 r3.1.2) r3.2.1) (fun r4 => if r4.1 = 0 then (f_X11_round k 3 (lI (lI L 3 r3.1.2) 100 2) r4.2) else (f_X11_round k 4 (lI (lI L 100 ((-2147483648))) 101 2) r4.2)))) else none)
  | k + 1, 2, L, σ => some ((0, (L.1 1)), σ, (0, 0))
  | k + 1, 3, L, σ => f_X11_round k 4 (lI (lI L 100 ((L.1 3))) 101 ((L.1 100))) σ
  | k + 1, 4, L, σ => if ¬ (((L.1 101)) < 0 ∨ 27 ≤ ((L.1 101)).toNatClampNeg) then (ox (f_X3_makeRoom k 0 lZ (uA σ 67 ((L.1 101)).toNatClampNeg ((L.1 100)))) (fun r2 => op (y_X11_renew k 0 (lI lZ 1 ((3 + ((3 * ((L.1 2))))))) r2.2.1) (fun r3 => if r3.1 = 0 then (f_X11_round k 5 (lI L 100 ((L.1 1))) r3.2) else (f_X11_round k 6 (lI (lI L 100 1) 101 ((L.1 1))) r3.2)))) else none
  | k + 1, 5, L, σ => f_X11_round k 6 (lI (lI L 100 0) 101 ((L.1 100))) σ
  | k + 1, 6, L, σ => if ¬ ((2 : Int32) < 0 ∨ 27 ≤ (2 : Int32).toNatClampNeg) then (if ¬ (((L.1 2)) < 0 ∨ 8 ≤ ((L.1 2)).toNatClampNeg) then (f_X11_round k 1 (lI (lI L 1 ((((L.1 101)) + ((L.1 100))))) 2 ((((L.1 2)) + 1))) (uA (uA σ 67 (2 : Int32).toNatClampNeg ((-2147483648))) 65 ((L.1 2)).toNatClampNeg (vp_nar .boolean 1))) else none) else none
  | _ + 1, _ + 7, _, _ => none
def o_f_X11_round : List Cond := [.methodLink RX11 175 yX11_wantRun, .instanceMethod yX11_wantRun, .selects RX11 yX11_wantRun yX11_wantRun, .initialized RX11, .fieldLink RX11 159 "SetHouse" "views" "I", .fieldLink RX11 65 "SetHouse" "machine" "LSetHouse$Machine;", .fieldLink RX11 95 "SetHouse" "viewEntries" "[I", .methodLink RX11 301 yX3_evaluate, .instanceMethod yX3_evaluate, .selects RX3 yX3_evaluate yX3_evaluate, .initialized RX3, .fieldLink RX11 56 "SetHouse" "kept" "[I", .methodLink RX11 307 yX11_isError, .static yX11_isError, .constant RX11 106 (-2147483648), .methodLink RX11 311 yX3_makeRoom, .instanceMethod yX3_makeRoom, .selects RX3 yX3_makeRoom yX3_makeRoom, .methodLink RX11 314 yX11_renew, .instanceMethod yX11_renew, .selects RX11 yX11_renew yX11_renew, .fieldLink RX11 98 "SetHouse" "viewSeen" "[Z"]
theorem o_f_X11_round_good : o_f_X11_round.all goodWord = true := by decide +kernel
def p_f_X11_round : List Cond := o_f_X11_round ++ ((.code yX11_wantRun cX11_wantRun 1 none :: p_f_X11_wantRun) ++ ((.code yX3_evaluate cX3_evaluate 9 (some .int) :: p_f_X3_evaluate) ++ ((.code yX11_isError cX11_isError 1 (some .boolean) :: p_y_X11_isError) ++ ((.code yX3_makeRoom cX3_makeRoom 1 none :: p_f_X3_makeRoom) ++ ((.code yX11_renew cX11_renew 6 (some .boolean) :: p_y_X11_renew) ++ [])))))
theorem p_f_X11_round_good : p_f_X11_round.all goodWord = true := nb_all2 o_f_X11_round_good (nb_all2 (nb_allc (by decide +kernel) p_f_X11_wantRun_good) (nb_all2 (nb_allc (by decide +kernel) p_f_X3_evaluate_good) (nb_all2 (nb_allc (by decide +kernel) p_y_X11_isError_good) (nb_all2 (nb_allc (by decide +kernel) p_f_X3_makeRoom_good) (nb_all2 (nb_allc (by decide +kernel) p_y_X11_renew_good) rfl)))))
def w_f_X11_round : List Cond := .code yX11_round cX11_round 4 (some .int) :: (p_f_X11_round ++ fC)
theorem w_f_X11_round_good : w_f_X11_round.all goodWord = true := nb_allc (by decide +kernel) (nb_all2 p_f_X11_round_good fC_good)
theorem in_f_X11_round_X11 : ∀ w ∈ wsX110, w ∈ w_f_X11_round := fun _ h => List.mem_cons_of_mem _ (List.mem_append_right _ (List.mem_append_right _ (List.mem_append_right _ (List.mem_append_right _ (List.mem_append_right _ (List.mem_append_right _ (List.mem_append_right _ (List.mem_append_right _ (List.mem_append_right _ (List.mem_append_right _ (List.mem_append_right _ h)))))))))))
theorem hd_f_X11_round : yX11_round.cls = RX11 ∧ yX11_round.cls ≠ "java/lang/invoke/MethodHandle" ∧ yX11_round.cls ≠ "java/lang/invoke/VarHandle" ∧ (parseMethodDescriptor yX11_round.desc).map (fun d => d.parameters.length) = some 0 := by decide +kernel
theorem gg_f_X11_round_X11_wantRun : GoodIn w_f_X11_round w_f_X11_wantRun := goodIn_sub (fun w h => (List.mem_cons.mp h).elim (fun e => (List.mem_cons_of_mem _ (List.mem_append_left _ (List.mem_append_right _ (List.mem_append_left _ (List.mem_cons.mpr (Or.inl e))))))) (fun h => (List.mem_append.mp h).elim (fun h => (List.mem_cons_of_mem _ (List.mem_append_left _ (List.mem_append_right _ (List.mem_append_left _ (List.mem_cons_of_mem _ h)))))) (fun h => List.mem_cons_of_mem _ (List.mem_append_right _ h)))) w_f_X11_wantRun_good
theorem g_f_X11_round_X11_wantRun_V175 : GoodIn w_f_X11_round (wsV RX11 175 RX11 yX11_wantRun w_f_X11_wantRun) := goodIn_app (nb_g4 (List.mem_cons_of_mem _ (List.mem_append_left _ (List.mem_append_left _ (List.mem_of_getElem? (i := 0) rfl)))) (List.mem_cons_of_mem _ (List.mem_append_left _ (List.mem_append_left _ (List.mem_of_getElem? (i := 1) rfl)))) (List.mem_cons_of_mem _ (List.mem_append_left _ (List.mem_append_left _ (List.mem_of_getElem? (i := 2) rfl)))) (List.mem_cons_of_mem _ (List.mem_append_left _ (List.mem_append_left _ (List.mem_of_getElem? (i := 3) rfl)))) (by decide +kernel)) gg_f_X11_round_X11_wantRun
theorem gg_f_X11_round_X3_evaluate : GoodIn w_f_X11_round w_f_X3_evaluate := goodIn_sub (fun w h => (List.mem_cons.mp h).elim (fun e => (List.mem_cons_of_mem _ (List.mem_append_left _ (List.mem_append_right _ (List.mem_append_right _ (List.mem_append_left _ (List.mem_cons.mpr (Or.inl e)))))))) (fun h => (List.mem_append.mp h).elim (fun h => (List.mem_cons_of_mem _ (List.mem_append_left _ (List.mem_append_right _ (List.mem_append_right _ (List.mem_append_left _ (List.mem_cons_of_mem _ h))))))) (fun h => List.mem_cons_of_mem _ (List.mem_append_right _ h)))) w_f_X3_evaluate_good
theorem g_f_X11_round_X3_evaluate_V301 : GoodIn w_f_X11_round (wsV RX11 301 RX3 yX3_evaluate w_f_X3_evaluate) := goodIn_app (nb_g4 (List.mem_cons_of_mem _ (List.mem_append_left _ (List.mem_append_left _ (List.mem_of_getElem? (i := 7) rfl)))) (List.mem_cons_of_mem _ (List.mem_append_left _ (List.mem_append_left _ (List.mem_of_getElem? (i := 8) rfl)))) (List.mem_cons_of_mem _ (List.mem_append_left _ (List.mem_append_left _ (List.mem_of_getElem? (i := 9) rfl)))) (List.mem_cons_of_mem _ (List.mem_append_left _ (List.mem_append_left _ (List.mem_of_getElem? (i := 10) rfl)))) (by decide +kernel)) gg_f_X11_round_X3_evaluate
theorem gg_f_X11_round_X3_makeRoom : GoodIn w_f_X11_round w_f_X3_makeRoom := goodIn_sub (fun w h => (List.mem_cons.mp h).elim (fun e => (List.mem_cons_of_mem _ (List.mem_append_left _ (List.mem_append_right _ (List.mem_append_right _ (List.mem_append_right _ (List.mem_append_right _ (List.mem_append_left _ (List.mem_cons.mpr (Or.inl e)))))))))) (fun h => (List.mem_append.mp h).elim (fun h => (List.mem_cons_of_mem _ (List.mem_append_left _ (List.mem_append_right _ (List.mem_append_right _ (List.mem_append_right _ (List.mem_append_right _ (List.mem_append_left _ (List.mem_cons_of_mem _ h))))))))) (fun h => List.mem_cons_of_mem _ (List.mem_append_right _ h)))) w_f_X3_makeRoom_good
theorem g_f_X11_round_X3_makeRoom_V311 : GoodIn w_f_X11_round (wsV RX11 311 RX3 yX3_makeRoom w_f_X3_makeRoom) := goodIn_app (nb_g4 (List.mem_cons_of_mem _ (List.mem_append_left _ (List.mem_append_left _ (List.mem_of_getElem? (i := 15) rfl)))) (List.mem_cons_of_mem _ (List.mem_append_left _ (List.mem_append_left _ (List.mem_of_getElem? (i := 16) rfl)))) (List.mem_cons_of_mem _ (List.mem_append_left _ (List.mem_append_left _ (List.mem_of_getElem? (i := 17) rfl)))) (List.mem_cons_of_mem _ (List.mem_append_left _ (List.mem_append_left _ (List.mem_of_getElem? (i := 10) rfl)))) (by decide +kernel)) gg_f_X11_round_X3_makeRoom
theorem gg_f_X11_round_X11_isError : GoodIn w_f_X11_round w_y_X11_isError := goodIn_sub (fun w h => (List.mem_cons.mp h).elim (fun e => (List.mem_cons_of_mem _ (List.mem_append_left _ (List.mem_append_right _ (List.mem_append_right _ (List.mem_append_right _ (List.mem_append_left _ (List.mem_cons.mpr (Or.inl e))))))))) (fun h => (List.mem_append.mp h).elim (fun h => (List.mem_cons_of_mem _ (List.mem_append_left _ (List.mem_append_right _ (List.mem_append_right _ (List.mem_append_right _ (List.mem_append_left _ (List.mem_cons_of_mem _ h)))))))) (fun h => List.mem_cons_of_mem _ (List.mem_append_right _ h)))) w_y_X11_isError_good
theorem g_y_X11_round_X11_isError_S307 : GoodIn w_f_X11_round (va_wsS RX11 307 yX11_isError w_y_X11_isError) := goodIn_app (nb_g3 (List.mem_cons_of_mem _ (List.mem_append_left _ (List.mem_append_left _ (List.mem_of_getElem? (i := 12) rfl)))) (List.mem_cons_of_mem _ (List.mem_append_left _ (List.mem_append_left _ (List.mem_of_getElem? (i := 13) rfl)))) (List.mem_cons_of_mem _ (List.mem_append_left _ (List.mem_append_left _ (List.mem_of_getElem? (i := 3) rfl)))) (by decide +kernel)) gg_f_X11_round_X11_isError
theorem gg_f_X11_round_X11_renew : GoodIn w_f_X11_round w_y_X11_renew := goodIn_sub (fun w h => (List.mem_cons.mp h).elim (fun e => (List.mem_cons_of_mem _ (List.mem_append_left _ (List.mem_append_right _ (List.mem_append_right _ (List.mem_append_right _ (List.mem_append_right _ (List.mem_append_right _ (List.mem_append_left _ (List.mem_cons.mpr (Or.inl e))))))))))) (fun h => (List.mem_append.mp h).elim (fun h => (List.mem_cons_of_mem _ (List.mem_append_left _ (List.mem_append_right _ (List.mem_append_right _ (List.mem_append_right _ (List.mem_append_right _ (List.mem_append_right _ (List.mem_append_left _ (List.mem_cons_of_mem _ h)))))))))) (fun h => List.mem_cons_of_mem _ (List.mem_append_right _ h)))) w_y_X11_renew_good
theorem g_y_X11_round_X11_renew_V314 : GoodIn w_f_X11_round (wsV RX11 314 RX11 yX11_renew w_y_X11_renew) := goodIn_app (nb_g4 (List.mem_cons_of_mem _ (List.mem_append_left _ (List.mem_append_left _ (List.mem_of_getElem? (i := 18) rfl)))) (List.mem_cons_of_mem _ (List.mem_append_left _ (List.mem_append_left _ (List.mem_of_getElem? (i := 19) rfl)))) (List.mem_cons_of_mem _ (List.mem_append_left _ (List.mem_append_left _ (List.mem_of_getElem? (i := 20) rfl)))) (List.mem_cons_of_mem _ (List.mem_append_left _ (List.mem_append_left _ (List.mem_of_getElem? (i := 3) rfl)))) (by decide +kernel)) gg_f_X11_round_X11_renew
set_option maxHeartbeats 40000000 in
set_option maxRecDepth 100000 in
theorem c_f_X11_round (l : Launch) (hl0 : l.stackTraces = false) (dC : Nat → ClassId) (dI : Nat → Nat → Nat) (cy : Nat → ClassId) (ek a : Nat → Nat) (k0 : Nat) (L0 : LV) (σ0 : CS) (r0 : RS) (h0 : f_X11_round k0 0 L0 σ0 = some r0) (z : Nat → Nat) (sz : Nat) : vx_Met l yX11_round w_f_X11_round ({ frames := 90, cells := r0.2.2.1, slots := r0.2.2.2, locals := 2229 }) (va_Pc [.ref (a 75)] (nInF (dC, dI) cy ek sz (vC cy a z σ0))) (xI dC dI cy a (va_A (vC cy a z σ0) sz) [1, 2, 3, 20, 21, 22, 26] z r0) (xX dC dI cy a (va_A (vC cy a z σ0) sz) [1, 2, 3, 20, 21, 22, 26] z r0) r0.2.2.1 r0.2.2.2 (va_A (vC cy a z σ0) sz) := by
  refine vx_ofW (cc := cX11_round) (maxL := 4) (ret := (some .int)) (by decide) rfl ?_
  intro p e s m args below meth c s₁ B hml hno hv
  obtain ⟨rfl, ⟨⟨hsz, hP, hK, hD0, hG⟩, hE⟩, hT⟩ := hv
  have hx := B.exec
  have hb := B.bytes
  have hr := B.returns
  have hts := atoms_spec (ws := w_f_X11_round) B.pre
  have hown : s.vm.findClass RX11 = some m.cls := findClass_of_methodNamed B.named
  have hlocks := B.notSynchronized
  subst hsz
  have hD := hD0.self (sz := s.heap.size)
  generalize hAe : va_A (vC cy a z σ0) s.heap.size = A at hD hE hT ⊢
  have hA : ∀ q : Nat, s.heap.size ≤ q → A q := fun q h => by rw [← hAe]; exact Or.inr h
  have hS : va_S A s.heap s.heap [] := va_S.rf
  have hl := lv_entry ([.ref (a 75)]) (n := 4) (Nat.le_of_ble_eq_true rfl)
  rw [lg_entry_eq]
  generalize (lg_sl ([.ref (a 75)]) ++ List.replicate (4 - (lg_sl ([.ref (a 75)])).length) Slot.unset).toArray = ls at hl ⊢
  have hl : lv_has ls 4 [(0, .ref (a 75))] := hl
  generalize hmc : r0.2.2.1 = mc
  generalize hms : r0.2.2.2 = ms
  have blk : ∀ k : Nat, (bX p l e (headSpec w_f_X11_round ({ frames := 90, cells := mc, slots := ms, locals := 2229 })).room s m #[.ref (a 75)] below meth c dC dI cy a A (fun r => vx_MQ below (xI dC dI cy a A [1, 2, 3, 20, 21, 22, 26] z r) (xX dC dI cy a A [1, 2, 3, 20, 21, 22, 26] z r) #[.ref (a 75)] s mc ms A) [1, 2, 3, 20, 21, 22, 26] z mc ms 4 (f_X11_round k 0) (fun z L => [(0, .ref (a 75))]) 0 (fun z L => [])) ∧ (bX p l e (headSpec w_f_X11_round ({ frames := 90, cells := mc, slots := ms, locals := 2229 })).room s m #[.ref (a 75)] below meth c dC dI cy a A (fun r => vx_MQ below (xI dC dI cy a A [1, 2, 3, 20, 21, 22, 26] z r) (xX dC dI cy a A [1, 2, 3, 20, 21, 22, 26] z r) #[.ref (a 75)] s mc ms A) [1, 2, 3, 20, 21, 22, 26] z mc ms 4 (f_X11_round k 1) (fun z L => [(0, .ref (a 75)), (1, .int (L.1 1)), (2, .int (L.1 2))]) 8 (fun z L => [])) ∧ (bX p l e (headSpec w_f_X11_round ({ frames := 90, cells := mc, slots := ms, locals := 2229 })).room s m #[.ref (a 75)] below meth c dC dI cy a A (fun r => vx_MQ below (xI dC dI cy a A [1, 2, 3, 20, 21, 22, 26] z r) (xX dC dI cy a A [1, 2, 3, 20, 21, 22, 26] z r) #[.ref (a 75)] s mc ms A) [1, 2, 3, 20, 21, 22, 26] z mc ms 4 (f_X11_round k 2) (fun z L => [(1, .int (L.1 1))]) 97 (fun z L => [])) ∧ (bX p l e (headSpec w_f_X11_round ({ frames := 90, cells := mc, slots := ms, locals := 2229 })).room s m #[.ref (a 75)] below meth c dC dI cy a A (fun r => vx_MQ below (xI dC dI cy a A [1, 2, 3, 20, 21, 22, 26] z r) (xX dC dI cy a A [1, 2, 3, 20, 21, 22, 26] z r) #[.ref (a 75)] s mc ms A) [1, 2, 3, 20, 21, 22, 26] z mc ms 4 (f_X11_round k 3) (fun z L => [(0, .ref (a 75)), (1, .int (L.1 1)), (2, .int (L.1 2)), (3, .int (L.1 3))]) 47 (fun z L => [.int (L.1 100), .ref (a 67)])) ∧ (bX p l e (headSpec w_f_X11_round ({ frames := 90, cells := mc, slots := ms, locals := 2229 })).room s m #[.ref (a 75)] below meth c dC dI cy a A (fun r => vx_MQ below (xI dC dI cy a A [1, 2, 3, 20, 21, 22, 26] z r) (xX dC dI cy a A [1, 2, 3, 20, 21, 22, 26] z r) #[.ref (a 75)] s mc ms A) [1, 2, 3, 20, 21, 22, 26] z mc ms 4 (f_X11_round k 4) (fun z L => [(0, .ref (a 75)), (1, .int (L.1 1)), (2, .int (L.1 2))]) 48 (fun z L => [.int (L.1 100), .int (L.1 101), .ref (a 67)])) ∧ (bX p l e (headSpec w_f_X11_round ({ frames := 90, cells := mc, slots := ms, locals := 2229 })).room s m #[.ref (a 75)] below meth c dC dI cy a A (fun r => vx_MQ below (xI dC dI cy a A [1, 2, 3, 20, 21, 22, 26] z r) (xX dC dI cy a A [1, 2, 3, 20, 21, 22, 26] z r) #[.ref (a 75)] s mc ms A) [1, 2, 3, 20, 21, 22, 26] z mc ms 4 (f_X11_round k 5) (fun z L => [(0, .ref (a 75)), (2, .int (L.1 2))]) 73 (fun z L => [.int (L.1 100)])) ∧ (bX p l e (headSpec w_f_X11_round ({ frames := 90, cells := mc, slots := ms, locals := 2229 })).room s m #[.ref (a 75)] below meth c dC dI cy a A (fun r => vx_MQ below (xI dC dI cy a A [1, 2, 3, 20, 21, 22, 26] z r) (xX dC dI cy a A [1, 2, 3, 20, 21, 22, 26] z r) #[.ref (a 75)] s mc ms A) [1, 2, 3, 20, 21, 22, 26] z mc ms 4 (f_X11_round k 6) (fun z L => [(0, .ref (a 75)), (2, .int (L.1 2))]) 74 (fun z L => [.int (L.1 100), .int (L.1 101)])) := by
    intro k
    induction k with
    | zero => exact ⟨fun z c1 c2 L σ r h => (by cases h), fun z c1 c2 L σ r h => (by cases h), fun z c1 c2 L σ r h => (by cases h), fun z c1 c2 L σ r h => (by cases h), fun z c1 c2 L σ r h => (by cases h), fun z c1 c2 L σ r h => (by cases h), fun z c1 c2 L σ r h => (by cases h)⟩
    | succ k ih =>
      refine ⟨?_, ?_, ?_, ?_, ?_, ?_, ?_⟩
      · intro z cells slots L σ r h hzk hc hs H locs ls hP hD hS hl
        rw [f_X11_round] at h
        refine lv_aload_n hx hb dX11_round_0 rfl (lv_at hl 0 rfl) ?_
        obtain ⟨r1, hc1, hle1, h9⟩ := ox_ex h
        clear h
        refine kx_v (vx_runV (As := []) (rest := []) ⟨hx, hb, hml, hown, hts⟩ (c_f_X11_wantRun l hl0 dC dI cy ek a k lZ σ r1 hc1 z H.size) (cwV 0 hts g_f_X11_round_X11_wantRun_V175 rfl rfl rfl hd_f_X11_wantRun ⟨Nat.le_of_ble_eq_true rfl, Nat.le_of_ble_eq_true rfl⟩) ⟨nb_blindF, va_recv hK hP (ci := 10) (q0 := 75) rfl rfl, (kx_pre hK hG hE hT hA hP hD hS)⟩ rfl rfl hl.1 rfl (lv_room (Nat.le_of_ble_eq_true rfl)) dX11_round_1 ⟨Nat.le_trans (Nat.add_le_add_left hle1.1 _) (Nat.le_of_eq hc), Nat.le_trans (Nat.add_le_add_left hle1.2 _) (Nat.le_of_eq hs)⟩) hK hA hzk hP hD hS (by decide) hno hlocks ?_
        rcases h9 with ⟨h00, y1, hny1, hy⟩ | ⟨h00, hy⟩
        · subst hy
          have h := hny1
          refine Or.inl ⟨h00, fun u H locs hz1 hzk hP hD hS => ?_⟩
          obtain rfl := (zk_nil hz1).symm
          replace hc := (Nat.add_assoc _ _ _).trans hc
          replace hs := (Nat.add_assoc _ _ _).trans hs
          refine lv_iconst (v := 0) hx hb dX11_round_4 (by decide) ?_
          refine lv_istore_n (lv' := [(1, .int 0), (0, .ref (a 75))]) hx hb dX11_round_5 rfl hl (by decide) rfl (fun ls hl => ?_)
          refine lv_iconst (v := 0) hx hb dX11_round_6 (by decide) ?_
          refine lv_istore_n (lv' := [(2, .int 0), (1, .int 0), (0, .ref (a 75))]) hx hb dX11_round_7 rfl hl (by decide) rfl (fun ls hl => ?_)
          exact ih.2.1 z _ _ (lI (lI L 1 0) 2 0) r1.2.1 _ h hzk hc hs H locs ls hP hD hS (lv_sub hl [2, 1, 0] rfl)
        · subst hy
          exact Or.inr ⟨h00, rfl, hc, hs⟩
      · intro z cells slots L σ r h hzk hc hs H locs ls hP hD hS hl
        rw [f_X11_round] at h
        refine lv_iload_n hx hb dX11_round_8 rfl (lv_at hl 2 rfl) ?_
        refine lv_aload_n hx hb dX11_round_9 rfl (lv_at hl 0 rfl) ?_
        refine hg_75_13 hx hb hts in_f_X11_round_X11 hown hK hP (hts _ (List.mem_cons_of_mem _ (List.mem_append_left _ (List.mem_append_left _ (List.mem_of_getElem? (i := 4) rfl))))) dX11_round_10 ?_
        refine lv_icmp_ge (tgt := 97) hx hb dX11_round_13 (by decide) (fun c1 => ?_) (fun c1 => ?_)
        · rw [if_pos c1] at h
          exact ih.2.2.1 z _ _ L σ _ h hzk hc hs H locs ls hP hD hS (lv_sub hl [1] rfl)
        · rw [if_neg c1] at h
          refine lv_aload_n hx hb dX11_round_16 rfl (lv_at hl 0 rfl) ?_
          refine hg_75_5 hx hb hts in_f_X11_round_X11 hown hK hP (hts _ (List.mem_cons_of_mem _ (List.mem_append_left _ (List.mem_append_left _ (List.mem_of_getElem? (i := 5) rfl))))) dX11_round_17 ?_
          refine lv_aload_n hx hb dX11_round_20 rfl (lv_at hl 0 rfl) ?_
          refine hg_75_14 hx hb hts in_f_X11_round_X11 hown hK hP (hts _ (List.mem_cons_of_mem _ (List.mem_append_left _ (List.mem_append_left _ (List.mem_of_getElem? (i := 6) rfl))))) dX11_round_21 ?_
          refine lv_iload_n hx hb dX11_round_24 rfl (lv_at hl 2 rfl) ?_
          obtain ⟨q2, h⟩ := kr_ite1 h
          refine hl_64 hx hb hK hP q2 dX11_round_25 ?_
          obtain ⟨r3, hc3, hle3, h9⟩ := ox_ex h
          clear h
          refine kx_i (vx_runV (As := [.int (σ.2.2.1 64 ((L.1 2)).toNatClampNeg)]) (rest := []) ⟨hx, hb, hml, hown, hts⟩ (c_f_X3_evaluate l hl0 dC dI cy ek a k (lI lZ 1 ((σ.2.2.1 64 ((L.1 2)).toNatClampNeg))) σ r3 hc3 z H.size) (cwV 1 hts g_f_X11_round_X3_evaluate_V301 rfl rfl rfl hd_f_X3_evaluate ⟨Nat.le_of_ble_eq_true rfl, Nat.le_of_ble_eq_true rfl⟩) ⟨nb_blindF, va_recv hK hP (ci := 3) (q0 := 18) rfl rfl, (kx_pre hK hG hE hT hA hP hD hS)⟩ rfl rfl hl.1 rfl (lv_room (Nat.le_of_ble_eq_true rfl)) dX11_round_26 ⟨Nat.le_trans (Nat.add_le_add_left hle3.1 _) (Nat.le_of_eq hc), Nat.le_trans (Nat.add_le_add_left hle3.2 _) (Nat.le_of_eq hs)⟩) hK hA hzk hP hD hS (by decide) hno hlocks ?_
          rcases h9 with ⟨h00, y3, hny3, hy⟩ | ⟨h00, hy⟩
          · subst hy
            have h := hny3
            refine Or.inl ⟨h00, fun z H locs hz3 hzk hP hD hS => ?_⟩
            replace hc := (Nat.add_assoc _ _ _).trans hc
            replace hs := (Nat.add_assoc _ _ _).trans hs
            refine lv_istore_n (lv' := [(3, .int r3.1.2), (0, .ref (a 75)), (1, .int (L.1 1)), (2, .int (L.1 2))]) hx hb dX11_round_29 rfl hl (by decide) rfl (fun ls hl => ?_)
            refine lv_aload_n hx hb dX11_round_30 rfl (lv_at hl 1 rfl) ?_
            refine hg_75_4 hx hb hts in_f_X11_round_X11 hown hK hP (hts _ (List.mem_cons_of_mem _ (List.mem_append_left _ (List.mem_append_left _ (List.mem_of_getElem? (i := 11) rfl))))) dX11_round_31 ?_
            refine lv_iconst (v := 2) hx hb dX11_round_34 (by decide) ?_
            refine lv_iload_n hx hb dX11_round_35 rfl (lv_at hl 0 rfl) ?_
            obtain ⟨r4, hc4, h⟩ := op_ex h
            refine kc_i (va_runS (As := [.int r3.1.2]) (rest := [.int 2, .ref (a 67)]) ⟨hx, hb, hml, hown, hts⟩ (c_y_X11_isError l dC dI cy a z k (lI lZ 0 r3.1.2) r3.2.1 r4 hc4 H.size) (va_cwS 1 hts g_y_X11_round_X11_isError_S307 rfl rfl rfl hd_y_X11_isError ⟨Nat.le_of_ble_eq_true rfl, Nat.le_of_ble_eq_true rfl⟩) ⟨nb_blind, (kb_pre hK hG hP hD)⟩ rfl rfl hl.1 rfl (lv_room (Nat.le_of_ble_eq_true rfl)) dX11_round_36 ⟨(Nat.le_trans (Nat.le_add_right _ _) (Nat.le_of_eq hc)), (Nat.le_trans (Nat.le_add_right _ _) (Nat.le_of_eq hs))⟩) hA hP hD hS (fun H locs hP hD hS => ?_)
            refine lv_if_eq (tgt := 47) hx hb dX11_round_39 (by decide) (fun c5 => ?_) (fun c5 => ?_)
            · rw [if_pos c5] at h
              exact ih.2.2.2.1 z _ _ (lI (lI L 3 r3.1.2) 100 2) r4.2 _ h hzk hc hs H locs ls hP hD hS (lv_sub hl [1, 2, 3, 0] rfl)
            · rw [if_neg c5] at h
              refine lv_ldc (v := (-2147483648)) hx hb hown (hts _ (List.mem_cons_of_mem _ (List.mem_append_left _ (List.mem_append_left _ (List.mem_of_getElem? (i := 14) rfl))))) dX11_round_42 ?_
              refine lv_goto (tgt := 48) hx hb dX11_round_44 (by decide) ?_
              exact ih.2.2.2.2.1 z _ _ (lI (lI L 100 ((-2147483648))) 101 2) r4.2 _ h hzk hc hs H locs ls hP hD hS (lv_sub hl [1, 2, 3] rfl)
          · subst hy
            exact Or.inr ⟨h00, rfl, hc, hs⟩
      · intro z cells slots L σ r h hzk hc hs H locs ls hP hD hS hl
        rw [f_X11_round] at h
        refine lv_iload_n hx hb dX11_round_97 rfl (lv_at hl 0 rfl) ?_
        obtain rfl := Option.some.inj h
        subst hc
        subst hs
        exact xr_i hx hb hr hK hzk hP hD hS hlocks dX11_round_98
      · intro z cells slots L σ r h hzk hc hs H locs ls hP hD hS hl
        rw [f_X11_round] at h
        refine lv_iload_n hx hb dX11_round_47 rfl (lv_at hl 3 rfl) ?_
        exact ih.2.2.2.2.1 z _ _ (lI (lI L 100 ((L.1 3))) 101 ((L.1 100))) σ _ h hzk hc hs H locs ls hP hD hS (lv_sub hl [0, 1, 2] rfl)
      · intro z cells slots L σ r h hzk hc hs H locs ls hP hD hS hl
        rw [f_X11_round] at h
        obtain ⟨q1, h⟩ := kr_ite1 h
        refine hs_67 hx hb hK hP hD hS q1 dX11_round_48 (fun H locs hP hD hS => ?_)
        refine lv_aload_n hx hb dX11_round_49 rfl (lv_at hl 0 rfl) ?_
        refine hg_75_5 hx hb hts in_f_X11_round_X11 hown hK hP (hts _ (List.mem_cons_of_mem _ (List.mem_append_left _ (List.mem_append_left _ (List.mem_of_getElem? (i := 5) rfl))))) dX11_round_50 ?_
        obtain ⟨r2, hc2, hle2, h9⟩ := ox_ex h
        clear h
        refine kx_v (vx_runV (As := []) (rest := []) ⟨hx, hb, hml, hown, hts⟩ (c_f_X3_makeRoom l hl0 dC dI cy ek a k lZ (uA σ 67 ((L.1 101)).toNatClampNeg ((L.1 100))) r2 hc2 z H.size) (cwV 0 hts g_f_X11_round_X3_makeRoom_V311 rfl rfl rfl hd_f_X3_makeRoom ⟨Nat.le_of_ble_eq_true rfl, Nat.le_of_ble_eq_true rfl⟩) ⟨nb_blindF, va_recv hK hP (ci := 3) (q0 := 18) rfl rfl, (kx_pre hK hG hE hT hA hP hD hS)⟩ rfl rfl hl.1 rfl (lv_room (Nat.le_of_ble_eq_true rfl)) dX11_round_53 ⟨Nat.le_trans (Nat.add_le_add_left hle2.1 _) (Nat.le_of_eq hc), Nat.le_trans (Nat.add_le_add_left hle2.2 _) (Nat.le_of_eq hs)⟩) hK hA hzk hP hD hS (by decide) hno hlocks ?_
        rcases h9 with ⟨h00, y2, hny2, hy⟩ | ⟨h00, hy⟩
        · subst hy
          have h := hny2
          refine Or.inl ⟨h00, fun z H locs hz2 hzk hP hD hS => ?_⟩
          replace hc := (Nat.add_assoc _ _ _).trans hc
          replace hs := (Nat.add_assoc _ _ _).trans hs
          refine lv_iload_n hx hb dX11_round_56 rfl (lv_at hl 1 rfl) ?_
          refine lv_aload_n hx hb dX11_round_57 rfl (lv_at hl 0 rfl) ?_
          refine lv_iconst (v := 3) hx hb dX11_round_58 (by decide) ?_
          refine lv_iconst (v := 3) hx hb dX11_round_59 (by decide) ?_
          refine lv_iload_n hx hb dX11_round_60 rfl (lv_at hl 2 rfl) ?_
          refine lv_imul hx hb dX11_round_61 ?_
          refine lv_iadd hx hb dX11_round_62 ?_
          obtain ⟨r3, hc3, h⟩ := op_ex h
          refine kc_i (va_runV (As := [.int (3 + ((3 * ((L.1 2)))))]) (rest := [.int (L.1 1)]) ⟨hx, hb, hml, hown, hts⟩ (c_y_X11_renew l dC dI cy a z k (lI lZ 1 ((3 + ((3 * ((L.1 2))))))) r2.2.1 r3 hc3 H.size) (cwV 1 hts g_y_X11_round_X11_renew_V314 rfl rfl rfl hd_y_X11_renew ⟨Nat.le_of_ble_eq_true rfl, Nat.le_of_ble_eq_true rfl⟩) ⟨nb_blind, va_recv hK hP (ci := 10) (q0 := 75) rfl rfl, (kb_pre hK hG hP hD)⟩ rfl rfl hl.1 rfl (lv_room (Nat.le_of_ble_eq_true rfl)) dX11_round_63 ⟨(Nat.le_trans (Nat.le_add_right _ _) (Nat.le_of_eq hc)), (Nat.le_trans (Nat.le_add_right _ _) (Nat.le_of_eq hs))⟩) hA hP hD hS (fun H locs hP hD hS => ?_)
          refine lv_if_eq (tgt := 73) hx hb dX11_round_66 (by decide) (fun c4 => ?_) (fun c4 => ?_)
          · rw [if_pos c4] at h
            exact ih.2.2.2.2.2.1 z _ _ (lI L 100 ((L.1 1))) r3.2 _ h hzk hc hs H locs ls hP hD hS (lv_sub hl [0, 2] rfl)
          · rw [if_neg c4] at h
            refine lv_iconst (v := 1) hx hb dX11_round_69 (by decide) ?_
            refine lv_goto (tgt := 74) hx hb dX11_round_70 (by decide) ?_
            exact ih.2.2.2.2.2.2 z _ _ (lI (lI L 100 1) 101 ((L.1 1))) r3.2 _ h hzk hc hs H locs ls hP hD hS (lv_sub hl [0, 2] rfl)
        · subst hy
          exact Or.inr ⟨h00, rfl, hc, hs⟩
      · intro z cells slots L σ r h hzk hc hs H locs ls hP hD hS hl
        rw [f_X11_round] at h
        refine lv_iconst (v := 0) hx hb dX11_round_73 (by decide) ?_
        exact ih.2.2.2.2.2.2 z _ _ (lI (lI L 100 0) 101 ((L.1 100))) σ _ h hzk hc hs H locs ls hP hD hS (lv_sub hl [0, 1] rfl)
      · intro z cells slots L σ r h hzk hc hs H locs ls hP hD hS hl
        rw [f_X11_round] at h
        refine lv_iadd hx hb dX11_round_74 ?_
        refine lv_istore_n (lv' := [(1, .int (((L.1 101)) + ((L.1 100)))), (0, .ref (a 75)), (2, .int (L.1 2))]) hx hb dX11_round_75 rfl hl (by decide) rfl (fun ls hl => ?_)
        refine lv_aload_n hx hb dX11_round_76 rfl (lv_at hl 1 rfl) ?_
        refine hg_75_4 hx hb hts in_f_X11_round_X11 hown hK hP (hts _ (List.mem_cons_of_mem _ (List.mem_append_left _ (List.mem_append_left _ (List.mem_of_getElem? (i := 11) rfl))))) dX11_round_77 ?_
        refine lv_iconst (v := 2) hx hb dX11_round_80 (by decide) ?_
        refine lv_ldc (v := (-2147483648)) hx hb hown (hts _ (List.mem_cons_of_mem _ (List.mem_append_left _ (List.mem_append_left _ (List.mem_of_getElem? (i := 14) rfl))))) dX11_round_81 ?_
        obtain ⟨q1, h⟩ := kr_ite1 h
        refine hs_67 hx hb hK hP hD hS q1 dX11_round_83 (fun H locs hP hD hS => ?_)
        refine lv_aload_n hx hb dX11_round_84 rfl (lv_at hl 1 rfl) ?_
        refine hg_75_15 hx hb hts in_f_X11_round_X11 hown hK hP (hts _ (List.mem_cons_of_mem _ (List.mem_append_left _ (List.mem_append_left _ (List.mem_of_getElem? (i := 21) rfl))))) dX11_round_85 ?_
        refine lv_iload_n hx hb dX11_round_88 rfl (lv_at hl 2 rfl) ?_
        refine lv_iconst (v := 1) hx hb dX11_round_89 (by decide) ?_
        obtain ⟨q2, h⟩ := kr_ite1 h
        refine hs_65 hx hb hK hP hD hS q2 dX11_round_90 (fun H locs hP hD hS => ?_)
        refine lv_iinc (v := ((L.1 2)) + 1) (lv' := [(2, .int (((L.1 2)) + 1)), (1, .int (((L.1 101)) + ((L.1 100)))), (0, .ref (a 75))]) hx hb dX11_round_91 hl (k := 2) rfl rfl (by decide) rfl (fun ls hl => ?_)
        refine lv_goto (tgt := 8) hx hb dX11_round_94 (by decide) ?_
        exact ih.2.1 z _ _ (lI (lI L 1 ((((L.1 101)) + ((L.1 100))))) 2 ((((L.1 2)) + 1))) (uA (uA σ 67 (2 : Int32).toNatClampNeg ((-2147483648))) 65 ((L.1 2)).toNatClampNeg (vp_nar .boolean 1)) _ h hzk hc hs H locs ls hP hD hS (lv_sub hl [2, 1, 0] rfl)
  exact (blk k0).1 z 0 0 L0 σ0 r0 h0 (zk_rf _ _) ((Nat.zero_add _).trans hmc) ((Nat.zero_add _).trans hms) s.heap [] ls hP hD hS hl

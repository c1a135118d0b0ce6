/-! X5_readExp__P -/
def f_X5_readExp__P : Nat → Nat → LV → CS → Option RS
  | 0, _, _, _ => none
  | k + 1, 0, L, σ => op (y_X7_openUnit__P k 0 (lI (lB lZ 0 ((L.2.2.1 1))) 1 41) σ) (fun r1 => ox (f_X5_begin__P k 0 (lI (lI (lB lZ 1 ((L.2.2.1 1))) 2 41) 3 ((L.1 2))) r1.2) (fun r2 => oh (f_X2_advance k 0 lZ r2.2.1) (fun r3 => oh (f_X5_exp k 0 (lI lZ 1 0) r3.2.1) (fun r4 => oh (f_X5_want k 0 (lI lZ 1 1) r4.2.1) (fun r5 => oh (f_X7_emit__P k 0 (lI (lI (lB lZ 0 ((L.2.2.1 1))) 1 10) 2 0) r5.2.1) (fun r6 => some ((0, 1), r6.2.1, (0, 0))) (fun r6 => op (y_X5_noteFault k 0 lZ r6.2.1) (fun r8 => some ((0, 0), (uI (uI r8.2 (fP ((L.2.2.1 1)) 1) ((σ.1 (fP ((L.2.2.1 1)) 1)))) (fP ((L.2.2.1 1)) 11) ((σ.1 (fP ((L.2.2.1 1)) 11)))), (0, 0))))) (fun r5 => op (y_X5_noteFault k 0 lZ r5.2.1) (fun r10 => some ((0, 0), (uI (uI r10.2 (fP ((L.2.2.1 1)) 1) ((σ.1 (fP ((L.2.2.1 1)) 1)))) (fP ((L.2.2.1 1)) 11) ((σ.1 (fP ((L.2.2.1 1)) 11)))), (0, 0))))) (fun r4 => op (y_X5_noteFault k 0 lZ r4.2.1) (fun r12 => some ((0, 0), (uI (uI r12.2 (fP ((L.2.2.1 1)) 1) ((σ.1 (fP ((L.2.2.1 1)) 1)))) (fP ((L.2.2.1 1)) 11) ((σ.1 (fP ((L.2.2.1 1)) 11)))), (0, 0))))) (fun r3 => op (y_X5_noteFault k 0 lZ r3.2.1) (fun r14 => some ((0, 0), (uI (uI r14.2 (fP ((L.2.2.1 1)) 1) ((σ.1 (fP ((L.2.2.1 1)) 1)))) (fP ((L.2.2.1 1)) 11) ((σ.1 (fP ((L.2.2.1 1)) 11)))), (0, 0))))))
  | _ + 1, _ + 1, _, _ => none
def o_f_X5_readExp__P : List Cond := [.methodLink RX5 87 yX7_openUnit, .instanceMethod yX7_openUnit, .selects RX7 yX7_openUnit yX7_openUnit, .initialized RX7, .methodLink RX5 26 yX5_begin, .instanceMethod yX5_begin, .selects RX5 yX5_begin yX5_begin, .initialized RX5, .fieldLink RX5 18 "SetHouse$Parser" "lex" "LSetHouse$Lexer;", .methodLink RX5 30 yX2_advance, .instanceMethod yX2_advance, .selects RX2 yX2_advance yX2_advance, .initialized RX2, .methodLink RX5 90 yX5_exp, .instanceMethod yX5_exp, .selects RX5 yX5_exp yX5_exp, .methodLink RX5 61 yX5_want, .instanceMethod yX5_want, .selects RX5 yX5_want yX5_want, .methodLink RX5 66 yX7_emit, .instanceMethod yX7_emit, .selects RX7 yX7_emit yX7_emit, .methodLink RX5 72 yX5_noteFault, .instanceMethod yX5_noteFault, .selects RX5 yX5_noteFault yX5_noteFault, .classLink RX5 70 "java/lang/IllegalArgumentException"]
theorem o_f_X5_readExp__P_good : o_f_X5_readExp__P.all goodWord = true := by decide +kernel
def p_f_X5_readExp__P : List Cond := o_f_X5_readExp__P ++ ((.code yX7_openUnit cX7_openUnit 2 none :: p_y_X7_openUnit__P) ++ ((.code yX5_begin cX5_begin 4 none :: p_f_X5_begin__P) ++ ((.code yX2_advance cX2_advance 7 none :: p_f_X2_advance) ++ ((.code yX5_exp cX5_exp 8 none :: p_f_F2) ++ ((.code yX5_want cX5_want 2 none :: p_f_X5_want) ++ ((.code yX7_emit cX7_emit 3 (some .int) :: p_f_X7_emit__P) ++ ((.code yX5_noteFault cX5_noteFault 1 none :: p_y_X5_noteFault) ++ [])))))))
theorem p_f_X5_readExp__P_good : p_f_X5_readExp__P.all goodWord = true := nb_all2 o_f_X5_readExp__P_good (nb_all2 (nb_allc (by decide +kernel) p_y_X7_openUnit__P_good) (nb_all2 (nb_allc (by decide +kernel) p_f_X5_begin__P_good) (nb_all2 (nb_allc (by decide +kernel) p_f_X2_advance_good) (nb_all2 (nb_allc (by decide +kernel) p_f_F2_good) (nb_all2 (nb_allc (by decide +kernel) p_f_X5_want_good) (nb_all2 (nb_allc (by decide +kernel) p_f_X7_emit__P_good) (nb_all2 (nb_allc (by decide +kernel) p_y_X5_noteFault_good) rfl)))))))
def w_f_X5_readExp__P : List Cond := .codeWith yX5_readExp cX5_readExp 6 (some .boolean) [(25, 51, 52, 70)] :: (p_f_X5_readExp__P ++ fC)
theorem w_f_X5_readExp__P_good : w_f_X5_readExp__P.all goodWord = true := nb_allc (by decide +kernel) (nb_all2 p_f_X5_readExp__P_good fC_good)
theorem in_f_X5_readExp__P_X5 : ∀ w ∈ wsX50, w ∈ w_f_X5_readExp__P := fun _ h => List.mem_cons_of_mem _ (List.mem_append_right _ (List.mem_append_right _ (List.mem_append_right _ (List.mem_append_right _ (List.mem_append_right _ (List.mem_append_left _ h))))))
theorem in_f_X5_readExp__P_X7 : ∀ w ∈ wsX70, w ∈ w_f_X5_readExp__P := fun _ h => List.mem_cons_of_mem _ (List.mem_append_right _ (List.mem_append_right _ (List.mem_append_right _ (List.mem_append_right _ (List.mem_append_right _ (List.mem_append_right _ (List.mem_append_right _ (List.mem_append_left _ h))))))))
theorem hd_f_X5_readExp__P : yX5_readExp.cls = RX5 ∧ yX5_readExp.cls ≠ "java/lang/invoke/MethodHandle" ∧ yX5_readExp.cls ≠ "java/lang/invoke/VarHandle" ∧ (parseMethodDescriptor yX5_readExp.desc).map (fun d => d.parameters.length) = some 2 := by decide +kernel
theorem gg_f_X5_readExp__P_X2_advance : GoodIn w_f_X5_readExp__P w_f_X2_advance := goodIn_sub (fun w h => (List.mem_cons.mp h).elim (fun e => (List.mem_cons_of_mem _ (List.mem_append_left _ (List.mem_append_right _ (List.mem_append_right _ (List.mem_append_right _ (List.mem_append_left _ (List.mem_cons.mpr (Or.inl e))))))))) (fun h => (List.mem_append.mp h).elim (fun h => (List.mem_cons_of_mem _ (List.mem_append_left _ (List.mem_append_right _ (List.mem_append_right _ (List.mem_append_right _ (List.mem_append_left _ (List.mem_cons_of_mem _ h)))))))) (fun h => List.mem_cons_of_mem _ (List.mem_append_right _ h)))) w_f_X2_advance_good
theorem g_f_X5_readExp__P_X2_advance_V30 : GoodIn w_f_X5_readExp__P (wsV RX5 30 RX2 yX2_advance w_f_X2_advance) := goodIn_app (nb_g4 (List.mem_cons_of_mem _ (List.mem_append_left _ (List.mem_append_left _ (List.mem_of_getElem? (i := 9) rfl)))) (List.mem_cons_of_mem _ (List.mem_append_left _ (List.mem_append_left _ (List.mem_of_getElem? (i := 10) rfl)))) (List.mem_cons_of_mem _ (List.mem_append_left _ (List.mem_append_left _ (List.mem_of_getElem? (i := 11) rfl)))) (List.mem_cons_of_mem _ (List.mem_append_left _ (List.mem_append_left _ (List.mem_of_getElem? (i := 12) rfl)))) (by decide +kernel)) gg_f_X5_readExp__P_X2_advance
theorem gg_f_X5_readExp__P_X5_begin__P : GoodIn w_f_X5_readExp__P w_f_X5_begin__P := goodIn_sub (fun w h => (List.mem_cons.mp h).elim (fun e => (List.mem_cons_of_mem _ (List.mem_append_left _ (List.mem_append_right _ (List.mem_append_right _ (List.mem_append_left _ (List.mem_cons.mpr (Or.inl e)))))))) (fun h => (List.mem_append.mp h).elim (fun h => (List.mem_cons_of_mem _ (List.mem_append_left _ (List.mem_append_right _ (List.mem_append_right _ (List.mem_append_left _ (List.mem_cons_of_mem _ h))))))) (fun h => List.mem_cons_of_mem _ (List.mem_append_right _ h)))) w_f_X5_begin__P_good
theorem g_f_X5_readExp__P_X5_begin__P_V26 : GoodIn w_f_X5_readExp__P (wsV RX5 26 RX5 yX5_begin w_f_X5_begin__P) := goodIn_app (nb_g4 (List.mem_cons_of_mem _ (List.mem_append_left _ (List.mem_append_left _ (List.mem_of_getElem? (i := 4) rfl)))) (List.mem_cons_of_mem _ (List.mem_append_left _ (List.mem_append_left _ (List.mem_of_getElem? (i := 5) rfl)))) (List.mem_cons_of_mem _ (List.mem_append_left _ (List.mem_append_left _ (List.mem_of_getElem? (i := 6) rfl)))) (List.mem_cons_of_mem _ (List.mem_append_left _ (List.mem_append_left _ (List.mem_of_getElem? (i := 7) rfl)))) (by decide +kernel)) gg_f_X5_readExp__P_X5_begin__P
theorem gg_f_X5_readExp__P_X5_exp : GoodIn w_f_X5_readExp__P w_f_X5_exp := goodIn_sub (fun w h => (List.mem_cons.mp h).elim (fun e => (List.mem_cons_of_mem _ (List.mem_append_left _ (List.mem_append_right _ (List.mem_append_right _ (List.mem_append_right _ (List.mem_append_right _ (List.mem_append_left _ (List.mem_cons.mpr (Or.inl e)))))))))) (fun h => (List.mem_append.mp h).elim (fun h => (List.mem_cons_of_mem _ (List.mem_append_left _ (List.mem_append_right _ (List.mem_append_right _ (List.mem_append_right _ (List.mem_append_right _ (List.mem_append_left _ (List.mem_cons_of_mem _ h))))))))) (fun h => List.mem_cons_of_mem _ (List.mem_append_right _ h)))) w_f_X5_exp_good
theorem g_f_X5_readExp__P_X5_exp_V90 : GoodIn w_f_X5_readExp__P (wsV RX5 90 RX5 yX5_exp w_f_X5_exp) := goodIn_app (nb_g4 (List.mem_cons_of_mem _ (List.mem_append_left _ (List.mem_append_left _ (List.mem_of_getElem? (i := 13) rfl)))) (List.mem_cons_of_mem _ (List.mem_append_left _ (List.mem_append_left _ (List.mem_of_getElem? (i := 14) rfl)))) (List.mem_cons_of_mem _ (List.mem_append_left _ (List.mem_append_left _ (List.mem_of_getElem? (i := 15) rfl)))) (List.mem_cons_of_mem _ (List.mem_append_left _ (List.mem_append_left _ (List.mem_of_getElem? (i := 7) rfl)))) (by decide +kernel)) gg_f_X5_readExp__P_X5_exp
theorem gg_f_X5_readExp__P_X5_want : GoodIn w_f_X5_readExp__P w_f_X5_want := goodIn_sub (fun w h => (List.mem_cons.mp h).elim (fun e => (List.mem_cons_of_mem _ (List.mem_append_left _ (List.mem_append_right _ (List.mem_append_right _ (List.mem_append_right _ (List.mem_append_right _ (List.mem_append_right _ (List.mem_append_left _ (List.mem_cons.mpr (Or.inl e))))))))))) (fun h => (List.mem_append.mp h).elim (fun h => (List.mem_cons_of_mem _ (List.mem_append_left _ (List.mem_append_right _ (List.mem_append_right _ (List.mem_append_right _ (List.mem_append_right _ (List.mem_append_right _ (List.mem_append_left _ (List.mem_cons_of_mem _ h)))))))))) (fun h => List.mem_cons_of_mem _ (List.mem_append_right _ h)))) w_f_X5_want_good
theorem g_f_X5_readExp__P_X5_want_V61 : GoodIn w_f_X5_readExp__P (wsV RX5 61 RX5 yX5_want w_f_X5_want) := goodIn_app (nb_g4 (List.mem_cons_of_mem _ (List.mem_append_left _ (List.mem_append_left _ (List.mem_of_getElem? (i := 16) rfl)))) (List.mem_cons_of_mem _ (List.mem_append_left _ (List.mem_append_left _ (List.mem_of_getElem? (i := 17) rfl)))) (List.mem_cons_of_mem _ (List.mem_append_left _ (List.mem_append_left _ (List.mem_of_getElem? (i := 18) rfl)))) (List.mem_cons_of_mem _ (List.mem_append_left _ (List.mem_append_left _ (List.mem_of_getElem? (i := 7) rfl)))) (by decide +kernel)) gg_f_X5_readExp__P_X5_want
theorem gg_f_X5_readExp__P_X7_emit__P : GoodIn w_f_X5_readExp__P w_f_X7_emit__P := goodIn_sub (fun w h => (List.mem_cons.mp h).elim (fun e => (List.mem_cons_of_mem _ (List.mem_append_left _ (List.mem_append_right _ (List.mem_append_right _ (List.mem_append_right _ (List.mem_append_right _ (List.mem_append_right _ (List.mem_append_right _ (List.mem_append_left _ (List.mem_cons.mpr (Or.inl e)))))))))))) (fun h => (List.mem_append.mp h).elim (fun h => (List.mem_cons_of_mem _ (List.mem_append_left _ (List.mem_append_right _ (List.mem_append_right _ (List.mem_append_right _ (List.mem_append_right _ (List.mem_append_right _ (List.mem_append_right _ (List.mem_append_left _ (List.mem_cons_of_mem _ h))))))))))) (fun h => List.mem_cons_of_mem _ (List.mem_append_right _ h)))) w_f_X7_emit__P_good
theorem g_f_X5_readExp__P_X7_emit__P_V66 : GoodIn w_f_X5_readExp__P (wsV RX5 66 RX7 yX7_emit w_f_X7_emit__P) := goodIn_app (nb_g4 (List.mem_cons_of_mem _ (List.mem_append_left _ (List.mem_append_left _ (List.mem_of_getElem? (i := 19) rfl)))) (List.mem_cons_of_mem _ (List.mem_append_left _ (List.mem_append_left _ (List.mem_of_getElem? (i := 20) rfl)))) (List.mem_cons_of_mem _ (List.mem_append_left _ (List.mem_append_left _ (List.mem_of_getElem? (i := 21) rfl)))) (List.mem_cons_of_mem _ (List.mem_append_left _ (List.mem_append_left _ (List.mem_of_getElem? (i := 3) rfl)))) (by decide +kernel)) gg_f_X5_readExp__P_X7_emit__P
theorem gg_f_X5_readExp__P_X5_noteFault : GoodIn w_f_X5_readExp__P w_y_X5_noteFault := goodIn_sub (fun w h => (List.mem_cons.mp h).elim (fun e => (List.mem_cons_of_mem _ (List.mem_append_left _ (List.mem_append_right _ (List.mem_append_right _ (List.mem_append_right _ (List.mem_append_right _ (List.mem_append_right _ (List.mem_append_right _ (List.mem_append_right _ (List.mem_append_left _ (List.mem_cons.mpr (Or.inl e))))))))))))) (fun h => (List.mem_append.mp h).elim (fun h => (List.mem_cons_of_mem _ (List.mem_append_left _ (List.mem_append_right _ (List.mem_append_right _ (List.mem_append_right _ (List.mem_append_right _ (List.mem_append_right _ (List.mem_append_right _ (List.mem_append_right _ (List.mem_append_left _ (List.mem_cons_of_mem _ h)))))))))))) (fun h => List.mem_cons_of_mem _ (List.mem_append_right _ h)))) w_y_X5_noteFault_good
theorem g_y_X5_readExp__P_X5_noteFault_V72 : GoodIn w_f_X5_readExp__P (wsV RX5 72 RX5 yX5_noteFault w_y_X5_noteFault) := goodIn_app (nb_g4 (List.mem_cons_of_mem _ (List.mem_append_left _ (List.mem_append_left _ (List.mem_of_getElem? (i := 22) rfl)))) (List.mem_cons_of_mem _ (List.mem_append_left _ (List.mem_append_left _ (List.mem_of_getElem? (i := 23) rfl)))) (List.mem_cons_of_mem _ (List.mem_append_left _ (List.mem_append_left _ (List.mem_of_getElem? (i := 24) rfl)))) (List.mem_cons_of_mem _ (List.mem_append_left _ (List.mem_append_left _ (List.mem_of_getElem? (i := 7) rfl)))) (by decide +kernel)) gg_f_X5_readExp__P_X5_noteFault
theorem gg_f_X5_readExp__P_X7_openUnit__P : GoodIn w_f_X5_readExp__P w_y_X7_openUnit__P := goodIn_sub (fun w h => (List.mem_cons.mp h).elim (fun e => (List.mem_cons_of_mem _ (List.mem_append_left _ (List.mem_append_right _ (List.mem_append_left _ (List.mem_cons.mpr (Or.inl e))))))) (fun h => (List.mem_append.mp h).elim (fun h => (List.mem_cons_of_mem _ (List.mem_append_left _ (List.mem_append_right _ (List.mem_append_left _ (List.mem_cons_of_mem _ h)))))) (fun h => List.mem_cons_of_mem _ (List.mem_append_right _ h)))) w_y_X7_openUnit__P_good
theorem g_y_X5_readExp__P_X7_openUnit__P_V87 : GoodIn w_f_X5_readExp__P (wsV RX5 87 RX7 yX7_openUnit w_y_X7_openUnit__P) := goodIn_app (nb_g4 (List.mem_cons_of_mem _ (List.mem_append_left _ (List.mem_append_left _ (List.mem_of_getElem? (i := 0) rfl)))) (List.mem_cons_of_mem _ (List.mem_append_left _ (List.mem_append_left _ (List.mem_of_getElem? (i := 1) rfl)))) (List.mem_cons_of_mem _ (List.mem_append_left _ (List.mem_append_left _ (List.mem_of_getElem? (i := 2) rfl)))) (List.mem_cons_of_mem _ (List.mem_append_left _ (List.mem_append_left _ (List.mem_of_getElem? (i := 3) rfl)))) (by decide +kernel)) gg_f_X5_readExp__P_X7_openUnit__P
set_option maxHeartbeats 40000000 in
set_option maxRecDepth 100000 in
theorem c_f_X5_readExp__P (l : Launch) (hl0 : l.stackTraces = false) (dC : Nat → ClassId) (dI : Nat → Nat → Nat) (cy : Nat → ClassId) (ek a : Nat → Nat) (k0 : Nat) (L0 : LV) (σ0 : CS) (r0 : RS) (h0 : f_X5_readExp__P k0 0 L0 σ0 = some r0) (z : Nat → Nat) (sz : Nat) : vx_Met l yX5_readExp w_f_X5_readExp__P ({ frames := 410, cells := r0.2.2.1, slots := r0.2.2.2, locals := 13400 }) (va_Pc [.ref (a 40), .ref (a (pA (L0.2.2.1 1))), .int (L0.1 2)] (nInF (dC, dI) cy ek sz (vC cy a z σ0))) (xI dC dI cy a (va_A (vC cy a z σ0) sz) [38, 41, 43, 51] z r0) (xX dC dI cy a (va_A (vC cy a z σ0) sz) [38, 41, 43, 51] z r0) r0.2.2.1 r0.2.2.2 (va_A (vC cy a z σ0) sz) := by
  refine vx_ofWH (cc := cX5_readExp) (maxL := 6) (ret := (some .boolean)) (by decide) rfl ?_
  intro p e s m args below meth c s₁ B hml hv
  obtain ⟨rfl, ⟨⟨hsz, hP, hK, hD0, hG⟩, hE⟩, hT⟩ := hv
  have hx := B.exec
  have hb := B.bytes
  have hr := B.returns
  have hts := atoms_spec (ws := w_f_X5_readExp__P) B.pre
  have hown : s.vm.findClass RX5 = some m.cls := findClass_of_methodNamed B.named
  have hTb : c.exceptionTable.toList = tableOf [(25, 51, 52, 70)] := vx_table (x := yX5_readExp) B (hts _ List.mem_cons_self)
  have hlocks := B.notSynchronized
  subst hsz
  have hD := hD0.self (sz := s.heap.size)
  generalize hAe : va_A (vC cy a z σ0) s.heap.size = A at hD hE hT ⊢
  have hA : ∀ q : Nat, s.heap.size ≤ q → A q := fun q h => by rw [← hAe]; exact Or.inr h
  have hS : va_S A s.heap s.heap [] := va_S.rf
  have hl := lv_entry ([.ref (a 40), .ref (a (pA (L0.2.2.1 1))), .int (L0.1 2)]) (n := 6) (Nat.le_of_ble_eq_true rfl)
  rw [lg_entry_eq]
  generalize (lg_sl ([.ref (a 40), .ref (a (pA (L0.2.2.1 1))), .int (L0.1 2)]) ++ List.replicate (6 - (lg_sl ([.ref (a 40), .ref (a (pA (L0.2.2.1 1))), .int (L0.1 2)])).length) Slot.unset).toArray = ls at hl ⊢
  have hl : lv_has ls 6 [(0, .ref (a 40)), (1, .ref (a (pA (L0.2.2.1 1)))), (2, .int (L0.1 2))] := hl
  generalize hmc : r0.2.2.1 = mc
  generalize hms : r0.2.2.2 = ms
  have blk : ∀ k : Nat, (bX p l e (headSpec w_f_X5_readExp__P ({ frames := 410, cells := mc, slots := ms, locals := 13400 })).room s m #[.ref (a 40), .ref (a (pA (L0.2.2.1 1))), .int (L0.1 2)] below meth c dC dI cy a A (fun r => vx_MQ below (xI dC dI cy a A [38, 41, 43, 51] z r) (xX dC dI cy a A [38, 41, 43, 51] z r) #[.ref (a 40), .ref (a (pA (L0.2.2.1 1))), .int (L0.1 2)] s mc ms A) [38, 41, 43, 51] z mc ms 6 (f_X5_readExp__P k 0) (fun z L => [(0, .ref (a 40)), (1, .ref (a (pA (L.2.2.1 1)))), (2, .int (L.1 2))]) 0 (fun z L => [])) := by
    intro k
    induction k with
    | zero => exact fun z c1 c2 L σ r h => (by cases h)
    | succ k ih =>
      skip
      · intro z cells slots L σ r h hzk hc hs H locs ls hP hD hS hl
        rw [f_X5_readExp__P] at h
        refine lv_aload_n hx hb dX5_readExp_0 rfl (lv_at hl 1 rfl) ?_
        refine hg_P_1n ((L.2.2.1 1)) hx hb hts in_f_X5_readExp__P_X7 hown hK hP (va_Nw.use rfl (hG.1 _ (List.mem_of_getElem? (i := 68) rfl))) dX5_readExp_1 ?_
        refine lv_istore_n (lv' := [(3, .int (σ.1 (fP ((L.2.2.1 1)) 1))), (0, .ref (a 40)), (1, .ref (a (pA (L.2.2.1 1)))), (2, .int (L.1 2))]) hx hb dX5_readExp_4 rfl hl (by decide) rfl (fun ls hl => ?_)
        refine lv_aload_n hx hb dX5_readExp_5 rfl (lv_at hl 2 rfl) ?_
        refine hg_P_11n ((L.2.2.1 1)) hx hb hts in_f_X5_readExp__P_X7 hown hK hP (va_Nw.use rfl (hG.1 _ (List.mem_of_getElem? (i := 82) rfl))) dX5_readExp_6 ?_
        refine lv_istore (lv' := [(4, .int (σ.1 (fP ((L.2.2.1 1)) 11))), (3, .int (σ.1 (fP ((L.2.2.1 1)) 1))), (0, .ref (a 40)), (1, .ref (a (pA (L.2.2.1 1)))), (2, .int (L.1 2))]) hx hb dX5_readExp_9 hl (by decide) rfl (fun ls hl => ?_)
        refine lv_aload_n hx hb dX5_readExp_11 rfl (lv_at hl 3 rfl) ?_
        refine lv_bipush (v := 41) hx hb dX5_readExp_12 (by decide) ?_
        obtain ⟨r1, hc1, h⟩ := op_ex h
        refine kc_v (va_runV (As := [.int 41]) (rest := []) ⟨hx, hb, hml, hown, hts⟩ (c_y_X7_openUnit__P l dC dI cy a z k (lI (lB lZ 0 ((L.2.2.1 1))) 1 41) σ r1 hc1 H.size) (cwV 1 hts g_y_X5_readExp__P_X7_openUnit__P_V87 rfl rfl rfl hd_y_X7_openUnit__P ⟨Nat.le_of_ble_eq_true rfl, Nat.le_of_ble_eq_true rfl⟩) ⟨nb_blind, recvP ((L.2.2.1 1)) hK hP, (kb_pre hK hG hP hD)⟩ rfl rfl hl.1 rfl (lv_room (Nat.le_of_ble_eq_true rfl)) dX5_readExp_14 ⟨(Nat.le_trans (Nat.le_add_right _ _) (Nat.le_of_eq hc)), (Nat.le_trans (Nat.le_add_right _ _) (Nat.le_of_eq hs))⟩) hA hP hD hS (fun H locs hP hD hS => ?_)
        refine lv_aload_n hx hb dX5_readExp_17 rfl (lv_at hl 2 rfl) ?_
        refine lv_aload_n hx hb dX5_readExp_18 rfl (lv_at hl 3 rfl) ?_
        refine lv_bipush (v := 41) hx hb dX5_readExp_19 (by decide) ?_
        refine lv_iload_n hx hb dX5_readExp_21 rfl (lv_at hl 4 rfl) ?_
        obtain ⟨r2, hc2, hle2, h9⟩ := ox_ex h
        clear h
        refine kt_v (vx_runV (As := [.ref (a (pA (L.2.2.1 1))), .int 41, .int (L.1 2)]) (rest := []) ⟨hx, hb, hml, hown, hts⟩ (c_f_X5_begin__P l hl0 dC dI cy ek a k (lI (lI (lB lZ 1 ((L.2.2.1 1))) 2 41) 3 ((L.1 2))) r1.2 r2 hc2 z H.size) (cwV 3 hts g_f_X5_readExp__P_X5_begin__P_V26 rfl rfl rfl hd_f_X5_begin__P ⟨Nat.le_of_ble_eq_true rfl, Nat.le_of_ble_eq_true rfl⟩) ⟨nb_blindF, va_recv hK hP (ci := 4) (q0 := 40) rfl rfl, (kx_pre hK hG hE hT hA hP hD hS)⟩ rfl rfl hl.1 rfl (lv_room (Nat.le_of_ble_eq_true rfl)) dX5_readExp_22 ⟨Nat.le_trans (Nat.add_le_add_left hle2.1 _) (Nat.le_of_eq hc), Nat.le_trans (Nat.add_le_add_left hle2.2 _) (Nat.le_of_eq hs)⟩) hA hP hD hS ?_ ?_
        · intro h00 z H locs hz2 hP hD hS
          rcases h9 with ⟨_, y2, hny2, hy⟩ | ⟨h01, _⟩
          · subst hy
            have h := hny2
            have hzk := zk_tr hzk hz2 (by decide)
            replace hc := (Nat.add_assoc _ _ _).trans hc
            replace hs := (Nat.add_assoc _ _ _).trans hs
            refine lv_aload_n hx hb dX5_readExp_25 rfl (lv_at hl 2 rfl) ?_
            refine hg_40_0 hx hb hts in_f_X5_readExp__P_X5 hown hK hP (hts _ (List.mem_cons_of_mem _ (List.mem_append_left _ (List.mem_append_left _ (List.mem_of_getElem? (i := 8) rfl))))) dX5_readExp_26 ?_
            obtain ⟨r3, hc3, hle3, h9⟩ := oh_ex h
            clear h
            refine kt_v (vx_runV (As := []) (rest := []) ⟨hx, hb, hml, hown, hts⟩ (c_f_X2_advance l hl0 dC dI cy ek a k lZ r2.2.1 r3 hc3 z H.size) (cwV 0 hts g_f_X5_readExp__P_X2_advance_V30 rfl rfl rfl hd_f_X2_advance ⟨Nat.le_of_ble_eq_true rfl, Nat.le_of_ble_eq_true rfl⟩) ⟨nb_blindF, va_recv hK hP (ci := 2) (q0 := 37) rfl rfl, (kx_pre hK hG hE hT hA hP hD hS)⟩ rfl rfl hl.1 rfl (lv_room (Nat.le_of_ble_eq_true rfl)) dX5_readExp_29 ⟨Nat.le_trans (Nat.add_le_add_left hle3.1 _) (Nat.le_of_eq hc), Nat.le_trans (Nat.add_le_add_left hle3.2 _) (Nat.le_of_eq hs)⟩) hA hP hD hS ?_ ?_
            · intro h00 u H locs hz3 hP hD hS
              rcases h9 with ⟨_, y3, hny3, hy⟩ | ⟨h01, _⟩
              · subst hy
                have h := hny3
                obtain rfl := (zk_nil hz3).symm
                replace hc := (Nat.add_assoc _ _ _).trans hc
                replace hs := (Nat.add_assoc _ _ _).trans hs
                refine lv_aload_n hx hb dX5_readExp_32 rfl (lv_at hl 2 rfl) ?_
                refine lv_iconst (v := 0) hx hb dX5_readExp_33 (by decide) ?_
                obtain ⟨r4, hc4, hle4, h9⟩ := oh_ex h
                clear h
                refine kt_v (vx_runV (As := [.int 0]) (rest := []) ⟨hx, hb, hml, hown, hts⟩ (c_f_X5_exp l hl0 dC dI cy ek a k (lI lZ 1 0) r3.2.1 r4 hc4 z H.size) (cwV 1 hts g_f_X5_readExp__P_X5_exp_V90 rfl rfl rfl hd_f_X5_exp ⟨Nat.le_of_ble_eq_true rfl, Nat.le_of_ble_eq_true rfl⟩) ⟨nb_blindF, va_recv hK hP (ci := 4) (q0 := 40) rfl rfl, (kx_pre hK hG hE hT hA hP hD hS)⟩ rfl rfl hl.1 rfl (lv_room (Nat.le_of_ble_eq_true rfl)) dX5_readExp_34 ⟨Nat.le_trans (Nat.add_le_add_left hle4.1 _) (Nat.le_of_eq hc), Nat.le_trans (Nat.add_le_add_left hle4.2 _) (Nat.le_of_eq hs)⟩) hA hP hD hS ?_ ?_
                · intro h00 z H locs hz4 hP hD hS
                  rcases h9 with ⟨_, y4, hny4, hy⟩ | ⟨h01, _⟩
                  · subst hy
                    have h := hny4
                    have hzk := zk_tr hzk hz4 (by decide)
                    replace hc := (Nat.add_assoc _ _ _).trans hc
                    replace hs := (Nat.add_assoc _ _ _).trans hs
                    refine lv_aload_n hx hb dX5_readExp_37 rfl (lv_at hl 2 rfl) ?_
                    refine lv_iconst (v := 1) hx hb dX5_readExp_38 (by decide) ?_
                    obtain ⟨r5, hc5, hle5, h9⟩ := oh_ex h
                    clear h
                    refine kt_v (vx_runV (As := [.int 1]) (rest := []) ⟨hx, hb, hml, hown, hts⟩ (c_f_X5_want l hl0 dC dI cy ek a k (lI lZ 1 1) r4.2.1 r5 hc5 z H.size) (cwV 1 hts g_f_X5_readExp__P_X5_want_V61 rfl rfl rfl hd_f_X5_want ⟨Nat.le_of_ble_eq_true rfl, Nat.le_of_ble_eq_true rfl⟩) ⟨nb_blindF, va_recv hK hP (ci := 4) (q0 := 40) rfl rfl, (kx_pre hK hG hE hT hA hP hD hS)⟩ rfl rfl hl.1 rfl (lv_room (Nat.le_of_ble_eq_true rfl)) dX5_readExp_39 ⟨Nat.le_trans (Nat.add_le_add_left hle5.1 _) (Nat.le_of_eq hc), Nat.le_trans (Nat.add_le_add_left hle5.2 _) (Nat.le_of_eq hs)⟩) hA hP hD hS ?_ ?_
                    · intro h00 u H locs hz5 hP hD hS
                      rcases h9 with ⟨_, y5, hny5, hy⟩ | ⟨h01, _⟩
                      · subst hy
                        have h := hny5
                        obtain rfl := (zk_nil hz5).symm
                        replace hc := (Nat.add_assoc _ _ _).trans hc
                        replace hs := (Nat.add_assoc _ _ _).trans hs
                        refine lv_aload_n hx hb dX5_readExp_42 rfl (lv_at hl 3 rfl) ?_
                        refine lv_bipush (v := 10) hx hb dX5_readExp_43 (by decide) ?_
                        refine lv_iconst (v := 0) hx hb dX5_readExp_45 (by decide) ?_
                        obtain ⟨r6, hc6, hle6, h9⟩ := oh_ex h
                        clear h
                        refine kt_i (vx_runV (As := [.int 10, .int 0]) (rest := []) ⟨hx, hb, hml, hown, hts⟩ (c_f_X7_emit__P l hl0 dC dI cy ek a k (lI (lI (lB lZ 0 ((L.2.2.1 1))) 1 10) 2 0) r5.2.1 r6 hc6 z H.size) (cwV 2 hts g_f_X5_readExp__P_X7_emit__P_V66 rfl rfl rfl hd_f_X7_emit__P ⟨Nat.le_of_ble_eq_true rfl, Nat.le_of_ble_eq_true rfl⟩) ⟨nb_blindF, recvP ((L.2.2.1 1)) hK hP, (kx_pre hK hG hE hT hA hP hD hS)⟩ rfl rfl hl.1 rfl (lv_room (Nat.le_of_ble_eq_true rfl)) dX5_readExp_46 ⟨Nat.le_trans (Nat.add_le_add_left hle6.1 _) (Nat.le_of_eq hc), Nat.le_trans (Nat.add_le_add_left hle6.2 _) (Nat.le_of_eq hs)⟩) hA hP hD hS ?_ ?_
                        · intro h00 z H locs hz6 hP hD hS
                          rcases h9 with ⟨_, y6, hny6, hy⟩ | ⟨h01, _⟩
                          · subst hy
                            have h := hny6
                            have hzk := zk_tr hzk hz6 (by decide)
                            replace hc := (Nat.add_assoc _ _ _).trans hc
                            replace hs := (Nat.add_assoc _ _ _).trans hs
                            refine lv_pop hx hb dX5_readExp_49 rfl ?_
                            refine lv_iconst (v := 1) hx hb dX5_readExp_50 (by decide) ?_
                            obtain rfl := Option.some.inj h
                            subst hc
                            subst hs
                            exact xr_z (Or.inr rfl) hx hb hr hK hzk hP hD hS hlocks dX5_readExp_51
                          · exact absurd h00 (by rw [h01]; decide)
                        · intro h00 z H locs q9 ce hz6 hP hD hS hce hcv hcl
                          rcases h9 with ⟨h01, _⟩ | ⟨h01, y6, hny6, hy⟩
                          · exact absurd h01 h00
                          · subst hy
                            have h := hny6
                            rw [h01] at hcl
                            have hzk := zk_tr hzk hz6 (by decide)
                            replace hc := (Nat.add_assoc _ _ _).trans hc
                            replace hs := (Nat.add_assoc _ _ _).trans hs
                            refine vx_catch (E := "java/lang/IllegalArgumentException") (name := "java/lang/IllegalArgumentException") hown [] (⟨25, 51, 52, 70⟩ : ExceptionTableEntry) [] (by rw [hTb]; rfl) (fun z h => absurd h List.not_mem_nil) (by decide) (by decide) (hts _ (List.mem_cons_of_mem _ (List.mem_append_left _ (List.mem_append_left _ (List.mem_of_getElem? (i := 25) rfl))))) (va_Nw.use (by decide +kernel) (hT.2.2.1 _ (List.mem_of_getElem? (i := 1) rfl))) hce hcv hcl ?_
                            refine lv_astore (lv' := [(5, .ref q9), (4, .int (σ.1 (fP ((L.2.2.1 1)) 11))), (3, .int (σ.1 (fP ((L.2.2.1 1)) 1))), (0, .ref (a 40)), (1, .ref (a (pA (L.2.2.1 1)))), (2, .int (L.1 2))]) hx hb dX5_readExp_52 hl (by decide) rfl (fun ls hl => ?_)
                            refine lv_aload_n hx hb dX5_readExp_54 rfl (lv_at hl 3 rfl) ?_
                            obtain ⟨r8, hc8, h⟩ := op_ex h
                            refine kc_v (va_runV (As := []) (rest := []) ⟨hx, hb, hml, hown, hts⟩ (c_y_X5_noteFault l dC dI cy a z k lZ r6.2.1 r8 hc8 H.size) (cwV 0 hts g_y_X5_readExp__P_X5_noteFault_V72 rfl rfl rfl hd_y_X5_noteFault ⟨Nat.le_of_ble_eq_true rfl, Nat.le_of_ble_eq_true rfl⟩) ⟨nb_blind, va_recv hK hP (ci := 4) (q0 := 40) rfl rfl, (kb_pre hK hG hP hD)⟩ rfl rfl hl.1 rfl (lv_room (Nat.le_of_ble_eq_true rfl)) dX5_readExp_55 ⟨(Nat.le_trans (Nat.le_add_right _ _) (Nat.le_of_eq hc)), (Nat.le_trans (Nat.le_add_right _ _) (Nat.le_of_eq hs))⟩) hA hP hD hS (fun H locs hP hD hS => ?_)
                            refine lv_aload_n hx hb dX5_readExp_58 rfl (lv_at hl 4 rfl) ?_
                            refine lv_iload_n hx hb dX5_readExp_59 rfl (lv_at hl 2 rfl) ?_
                            refine hp_P_1n ((L.2.2.1 1)) hx hb hts in_f_X5_readExp__P_X7 hown hK hP hD hS (va_Nw.use rfl (hG.1 _ (List.mem_of_getElem? (i := 68) rfl))) dX5_readExp_60 (fun H locs hP hD hS => ?_)
                            refine lv_aload_n hx hb dX5_readExp_63 rfl (lv_at hl 4 rfl) ?_
                            refine lv_iload hx hb dX5_readExp_64 (lv_at hl 1 rfl) ?_
                            refine hp_P_11n ((L.2.2.1 1)) hx hb hts in_f_X5_readExp__P_X7 hown hK hP hD hS (va_Nw.use rfl (hG.1 _ (List.mem_of_getElem? (i := 82) rfl))) dX5_readExp_66 (fun H locs hP hD hS => ?_)
                            refine lv_iconst (v := 0) hx hb dX5_readExp_69 (by decide) ?_
                            obtain rfl := Option.some.inj h
                            subst hc
                            subst hs
                            exact xr_z (Or.inl rfl) hx hb hr hK hzk hP hD hS hlocks dX5_readExp_70
                      · exact absurd h00 (by rw [h01]; decide)
                    · intro h00 u H locs q9 ce hz5 hP hD hS hce hcv hcl
                      rcases h9 with ⟨h01, _⟩ | ⟨h01, y5, hny5, hy⟩
                      · exact absurd h01 h00
                      · subst hy
                        have h := hny5
                        rw [h01] at hcl
                        obtain rfl := (zk_nil hz5).symm
                        replace hc := (Nat.add_assoc _ _ _).trans hc
                        replace hs := (Nat.add_assoc _ _ _).trans hs
                        refine vx_catch (E := "java/lang/IllegalArgumentException") (name := "java/lang/IllegalArgumentException") hown [] (⟨25, 51, 52, 70⟩ : ExceptionTableEntry) [] (by rw [hTb]; rfl) (fun z h => absurd h List.not_mem_nil) (by decide) (by decide) (hts _ (List.mem_cons_of_mem _ (List.mem_append_left _ (List.mem_append_left _ (List.mem_of_getElem? (i := 25) rfl))))) (va_Nw.use (by decide +kernel) (hT.2.2.1 _ (List.mem_of_getElem? (i := 1) rfl))) hce hcv hcl ?_
                        refine lv_astore (lv' := [(5, .ref q9), (4, .int (σ.1 (fP ((L.2.2.1 1)) 11))), (3, .int (σ.1 (fP ((L.2.2.1 1)) 1))), (0, .ref (a 40)), (1, .ref (a (pA (L.2.2.1 1)))), (2, .int (L.1 2))]) hx hb dX5_readExp_52 hl (by decide) rfl (fun ls hl => ?_)
                        refine lv_aload_n hx hb dX5_readExp_54 rfl (lv_at hl 3 rfl) ?_
                        obtain ⟨r10, hc10, h⟩ := op_ex h
                        refine kc_v (va_runV (As := []) (rest := []) ⟨hx, hb, hml, hown, hts⟩ (c_y_X5_noteFault l dC dI cy a z k lZ r5.2.1 r10 hc10 H.size) (cwV 0 hts g_y_X5_readExp__P_X5_noteFault_V72 rfl rfl rfl hd_y_X5_noteFault ⟨Nat.le_of_ble_eq_true rfl, Nat.le_of_ble_eq_true rfl⟩) ⟨nb_blind, va_recv hK hP (ci := 4) (q0 := 40) rfl rfl, (kb_pre hK hG hP hD)⟩ rfl rfl hl.1 rfl (lv_room (Nat.le_of_ble_eq_true rfl)) dX5_readExp_55 ⟨(Nat.le_trans (Nat.le_add_right _ _) (Nat.le_of_eq hc)), (Nat.le_trans (Nat.le_add_right _ _) (Nat.le_of_eq hs))⟩) hA hP hD hS (fun H locs hP hD hS => ?_)
                        refine lv_aload_n hx hb dX5_readExp_58 rfl (lv_at hl 4 rfl) ?_
                        refine lv_iload_n hx hb dX5_readExp_59 rfl (lv_at hl 2 rfl) ?_
                        refine hp_P_1n ((L.2.2.1 1)) hx hb hts in_f_X5_readExp__P_X7 hown hK hP hD hS (va_Nw.use rfl (hG.1 _ (List.mem_of_getElem? (i := 68) rfl))) dX5_readExp_60 (fun H locs hP hD hS => ?_)
                        refine lv_aload_n hx hb dX5_readExp_63 rfl (lv_at hl 4 rfl) ?_
                        refine lv_iload hx hb dX5_readExp_64 (lv_at hl 1 rfl) ?_
                        refine hp_P_11n ((L.2.2.1 1)) hx hb hts in_f_X5_readExp__P_X7 hown hK hP hD hS (va_Nw.use rfl (hG.1 _ (List.mem_of_getElem? (i := 82) rfl))) dX5_readExp_66 (fun H locs hP hD hS => ?_)
                        refine lv_iconst (v := 0) hx hb dX5_readExp_69 (by decide) ?_
                        obtain rfl := Option.some.inj h
                        subst hc
                        subst hs
                        exact xr_z (Or.inl rfl) hx hb hr hK hzk hP hD hS hlocks dX5_readExp_70
                  · exact absurd h00 (by rw [h01]; decide)
                · intro h00 z H locs q9 ce hz4 hP hD hS hce hcv hcl
                  rcases h9 with ⟨h01, _⟩ | ⟨h01, y4, hny4, hy⟩
                  · exact absurd h01 h00
                  · subst hy
                    have h := hny4
                    rw [h01] at hcl
                    have hzk := zk_tr hzk hz4 (by decide)
                    replace hc := (Nat.add_assoc _ _ _).trans hc
                    replace hs := (Nat.add_assoc _ _ _).trans hs
                    refine vx_catch (E := "java/lang/IllegalArgumentException") (name := "java/lang/IllegalArgumentException") hown [] (⟨25, 51, 52, 70⟩ : ExceptionTableEntry) [] (by rw [hTb]; rfl) (fun z h => absurd h List.not_mem_nil) (by decide) (by decide) (hts _ (List.mem_cons_of_mem _ (List.mem_append_left _ (List.mem_append_left _ (List.mem_of_getElem? (i := 25) rfl))))) (va_Nw.use (by decide +kernel) (hT.2.2.1 _ (List.mem_of_getElem? (i := 1) rfl))) hce hcv hcl ?_
                    refine lv_astore (lv' := [(5, .ref q9), (4, .int (σ.1 (fP ((L.2.2.1 1)) 11))), (3, .int (σ.1 (fP ((L.2.2.1 1)) 1))), (0, .ref (a 40)), (1, .ref (a (pA (L.2.2.1 1)))), (2, .int (L.1 2))]) hx hb dX5_readExp_52 hl (by decide) rfl (fun ls hl => ?_)
                    refine lv_aload_n hx hb dX5_readExp_54 rfl (lv_at hl 3 rfl) ?_
                    obtain ⟨r12, hc12, h⟩ := op_ex h
                    refine kc_v (va_runV (As := []) (rest := []) ⟨hx, hb, hml, hown, hts⟩ (c_y_X5_noteFault l dC dI cy a z k lZ r4.2.1 r12 hc12 H.size) (cwV 0 hts g_y_X5_readExp__P_X5_noteFault_V72 rfl rfl rfl hd_y_X5_noteFault ⟨Nat.le_of_ble_eq_true rfl, Nat.le_of_ble_eq_true rfl⟩) ⟨nb_blind, va_recv hK hP (ci := 4) (q0 := 40) rfl rfl, (kb_pre hK hG hP hD)⟩ rfl rfl hl.1 rfl (lv_room (Nat.le_of_ble_eq_true rfl)) dX5_readExp_55 ⟨(Nat.le_trans (Nat.le_add_right _ _) (Nat.le_of_eq hc)), (Nat.le_trans (Nat.le_add_right _ _) (Nat.le_of_eq hs))⟩) hA hP hD hS (fun H locs hP hD hS => ?_)
                    refine lv_aload_n hx hb dX5_readExp_58 rfl (lv_at hl 4 rfl) ?_
                    refine lv_iload_n hx hb dX5_readExp_59 rfl (lv_at hl 2 rfl) ?_
                    refine hp_P_1n ((L.2.2.1 1)) hx hb hts in_f_X5_readExp__P_X7 hown hK hP hD hS (va_Nw.use rfl (hG.1 _ (List.mem_of_getElem? (i := 68) rfl))) dX5_readExp_60 (fun H locs hP hD hS => ?_)
                    refine lv_aload_n hx hb dX5_readExp_63 rfl (lv_at hl 4 rfl) ?_
                    refine lv_iload hx hb dX5_readExp_64 (lv_at hl 1 rfl) ?_
                    refine hp_P_11n ((L.2.2.1 1)) hx hb hts in_f_X5_readExp__P_X7 hown hK hP hD hS (va_Nw.use rfl (hG.1 _ (List.mem_of_getElem? (i := 82) rfl))) dX5_readExp_66 (fun H locs hP hD hS => ?_)
                    refine lv_iconst (v := 0) hx hb dX5_readExp_69 (by decide) ?_
                    obtain rfl := Option.some.inj h
                    subst hc
                    subst hs
                    exact xr_z (Or.inl rfl) hx hb hr hK hzk hP hD hS hlocks dX5_readExp_70
              · exact absurd h00 (by rw [h01]; decide)
            · intro h00 u H locs q9 ce hz3 hP hD hS hce hcv hcl
              rcases h9 with ⟨h01, _⟩ | ⟨h01, y3, hny3, hy⟩
              · exact absurd h01 h00
              · subst hy
                have h := hny3
                rw [h01] at hcl
                obtain rfl := (zk_nil hz3).symm
                replace hc := (Nat.add_assoc _ _ _).trans hc
                replace hs := (Nat.add_assoc _ _ _).trans hs
                refine vx_catch (E := "java/lang/IllegalArgumentException") (name := "java/lang/IllegalArgumentException") hown [] (⟨25, 51, 52, 70⟩ : ExceptionTableEntry) [] (by rw [hTb]; rfl) (fun z h => absurd h List.not_mem_nil) (by decide) (by decide) (hts _ (List.mem_cons_of_mem _ (List.mem_append_left _ (List.mem_append_left _ (List.mem_of_getElem? (i := 25) rfl))))) (va_Nw.use (by decide +kernel) (hT.2.2.1 _ (List.mem_of_getElem? (i := 1) rfl))) hce hcv hcl ?_
                refine lv_astore (lv' := [(5, .ref q9), (4, .int (σ.1 (fP ((L.2.2.1 1)) 11))), (3, .int (σ.1 (fP ((L.2.2.1 1)) 1))), (0, .ref (a 40)), (1, .ref (a (pA (L.2.2.1 1)))), (2, .int (L.1 2))]) hx hb dX5_readExp_52 hl (by decide) rfl (fun ls hl => ?_)
                refine lv_aload_n hx hb dX5_readExp_54 rfl (lv_at hl 3 rfl) ?_
                obtain ⟨r14, hc14, h⟩ := op_ex h
                refine kc_v (va_runV (As := []) (rest := []) ⟨hx, hb, hml, hown, hts⟩ (c_y_X5_noteFault l dC dI cy a z k lZ r3.2.1 r14 hc14 H.size) (cwV 0 hts g_y_X5_readExp__P_X5_noteFault_V72 rfl rfl rfl hd_y_X5_noteFault ⟨Nat.le_of_ble_eq_true rfl, Nat.le_of_ble_eq_true rfl⟩) ⟨nb_blind, va_recv hK hP (ci := 4) (q0 := 40) rfl rfl, (kb_pre hK hG hP hD)⟩ rfl rfl hl.1 rfl (lv_room (Nat.le_of_ble_eq_true rfl)) dX5_readExp_55 ⟨(Nat.le_trans (Nat.le_add_right _ _) (Nat.le_of_eq hc)), (Nat.le_trans (Nat.le_add_right _ _) (Nat.le_of_eq hs))⟩) hA hP hD hS (fun H locs hP hD hS => ?_)
                refine lv_aload_n hx hb dX5_readExp_58 rfl (lv_at hl 4 rfl) ?_
                refine lv_iload_n hx hb dX5_readExp_59 rfl (lv_at hl 2 rfl) ?_
                refine hp_P_1n ((L.2.2.1 1)) hx hb hts in_f_X5_readExp__P_X7 hown hK hP hD hS (va_Nw.use rfl (hG.1 _ (List.mem_of_getElem? (i := 68) rfl))) dX5_readExp_60 (fun H locs hP hD hS => ?_)
                refine lv_aload_n hx hb dX5_readExp_63 rfl (lv_at hl 4 rfl) ?_
                refine lv_iload hx hb dX5_readExp_64 (lv_at hl 1 rfl) ?_
                refine hp_P_11n ((L.2.2.1 1)) hx hb hts in_f_X5_readExp__P_X7 hown hK hP hD hS (va_Nw.use rfl (hG.1 _ (List.mem_of_getElem? (i := 82) rfl))) dX5_readExp_66 (fun H locs hP hD hS => ?_)
                refine lv_iconst (v := 0) hx hb dX5_readExp_69 (by decide) ?_
                obtain rfl := Option.some.inj h
                subst hc
                subst hs
                exact xr_z (Or.inl rfl) hx hb hr hK hzk hP hD hS hlocks dX5_readExp_70
          · exact absurd h00 h01
        · intro h00 u H locs q9 ce hz2 hP hD hS hce hcv hcl
          rcases h9 with ⟨h01, _⟩ | ⟨_, hy⟩
          · exact absurd h01 h00
          · subst hy
            exact ko_x (fun x hx => by rw [hTb] at hx; simp only [tableOf, List.map, List.mem_singleton] at hx; subst hx; decide) hlocks h00 hK (zk_tr hzk hz2 (by decide)) hP hD hS hce hcv hcl hc hs
  exact (blk k0) z 0 0 L0 σ0 r0 h0 (zk_rf _ _) ((Nat.zero_add _).trans hmc) ((Nat.zero_add _).trans hms) s.heap [] ls hP hD hS hl
/-! X11_view -/
def f_X11_view : Nat → Nat → LV → CS → Option RS
  | 0, _, _, _ => none
  | k + 1, 0, L, σ => if ((σ.1 7510)) = 0 then (some ((2, 0), σ, (1, 6))) else (f_X11_view k 1 L σ)
  | k + 1, 1, L, σ => if ((σ.1 7513)) < 8 then (f_X11_view k 2 L σ) else (some ((4, 0), σ, (1, 6)))
  | k + 1, 2, L, σ => ox (f_X5_readExp__P k 0 (lI (lB lZ 1 ((sCur σ))) 2 0) σ) (fun r1 => if r1.1.2 = 0 then (some ((0, (((-1)) - (((uI (uI r1.2.1 3701 0) 7512 (((uI r1.2.1 3701 0).1 4006))).1 4007)))), (uI (uI r1.2.1 3701 0) 7512 (((uI r1.2.1 3701 0).1 4006))), (0, 0))) else (f_X11_view k 3 (lI L 1 ((σ.1 (fP ((sCur σ)) 1)))) (uI (uI r1.2.1 3701 0) 7512 (((uI r1.2.1 3701 0).1 4006)))))
  | k + 1, 3, L, σ => if ¬ (((σ.1 7513)) < 0 ∨ 8 ≤ ((σ.1 7513)).toNatClampNeg) then (if ¬ ((((uA σ 64 ((σ.1 7513)).toNatClampNeg ((L.1 1))).1 7513)) < 0 ∨ 8 ≤ (((uA σ 64 ((σ.1 7513)).toNatClampNeg ((L.1 1))).1 7513)).toNatClampNeg) then (if ¬ (((3 + ((3 * ((σ.1 7513)))))) < 0 ∨ 27 ≤ ((3 + ((3 * ((σ.1 7513)))))).toNatClampNeg) then (f_X11_view k 4 (lI L 3 ((3 + ((3 * ((σ.1 7513))))))) (uA (uA (uA σ 64 ((σ.1 7513)).toNatClampNeg ((L.1 1))) 65 (((uA σ 64 ((σ.1 7513)).toNatClampNeg ((L.1 1))).1 7513)).toNatClampNeg (vp_nar .boolean 0)) 67 ((3 + ((3 * ((σ.1 7513)))))).toNatClampNeg ((-2147483648)))) else none) else none) else none
  | k + 1, 4, L, σ => if ¬ (((((L.1 3)) + 1)) < 0 ∨ 27 ≤ ((((L.1 3)) + 1)).toNatClampNeg) then (if ¬ (((((L.1 3)) + 2)) < 0 ∨ 27 ≤ ((((L.1 3)) + 2)).toNatClampNeg) then (f_X11_view k 5 L (uI (uA (uA σ 67 ((((L.1 3)) + 1)).toNatClampNeg ((-2147483648))) 67 ((((L.1 3)) + 2)).toNatClampNeg ((-2147483648))) 7513 (((((uA (uA σ 67 ((((L.1 3)) + 1)).toNatClampNeg ((-2147483648))) 67 ((((L.1 3)) + 2)).toNatClampNeg ((-2147483648))).1 7513)) + 1)))) else none) else none
  | k + 1, 5, L, σ => some ((0, (((σ.1 7513)) - 1)), σ, (0, 0))
  | _ + 1, _ + 6, _, _ => none
def o_f_X11_view : List Cond := [.fieldLink RX11 152 "SetHouse" "hasProgram" "Z", .classLink RX11 165 "java/lang/IllegalStateException", .initialized "java/lang/IllegalStateException", .fieldLink RX11 159 "SetHouse" "views" "I", .classLink RX11 120 "java/lang/UnsupportedOperationException", .initialized "java/lang/UnsupportedOperationException", .fieldLink RX11 88 "SetHouse" "current" "LSetHouse$Program;", .fieldLink RX11 81 "SetHouse" "parser" "LSetHouse$Parser;", .methodLink RX11 294 yX5_readExp, .instanceMethod yX5_readExp, .selects RX5 yX5_readExp yX5_readExp, .initialized RX5, .fieldLink RX11 72 "SetHouse" "lex" "LSetHouse$Lexer;", .fieldLink RX11 137 "SetHouse" "latestFault" "I", .fieldLink RX11 95 "SetHouse" "viewEntries" "[I", .fieldLink RX11 98 "SetHouse" "viewSeen" "[Z", .fieldLink RX11 56 "SetHouse" "kept" "[I", .constant RX11 106 (-2147483648)]
theorem o_f_X11_view_good : o_f_X11_view.all goodWord = true := by decide +kernel
def p_f_X11_view : List Cond := o_f_X11_view ++ (((vx_at0 RX11 167 "java/lang/IllegalStateException" ["java/lang/RuntimeException", "java/lang/Exception"]).filter goodWord) ++ (((vx_at0 RX11 122 "java/lang/UnsupportedOperationException" ["java/lang/RuntimeException", "java/lang/Exception"]).filter goodWord) ++ ((.codeWith yX5_readExp cX5_readExp 6 (some .boolean) [(25, 51, 52, 70)] :: p_f_X5_readExp__P) ++ [])))
theorem p_f_X11_view_good : p_f_X11_view.all goodWord = true := nb_all2 o_f_X11_view_good (nb_all2 (nb_fg _) (nb_all2 (nb_fg _) (nb_all2 (nb_allc (by decide +kernel) p_f_X5_readExp__P_good) rfl)))
def w_f_X11_view : List Cond := .code yX11_view cX11_view 4 (some .int) :: (p_f_X11_view ++ fC)
theorem w_f_X11_view_good : w_f_X11_view.all goodWord = true := nb_allc (by decide +kernel) (nb_all2 p_f_X11_view_good fC_good)
theorem in_f_X11_view_X2 : ∀ w ∈ wsX20, w ∈ w_f_X11_view := fun _ h => List.mem_cons_of_mem _ (List.mem_append_right _ (List.mem_append_right _ (List.mem_append_right _ (List.mem_append_left _ h))))
theorem in_f_X11_view_X5 : ∀ w ∈ wsX50, w ∈ w_f_X11_view := fun _ h => List.mem_cons_of_mem _ (List.mem_append_right _ (List.mem_append_right _ (List.mem_append_right _ (List.mem_append_right _ (List.mem_append_right _ (List.mem_append_left _ h))))))
theorem in_f_X11_view_X7 : ∀ w ∈ wsX70, w ∈ w_f_X11_view := fun _ h => List.mem_cons_of_mem _ (List.mem_append_right _ (List.mem_append_right _ (List.mem_append_right _ (List.mem_append_right _ (List.mem_append_right _ (List.mem_append_right _ (List.mem_append_right _ (List.mem_append_left _ h))))))))
theorem in_f_X11_view_X11 : ∀ w ∈ wsX110, w ∈ w_f_X11_view := fun _ h => List.mem_cons_of_mem _ (List.mem_append_right _ (List.mem_append_right _ (List.mem_append_right _ (List.mem_append_right _ (List.mem_append_right _ (List.mem_append_right _ (List.mem_append_right _ (List.mem_append_right _ (List.mem_append_right _ (List.mem_append_right _ (List.mem_append_right _ h)))))))))))
theorem hd_f_X11_view : yX11_view.cls = RX11 ∧ yX11_view.cls ≠ "java/lang/invoke/MethodHandle" ∧ yX11_view.cls ≠ "java/lang/invoke/VarHandle" ∧ (parseMethodDescriptor yX11_view.desc).map (fun d => d.parameters.length) = some 0 := by decide +kernel
theorem gg_f_X11_view_X5_readExp__P : GoodIn w_f_X11_view w_f_X5_readExp__P := goodIn_sub (fun w h => (List.mem_cons.mp h).elim (fun e => (List.mem_cons_of_mem _ (List.mem_append_left _ (List.mem_append_right _ (List.mem_append_right _ (List.mem_append_right _ (List.mem_append_left _ (List.mem_cons.mpr (Or.inl e))))))))) (fun h => (List.mem_append.mp h).elim (fun h => (List.mem_cons_of_mem _ (List.mem_append_left _ (List.mem_append_right _ (List.mem_append_right _ (List.mem_append_right _ (List.mem_append_left _ (List.mem_cons_of_mem _ h)))))))) (fun h => List.mem_cons_of_mem _ (List.mem_append_right _ h)))) w_f_X5_readExp__P_good
theorem g_f_X11_view_X5_readExp__P_V294 : GoodIn w_f_X11_view (wsV RX11 294 RX5 yX5_readExp w_f_X5_readExp__P) := goodIn_app (nb_g4 (List.mem_cons_of_mem _ (List.mem_append_left _ (List.mem_append_left _ (List.mem_of_getElem? (i := 8) rfl)))) (List.mem_cons_of_mem _ (List.mem_append_left _ (List.mem_append_left _ (List.mem_of_getElem? (i := 9) rfl)))) (List.mem_cons_of_mem _ (List.mem_append_left _ (List.mem_append_left _ (List.mem_of_getElem? (i := 10) rfl)))) (List.mem_cons_of_mem _ (List.mem_append_left _ (List.mem_append_left _ (List.mem_of_getElem? (i := 11) rfl)))) (by decide +kernel)) gg_f_X11_view_X5_readExp__P
set_option maxHeartbeats 40000000 in
set_option maxRecDepth 100000 in
theorem c_f_X11_view (l : Launch) (hl0 : l.stackTraces = false) (dC : Nat → ClassId) (dI : Nat → Nat → Nat) (cy : Nat → ClassId) (ek a : Nat → Nat) (k0 : Nat) (L0 : LV) (σ0 : CS) (r0 : RS) (h0 : f_X11_view k0 0 L0 σ0 = some r0) (z : Nat → Nat) (sz : Nat) : vx_Met l yX11_view w_f_X11_view ({ frames := 411, cells := r0.2.2.1, slots := r0.2.2.2, locals := 13425 }) (va_Pc [.ref (a 75)] (nInF (dC, dI) cy ek sz (vC cy a z σ0))) (xI dC dI cy a (va_A (vC cy a z σ0) sz) [38, 41, 43, 51] z r0) (xX dC dI cy a (va_A (vC cy a z σ0) sz) [38, 41, 43, 51] z r0) r0.2.2.1 r0.2.2.2 (va_A (vC cy a z σ0) sz) := by
  refine vx_ofW (cc := cX11_view) (maxL := 4) (ret := (some .int)) (by decide) rfl ?_
  intro p e s m args below meth c s₁ B hml hno hv
  obtain ⟨rfl, ⟨⟨hsz, hP, hK, hD0, hG⟩, hE⟩, hT⟩ := hv
  have hx := B.exec
  have hb := B.bytes
  have hr := B.returns
  have hts := atoms_spec (ws := w_f_X11_view) B.pre
  have hown : s.vm.findClass RX11 = some m.cls := findClass_of_methodNamed B.named
  have hlocks := B.notSynchronized
  subst hsz
  have hD := hD0.self (sz := s.heap.size)
  generalize hAe : va_A (vC cy a z σ0) s.heap.size = A at hD hE hT ⊢
  have hA : ∀ q : Nat, s.heap.size ≤ q → A q := fun q h => by rw [← hAe]; exact Or.inr h
  have hS : va_S A s.heap s.heap [] := va_S.rf
  have hl := lv_entry ([.ref (a 75)]) (n := 4) (Nat.le_of_ble_eq_true rfl)
  rw [lg_entry_eq]
  generalize (lg_sl ([.ref (a 75)]) ++ List.replicate (4 - (lg_sl ([.ref (a 75)])).length) Slot.unset).toArray = ls at hl ⊢
  have hl : lv_has ls 4 [(0, .ref (a 75))] := hl
  generalize hmc : r0.2.2.1 = mc
  generalize hms : r0.2.2.2 = ms
  have blk : ∀ k : Nat, (bX p l e (headSpec w_f_X11_view ({ frames := 411, cells := mc, slots := ms, locals := 13425 })).room s m #[.ref (a 75)] below meth c dC dI cy a A (fun r => vx_MQ below (xI dC dI cy a A [38, 41, 43, 51] z r) (xX dC dI cy a A [38, 41, 43, 51] z r) #[.ref (a 75)] s mc ms A) [38, 41, 43, 51] z mc ms 4 (f_X11_view k 0) (fun z L => [(0, .ref (a 75))]) 0 (fun z L => [])) ∧ (bX p l e (headSpec w_f_X11_view ({ frames := 411, cells := mc, slots := ms, locals := 13425 })).room s m #[.ref (a 75)] below meth c dC dI cy a A (fun r => vx_MQ below (xI dC dI cy a A [38, 41, 43, 51] z r) (xX dC dI cy a A [38, 41, 43, 51] z r) #[.ref (a 75)] s mc ms A) [38, 41, 43, 51] z mc ms 4 (f_X11_view k 1) (fun z L => [(0, .ref (a 75))]) 15 (fun z L => [])) ∧ (bX p l e (headSpec w_f_X11_view ({ frames := 411, cells := mc, slots := ms, locals := 13425 })).room s m #[.ref (a 75)] below meth c dC dI cy a A (fun r => vx_MQ below (xI dC dI cy a A [38, 41, 43, 51] z r) (xX dC dI cy a A [38, 41, 43, 51] z r) #[.ref (a 75)] s mc ms A) [38, 41, 43, 51] z mc ms 4 (f_X11_view k 2) (fun z L => [(0, .ref (a 75))]) 32 (fun z L => [])) ∧ (bX p l e (headSpec w_f_X11_view ({ frames := 411, cells := mc, slots := ms, locals := 13425 })).room s m #[.ref (a 75)] below meth c dC dI cy a A (fun r => vx_MQ below (xI dC dI cy a A [38, 41, 43, 51] z r) (xX dC dI cy a A [38, 41, 43, 51] z r) #[.ref (a 75)] s mc ms A) [38, 41, 43, 51] z mc ms 4 (f_X11_view k 3) (fun z L => [(0, .ref (a 75)), (1, .int (L.1 1))]) 86 (fun z L => [])) ∧ (bX p l e (headSpec w_f_X11_view ({ frames := 411, cells := mc, slots := ms, locals := 13425 })).room s m #[.ref (a 75)] below meth c dC dI cy a A (fun r => vx_MQ below (xI dC dI cy a A [38, 41, 43, 51] z r) (xX dC dI cy a A [38, 41, 43, 51] z r) #[.ref (a 75)] s mc ms A) [38, 41, 43, 51] z mc ms 4 (f_X11_view k 4) (fun z L => [(0, .ref (a 75)), (3, .int (L.1 3))]) 123 (fun z L => [])) ∧ (bX p l e (headSpec w_f_X11_view ({ frames := 411, cells := mc, slots := ms, locals := 13425 })).room s m #[.ref (a 75)] below meth c dC dI cy a A (fun r => vx_MQ below (xI dC dI cy a A [38, 41, 43, 51] z r) (xX dC dI cy a A [38, 41, 43, 51] z r) #[.ref (a 75)] s mc ms A) [38, 41, 43, 51] z mc ms 4 (f_X11_view k 5) (fun z L => [(0, .ref (a 75))]) 153 (fun z L => [])) := by
    intro k
    induction k with
    | zero => exact ⟨fun z c1 c2 L σ r h => (by cases h), fun z c1 c2 L σ r h => (by cases h), fun z c1 c2 L σ r h => (by cases h), fun z c1 c2 L σ r h => (by cases h), fun z c1 c2 L σ r h => (by cases h), fun z c1 c2 L σ r h => (by cases h)⟩
    | succ k ih =>
      refine ⟨?_, ?_, ?_, ?_, ?_, ?_⟩
      · intro z cells slots L σ r h hzk hc hs H locs ls hP hD hS hl
        rw [f_X11_view] at h
        refine lv_aload_n hx hb dX11_view_0 rfl (lv_at hl 0 rfl) ?_
        refine hg_75_10 hx hb hts in_f_X11_view_X11 hown hK hP (hts _ (List.mem_cons_of_mem _ (List.mem_append_left _ (List.mem_append_left _ (List.mem_of_getElem? (i := 0) rfl))))) dX11_view_1 ?_
        refine lv_if_ne (tgt := 15) hx hb dX11_view_4 (by decide) (fun c1 => ?_) (fun c1 => ?_)
        · rw [if_neg c1] at h
          exact ih.2.1 z _ _ L σ _ h hzk hc hs H locs ls hP hD hS (lv_sub hl [0] rfl)
        · rw [if_pos c1] at h
          obtain rfl := Option.some.inj h
          exact vx_throw0 (cls := "java/lang/IllegalStateException") (names := ["java/lang/RuntimeException", "java/lang/Exception"]) hx hb hl0 hown (by decide) (by decide) (hts _ (List.mem_cons_of_mem _ (List.mem_append_left _ (List.mem_append_left _ (List.mem_of_getElem? (i := 1) rfl))))) (hts _ (List.mem_cons_of_mem _ (List.mem_append_left _ (List.mem_append_left _ (List.mem_of_getElem? (i := 2) rfl))))) (vx_hat (B := [.castable "java/lang/IllegalStateException" "java/lang/IllegalStateException", .declares (Bundle.init0 "java/lang/RuntimeException"), .declares (Bundle.init0 "java/lang/Exception"), .declares (Bundle.init0 Bundle.tN)]) (fun w h => hts w (List.mem_cons_of_mem _ (List.mem_append_left _ (List.mem_append_right _ (List.mem_append_left _ h))))) (by decide +kernel) (vx_c (va_Nw.use (by decide +kernel) (hT.2.2.1 _ (List.mem_of_getElem? (i := 0) rfl))) (vx_c (va_Nw.use (by decide +kernel) (hT.2.2.1 _ (List.mem_of_getElem? (i := 4) rfl))) (vx_c (va_Nw.use (by decide +kernel) (hT.2.2.1 _ (List.mem_of_getElem? (i := 5) rfl))) (vx_c (va_Nw.use (by decide +kernel) (hT.2.2.1 _ (List.mem_of_getElem? (i := 6) rfl))) vx_n))))) (fun w h => List.all_eq_true.mp (by decide +kernel : (Cond.classLink RX11 165 "java/lang/IllegalStateException" :: Cond.initialized "java/lang/IllegalStateException" :: (vx_at0 RX11 167 "java/lang/IllegalStateException" ["java/lang/RuntimeException", "java/lang/Exception"])).all vx_ot = true) w h) hT.1 hT.2.1 hS (hl.1.trans hml.symm) dX11_view_7 dX11_view_10 dX11_view_11 dX11_view_14 (fun x h => (hno x h).elim) (Nat.le_of_ble_eq_true rfl) (Nat.le_of_ble_eq_true rfl) (Nat.le_of_eq hc) (Nat.le_of_eq hs) hlocks (xt_x (n := 2) (by decide) hK hzk hP hD hS) hS.2.2 (Nat.le_of_eq hc) (Nat.le_of_eq hs)
      · intro z cells slots L σ r h hzk hc hs H locs ls hP hD hS hl
        rw [f_X11_view] at h
        refine lv_aload_n hx hb dX11_view_15 rfl (lv_at hl 0 rfl) ?_
        refine hg_75_13 hx hb hts in_f_X11_view_X11 hown hK hP (hts _ (List.mem_cons_of_mem _ (List.mem_append_left _ (List.mem_append_left _ (List.mem_of_getElem? (i := 3) rfl))))) dX11_view_16 ?_
        refine lv_bipush (v := 8) hx hb dX11_view_19 (by decide) ?_
        refine lv_icmp_lt (tgt := 32) hx hb dX11_view_21 (by decide) (fun c1 => ?_) (fun c1 => ?_)
        · rw [if_pos c1] at h
          exact ih.2.2.1 z _ _ L σ _ h hzk hc hs H locs ls hP hD hS (lv_sub hl [0] rfl)
        · rw [if_neg c1] at h
          obtain rfl := Option.some.inj h
          exact vx_throw0 (cls := "java/lang/UnsupportedOperationException") (names := ["java/lang/RuntimeException", "java/lang/Exception"]) hx hb hl0 hown (by decide) (by decide) (hts _ (List.mem_cons_of_mem _ (List.mem_append_left _ (List.mem_append_left _ (List.mem_of_getElem? (i := 4) rfl))))) (hts _ (List.mem_cons_of_mem _ (List.mem_append_left _ (List.mem_append_left _ (List.mem_of_getElem? (i := 5) rfl))))) (vx_hat (B := [.castable "java/lang/UnsupportedOperationException" "java/lang/UnsupportedOperationException", .declares (Bundle.init0 "java/lang/RuntimeException"), .declares (Bundle.init0 "java/lang/Exception"), .declares (Bundle.init0 Bundle.tN)]) (fun w h => hts w (List.mem_cons_of_mem _ (List.mem_append_left _ (List.mem_append_right _ (List.mem_append_right _ (List.mem_append_left _ h)))))) (by decide +kernel) (vx_c (va_Nw.use (by decide +kernel) (hT.2.2.1 _ (List.mem_of_getElem? (i := 3) rfl))) (vx_c (va_Nw.use (by decide +kernel) (hT.2.2.1 _ (List.mem_of_getElem? (i := 4) rfl))) (vx_c (va_Nw.use (by decide +kernel) (hT.2.2.1 _ (List.mem_of_getElem? (i := 5) rfl))) (vx_c (va_Nw.use (by decide +kernel) (hT.2.2.1 _ (List.mem_of_getElem? (i := 6) rfl))) vx_n))))) (fun w h => List.all_eq_true.mp (by decide +kernel : (Cond.classLink RX11 120 "java/lang/UnsupportedOperationException" :: Cond.initialized "java/lang/UnsupportedOperationException" :: (vx_at0 RX11 122 "java/lang/UnsupportedOperationException" ["java/lang/RuntimeException", "java/lang/Exception"])).all vx_ot = true) w h) hT.1 hT.2.1 hS (hl.1.trans hml.symm) dX11_view_24 dX11_view_27 dX11_view_28 dX11_view_31 (fun x h => (hno x h).elim) (Nat.le_of_ble_eq_true rfl) (Nat.le_of_ble_eq_true rfl) (Nat.le_of_eq hc) (Nat.le_of_eq hs) hlocks (xt_x (n := 4) (by decide) hK hzk hP hD hS) hS.2.2 (Nat.le_of_eq hc) (Nat.le_of_eq hs)
      · intro z cells slots L σ r h hzk hc hs H locs ls hP hD hS hl
        rw [f_X11_view] at h
        refine lv_aload_n hx hb dX11_view_32 rfl (lv_at hl 0 rfl) ?_
        refine hg_75_8 hx hb hts in_f_X11_view_X11 hown hK hP (hts _ (List.mem_cons_of_mem _ (List.mem_append_left _ (List.mem_append_left _ (List.mem_of_getElem? (i := 6) rfl))))) dX11_view_33 ?_
        refine hg_P_1n ((sCur σ)) hx hb hts in_f_X11_view_X7 hown hK hP (va_Nw.use rfl (hG.1 _ (List.mem_of_getElem? (i := 69) rfl))) dX11_view_36 ?_
        refine lv_istore_n (lv' := [(1, .int (σ.1 (fP ((sCur σ)) 1))), (0, .ref (a 75))]) hx hb dX11_view_39 rfl hl (by decide) rfl (fun ls hl => ?_)
        refine lv_aload_n hx hb dX11_view_40 rfl (lv_at hl 1 rfl) ?_
        refine hg_75_7 hx hb hts in_f_X11_view_X11 hown hK hP (hts _ (List.mem_cons_of_mem _ (List.mem_append_left _ (List.mem_append_left _ (List.mem_of_getElem? (i := 7) rfl))))) dX11_view_41 ?_
        refine lv_aload_n hx hb dX11_view_44 rfl (lv_at hl 1 rfl) ?_
        refine hg_75_8 hx hb hts in_f_X11_view_X11 hown hK hP (hts _ (List.mem_cons_of_mem _ (List.mem_append_left _ (List.mem_append_left _ (List.mem_of_getElem? (i := 6) rfl))))) dX11_view_45 ?_
        refine lv_iconst (v := 0) hx hb dX11_view_48 (by decide) ?_
        obtain ⟨r1, hc1, hle1, h9⟩ := ox_ex h
        clear h
        refine kx_i (vx_runVX (As := [.ref (a (pA (sCur σ))), .int 0]) (rest := []) ⟨hx, hb, hml, hown, hts⟩ (c_f_X5_readExp__P l hl0 dC dI cy ek a k (lI (lB lZ 1 ((sCur σ))) 2 0) σ r1 hc1 z H.size) (vx_cwVW 2 hts g_f_X11_view_X5_readExp__P_V294 rfl rfl rfl hd_f_X5_readExp__P ⟨Nat.le_of_ble_eq_true rfl, Nat.le_of_ble_eq_true rfl⟩) ⟨nb_blindF, va_recv hK hP (ci := 4) (q0 := 40) rfl rfl, (kx_pre hK hG hE hT hA hP hD hS)⟩ rfl rfl hl.1 rfl (lv_room (Nat.le_of_ble_eq_true rfl)) dX11_view_49 ⟨Nat.le_trans (Nat.add_le_add_left hle1.1 _) (Nat.le_of_eq hc), Nat.le_trans (Nat.add_le_add_left hle1.2 _) (Nat.le_of_eq hs)⟩) hK hA hzk hP hD hS (by decide) hno hlocks ?_
        rcases h9 with ⟨h00, y1, hny1, hy⟩ | ⟨h00, hy⟩
        · subst hy
          have h := hny1
          refine Or.inl ⟨h00, fun z H locs hz1 hzk hP hD hS => ?_⟩
          replace hc := (Nat.add_assoc _ _ _).trans hc
          replace hs := (Nat.add_assoc _ _ _).trans hs
          refine lv_istore_n (lv' := [(2, .int r1.1.2), (1, .int (σ.1 (fP ((sCur σ)) 1))), (0, .ref (a 75))]) hx hb dX11_view_52 rfl hl (by decide) rfl (fun ls hl => ?_)
          refine lv_aload_n hx hb dX11_view_53 rfl (lv_at hl 2 rfl) ?_
          refine hg_75_6 hx hb hts in_f_X11_view_X11 hown hK hP (hts _ (List.mem_cons_of_mem _ (List.mem_append_left _ (List.mem_append_left _ (List.mem_of_getElem? (i := 12) rfl))))) dX11_view_54 ?_
          refine lv_iconst (v := 0) hx hb dX11_view_57 (by decide) ?_
          refine hp_37_1n hx hb hts in_f_X11_view_X2 hown hK hP hD hS (va_Nw.use rfl (hG.1 _ (List.mem_of_getElem? (i := 51) rfl))) dX11_view_58 (fun H locs hP hD hS => ?_)
          refine lv_aload_n hx hb dX11_view_61 rfl (lv_at hl 2 rfl) ?_
          refine lv_aload_n hx hb dX11_view_62 rfl (lv_at hl 2 rfl) ?_
          refine hg_75_7 hx hb hts in_f_X11_view_X11 hown hK hP (hts _ (List.mem_cons_of_mem _ (List.mem_append_left _ (List.mem_append_left _ (List.mem_of_getElem? (i := 7) rfl))))) dX11_view_63 ?_
          refine hg_40_6n hx hb hts in_f_X11_view_X5 hown hK hP (va_Nw.use rfl (hG.1 _ (List.mem_of_getElem? (i := 62) rfl))) dX11_view_66 ?_
          refine hp_75_12 hx hb hts in_f_X11_view_X11 hown hK hP hD hS (hts _ (List.mem_cons_of_mem _ (List.mem_append_left _ (List.mem_append_left _ (List.mem_of_getElem? (i := 13) rfl))))) dX11_view_69 (fun H locs hP hD hS => ?_)
          refine lv_iload_n hx hb dX11_view_72 rfl (lv_at hl 0 rfl) ?_
          refine lv_if_ne (tgt := 86) hx hb dX11_view_73 (by decide) (fun c2 => ?_) (fun c2 => ?_)
          · rw [if_neg c2] at h
            exact ih.2.2.2.1 z _ _ (lI L 1 ((σ.1 (fP ((sCur σ)) 1)))) (uI (uI r1.2.1 3701 0) 7512 (((uI r1.2.1 3701 0).1 4006))) _ h hzk hc hs H locs ls hP hD hS (lv_sub hl [2, 1] rfl)
          · rw [if_pos c2] at h
            refine lv_iconst (v := (-1)) hx hb dX11_view_76 (by decide) ?_
            refine lv_aload_n hx hb dX11_view_77 rfl (lv_at hl 2 rfl) ?_
            refine hg_75_7 hx hb hts in_f_X11_view_X11 hown hK hP (hts _ (List.mem_cons_of_mem _ (List.mem_append_left _ (List.mem_append_left _ (List.mem_of_getElem? (i := 7) rfl))))) dX11_view_78 ?_
            refine hg_40_7n hx hb hts in_f_X11_view_X5 hown hK hP (va_Nw.use rfl (hG.1 _ (List.mem_of_getElem? (i := 63) rfl))) dX11_view_81 ?_
            refine lv_isub hx hb dX11_view_84 ?_
            obtain rfl := Option.some.inj h
            subst hc
            subst hs
            exact xr_i hx hb hr hK hzk hP hD hS hlocks dX11_view_85
        · subst hy
          exact Or.inr ⟨h00, rfl, hc, hs⟩
      · intro z cells slots L σ r h hzk hc hs H locs ls hP hD hS hl
        rw [f_X11_view] at h
        refine lv_iconst (v := 3) hx hb dX11_view_86 (by decide) ?_
        refine lv_iconst (v := 3) hx hb dX11_view_87 (by decide) ?_
        refine lv_aload_n hx hb dX11_view_88 rfl (lv_at hl 0 rfl) ?_
        refine hg_75_13 hx hb hts in_f_X11_view_X11 hown hK hP (hts _ (List.mem_cons_of_mem _ (List.mem_append_left _ (List.mem_append_left _ (List.mem_of_getElem? (i := 3) rfl))))) dX11_view_89 ?_
        refine lv_imul hx hb dX11_view_92 ?_
        refine lv_iadd hx hb dX11_view_93 ?_
        refine lv_istore_n (lv' := [(3, .int (3 + ((3 * ((σ.1 7513)))))), (0, .ref (a 75)), (1, .int (L.1 1))]) hx hb dX11_view_94 rfl hl (by decide) rfl (fun ls hl => ?_)
        refine lv_aload_n hx hb dX11_view_95 rfl (lv_at hl 1 rfl) ?_
        refine hg_75_14 hx hb hts in_f_X11_view_X11 hown hK hP (hts _ (List.mem_cons_of_mem _ (List.mem_append_left _ (List.mem_append_left _ (List.mem_of_getElem? (i := 14) rfl))))) dX11_view_96 ?_
        refine lv_aload_n hx hb dX11_view_99 rfl (lv_at hl 1 rfl) ?_
        refine hg_75_13 hx hb hts in_f_X11_view_X11 hown hK hP (hts _ (List.mem_cons_of_mem _ (List.mem_append_left _ (List.mem_append_left _ (List.mem_of_getElem? (i := 3) rfl))))) dX11_view_100 ?_
        refine lv_iload_n hx hb dX11_view_103 rfl (lv_at hl 2 rfl) ?_
        obtain ⟨q1, h⟩ := kr_ite1 h
        refine hs_64 hx hb hK hP hD hS q1 dX11_view_104 (fun H locs hP hD hS => ?_)
        refine lv_aload_n hx hb dX11_view_105 rfl (lv_at hl 1 rfl) ?_
        refine hg_75_15 hx hb hts in_f_X11_view_X11 hown hK hP (hts _ (List.mem_cons_of_mem _ (List.mem_append_left _ (List.mem_append_left _ (List.mem_of_getElem? (i := 15) rfl))))) dX11_view_106 ?_
        refine lv_aload_n hx hb dX11_view_109 rfl (lv_at hl 1 rfl) ?_
        refine hg_75_13 hx hb hts in_f_X11_view_X11 hown hK hP (hts _ (List.mem_cons_of_mem _ (List.mem_append_left _ (List.mem_append_left _ (List.mem_of_getElem? (i := 3) rfl))))) dX11_view_110 ?_
        refine lv_iconst (v := 0) hx hb dX11_view_113 (by decide) ?_
        obtain ⟨q2, h⟩ := kr_ite1 h
        refine hs_65 hx hb hK hP hD hS q2 dX11_view_114 (fun H locs hP hD hS => ?_)
        refine lv_aload_n hx hb dX11_view_115 rfl (lv_at hl 1 rfl) ?_
        refine hg_75_4 hx hb hts in_f_X11_view_X11 hown hK hP (hts _ (List.mem_cons_of_mem _ (List.mem_append_left _ (List.mem_append_left _ (List.mem_of_getElem? (i := 16) rfl))))) dX11_view_116 ?_
        refine lv_iload_n hx hb dX11_view_119 rfl (lv_at hl 0 rfl) ?_
        refine lv_ldc (v := (-2147483648)) hx hb hown (hts _ (List.mem_cons_of_mem _ (List.mem_append_left _ (List.mem_append_left _ (List.mem_of_getElem? (i := 17) rfl))))) dX11_view_120 ?_
        obtain ⟨q3, h⟩ := kr_ite1 h
        refine hs_67 hx hb hK hP hD hS q3 dX11_view_122 (fun H locs hP hD hS => ?_)
        exact ih.2.2.2.2.1 z _ _ (lI L 3 ((3 + ((3 * ((σ.1 7513))))))) (uA (uA (uA σ 64 ((σ.1 7513)).toNatClampNeg ((L.1 1))) 65 (((uA σ 64 ((σ.1 7513)).toNatClampNeg ((L.1 1))).1 7513)).toNatClampNeg (vp_nar .boolean 0)) 67 ((3 + ((3 * ((σ.1 7513)))))).toNatClampNeg ((-2147483648))) _ h hzk hc hs H locs ls hP hD hS (lv_sub hl [1, 0] rfl)
      · intro z cells slots L σ r h hzk hc hs H locs ls hP hD hS hl
        rw [f_X11_view] at h
        refine lv_aload_n hx hb dX11_view_123 rfl (lv_at hl 0 rfl) ?_
        refine hg_75_4 hx hb hts in_f_X11_view_X11 hown hK hP (hts _ (List.mem_cons_of_mem _ (List.mem_append_left _ (List.mem_append_left _ (List.mem_of_getElem? (i := 16) rfl))))) dX11_view_124 ?_
        refine lv_iload_n hx hb dX11_view_127 rfl (lv_at hl 1 rfl) ?_
        refine lv_iconst (v := 1) hx hb dX11_view_128 (by decide) ?_
        refine lv_iadd hx hb dX11_view_129 ?_
        refine lv_ldc (v := (-2147483648)) hx hb hown (hts _ (List.mem_cons_of_mem _ (List.mem_append_left _ (List.mem_append_left _ (List.mem_of_getElem? (i := 17) rfl))))) dX11_view_130 ?_
        obtain ⟨q1, h⟩ := kr_ite1 h
        refine hs_67 hx hb hK hP hD hS q1 dX11_view_132 (fun H locs hP hD hS => ?_)
        refine lv_aload_n hx hb dX11_view_133 rfl (lv_at hl 0 rfl) ?_
        refine hg_75_4 hx hb hts in_f_X11_view_X11 hown hK hP (hts _ (List.mem_cons_of_mem _ (List.mem_append_left _ (List.mem_append_left _ (List.mem_of_getElem? (i := 16) rfl))))) dX11_view_134 ?_
        refine lv_iload_n hx hb dX11_view_137 rfl (lv_at hl 1 rfl) ?_
        refine lv_iconst (v := 2) hx hb dX11_view_138 (by decide) ?_
        refine lv_iadd hx hb dX11_view_139 ?_
        refine lv_ldc (v := (-2147483648)) hx hb hown (hts _ (List.mem_cons_of_mem _ (List.mem_append_left _ (List.mem_append_left _ (List.mem_of_getElem? (i := 17) rfl))))) dX11_view_140 ?_
        obtain ⟨q2, h⟩ := kr_ite1 h
        refine hs_67 hx hb hK hP hD hS q2 dX11_view_142 (fun H locs hP hD hS => ?_)
        refine lv_aload_n hx hb dX11_view_143 rfl (lv_at hl 0 rfl) ?_
        refine lv_dup hx hb dX11_view_144 rfl ?_
        refine hg_75_13 hx hb hts in_f_X11_view_X11 hown hK hP (hts _ (List.mem_cons_of_mem _ (List.mem_append_left _ (List.mem_append_left _ (List.mem_of_getElem? (i := 3) rfl))))) dX11_view_145 ?_
        refine lv_iconst (v := 1) hx hb dX11_view_148 (by decide) ?_
        refine lv_iadd hx hb dX11_view_149 ?_
        refine hp_75_13 hx hb hts in_f_X11_view_X11 hown hK hP hD hS (hts _ (List.mem_cons_of_mem _ (List.mem_append_left _ (List.mem_append_left _ (List.mem_of_getElem? (i := 3) rfl))))) dX11_view_150 (fun H locs hP hD hS => ?_)
        exact ih.2.2.2.2.2 z _ _ L (uI (uA (uA σ 67 ((((L.1 3)) + 1)).toNatClampNeg ((-2147483648))) 67 ((((L.1 3)) + 2)).toNatClampNeg ((-2147483648))) 7513 (((((uA (uA σ 67 ((((L.1 3)) + 1)).toNatClampNeg ((-2147483648))) 67 ((((L.1 3)) + 2)).toNatClampNeg ((-2147483648))).1 7513)) + 1))) _ h hzk hc hs H locs ls hP hD hS (lv_sub hl [0] rfl)
      · intro z cells slots L σ r h hzk hc hs H locs ls hP hD hS hl
        rw [f_X11_view] at h
        refine lv_aload_n hx hb dX11_view_153 rfl (lv_at hl 0 rfl) ?_
        refine hg_75_13 hx hb hts in_f_X11_view_X11 hown hK hP (hts _ (List.mem_cons_of_mem _ (List.mem_append_left _ (List.mem_append_left _ (List.mem_of_getElem? (i := 3) rfl))))) dX11_view_154 ?_
        refine lv_iconst (v := 1) hx hb dX11_view_157 (by decide) ?_
        refine lv_isub hx hb dX11_view_158 ?_
        obtain rfl := Option.some.inj h
        subst hc
        subst hs
        exact xr_i hx hb hr hK hzk hP hD hS hlocks dX11_view_159
  exact (blk k0).1 z 0 0 L0 σ0 r0 h0 (zk_rf _ _) ((Nat.zero_add _).trans hmc) ((Nat.zero_add _).trans hms) s.heap [] ls hP hD hS hl
/-! X11_work -/
def f_X11_work : Nat → Nat → LV → CS → Option RS
  | 0, _, _, _ => none
  | k + 1, 0, L, σ => ox (f_X11_wantRun k 0 lZ σ) (fun r1 => ox (f_X5_readExp__P k 0 (lI (lB lZ 1 ((sCur r1.2.1))) 2 1) r1.2.1) (fun r2 => f_X11_work k 1 (lI (lI L 1 ((r1.2.1.1 (fP ((sCur r1.2.1)) 1)))) 2 r2.1.2) (uI (uI (uI r2.2.1 3701 0) 7512 (((uI r2.2.1 3701 0).1 4006))) 7519 0)))
  | k + 1, 1, L, σ => if ((L.1 2)) = 0 then (some ((0, (((-100)) - ((σ.1 4007)))), σ, (0, 0))) else (f_X11_work k 2 L σ)
  | k + 1, 2, L, σ => ox (f_X3_evaluate k 0 (lI lZ 1 ((L.1 1))) σ) (fun r1 => op (y_X11_isError k 0 (lI lZ 0 r1.1.2) (uI (uI r1.2.1 (fP ((sCur r1.2.1)) 1) ((L.1 1))) 7519 (((uI r1.2.1 (fP ((sCur r1.2.1)) 1) ((L.1 1))).1 1819)))) (fun r2 => f_X11_work k 3 (lI (lI L 3 r1.1.2) 100 r2.1) r2.2))
  | k + 1, 3, L, σ => if ((L.1 100)) = 0 then (f_X11_work k 4 L σ) else (f_X11_work k 5 (lI L 100 ((((-1)) - ((((L.1 3)) &&& 15))))) σ)
  | k + 1, 4, L, σ => ox (f_X11_showValue k 0 (lI lZ 1 ((L.1 3))) σ) (fun r1 => f_X11_work k 5 (lI L 100 r1.1.2) r1.2.1)
  | k + 1, 5, L, σ => some ((0, (L.1 100)), σ, (0, 0))
  | _ + 1, _ + 6, _, _ => none
def o_f_X11_work : List Cond := [.methodLink RX11 175 yX11_wantRun, .instanceMethod yX11_wantRun, .selects RX11 yX11_wantRun yX11_wantRun, .initialized RX11, .fieldLink RX11 88 "SetHouse" "current" "LSetHouse$Program;", .fieldLink RX11 81 "SetHouse" "parser" "LSetHouse$Parser;", .methodLink RX11 294 yX5_readExp, .instanceMethod yX5_readExp, .selects RX5 yX5_readExp yX5_readExp, .initialized RX5, .fieldLink RX11 72 "SetHouse" "lex" "LSetHouse$Lexer;", .fieldLink RX11 137 "SetHouse" "latestFault" "I", .fieldLink RX11 298 "SetHouse" "latestWork" "I", .fieldLink RX11 65 "SetHouse" "machine" "LSetHouse$Machine;", .methodLink RX11 301 yX3_evaluate, .instanceMethod yX3_evaluate, .selects RX3 yX3_evaluate yX3_evaluate, .initialized RX3, .methodLink RX11 307 yX11_isError, .static yX11_isError, .methodLink RX11 291 yX11_showValue, .instanceMethod yX11_showValue, .selects RX11 yX11_showValue yX11_showValue]
theorem o_f_X11_work_good : o_f_X11_work.all goodWord = true := by decide +kernel
def p_f_X11_work : List Cond := o_f_X11_work ++ ((.code yX11_wantRun cX11_wantRun 1 none :: p_f_X11_wantRun) ++ ((.codeWith yX5_readExp cX5_readExp 6 (some .boolean) [(25, 51, 52, 70)] :: p_f_X5_readExp__P) ++ ((.code yX3_evaluate cX3_evaluate 9 (some .int) :: p_f_X3_evaluate) ++ ((.code yX11_isError cX11_isError 1 (some .boolean) :: p_y_X11_isError) ++ ((.code yX11_showValue cX11_showValue 2 (some .int) :: p_f_X11_showValue) ++ [])))))
theorem p_f_X11_work_good : p_f_X11_work.all goodWord = true := nb_all2 o_f_X11_work_good (nb_all2 (nb_allc (by decide +kernel) p_f_X11_wantRun_good) (nb_all2 (nb_allc (by decide +kernel) p_f_X5_readExp__P_good) (nb_all2 (nb_allc (by decide +kernel) p_f_X3_evaluate_good) (nb_all2 (nb_allc (by decide +kernel) p_y_X11_isError_good) (nb_all2 (nb_allc (by decide +kernel) p_f_X11_showValue_good) rfl)))))
def w_f_X11_work : List Cond := .code yX11_work cX11_work 4 (some .int) :: (p_f_X11_work ++ fC)
theorem w_f_X11_work_good : w_f_X11_work.all goodWord = true := nb_allc (by decide +kernel) (nb_all2 p_f_X11_work_good fC_good)
theorem in_f_X11_work_X2 : ∀ w ∈ wsX20, w ∈ w_f_X11_work := fun _ h => List.mem_cons_of_mem _ (List.mem_append_right _ (List.mem_append_right _ (List.mem_append_right _ (List.mem_append_left _ h))))
theorem in_f_X11_work_X3 : ∀ w ∈ wsX30, w ∈ w_f_X11_work := fun _ h => List.mem_cons_of_mem _ (List.mem_append_right _ (List.mem_append_right _ (List.mem_append_right _ (List.mem_append_right _ (List.mem_append_left _ h)))))
theorem in_f_X11_work_X5 : ∀ w ∈ wsX50, w ∈ w_f_X11_work := fun _ h => List.mem_cons_of_mem _ (List.mem_append_right _ (List.mem_append_right _ (List.mem_append_right _ (List.mem_append_right _ (List.mem_append_right _ (List.mem_append_left _ h))))))
theorem in_f_X11_work_X7 : ∀ w ∈ wsX70, w ∈ w_f_X11_work := fun _ h => List.mem_cons_of_mem _ (List.mem_append_right _ (List.mem_append_right _ (List.mem_append_right _ (List.mem_append_right _ (List.mem_append_right _ (List.mem_append_right _ (List.mem_append_right _ (List.mem_append_left _ h))))))))
theorem in_f_X11_work_X11 : ∀ w ∈ wsX110, w ∈ w_f_X11_work := fun _ h => List.mem_cons_of_mem _ (List.mem_append_right _ (List.mem_append_right _ (List.mem_append_right _ (List.mem_append_right _ (List.mem_append_right _ (List.mem_append_right _ (List.mem_append_right _ (List.mem_append_right _ (List.mem_append_right _ (List.mem_append_right _ (List.mem_append_right _ h)))))))))))
theorem hd_f_X11_work : yX11_work.cls = RX11 ∧ yX11_work.cls ≠ "java/lang/invoke/MethodHandle" ∧ yX11_work.cls ≠ "java/lang/invoke/VarHandle" ∧ (parseMethodDescriptor yX11_work.desc).map (fun d => d.parameters.length) = some 0 := by decide +kernel
theorem gg_f_X11_work_X11_showValue : GoodIn w_f_X11_work w_f_X11_showValue := goodIn_sub (fun w h => (List.mem_cons.mp h).elim (fun e => (List.mem_cons_of_mem _ (List.mem_append_left _ (List.mem_append_right _ (List.mem_append_right _ (List.mem_append_right _ (List.mem_append_right _ (List.mem_append_right _ (List.mem_append_left _ (List.mem_cons.mpr (Or.inl e))))))))))) (fun h => (List.mem_append.mp h).elim (fun h => (List.mem_cons_of_mem _ (List.mem_append_left _ (List.mem_append_right _ (List.mem_append_right _ (List.mem_append_right _ (List.mem_append_right _ (List.mem_append_right _ (List.mem_append_left _ (List.mem_cons_of_mem _ h)))))))))) (fun h => List.mem_cons_of_mem _ (List.mem_append_right _ h)))) w_f_X11_showValue_good
theorem g_f_X11_work_X11_showValue_V291 : GoodIn w_f_X11_work (wsV RX11 291 RX11 yX11_showValue w_f_X11_showValue) := goodIn_app (nb_g4 (List.mem_cons_of_mem _ (List.mem_append_left _ (List.mem_append_left _ (List.mem_of_getElem? (i := 20) rfl)))) (List.mem_cons_of_mem _ (List.mem_append_left _ (List.mem_append_left _ (List.mem_of_getElem? (i := 21) rfl)))) (List.mem_cons_of_mem _ (List.mem_append_left _ (List.mem_append_left _ (List.mem_of_getElem? (i := 22) rfl)))) (List.mem_cons_of_mem _ (List.mem_append_left _ (List.mem_append_left _ (List.mem_of_getElem? (i := 3) rfl)))) (by decide +kernel)) gg_f_X11_work_X11_showValue
theorem gg_f_X11_work_X11_wantRun : GoodIn w_f_X11_work w_f_X11_wantRun := goodIn_sub (fun w h => (List.mem_cons.mp h).elim (fun e => (List.mem_cons_of_mem _ (List.mem_append_left _ (List.mem_append_right _ (List.mem_append_left _ (List.mem_cons.mpr (Or.inl e))))))) (fun h => (List.mem_append.mp h).elim (fun h => (List.mem_cons_of_mem _ (List.mem_append_left _ (List.mem_append_right _ (List.mem_append_left _ (List.mem_cons_of_mem _ h)))))) (fun h => List.mem_cons_of_mem _ (List.mem_append_right _ h)))) w_f_X11_wantRun_good
theorem g_f_X11_work_X11_wantRun_V175 : GoodIn w_f_X11_work (wsV RX11 175 RX11 yX11_wantRun w_f_X11_wantRun) := goodIn_app (nb_g4 (List.mem_cons_of_mem _ (List.mem_append_left _ (List.mem_append_left _ (List.mem_of_getElem? (i := 0) rfl)))) (List.mem_cons_of_mem _ (List.mem_append_left _ (List.mem_append_left _ (List.mem_of_getElem? (i := 1) rfl)))) (List.mem_cons_of_mem _ (List.mem_append_left _ (List.mem_append_left _ (List.mem_of_getElem? (i := 2) rfl)))) (List.mem_cons_of_mem _ (List.mem_append_left _ (List.mem_append_left _ (List.mem_of_getElem? (i := 3) rfl)))) (by decide +kernel)) gg_f_X11_work_X11_wantRun
theorem gg_f_X11_work_X3_evaluate : GoodIn w_f_X11_work w_f_X3_evaluate := goodIn_sub (fun w h => (List.mem_cons.mp h).elim (fun e => (List.mem_cons_of_mem _ (List.mem_append_left _ (List.mem_append_right _ (List.mem_append_right _ (List.mem_append_right _ (List.mem_append_left _ (List.mem_cons.mpr (Or.inl e))))))))) (fun h => (List.mem_append.mp h).elim (fun h => (List.mem_cons_of_mem _ (List.mem_append_left _ (List.mem_append_right _ (List.mem_append_right _ (List.mem_append_right _ (List.mem_append_left _ (List.mem_cons_of_mem _ h)))))))) (fun h => List.mem_cons_of_mem _ (List.mem_append_right _ h)))) w_f_X3_evaluate_good
theorem g_f_X11_work_X3_evaluate_V301 : GoodIn w_f_X11_work (wsV RX11 301 RX3 yX3_evaluate w_f_X3_evaluate) := goodIn_app (nb_g4 (List.mem_cons_of_mem _ (List.mem_append_left _ (List.mem_append_left _ (List.mem_of_getElem? (i := 14) rfl)))) (List.mem_cons_of_mem _ (List.mem_append_left _ (List.mem_append_left _ (List.mem_of_getElem? (i := 15) rfl)))) (List.mem_cons_of_mem _ (List.mem_append_left _ (List.mem_append_left _ (List.mem_of_getElem? (i := 16) rfl)))) (List.mem_cons_of_mem _ (List.mem_append_left _ (List.mem_append_left _ (List.mem_of_getElem? (i := 17) rfl)))) (by decide +kernel)) gg_f_X11_work_X3_evaluate
theorem gg_f_X11_work_X5_readExp__P : GoodIn w_f_X11_work w_f_X5_readExp__P := goodIn_sub (fun w h => (List.mem_cons.mp h).elim (fun e => (List.mem_cons_of_mem _ (List.mem_append_left _ (List.mem_append_right _ (List.mem_append_right _ (List.mem_append_left _ (List.mem_cons.mpr (Or.inl e)))))))) (fun h => (List.mem_append.mp h).elim (fun h => (List.mem_cons_of_mem _ (List.mem_append_left _ (List.mem_append_right _ (List.mem_append_right _ (List.mem_append_left _ (List.mem_cons_of_mem _ h))))))) (fun h => List.mem_cons_of_mem _ (List.mem_append_right _ h)))) w_f_X5_readExp__P_good
theorem g_f_X11_work_X5_readExp__P_V294 : GoodIn w_f_X11_work (wsV RX11 294 RX5 yX5_readExp w_f_X5_readExp__P) := goodIn_app (nb_g4 (List.mem_cons_of_mem _ (List.mem_append_left _ (List.mem_append_left _ (List.mem_of_getElem? (i := 6) rfl)))) (List.mem_cons_of_mem _ (List.mem_append_left _ (List.mem_append_left _ (List.mem_of_getElem? (i := 7) rfl)))) (List.mem_cons_of_mem _ (List.mem_append_left _ (List.mem_append_left _ (List.mem_of_getElem? (i := 8) rfl)))) (List.mem_cons_of_mem _ (List.mem_append_left _ (List.mem_append_left _ (List.mem_of_getElem? (i := 9) rfl)))) (by decide +kernel)) gg_f_X11_work_X5_readExp__P
theorem gg_f_X11_work_X11_isError : GoodIn w_f_X11_work w_y_X11_isError := goodIn_sub (fun w h => (List.mem_cons.mp h).elim (fun e => (List.mem_cons_of_mem _ (List.mem_append_left _ (List.mem_append_right _ (List.mem_append_right _ (List.mem_append_right _ (List.mem_append_right _ (List.mem_append_left _ (List.mem_cons.mpr (Or.inl e)))))))))) (fun h => (List.mem_append.mp h).elim (fun h => (List.mem_cons_of_mem _ (List.mem_append_left _ (List.mem_append_right _ (List.mem_append_right _ (List.mem_append_right _ (List.mem_append_right _ (List.mem_append_left _ (List.mem_cons_of_mem _ h))))))))) (fun h => List.mem_cons_of_mem _ (List.mem_append_right _ h)))) w_y_X11_isError_good
theorem g_y_X11_work_X11_isError_S307 : GoodIn w_f_X11_work (va_wsS RX11 307 yX11_isError w_y_X11_isError) := goodIn_app (nb_g3 (List.mem_cons_of_mem _ (List.mem_append_left _ (List.mem_append_left _ (List.mem_of_getElem? (i := 18) rfl)))) (List.mem_cons_of_mem _ (List.mem_append_left _ (List.mem_append_left _ (List.mem_of_getElem? (i := 19) rfl)))) (List.mem_cons_of_mem _ (List.mem_append_left _ (List.mem_append_left _ (List.mem_of_getElem? (i := 3) rfl)))) (by decide +kernel)) gg_f_X11_work_X11_isError
set_option maxHeartbeats 40000000 in
set_option maxRecDepth 100000 in
theorem c_f_X11_work (l : Launch) (hl0 : l.stackTraces = false) (dC : Nat → ClassId) (dI : Nat → Nat → Nat) (cy : Nat → ClassId) (ek a : Nat → Nat) (k0 : Nat) (L0 : LV) (σ0 : CS) (r0 : RS) (h0 : f_X11_work k0 0 L0 σ0 = some r0) (z : Nat → Nat) (sz : Nat) : vx_Met l yX11_work w_f_X11_work ({ frames := 411, cells := r0.2.2.1, slots := r0.2.2.2, locals := 13425 }) (va_Pc [.ref (a 75)] (nInF (dC, dI) cy ek sz (vC cy a z σ0))) (xI dC dI cy a (va_A (vC cy a z σ0) sz) [1, 2, 3, 20, 21, 22, 26, 38, 41, 43, 51, 66] z r0) (xX dC dI cy a (va_A (vC cy a z σ0) sz) [1, 2, 3, 20, 21, 22, 26, 38, 41, 43, 51, 66] z r0) r0.2.2.1 r0.2.2.2 (va_A (vC cy a z σ0) sz) := by
  refine vx_ofW (cc := cX11_work) (maxL := 4) (ret := (some .int)) (by decide) rfl ?_
  intro p e s m args below meth c s₁ B hml hno hv
  obtain ⟨rfl, ⟨⟨hsz, hP, hK, hD0, hG⟩, hE⟩, hT⟩ := hv
  have hx := B.exec
  have hb := B.bytes
  have hr := B.returns
  have hts := atoms_spec (ws := w_f_X11_work) B.pre
  have hown : s.vm.findClass RX11 = some m.cls := findClass_of_methodNamed B.named
  have hlocks := B.notSynchronized
  subst hsz
  have hD := hD0.self (sz := s.heap.size)
  generalize hAe : va_A (vC cy a z σ0) s.heap.size = A at hD hE hT ⊢
  have hA : ∀ q : Nat, s.heap.size ≤ q → A q := fun q h => by rw [← hAe]; exact Or.inr h
  have hS : va_S A s.heap s.heap [] := va_S.rf
  have hl := lv_entry ([.ref (a 75)]) (n := 4) (Nat.le_of_ble_eq_true rfl)
  rw [lg_entry_eq]
  generalize (lg_sl ([.ref (a 75)]) ++ List.replicate (4 - (lg_sl ([.ref (a 75)])).length) Slot.unset).toArray = ls at hl ⊢
  have hl : lv_has ls 4 [(0, .ref (a 75))] := hl
  generalize hmc : r0.2.2.1 = mc
  generalize hms : r0.2.2.2 = ms
  have blk : ∀ k : Nat, (bX p l e (headSpec w_f_X11_work ({ frames := 411, cells := mc, slots := ms, locals := 13425 })).room s m #[.ref (a 75)] below meth c dC dI cy a A (fun r => vx_MQ below (xI dC dI cy a A [1, 2, 3, 20, 21, 22, 26, 38, 41, 43, 51, 66] z r) (xX dC dI cy a A [1, 2, 3, 20, 21, 22, 26, 38, 41, 43, 51, 66] z r) #[.ref (a 75)] s mc ms A) [1, 2, 3, 20, 21, 22, 26, 38, 41, 43, 51, 66] z mc ms 4 (f_X11_work k 0) (fun z L => [(0, .ref (a 75))]) 0 (fun z L => [])) ∧ (bX p l e (headSpec w_f_X11_work ({ frames := 411, cells := mc, slots := ms, locals := 13425 })).room s m #[.ref (a 75)] below meth c dC dI cy a A (fun r => vx_MQ below (xI dC dI cy a A [1, 2, 3, 20, 21, 22, 26, 38, 41, 43, 51, 66] z r) (xX dC dI cy a A [1, 2, 3, 20, 21, 22, 26, 38, 41, 43, 51, 66] z r) #[.ref (a 75)] s mc ms A) [1, 2, 3, 20, 21, 22, 26, 38, 41, 43, 51, 66] z mc ms 4 (f_X11_work k 1) (fun z L => [(0, .ref (a 75)), (1, .int (L.1 1)), (2, .int (L.1 2))]) 49 (fun z L => [])) ∧ (bX p l e (headSpec w_f_X11_work ({ frames := 411, cells := mc, slots := ms, locals := 13425 })).room s m #[.ref (a 75)] below meth c dC dI cy a A (fun r => vx_MQ below (xI dC dI cy a A [1, 2, 3, 20, 21, 22, 26, 38, 41, 43, 51, 66] z r) (xX dC dI cy a A [1, 2, 3, 20, 21, 22, 26, 38, 41, 43, 51, 66] z r) #[.ref (a 75)] s mc ms A) [1, 2, 3, 20, 21, 22, 26, 38, 41, 43, 51, 66] z mc ms 4 (f_X11_work k 2) (fun z L => [(0, .ref (a 75)), (1, .int (L.1 1))]) 64 (fun z L => [])) ∧ (bX p l e (headSpec w_f_X11_work ({ frames := 411, cells := mc, slots := ms, locals := 13425 })).room s m #[.ref (a 75)] below meth c dC dI cy a A (fun r => vx_MQ below (xI dC dI cy a A [1, 2, 3, 20, 21, 22, 26, 38, 41, 43, 51, 66] z r) (xX dC dI cy a A [1, 2, 3, 20, 21, 22, 26, 38, 41, 43, 51, 66] z r) #[.ref (a 75)] s mc ms A) [1, 2, 3, 20, 21, 22, 26, 38, 41, 43, 51, 66] z mc ms 4 (f_X11_work k 3) (fun z L => [(0, .ref (a 75)), (3, .int (L.1 3))]) 96 (fun z L => [.int (L.1 100)])) ∧ (bX p l e (headSpec w_f_X11_work ({ frames := 411, cells := mc, slots := ms, locals := 13425 })).room s m #[.ref (a 75)] below meth c dC dI cy a A (fun r => vx_MQ below (xI dC dI cy a A [1, 2, 3, 20, 21, 22, 26, 38, 41, 43, 51, 66] z r) (xX dC dI cy a A [1, 2, 3, 20, 21, 22, 26, 38, 41, 43, 51, 66] z r) #[.ref (a 75)] s mc ms A) [1, 2, 3, 20, 21, 22, 26, 38, 41, 43, 51, 66] z mc ms 4 (f_X11_work k 4) (fun z L => [(0, .ref (a 75)), (3, .int (L.1 3))]) 108 (fun z L => [])) ∧ (bX p l e (headSpec w_f_X11_work ({ frames := 411, cells := mc, slots := ms, locals := 13425 })).room s m #[.ref (a 75)] below meth c dC dI cy a A (fun r => vx_MQ below (xI dC dI cy a A [1, 2, 3, 20, 21, 22, 26, 38, 41, 43, 51, 66] z r) (xX dC dI cy a A [1, 2, 3, 20, 21, 22, 26, 38, 41, 43, 51, 66] z r) #[.ref (a 75)] s mc ms A) [1, 2, 3, 20, 21, 22, 26, 38, 41, 43, 51, 66] z mc ms 4 (f_X11_work k 5) (fun z L => []) 113 (fun z L => [.int (L.1 100)])) := by
    intro k
    induction k with
    | zero => exact ⟨fun z c1 c2 L σ r h => (by cases h), fun z c1 c2 L σ r h => (by cases h), fun z c1 c2 L σ r h => (by cases h), fun z c1 c2 L σ r h => (by cases h), fun z c1 c2 L σ r h => (by cases h), fun z c1 c2 L σ r h => (by cases h)⟩
    | succ k ih =>
      refine ⟨?_, ?_, ?_, ?_, ?_, ?_⟩
      · intro z cells slots L σ r h hzk hc hs H locs ls hP hD hS hl
        rw [f_X11_work] at h
        refine lv_aload_n hx hb dX11_work_0 rfl (lv_at hl 0 rfl) ?_
        obtain ⟨r1, hc1, hle1, h9⟩ := ox_ex h
        clear h
        refine kx_v (vx_runV (As := []) (rest := []) ⟨hx, hb, hml, hown, hts⟩ (c_f_X11_wantRun l hl0 dC dI cy ek a k lZ σ r1 hc1 z H.size) (cwV 0 hts g_f_X11_work_X11_wantRun_V175 rfl rfl rfl hd_f_X11_wantRun ⟨Nat.le_of_ble_eq_true rfl, Nat.le_of_ble_eq_true rfl⟩) ⟨nb_blindF, va_recv hK hP (ci := 10) (q0 := 75) rfl rfl, (kx_pre hK hG hE hT hA hP hD hS)⟩ rfl rfl hl.1 rfl (lv_room (Nat.le_of_ble_eq_true rfl)) dX11_work_1 ⟨Nat.le_trans (Nat.add_le_add_left hle1.1 _) (Nat.le_of_eq hc), Nat.le_trans (Nat.add_le_add_left hle1.2 _) (Nat.le_of_eq hs)⟩) hK hA hzk hP hD hS (by decide) hno hlocks ?_
        rcases h9 with ⟨h00, y1, hny1, hy⟩ | ⟨h00, hy⟩
        · subst hy
          have h := hny1
          refine Or.inl ⟨h00, fun u H locs hz1 hzk hP hD hS => ?_⟩
          obtain rfl := (zk_nil hz1).symm
          replace hc := (Nat.add_assoc _ _ _).trans hc
          replace hs := (Nat.add_assoc _ _ _).trans hs
          refine lv_aload_n hx hb dX11_work_4 rfl (lv_at hl 0 rfl) ?_
          refine hg_75_8 hx hb hts in_f_X11_work_X11 hown hK hP (hts _ (List.mem_cons_of_mem _ (List.mem_append_left _ (List.mem_append_left _ (List.mem_of_getElem? (i := 4) rfl))))) dX11_work_5 ?_
          refine hg_P_1n ((sCur r1.2.1)) hx hb hts in_f_X11_work_X7 hown hK hP (va_Nw.use rfl (hG.1 _ (List.mem_of_getElem? (i := 69) rfl))) dX11_work_8 ?_
          refine lv_istore_n (lv' := [(1, .int (r1.2.1.1 (fP ((sCur r1.2.1)) 1))), (0, .ref (a 75))]) hx hb dX11_work_11 rfl hl (by decide) rfl (fun ls hl => ?_)
          refine lv_aload_n hx hb dX11_work_12 rfl (lv_at hl 1 rfl) ?_
          refine hg_75_7 hx hb hts in_f_X11_work_X11 hown hK hP (hts _ (List.mem_cons_of_mem _ (List.mem_append_left _ (List.mem_append_left _ (List.mem_of_getElem? (i := 5) rfl))))) dX11_work_13 ?_
          refine lv_aload_n hx hb dX11_work_16 rfl (lv_at hl 1 rfl) ?_
          refine hg_75_8 hx hb hts in_f_X11_work_X11 hown hK hP (hts _ (List.mem_cons_of_mem _ (List.mem_append_left _ (List.mem_append_left _ (List.mem_of_getElem? (i := 4) rfl))))) dX11_work_17 ?_
          refine lv_iconst (v := 1) hx hb dX11_work_20 (by decide) ?_
          obtain ⟨r2, hc2, hle2, h9⟩ := ox_ex h
          clear h
          refine kx_i (r := y1) (vx_runVX (As := [.ref (a (pA (sCur r1.2.1))), .int 1]) (rest := []) ⟨hx, hb, hml, hown, hts⟩ (c_f_X5_readExp__P l hl0 dC dI cy ek a k (lI (lB lZ 1 ((sCur r1.2.1))) 2 1) r1.2.1 r2 hc2 z H.size) (vx_cwVW 2 hts g_f_X11_work_X5_readExp__P_V294 rfl rfl rfl hd_f_X5_readExp__P ⟨Nat.le_of_ble_eq_true rfl, Nat.le_of_ble_eq_true rfl⟩) ⟨nb_blindF, va_recv hK hP (ci := 4) (q0 := 40) rfl rfl, (kx_pre hK hG hE hT hA hP hD hS)⟩ rfl rfl hl.1 rfl (lv_room (Nat.le_of_ble_eq_true rfl)) dX11_work_21 ⟨Nat.le_trans (Nat.add_le_add_left hle2.1 _) (Nat.le_of_eq hc), Nat.le_trans (Nat.add_le_add_left hle2.2 _) (Nat.le_of_eq hs)⟩) hK hA hzk hP hD hS (by decide) hno hlocks ?_
          rcases h9 with ⟨h00, y2, hny2, hy⟩ | ⟨h00, hy⟩
          · subst hy
            have h := hny2
            refine Or.inl ⟨h00, fun z H locs hz2 hzk hP hD hS => ?_⟩
            replace hc := (Nat.add_assoc _ _ _).trans hc
            replace hs := (Nat.add_assoc _ _ _).trans hs
            refine lv_istore_n (lv' := [(2, .int r2.1.2), (1, .int (r1.2.1.1 (fP ((sCur r1.2.1)) 1))), (0, .ref (a 75))]) hx hb dX11_work_24 rfl hl (by decide) rfl (fun ls hl => ?_)
            refine lv_aload_n hx hb dX11_work_25 rfl (lv_at hl 2 rfl) ?_
            refine hg_75_6 hx hb hts in_f_X11_work_X11 hown hK hP (hts _ (List.mem_cons_of_mem _ (List.mem_append_left _ (List.mem_append_left _ (List.mem_of_getElem? (i := 10) rfl))))) dX11_work_26 ?_
            refine lv_iconst (v := 0) hx hb dX11_work_29 (by decide) ?_
            refine hp_37_1n hx hb hts in_f_X11_work_X2 hown hK hP hD hS (va_Nw.use rfl (hG.1 _ (List.mem_of_getElem? (i := 51) rfl))) dX11_work_30 (fun H locs hP hD hS => ?_)
            refine lv_aload_n hx hb dX11_work_33 rfl (lv_at hl 2 rfl) ?_
            refine lv_aload_n hx hb dX11_work_34 rfl (lv_at hl 2 rfl) ?_
            refine hg_75_7 hx hb hts in_f_X11_work_X11 hown hK hP (hts _ (List.mem_cons_of_mem _ (List.mem_append_left _ (List.mem_append_left _ (List.mem_of_getElem? (i := 5) rfl))))) dX11_work_35 ?_
            refine hg_40_6n hx hb hts in_f_X11_work_X5 hown hK hP (va_Nw.use rfl (hG.1 _ (List.mem_of_getElem? (i := 62) rfl))) dX11_work_38 ?_
            refine hp_75_12 hx hb hts in_f_X11_work_X11 hown hK hP hD hS (hts _ (List.mem_cons_of_mem _ (List.mem_append_left _ (List.mem_append_left _ (List.mem_of_getElem? (i := 11) rfl))))) dX11_work_41 (fun H locs hP hD hS => ?_)
            refine lv_aload_n hx hb dX11_work_44 rfl (lv_at hl 2 rfl) ?_
            refine lv_iconst (v := 0) hx hb dX11_work_45 (by decide) ?_
            refine hp_75_19 hx hb hts in_f_X11_work_X11 hown hK hP hD hS (hts _ (List.mem_cons_of_mem _ (List.mem_append_left _ (List.mem_append_left _ (List.mem_of_getElem? (i := 12) rfl))))) dX11_work_46 (fun H locs hP hD hS => ?_)
            exact ih.2.1 z _ _ (lI (lI L 1 ((r1.2.1.1 (fP ((sCur r1.2.1)) 1)))) 2 r2.1.2) (uI (uI (uI r2.2.1 3701 0) 7512 (((uI r2.2.1 3701 0).1 4006))) 7519 0) _ h hzk hc hs H locs ls hP hD hS (lv_sub hl [2, 1, 0] rfl)
          · subst hy
            exact Or.inr ⟨h00, rfl, hc, hs⟩
        · subst hy
          exact Or.inr ⟨h00, rfl, hc, hs⟩
      · intro z cells slots L σ r h hzk hc hs H locs ls hP hD hS hl
        rw [f_X11_work] at h
        refine lv_iload_n hx hb dX11_work_49 rfl (lv_at hl 2 rfl) ?_
        refine lv_if_ne (tgt := 64) hx hb dX11_work_50 (by decide) (fun c1 => ?_) (fun c1 => ?_)
        · rw [if_neg c1] at h
          exact ih.2.2.1 z _ _ L σ _ h hzk hc hs H locs ls hP hD hS (lv_sub hl [0, 1] rfl)
        · rw [if_pos c1] at h
          refine lv_bipush (v := (-100)) hx hb dX11_work_53 (by decide) ?_
          refine lv_aload_n hx hb dX11_work_55 rfl (lv_at hl 0 rfl) ?_
          refine hg_75_7 hx hb hts in_f_X11_work_X11 hown hK hP (hts _ (List.mem_cons_of_mem _ (List.mem_append_left _ (List.mem_append_left _ (List.mem_of_getElem? (i := 5) rfl))))) dX11_work_56 ?_
          refine hg_40_7n hx hb hts in_f_X11_work_X5 hown hK hP (va_Nw.use rfl (hG.1 _ (List.mem_of_getElem? (i := 63) rfl))) dX11_work_59 ?_
          refine lv_isub hx hb dX11_work_62 ?_
          obtain rfl := Option.some.inj h
          subst hc
          subst hs
          exact xr_i hx hb hr hK hzk hP hD hS hlocks dX11_work_63
      · intro z cells slots L σ r h hzk hc hs H locs ls hP hD hS hl
        rw [f_X11_work] at h
        refine lv_aload_n hx hb dX11_work_64 rfl (lv_at hl 0 rfl) ?_
        refine hg_75_5 hx hb hts in_f_X11_work_X11 hown hK hP (hts _ (List.mem_cons_of_mem _ (List.mem_append_left _ (List.mem_append_left _ (List.mem_of_getElem? (i := 13) rfl))))) dX11_work_65 ?_
        refine lv_iload_n hx hb dX11_work_68 rfl (lv_at hl 1 rfl) ?_
        obtain ⟨r1, hc1, hle1, h9⟩ := ox_ex h
        clear h
        refine kx_i (vx_runV (As := [.int (L.1 1)]) (rest := []) ⟨hx, hb, hml, hown, hts⟩ (c_f_X3_evaluate l hl0 dC dI cy ek a k (lI lZ 1 ((L.1 1))) σ r1 hc1 z H.size) (cwV 1 hts g_f_X11_work_X3_evaluate_V301 rfl rfl rfl hd_f_X3_evaluate ⟨Nat.le_of_ble_eq_true rfl, Nat.le_of_ble_eq_true rfl⟩) ⟨nb_blindF, va_recv hK hP (ci := 3) (q0 := 18) rfl rfl, (kx_pre hK hG hE hT hA hP hD hS)⟩ rfl rfl hl.1 rfl (lv_room (Nat.le_of_ble_eq_true rfl)) dX11_work_69 ⟨Nat.le_trans (Nat.add_le_add_left hle1.1 _) (Nat.le_of_eq hc), Nat.le_trans (Nat.add_le_add_left hle1.2 _) (Nat.le_of_eq hs)⟩) hK hA hzk hP hD hS (by decide) hno hlocks ?_
        rcases h9 with ⟨h00, y1, hny1, hy⟩ | ⟨h00, hy⟩
        · subst hy
          have h := hny1
          refine Or.inl ⟨h00, fun z H locs hz1 hzk hP hD hS => ?_⟩
          replace hc := (Nat.add_assoc _ _ _).trans hc
          replace hs := (Nat.add_assoc _ _ _).trans hs
          refine lv_istore_n (lv' := [(3, .int r1.1.2), (0, .ref (a 75)), (1, .int (L.1 1))]) hx hb dX11_work_72 rfl hl (by decide) rfl (fun ls hl => ?_)
          refine lv_aload_n hx hb dX11_work_73 rfl (lv_at hl 1 rfl) ?_
          refine hg_75_8 hx hb hts in_f_X11_work_X11 hown hK hP (hts _ (List.mem_cons_of_mem _ (List.mem_append_left _ (List.mem_append_left _ (List.mem_of_getElem? (i := 4) rfl))))) dX11_work_74 ?_
          refine lv_iload_n hx hb dX11_work_77 rfl (lv_at hl 2 rfl) ?_
          refine hp_P_1n ((sCur r1.2.1)) hx hb hts in_f_X11_work_X7 hown hK hP hD hS (va_Nw.use rfl (hG.1 _ (List.mem_of_getElem? (i := 69) rfl))) dX11_work_78 (fun H locs hP hD hS => ?_)
          refine lv_aload_n hx hb dX11_work_81 rfl (lv_at hl 1 rfl) ?_
          refine lv_aload_n hx hb dX11_work_82 rfl (lv_at hl 1 rfl) ?_
          refine hg_75_5 hx hb hts in_f_X11_work_X11 hown hK hP (hts _ (List.mem_cons_of_mem _ (List.mem_append_left _ (List.mem_append_left _ (List.mem_of_getElem? (i := 13) rfl))))) dX11_work_83 ?_
          refine hg_18_19n hx hb hts in_f_X11_work_X3 hown hK hP (va_Nw.use rfl (hG.1 _ (List.mem_of_getElem? (i := 49) rfl))) dX11_work_86 ?_
          refine hp_75_19 hx hb hts in_f_X11_work_X11 hown hK hP hD hS (hts _ (List.mem_cons_of_mem _ (List.mem_append_left _ (List.mem_append_left _ (List.mem_of_getElem? (i := 12) rfl))))) dX11_work_89 (fun H locs hP hD hS => ?_)
          refine lv_iload_n hx hb dX11_work_92 rfl (lv_at hl 0 rfl) ?_
          obtain ⟨r2, hc2, h⟩ := op_ex h
          refine kc_i (va_runS (As := [.int r1.1.2]) (rest := []) ⟨hx, hb, hml, hown, hts⟩ (c_y_X11_isError l dC dI cy a z k (lI lZ 0 r1.1.2) (uI (uI r1.2.1 (fP ((sCur r1.2.1)) 1) ((L.1 1))) 7519 (((uI r1.2.1 (fP ((sCur r1.2.1)) 1) ((L.1 1))).1 1819))) r2 hc2 H.size) (va_cwS 1 hts g_y_X11_work_X11_isError_S307 rfl rfl rfl hd_y_X11_isError ⟨Nat.le_of_ble_eq_true rfl, Nat.le_of_ble_eq_true rfl⟩) ⟨nb_blind, (kb_pre hK hG hP hD)⟩ rfl rfl hl.1 rfl (lv_room (Nat.le_of_ble_eq_true rfl)) dX11_work_93 ⟨(Nat.le_trans (Nat.le_add_right _ _) (Nat.le_of_eq hc)), (Nat.le_trans (Nat.le_add_right _ _) (Nat.le_of_eq hs))⟩) hA hP hD hS (fun H locs hP hD hS => ?_)
          exact ih.2.2.2.1 z _ _ (lI (lI L 3 r1.1.2) 100 r2.1) r2.2 _ h hzk hc hs H locs ls hP hD hS (lv_sub hl [1, 0] rfl)
        · subst hy
          exact Or.inr ⟨h00, rfl, hc, hs⟩
      · intro z cells slots L σ r h hzk hc hs H locs ls hP hD hS hl
        rw [f_X11_work] at h
        refine lv_if_eq (tgt := 108) hx hb dX11_work_96 (by decide) (fun c1 => ?_) (fun c1 => ?_)
        · rw [if_pos c1] at h
          exact ih.2.2.2.2.1 z _ _ L σ _ h hzk hc hs H locs ls hP hD hS (lv_sub hl [0, 1] rfl)
        · rw [if_neg c1] at h
          refine lv_iconst (v := (-1)) hx hb dX11_work_99 (by decide) ?_
          refine lv_iload_n hx hb dX11_work_100 rfl (lv_at hl 1 rfl) ?_
          refine lv_bipush (v := 15) hx hb dX11_work_101 (by decide) ?_
          refine lv_iand hx hb dX11_work_103 ?_
          refine lv_isub hx hb dX11_work_104 ?_
          refine lv_goto (tgt := 113) hx hb dX11_work_105 (by decide) ?_
          exact ih.2.2.2.2.2 z _ _ (lI L 100 ((((-1)) - ((((L.1 3)) &&& 15))))) σ _ h hzk hc hs H locs ls hP hD hS (lv_sub hl [] rfl)
      · intro z cells slots L σ r h hzk hc hs H locs ls hP hD hS hl
        rw [f_X11_work] at h
        refine lv_aload_n hx hb dX11_work_108 rfl (lv_at hl 0 rfl) ?_
        refine lv_iload_n hx hb dX11_work_109 rfl (lv_at hl 1 rfl) ?_
        obtain ⟨r1, hc1, hle1, h9⟩ := ox_ex h
        clear h
        refine kx_i (vx_runV (As := [.int (L.1 3)]) (rest := []) ⟨hx, hb, hml, hown, hts⟩ (c_f_X11_showValue l hl0 dC dI cy ek a k (lI lZ 1 ((L.1 3))) σ r1 hc1 z H.size) (cwV 1 hts g_f_X11_work_X11_showValue_V291 rfl rfl rfl hd_f_X11_showValue ⟨Nat.le_of_ble_eq_true rfl, Nat.le_of_ble_eq_true rfl⟩) ⟨nb_blindF, va_recv hK hP (ci := 10) (q0 := 75) rfl rfl, (kx_pre hK hG hE hT hA hP hD hS)⟩ rfl rfl hl.1 rfl (lv_room (Nat.le_of_ble_eq_true rfl)) dX11_work_110 ⟨Nat.le_trans (Nat.add_le_add_left hle1.1 _) (Nat.le_of_eq hc), Nat.le_trans (Nat.add_le_add_left hle1.2 _) (Nat.le_of_eq hs)⟩) hK hA hzk hP hD hS (by decide) hno hlocks ?_
        rcases h9 with ⟨h00, y1, hny1, hy⟩ | ⟨h00, hy⟩
        · subst hy
          have h := hny1
          refine Or.inl ⟨h00, fun z H locs hz1 hzk hP hD hS => ?_⟩
          replace hc := (Nat.add_assoc _ _ _).trans hc
          replace hs := (Nat.add_assoc _ _ _).trans hs
          exact ih.2.2.2.2.2 z _ _ (lI L 100 r1.1.2) r1.2.1 _ h hzk hc hs H locs ls hP hD hS (lv_sub hl [] rfl)
        · subst hy
          exact Or.inr ⟨h00, rfl, hc, hs⟩
      · intro z cells slots L σ r h hzk hc hs H locs ls hP hD hS hl
        rw [f_X11_work] at h
        obtain rfl := Option.some.inj h
        subst hc
        subst hs
        exact xr_i hx hb hr hK hzk hP hD hS hlocks dX11_work_113
  exact (blk k0).1 z 0 0 L0 σ0 r0 h0 (zk_rf _ _) ((Nat.zero_add _).trans hmc) ((Nat.zero_add _).trans hms) s.heap [] ls hP hD hS hl

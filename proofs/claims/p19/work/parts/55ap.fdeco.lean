/-! X5_string -/
def f_X5_string : Nat → Nat → LV → CS → Option RS
  | 0, _, _, _ => none
  | k + 1, 0, L, σ => if 1 < ((((((σ.1 3704)) - 1)) - ((((σ.1 3703)) + 1)))) then (f_X5_string k 1 (lI (lI L 1 ((((σ.1 3703)) + 1))) 2 ((((((σ.1 3704)) - 1)) - ((((σ.1 3703)) + 1))))) σ) else (oP (sPp σ) (fun b2 => ox (f_X7_emit__P k 0 (lI (lI (lB lZ 0 b2) 1 33) 2 0) σ) (fun r3 => oP (sPp r3.2.1) (fun b4 => if ((((((σ.1 3704)) - 1)) - ((((σ.1 3703)) + 1)))) = 0 then (f_X5_string k 3 (lB (lI L 100 0) 101 b4) r3.2.1) else (f_X5_string k 2 (lB (lI L 1 ((((σ.1 3703)) + 1))) 100 b4) r3.2.1)))))
  | k + 1, 1, L, σ => oP (sPp σ) (fun b1 => ox (f_X7_emit__P k 0 (lI (lI (lB lZ 0 b1) 1 34) 2 ((((((((L.1 2)) + 3)) >>> ((2 : Int32) &&& 31))) + 1))) σ) (fun r2 => oP (sPp r2.2.1) (fun b3 => op (y_X1_header k 0 (lI (lI (lI (lI (lI lZ 0 4) 1 0) 2 ((L.1 2))) 3 ((1 + ((((((L.1 2)) + 3)) >>> ((2 : Int32) &&& 31)))))) 4 0) r2.2.1) (fun r4 => ox (f_X7_word__P k 0 (lI (lB lZ 0 b3) 1 r4.1) r4.2) (fun r5 => f_X5_string k 4 (lI (lI (lI L 3 ((((((L.1 2)) + 3)) >>> ((2 : Int32) &&& 31)))) 4 r5.1.2) 5 0) r5.2.1)))))
  | k + 1, 2, L, σ => if ¬ (((L.1 1)) < 0 ∨ (sN σ 38) ≤ ((L.1 1)).toNatClampNeg) then (f_X5_string k 3 (lB (lI L 100 ((((-1073741824)) ||| ((((σ.2.2.1 38 ((L.1 1)).toNatClampNeg)) &&& 255))))) 101 ((L.2.2.1 100))) σ) else none
  | k + 1, 3, L, σ => ox (f_X7_word__P k 0 (lI (lB lZ 0 ((L.2.2.1 101))) 1 ((L.1 100))) σ) (fun r1 => f_X5_string k 5 L r1.2.1)
  | k + 1, 4, L, σ => if ((L.1 3)) ≤ ((L.1 5)) then (f_X5_string k 6 L σ) else (oP (sPp σ) (fun b2 => ox (f_X7_word__P k 0 (lI (lB lZ 0 b2) 1 0) σ) (fun r3 => f_X5_string k 4 (lI L 5 ((((L.1 5)) + 1))) r3.2.1)))
  | k + 1, 5, L, σ => ox (f_X2_advance k 0 lZ σ) (fun r1 => some ((0, 0), r1.2.1, (0, 0)))
  | k + 1, 6, L, σ => f_X5_string k 7 (lI L 5 0) σ
  | k + 1, 7, L, σ => if ((L.1 2)) ≤ ((L.1 5)) then (f_X5_string k 5 L σ) else (oP (sPp σ) (fun b2 => if ¬ (((((((L.1 4)) + 1)) + ((((L.1 5)) >>> ((2 : Int32) &&& 31))))) < 0 ∨ (sN σ (pR0 ((sKd σ b2)))) ≤ ((((((L.1 4)) + 1)) + ((((L.1 5)) >>> ((2 : Int32) &&& 31))))).toNatClampNeg) then (if ¬ (((((L.1 1)) + ((L.1 5)))) < 0 ∨ (sN σ 38) ≤ ((((L.1 1)) + ((L.1 5)))).toNatClampNeg) then (if ¬ (((((((L.1 4)) + 1)) + ((((L.1 5)) >>> ((2 : Int32) &&& 31))))) < 0 ∨ (sN σ (pR0 ((sKd σ b2)))) ≤ ((((((L.1 4)) + 1)) + ((((L.1 5)) >>> ((2 : Int32) &&& 31))))).toNatClampNeg) then (f_X5_string k 7 (lI L 5 ((((L.1 5)) + 1))) (uA σ (pR0 ((sKd σ b2))) ((((((L.1 4)) + 1)) + ((((L.1 5)) >>> ((2 : Int32) &&& 31))))).toNatClampNeg ((((σ.2.2.1 (pR0 ((sKd σ b2))) ((((((L.1 4)) + 1)) + ((((L.1 5)) >>> ((2 : Int32) &&& 31))))).toNatClampNeg)) ||| ((((((σ.2.2.1 38 ((((L.1 1)) + ((L.1 5)))).toNatClampNeg)) &&& 255)) <<< (((((((L.1 5)) &&& 3)) <<< ((3 : Int32) &&& 31))) &&& 31))))))) else none) else none) else none))
  | _ + 1, _ + 8, _, _ => none
def o_f_X5_string : List Cond := [.fieldLink RX5 18 "SetHouse$Parser" "lex" "LSetHouse$Lexer;", .fieldLink RX5 93 "SetHouse$Parser" "p" "LSetHouse$Program;", .methodLink RX5 66 yX7_emit, .instanceMethod yX7_emit, .selects RX7 yX7_emit yX7_emit, .initialized RX7, .methodLink RX5 431 yX1_header, .static yX1_header, .initialized RX1, .methodLink RX5 243 yX7_word, .instanceMethod yX7_word, .selects RX7 yX7_word yX7_word, .constant RX5 437 (-1073741824), .methodLink RX5 30 yX2_advance, .instanceMethod yX2_advance, .selects RX2 yX2_advance yX2_advance, .initialized RX2]
theorem o_f_X5_string_good : o_f_X5_string.all goodWord = true := by decide +kernel
def p_f_X5_string : List Cond := o_f_X5_string ++ ((.code yX7_emit cX7_emit 3 (some .int) :: p_f_X7_emit__P) ++ ((.code yX1_header cX1_header 5 (some .int) :: p_y_X1_header) ++ ((.code yX7_word cX7_word 2 (some .int) :: p_f_X7_word__P) ++ ((.code yX2_advance cX2_advance 7 none :: p_f_X2_advance) ++ []))))
theorem p_f_X5_string_good : p_f_X5_string.all goodWord = true := nb_all2 o_f_X5_string_good (nb_all2 (nb_allc (by decide +kernel) p_f_X7_emit__P_good) (nb_all2 (nb_allc (by decide +kernel) p_y_X1_header_good) (nb_all2 (nb_allc (by decide +kernel) p_f_X7_word__P_good) (nb_all2 (nb_allc (by decide +kernel) p_f_X2_advance_good) rfl))))
def w_f_X5_string : List Cond := .code yX5_string cX5_string 6 none :: (p_f_X5_string ++ fC)
theorem w_f_X5_string_good : w_f_X5_string.all goodWord = true := nb_allc (by decide +kernel) (nb_all2 p_f_X5_string_good fC_good)
theorem in_f_X5_string_X2 : ∀ w ∈ wsX20, w ∈ w_f_X5_string := fun _ h => List.mem_cons_of_mem _ (List.mem_append_right _ (List.mem_append_right _ (List.mem_append_right _ (List.mem_append_left _ h))))
theorem in_f_X5_string_X5 : ∀ w ∈ wsX50, w ∈ w_f_X5_string := fun _ h => List.mem_cons_of_mem _ (List.mem_append_right _ (List.mem_append_right _ (List.mem_append_right _ (List.mem_append_right _ (List.mem_append_right _ (List.mem_append_left _ h))))))
theorem in_f_X5_string_X7 : ∀ w ∈ wsX70, w ∈ w_f_X5_string := fun _ h => List.mem_cons_of_mem _ (List.mem_append_right _ (List.mem_append_right _ (List.mem_append_right _ (List.mem_append_right _ (List.mem_append_right _ (List.mem_append_right _ (List.mem_append_right _ (List.mem_append_left _ h))))))))
theorem hd_f_X5_string : yX5_string.cls = RX5 ∧ yX5_string.cls ≠ "java/lang/invoke/MethodHandle" ∧ yX5_string.cls ≠ "java/lang/invoke/VarHandle" ∧ (parseMethodDescriptor yX5_string.desc).map (fun d => d.parameters.length) = some 0 := by decide +kernel
theorem gg_f_X5_string_X2_advance : GoodIn w_f_X5_string w_f_X2_advance := goodIn_sub (fun w h => (List.mem_cons.mp h).elim (fun e => (List.mem_cons_of_mem _ (List.mem_append_left _ (List.mem_append_right _ (List.mem_append_right _ (List.mem_append_right _ (List.mem_append_right _ (List.mem_append_left _ (List.mem_cons.mpr (Or.inl e)))))))))) (fun h => (List.mem_append.mp h).elim (fun h => (List.mem_cons_of_mem _ (List.mem_append_left _ (List.mem_append_right _ (List.mem_append_right _ (List.mem_append_right _ (List.mem_append_right _ (List.mem_append_left _ (List.mem_cons_of_mem _ h))))))))) (fun h => List.mem_cons_of_mem _ (List.mem_append_right _ h)))) w_f_X2_advance_good
theorem g_f_X5_string_X2_advance_V30 : GoodIn w_f_X5_string (wsV RX5 30 RX2 yX2_advance w_f_X2_advance) := goodIn_app (nb_g4 (List.mem_cons_of_mem _ (List.mem_append_left _ (List.mem_append_left _ (List.mem_of_getElem? (i := 13) rfl)))) (List.mem_cons_of_mem _ (List.mem_append_left _ (List.mem_append_left _ (List.mem_of_getElem? (i := 14) rfl)))) (List.mem_cons_of_mem _ (List.mem_append_left _ (List.mem_append_left _ (List.mem_of_getElem? (i := 15) rfl)))) (List.mem_cons_of_mem _ (List.mem_append_left _ (List.mem_append_left _ (List.mem_of_getElem? (i := 16) rfl)))) (by decide +kernel)) gg_f_X5_string_X2_advance
theorem gg_f_X5_string_X7_emit__P : GoodIn w_f_X5_string w_f_X7_emit__P := goodIn_sub (fun w h => (List.mem_cons.mp h).elim (fun e => (List.mem_cons_of_mem _ (List.mem_append_left _ (List.mem_append_right _ (List.mem_append_left _ (List.mem_cons.mpr (Or.inl e))))))) (fun h => (List.mem_append.mp h).elim (fun h => (List.mem_cons_of_mem _ (List.mem_append_left _ (List.mem_append_right _ (List.mem_append_left _ (List.mem_cons_of_mem _ h)))))) (fun h => List.mem_cons_of_mem _ (List.mem_append_right _ h)))) w_f_X7_emit__P_good
theorem g_f_X5_string_X7_emit__P_V66 : GoodIn w_f_X5_string (wsV RX5 66 RX7 yX7_emit w_f_X7_emit__P) := goodIn_app (nb_g4 (List.mem_cons_of_mem _ (List.mem_append_left _ (List.mem_append_left _ (List.mem_of_getElem? (i := 2) rfl)))) (List.mem_cons_of_mem _ (List.mem_append_left _ (List.mem_append_left _ (List.mem_of_getElem? (i := 3) rfl)))) (List.mem_cons_of_mem _ (List.mem_append_left _ (List.mem_append_left _ (List.mem_of_getElem? (i := 4) rfl)))) (List.mem_cons_of_mem _ (List.mem_append_left _ (List.mem_append_left _ (List.mem_of_getElem? (i := 5) rfl)))) (by decide +kernel)) gg_f_X5_string_X7_emit__P
theorem gg_f_X5_string_X7_word__P : GoodIn w_f_X5_string w_f_X7_word__P := goodIn_sub (fun w h => (List.mem_cons.mp h).elim (fun e => (List.mem_cons_of_mem _ (List.mem_append_left _ (List.mem_append_right _ (List.mem_append_right _ (List.mem_append_right _ (List.mem_append_left _ (List.mem_cons.mpr (Or.inl e))))))))) (fun h => (List.mem_append.mp h).elim (fun h => (List.mem_cons_of_mem _ (List.mem_append_left _ (List.mem_append_right _ (List.mem_append_right _ (List.mem_append_right _ (List.mem_append_left _ (List.mem_cons_of_mem _ h)))))))) (fun h => List.mem_cons_of_mem _ (List.mem_append_right _ h)))) w_f_X7_word__P_good
theorem g_f_X5_string_X7_word__P_V243 : GoodIn w_f_X5_string (wsV RX5 243 RX7 yX7_word w_f_X7_word__P) := goodIn_app (nb_g4 (List.mem_cons_of_mem _ (List.mem_append_left _ (List.mem_append_left _ (List.mem_of_getElem? (i := 9) rfl)))) (List.mem_cons_of_mem _ (List.mem_append_left _ (List.mem_append_left _ (List.mem_of_getElem? (i := 10) rfl)))) (List.mem_cons_of_mem _ (List.mem_append_left _ (List.mem_append_left _ (List.mem_of_getElem? (i := 11) rfl)))) (List.mem_cons_of_mem _ (List.mem_append_left _ (List.mem_append_left _ (List.mem_of_getElem? (i := 5) rfl)))) (by decide +kernel)) gg_f_X5_string_X7_word__P
theorem gg_f_X5_string_X1_header : GoodIn w_f_X5_string w_y_X1_header := goodIn_sub (fun w h => (List.mem_cons.mp h).elim (fun e => (List.mem_cons_of_mem _ (List.mem_append_left _ (List.mem_append_right _ (List.mem_append_right _ (List.mem_append_left _ (List.mem_cons.mpr (Or.inl e)))))))) (fun h => (List.mem_append.mp h).elim (fun h => (List.mem_cons_of_mem _ (List.mem_append_left _ (List.mem_append_right _ (List.mem_append_right _ (List.mem_append_left _ (List.mem_cons_of_mem _ h))))))) (fun h => List.mem_cons_of_mem _ (List.mem_append_right _ h)))) w_y_X1_header_good
theorem g_y_X5_string_X1_header_S431 : GoodIn w_f_X5_string (va_wsS RX5 431 yX1_header w_y_X1_header) := goodIn_app (nb_g3 (List.mem_cons_of_mem _ (List.mem_append_left _ (List.mem_append_left _ (List.mem_of_getElem? (i := 6) rfl)))) (List.mem_cons_of_mem _ (List.mem_append_left _ (List.mem_append_left _ (List.mem_of_getElem? (i := 7) rfl)))) (List.mem_cons_of_mem _ (List.mem_append_left _ (List.mem_append_left _ (List.mem_of_getElem? (i := 8) rfl)))) (by decide +kernel)) gg_f_X5_string_X1_header
set_option maxHeartbeats 40000000 in
set_option maxRecDepth 100000 in
theorem c_f_X5_string (l : Launch) (hl0 : l.stackTraces = false) (dC : Nat → ClassId) (dI : Nat → Nat → Nat) (cy : Nat → ClassId) (ek a : Nat → Nat) (k0 : Nat) (L0 : LV) (σ0 : CS) (r0 : RS) (h0 : f_X5_string k0 0 L0 σ0 = some r0) (z : Nat → Nat) (sz : Nat) : vx_Met l yX5_string w_f_X5_string ({ frames := 8, cells := r0.2.2.1, slots := r0.2.2.2, locals := 143 }) (va_Pc [.ref (a 40)] (nInF (dC, dI) cy ek sz (vC cy a z σ0))) (xV dC dI cy a (va_A (vC cy a z σ0) sz) [43, 51] z r0) (xX dC dI cy a (va_A (vC cy a z σ0) sz) [43, 51] z r0) r0.2.2.1 r0.2.2.2 (va_A (vC cy a z σ0) sz) := by
  refine vx_ofW (cc := cX5_string) (maxL := 6) (ret := none) (by decide) rfl ?_
  intro p e s m args below meth c s₁ B hml hno hv
  obtain ⟨rfl, ⟨⟨hsz, hP, hK, hD0, hG⟩, hE⟩, hT⟩ := hv
  have hx := B.exec
  have hb := B.bytes
  have hr := B.returns
  have hts := atoms_spec (ws := w_f_X5_string) B.pre
  have hown : s.vm.findClass RX5 = some m.cls := findClass_of_methodNamed B.named
  have hlocks := B.notSynchronized
  subst hsz
  have hD := hD0.self (sz := s.heap.size)
  generalize hAe : va_A (vC cy a z σ0) s.heap.size = A at hD hE hT ⊢
  have hA : ∀ q : Nat, s.heap.size ≤ q → A q := fun q h => by rw [← hAe]; exact Or.inr h
  have hS : va_S A s.heap s.heap [] := va_S.rf
  have hl := lv_entry ([.ref (a 40)]) (n := 6) (Nat.le_of_ble_eq_true rfl)
  rw [lg_entry_eq]
  generalize (lg_sl ([.ref (a 40)]) ++ List.replicate (6 - (lg_sl ([.ref (a 40)])).length) Slot.unset).toArray = ls at hl ⊢
  have hl : lv_has ls 6 [(0, .ref (a 40))] := hl
  generalize hmc : r0.2.2.1 = mc
  generalize hms : r0.2.2.2 = ms
  have blk : ∀ k : Nat, (bX p l e (headSpec w_f_X5_string ({ frames := 8, cells := mc, slots := ms, locals := 143 })).room s m #[.ref (a 40)] below meth c dC dI cy a A (fun r => vx_MQ below (xV dC dI cy a A [43, 51] z r) (xX dC dI cy a A [43, 51] z r) #[.ref (a 40)] s mc ms A) [43, 51] z mc ms 6 (f_X5_string k 0) (fun z L => [(0, .ref (a 40))]) 0 (fun z L => [])) ∧ (bX p l e (headSpec w_f_X5_string ({ frames := 8, cells := mc, slots := ms, locals := 143 })).room s m #[.ref (a 40)] below meth c dC dI cy a A (fun r => vx_MQ below (xV dC dI cy a A [43, 51] z r) (xX dC dI cy a A [43, 51] z r) #[.ref (a 40)] s mc ms A) [43, 51] z mc ms 6 (f_X5_string k 1) (fun z L => [(0, .ref (a 40)), (1, .int (L.1 1)), (2, .int (L.1 2))]) 74 (fun z L => [])) ∧ (bX p l e (headSpec w_f_X5_string ({ frames := 8, cells := mc, slots := ms, locals := 143 })).room s m #[.ref (a 40)] below meth c dC dI cy a A (fun r => vx_MQ below (xV dC dI cy a A [43, 51] z r) (xX dC dI cy a A [43, 51] z r) #[.ref (a 40)] s mc ms A) [43, 51] z mc ms 6 (f_X5_string k 2) (fun z L => [(0, .ref (a 40)), (1, .int (L.1 1))]) 50 (fun z L => [.ref (a (pA (L.2.2.1 100)))])) ∧ (bX p l e (headSpec w_f_X5_string ({ frames := 8, cells := mc, slots := ms, locals := 143 })).room s m #[.ref (a 40)] below meth c dC dI cy a A (fun r => vx_MQ below (xV dC dI cy a A [43, 51] z r) (xX dC dI cy a A [43, 51] z r) #[.ref (a 40)] s mc ms A) [43, 51] z mc ms 6 (f_X5_string k 3) (fun z L => [(0, .ref (a 40))]) 67 (fun z L => [.int (L.1 100), .ref (a (pA (L.2.2.1 101)))])) ∧ (bX p l e (headSpec w_f_X5_string ({ frames := 8, cells := mc, slots := ms, locals := 143 })).room s m #[.ref (a 40)] below meth c dC dI cy a A (fun r => vx_MQ below (xV dC dI cy a A [43, 51] z r) (xX dC dI cy a A [43, 51] z r) #[.ref (a 40)] s mc ms A) [43, 51] z mc ms 6 (f_X5_string k 4) (fun z L => [(0, .ref (a 40)), (1, .int (L.1 1)), (2, .int (L.1 2)), (3, .int (L.1 3)), (4, .int (L.1 4)), (5, .int (L.1 5))]) 115 (fun z L => [])) ∧ (bX p l e (headSpec w_f_X5_string ({ frames := 8, cells := mc, slots := ms, locals := 143 })).room s m #[.ref (a 40)] below meth c dC dI cy a A (fun r => vx_MQ below (xV dC dI cy a A [43, 51] z r) (xX dC dI cy a A [43, 51] z r) #[.ref (a 40)] s mc ms A) [43, 51] z mc ms 6 (f_X5_string k 5) (fun z L => [(0, .ref (a 40))]) 194 (fun z L => [])) ∧ (bX p l e (headSpec w_f_X5_string ({ frames := 8, cells := mc, slots := ms, locals := 143 })).room s m #[.ref (a 40)] below meth c dC dI cy a A (fun r => vx_MQ below (xV dC dI cy a A [43, 51] z r) (xX dC dI cy a A [43, 51] z r) #[.ref (a 40)] s mc ms A) [43, 51] z mc ms 6 (f_X5_string k 6) (fun z L => [(0, .ref (a 40)), (1, .int (L.1 1)), (2, .int (L.1 2)), (4, .int (L.1 4))]) 136 (fun z L => [])) ∧ (bX p l e (headSpec w_f_X5_string ({ frames := 8, cells := mc, slots := ms, locals := 143 })).room s m #[.ref (a 40)] below meth c dC dI cy a A (fun r => vx_MQ below (xV dC dI cy a A [43, 51] z r) (xX dC dI cy a A [43, 51] z r) #[.ref (a 40)] s mc ms A) [43, 51] z mc ms 6 (f_X5_string k 7) (fun z L => [(0, .ref (a 40)), (1, .int (L.1 1)), (2, .int (L.1 2)), (4, .int (L.1 4)), (5, .int (L.1 5))]) 139 (fun z L => [])) := by
    intro k
    induction k with
    | zero => exact ⟨fun z c1 c2 L σ r h => (by cases h), fun z c1 c2 L σ r h => (by cases h), fun z c1 c2 L σ r h => (by cases h), fun z c1 c2 L σ r h => (by cases h), fun z c1 c2 L σ r h => (by cases h), fun z c1 c2 L σ r h => (by cases h), fun z c1 c2 L σ r h => (by cases h), fun z c1 c2 L σ r h => (by cases h)⟩
    | succ k ih =>
      refine ⟨?_, ?_, ?_, ?_, ?_, ?_, ?_, ?_⟩
      · intro z cells slots L σ r h hzk hc hs H locs ls hP hD hS hl
        rw [f_X5_string] at h
        refine lv_aload_n hx hb dX5_string_0 rfl (lv_at hl 0 rfl) ?_
        refine hg_40_0 hx hb hts in_f_X5_string_X5 hown hK hP (hts _ (List.mem_cons_of_mem _ (List.mem_append_left _ (List.mem_append_left _ (List.mem_of_getElem? (i := 0) rfl))))) dX5_string_1 ?_
        refine hg_37_3n hx hb hts in_f_X5_string_X2 hown hK hP (va_Nw.use rfl (hG.1 _ (List.mem_of_getElem? (i := 54) rfl))) dX5_string_4 ?_
        refine lv_iconst (v := 1) hx hb dX5_string_7 (by decide) ?_
        refine lv_iadd hx hb dX5_string_8 ?_
        refine lv_istore_n (lv' := [(1, .int (((σ.1 3703)) + 1)), (0, .ref (a 40))]) hx hb dX5_string_9 rfl hl (by decide) rfl (fun ls hl => ?_)
        refine lv_aload_n hx hb dX5_string_10 rfl (lv_at hl 1 rfl) ?_
        refine hg_40_0 hx hb hts in_f_X5_string_X5 hown hK hP (hts _ (List.mem_cons_of_mem _ (List.mem_append_left _ (List.mem_append_left _ (List.mem_of_getElem? (i := 0) rfl))))) dX5_string_11 ?_
        refine hg_37_4n hx hb hts in_f_X5_string_X2 hown hK hP (va_Nw.use rfl (hG.1 _ (List.mem_of_getElem? (i := 57) rfl))) dX5_string_14 ?_
        refine lv_iconst (v := 1) hx hb dX5_string_17 (by decide) ?_
        refine lv_isub hx hb dX5_string_18 ?_
        refine lv_iload_n hx hb dX5_string_19 rfl (lv_at hl 0 rfl) ?_
        refine lv_isub hx hb dX5_string_20 ?_
        refine lv_istore_n (lv' := [(2, .int (((((σ.1 3704)) - 1)) - ((((σ.1 3703)) + 1)))), (1, .int (((σ.1 3703)) + 1)), (0, .ref (a 40))]) hx hb dX5_string_21 rfl hl (by decide) rfl (fun ls hl => ?_)
        refine lv_iload_n hx hb dX5_string_22 rfl (lv_at hl 0 rfl) ?_
        refine lv_iconst (v := 1) hx hb dX5_string_23 (by decide) ?_
        refine lv_icmp_gt (tgt := 74) hx hb dX5_string_24 (by decide) (fun c1 => ?_) (fun c1 => ?_)
        · rw [if_pos c1] at h
          exact ih.2.1 z _ _ (lI (lI L 1 ((((σ.1 3703)) + 1))) 2 ((((((σ.1 3704)) - 1)) - ((((σ.1 3703)) + 1))))) σ _ h hzk hc hs H locs ls hP hD hS (lv_sub hl [2, 1, 0] rfl)
        · rw [if_neg c1] at h
          refine lv_aload_n hx hb dX5_string_27 rfl (lv_at hl 2 rfl) ?_
          obtain ⟨b2, hb2, h⟩ := oP_ex h
          refine hgq_40_2 hx hb hts in_f_X5_string_X5 hown hK hP (hts _ (List.mem_cons_of_mem _ (List.mem_append_left _ (List.mem_append_left _ (List.mem_of_getElem? (i := 1) rfl))))) hb2 dX5_string_28 ?_
          refine lv_bipush (v := 33) hx hb dX5_string_31 (by decide) ?_
          refine lv_iconst (v := 0) hx hb dX5_string_33 (by decide) ?_
          obtain ⟨r3, hc3, hle3, h9⟩ := ox_ex h
          clear h
          refine kx_i (vx_runV (As := [.int 33, .int 0]) (rest := []) ⟨hx, hb, hml, hown, hts⟩ (c_f_X7_emit__P l hl0 dC dI cy ek a k (lI (lI (lB lZ 0 b2) 1 33) 2 0) σ r3 hc3 z H.size) (cwV 2 hts g_f_X5_string_X7_emit__P_V66 rfl rfl rfl hd_f_X7_emit__P ⟨Nat.le_of_ble_eq_true rfl, Nat.le_of_ble_eq_true rfl⟩) ⟨nb_blindF, recvP b2 hK hP, (kx_pre hK hG hE hT hA hP hD hS)⟩ rfl rfl hl.1 rfl (lv_room (Nat.le_of_ble_eq_true rfl)) dX5_string_34 ⟨Nat.le_trans (Nat.add_le_add_left hle3.1 _) (Nat.le_of_eq hc), Nat.le_trans (Nat.add_le_add_left hle3.2 _) (Nat.le_of_eq hs)⟩) hK hA hzk hP hD hS (by decide) hno hlocks ?_
          rcases h9 with ⟨h00, y3, hny3, hy⟩ | ⟨h00, hy⟩
          · subst hy
            have h := hny3
            refine Or.inl ⟨h00, fun z H locs hz3 hzk hP hD hS => ?_⟩
            replace hc := (Nat.add_assoc _ _ _).trans hc
            replace hs := (Nat.add_assoc _ _ _).trans hs
            refine lv_pop hx hb dX5_string_37 rfl ?_
            refine lv_aload_n hx hb dX5_string_38 rfl (lv_at hl 2 rfl) ?_
            obtain ⟨b4, hb4, h⟩ := oP_ex h
            refine hgq_40_2 hx hb hts in_f_X5_string_X5 hown hK hP (hts _ (List.mem_cons_of_mem _ (List.mem_append_left _ (List.mem_append_left _ (List.mem_of_getElem? (i := 1) rfl))))) hb4 dX5_string_39 ?_
            refine lv_iload_n hx hb dX5_string_42 rfl (lv_at hl 0 rfl) ?_
            refine lv_if_ne (tgt := 50) hx hb dX5_string_43 (by decide) (fun c5 => ?_) (fun c5 => ?_)
            · rw [if_neg c5] at h
              exact ih.2.2.1 z _ _ (lB (lI L 1 ((((σ.1 3703)) + 1))) 100 b4) r3.2.1 _ h hzk hc hs H locs ls hP hD hS (lv_sub hl [2, 1] rfl)
            · rw [if_pos c5] at h
              refine lv_iconst (v := 0) hx hb dX5_string_46 (by decide) ?_
              refine lv_goto (tgt := 67) hx hb dX5_string_47 (by decide) ?_
              exact ih.2.2.2.1 z _ _ (lB (lI L 100 0) 101 b4) r3.2.1 _ h hzk hc hs H locs ls hP hD hS (lv_sub hl [2] rfl)
          · subst hy
            exact Or.inr ⟨h00, rfl, hc, hs⟩
      · intro z cells slots L σ r h hzk hc hs H locs ls hP hD hS hl
        rw [f_X5_string] at h
        refine lv_iload_n hx hb dX5_string_74 rfl (lv_at hl 2 rfl) ?_
        refine lv_iconst (v := 3) hx hb dX5_string_75 (by decide) ?_
        refine lv_iadd hx hb dX5_string_76 ?_
        refine lv_iconst (v := 2) hx hb dX5_string_77 (by decide) ?_
        refine lv_ishr hx hb dX5_string_78 ?_
        refine lv_istore_n (lv' := [(3, .int (((((L.1 2)) + 3)) >>> ((2 : Int32) &&& 31))), (0, .ref (a 40)), (1, .int (L.1 1)), (2, .int (L.1 2))]) hx hb dX5_string_79 rfl hl (by decide) rfl (fun ls hl => ?_)
        refine lv_aload_n hx hb dX5_string_80 rfl (lv_at hl 1 rfl) ?_
        obtain ⟨b1, hb1, h⟩ := oP_ex h
        refine hgq_40_2 hx hb hts in_f_X5_string_X5 hown hK hP (hts _ (List.mem_cons_of_mem _ (List.mem_append_left _ (List.mem_append_left _ (List.mem_of_getElem? (i := 1) rfl))))) hb1 dX5_string_81 ?_
        refine lv_bipush (v := 34) hx hb dX5_string_84 (by decide) ?_
        refine lv_iload_n hx hb dX5_string_86 rfl (lv_at hl 0 rfl) ?_
        refine lv_iconst (v := 1) hx hb dX5_string_87 (by decide) ?_
        refine lv_iadd hx hb dX5_string_88 ?_
        obtain ⟨r2, hc2, hle2, h9⟩ := ox_ex h
        clear h
        refine kx_i (vx_runV (As := [.int 34, .int (((((((L.1 2)) + 3)) >>> ((2 : Int32) &&& 31))) + 1)]) (rest := []) ⟨hx, hb, hml, hown, hts⟩ (c_f_X7_emit__P l hl0 dC dI cy ek a k (lI (lI (lB lZ 0 b1) 1 34) 2 ((((((((L.1 2)) + 3)) >>> ((2 : Int32) &&& 31))) + 1))) σ r2 hc2 z H.size) (cwV 2 hts g_f_X5_string_X7_emit__P_V66 rfl rfl rfl hd_f_X7_emit__P ⟨Nat.le_of_ble_eq_true rfl, Nat.le_of_ble_eq_true rfl⟩) ⟨nb_blindF, recvP b1 hK hP, (kx_pre hK hG hE hT hA hP hD hS)⟩ rfl rfl hl.1 rfl (lv_room (Nat.le_of_ble_eq_true rfl)) dX5_string_89 ⟨Nat.le_trans (Nat.add_le_add_left hle2.1 _) (Nat.le_of_eq hc), Nat.le_trans (Nat.add_le_add_left hle2.2 _) (Nat.le_of_eq hs)⟩) hK hA hzk hP hD hS (by decide) hno hlocks ?_
        rcases h9 with ⟨h00, y2, hny2, hy⟩ | ⟨h00, hy⟩
        · subst hy
          have h := hny2
          refine Or.inl ⟨h00, fun z H locs hz2 hzk hP hD hS => ?_⟩
          replace hc := (Nat.add_assoc _ _ _).trans hc
          replace hs := (Nat.add_assoc _ _ _).trans hs
          refine lv_pop hx hb dX5_string_92 rfl ?_
          refine lv_aload_n hx hb dX5_string_93 rfl (lv_at hl 1 rfl) ?_
          obtain ⟨b3, hb3, h⟩ := oP_ex h
          refine hgq_40_2 hx hb hts in_f_X5_string_X5 hown hK hP (hts _ (List.mem_cons_of_mem _ (List.mem_append_left _ (List.mem_append_left _ (List.mem_of_getElem? (i := 1) rfl))))) hb3 dX5_string_94 ?_
          refine lv_iconst (v := 4) hx hb dX5_string_97 (by decide) ?_
          refine lv_iconst (v := 0) hx hb dX5_string_98 (by decide) ?_
          refine lv_iload_n hx hb dX5_string_99 rfl (lv_at hl 3 rfl) ?_
          refine lv_iconst (v := 1) hx hb dX5_string_100 (by decide) ?_
          refine lv_iload_n hx hb dX5_string_101 rfl (lv_at hl 0 rfl) ?_
          refine lv_iadd hx hb dX5_string_102 ?_
          refine lv_iconst (v := 0) hx hb dX5_string_103 (by decide) ?_
          obtain ⟨r4, hc4, h⟩ := op_ex h
          refine kc_i (va_runS (As := [.int 4, .int 0, .int (L.1 2), .int (1 + ((((((L.1 2)) + 3)) >>> ((2 : Int32) &&& 31)))), .int 0]) (rest := [.ref (a (pA b3))]) ⟨hx, hb, hml, hown, hts⟩ (c_y_X1_header l dC dI cy a z k (lI (lI (lI (lI (lI lZ 0 4) 1 0) 2 ((L.1 2))) 3 ((1 + ((((((L.1 2)) + 3)) >>> ((2 : Int32) &&& 31)))))) 4 0) r2.2.1 r4 hc4 H.size) (va_cwS 5 hts g_y_X5_string_X1_header_S431 rfl rfl rfl hd_y_X1_header ⟨Nat.le_of_ble_eq_true rfl, Nat.le_of_ble_eq_true rfl⟩) ⟨nb_blind, (kb_pre hK hG hP hD)⟩ rfl rfl hl.1 rfl (lv_room (Nat.le_of_ble_eq_true rfl)) dX5_string_104 ⟨(Nat.le_trans (Nat.le_add_right _ _) (Nat.le_of_eq hc)), (Nat.le_trans (Nat.le_add_right _ _) (Nat.le_of_eq hs))⟩) hA hP hD hS (fun H locs hP hD hS => ?_)
          obtain ⟨r5, hc5, hle5, h9⟩ := ox_ex h
          clear h
          refine kx_i (r := y2) (vx_runV (As := [.int r4.1]) (rest := []) ⟨hx, hb, hml, hown, hts⟩ (c_f_X7_word__P l hl0 dC dI cy ek a k (lI (lB lZ 0 b3) 1 r4.1) r4.2 r5 hc5 z H.size) (cwV 1 hts g_f_X5_string_X7_word__P_V243 rfl rfl rfl hd_f_X7_word__P ⟨Nat.le_of_ble_eq_true rfl, Nat.le_of_ble_eq_true rfl⟩) ⟨nb_blindF, recvP b3 hK hP, (kx_pre hK hG hE hT hA hP hD hS)⟩ rfl rfl hl.1 rfl (lv_room (Nat.le_of_ble_eq_true rfl)) dX5_string_107 ⟨Nat.le_trans (Nat.add_le_add_left hle5.1 _) (Nat.le_of_eq hc), Nat.le_trans (Nat.add_le_add_left hle5.2 _) (Nat.le_of_eq hs)⟩) hK hA hzk hP hD hS (by decide) hno hlocks ?_
          rcases h9 with ⟨h00, y5, hny5, hy⟩ | ⟨h00, hy⟩
          · subst hy
            have h := hny5
            refine Or.inl ⟨h00, fun z H locs hz5 hzk hP hD hS => ?_⟩
            replace hc := (Nat.add_assoc _ _ _).trans hc
            replace hs := (Nat.add_assoc _ _ _).trans hs
            refine lv_istore (lv' := [(4, .int r5.1.2), (3, .int (((((L.1 2)) + 3)) >>> ((2 : Int32) &&& 31))), (0, .ref (a 40)), (1, .int (L.1 1)), (2, .int (L.1 2))]) hx hb dX5_string_110 hl (by decide) rfl (fun ls hl => ?_)
            refine lv_iconst (v := 0) hx hb dX5_string_112 (by decide) ?_
            refine lv_istore (lv' := [(5, .int 0), (4, .int r5.1.2), (3, .int (((((L.1 2)) + 3)) >>> ((2 : Int32) &&& 31))), (0, .ref (a 40)), (1, .int (L.1 1)), (2, .int (L.1 2))]) hx hb dX5_string_113 hl (by decide) rfl (fun ls hl => ?_)
            exact ih.2.2.2.2.1 z _ _ (lI (lI (lI L 3 ((((((L.1 2)) + 3)) >>> ((2 : Int32) &&& 31)))) 4 r5.1.2) 5 0) r5.2.1 _ h hzk hc hs H locs ls hP hD hS (lv_sub hl [3, 4, 5, 2, 1, 0] rfl)
          · subst hy
            exact Or.inr ⟨h00, rfl, hc, hs⟩
        · subst hy
          exact Or.inr ⟨h00, rfl, hc, hs⟩
      · intro z cells slots L σ r h hzk hc hs H locs ls hP hD hS hl
        rw [f_X5_string] at h
        refine lv_ldcw (v := (-1073741824)) hx hb hown (hts _ (List.mem_cons_of_mem _ (List.mem_append_left _ (List.mem_append_left _ (List.mem_of_getElem? (i := 12) rfl))))) dX5_string_50 ?_
        refine lv_aload_n hx hb dX5_string_53 rfl (lv_at hl 0 rfl) ?_
        refine hg_40_0 hx hb hts in_f_X5_string_X5 hown hK hP (hts _ (List.mem_cons_of_mem _ (List.mem_append_left _ (List.mem_append_left _ (List.mem_of_getElem? (i := 0) rfl))))) dX5_string_54 ?_
        refine hg_37_0n hx hb hts in_f_X5_string_X2 hown hK hP (va_Nw.use rfl (hG.1 _ (List.mem_of_getElem? (i := 50) rfl))) dX5_string_57 ?_
        refine lv_iload_n hx hb dX5_string_60 rfl (lv_at hl 1 rfl) ?_
        obtain ⟨q1, h⟩ := kr_ite1 h
        refine hl_38 hx hb hK hP q1 dX5_string_61 ?_
        refine lv_sipush (v := 255) hx hb dX5_string_62 (by decide) ?_
        refine lv_iand hx hb dX5_string_65 ?_
        refine lv_ior hx hb dX5_string_66 ?_
        exact ih.2.2.2.1 z _ _ (lB (lI L 100 ((((-1073741824)) ||| ((((σ.2.2.1 38 ((L.1 1)).toNatClampNeg)) &&& 255))))) 101 ((L.2.2.1 100))) σ _ h hzk hc hs H locs ls hP hD hS (lv_sub hl [0] rfl)
      · intro z cells slots L σ r h hzk hc hs H locs ls hP hD hS hl
        rw [f_X5_string] at h
        obtain ⟨r1, hc1, hle1, h9⟩ := ox_ex h
        clear h
        refine kx_i (vx_runV (As := [.int (L.1 100)]) (rest := []) ⟨hx, hb, hml, hown, hts⟩ (c_f_X7_word__P l hl0 dC dI cy ek a k (lI (lB lZ 0 ((L.2.2.1 101))) 1 ((L.1 100))) σ r1 hc1 z H.size) (cwV 1 hts g_f_X5_string_X7_word__P_V243 rfl rfl rfl hd_f_X7_word__P ⟨Nat.le_of_ble_eq_true rfl, Nat.le_of_ble_eq_true rfl⟩) ⟨nb_blindF, recvP ((L.2.2.1 101)) hK hP, (kx_pre hK hG hE hT hA hP hD hS)⟩ rfl rfl hl.1 rfl (lv_room (Nat.le_of_ble_eq_true rfl)) dX5_string_67 ⟨Nat.le_trans (Nat.add_le_add_left hle1.1 _) (Nat.le_of_eq hc), Nat.le_trans (Nat.add_le_add_left hle1.2 _) (Nat.le_of_eq hs)⟩) hK hA hzk hP hD hS (by decide) hno hlocks ?_
        rcases h9 with ⟨h00, y1, hny1, hy⟩ | ⟨h00, hy⟩
        · subst hy
          have h := hny1
          refine Or.inl ⟨h00, fun z H locs hz1 hzk hP hD hS => ?_⟩
          replace hc := (Nat.add_assoc _ _ _).trans hc
          replace hs := (Nat.add_assoc _ _ _).trans hs
          refine lv_pop hx hb dX5_string_70 rfl ?_
          refine lv_goto (tgt := 194) hx hb dX5_string_71 (by decide) ?_
          exact ih.2.2.2.2.2.1 z _ _ L r1.2.1 _ h hzk hc hs H locs ls hP hD hS (lv_sub hl [0] rfl)
        · subst hy
          exact Or.inr ⟨h00, rfl, hc, hs⟩
      · intro z cells slots L σ r h hzk hc hs H locs ls hP hD hS hl
        rw [f_X5_string] at h
        refine lv_iload hx hb dX5_string_115 (lv_at hl 5 rfl) ?_
        refine lv_iload_n hx hb dX5_string_117 rfl (lv_at hl 3 rfl) ?_
        refine lv_icmp_ge (tgt := 136) hx hb dX5_string_118 (by decide) (fun c1 => ?_) (fun c1 => ?_)
        · rw [if_pos c1] at h
          exact ih.2.2.2.2.2.2.1 z _ _ L σ _ h hzk hc hs H locs ls hP hD hS (lv_sub hl [0, 1, 2, 4] rfl)
        · rw [if_neg c1] at h
          refine lv_aload_n hx hb dX5_string_121 rfl (lv_at hl 0 rfl) ?_
          obtain ⟨b2, hb2, h⟩ := oP_ex h
          refine hgq_40_2 hx hb hts in_f_X5_string_X5 hown hK hP (hts _ (List.mem_cons_of_mem _ (List.mem_append_left _ (List.mem_append_left _ (List.mem_of_getElem? (i := 1) rfl))))) hb2 dX5_string_122 ?_
          refine lv_iconst (v := 0) hx hb dX5_string_125 (by decide) ?_
          obtain ⟨r3, hc3, hle3, h9⟩ := ox_ex h
          clear h
          refine kx_i (vx_runV (As := [.int 0]) (rest := []) ⟨hx, hb, hml, hown, hts⟩ (c_f_X7_word__P l hl0 dC dI cy ek a k (lI (lB lZ 0 b2) 1 0) σ r3 hc3 z H.size) (cwV 1 hts g_f_X5_string_X7_word__P_V243 rfl rfl rfl hd_f_X7_word__P ⟨Nat.le_of_ble_eq_true rfl, Nat.le_of_ble_eq_true rfl⟩) ⟨nb_blindF, recvP b2 hK hP, (kx_pre hK hG hE hT hA hP hD hS)⟩ rfl rfl hl.1 rfl (lv_room (Nat.le_of_ble_eq_true rfl)) dX5_string_126 ⟨Nat.le_trans (Nat.add_le_add_left hle3.1 _) (Nat.le_of_eq hc), Nat.le_trans (Nat.add_le_add_left hle3.2 _) (Nat.le_of_eq hs)⟩) hK hA hzk hP hD hS (by decide) hno hlocks ?_
          rcases h9 with ⟨h00, y3, hny3, hy⟩ | ⟨h00, hy⟩
          · subst hy
            have h := hny3
            refine Or.inl ⟨h00, fun z H locs hz3 hzk hP hD hS => ?_⟩
            replace hc := (Nat.add_assoc _ _ _).trans hc
            replace hs := (Nat.add_assoc _ _ _).trans hs
            refine lv_pop hx hb dX5_string_129 rfl ?_
            refine lv_iinc (v := ((L.1 5)) + 1) (lv' := [(5, .int (((L.1 5)) + 1)), (0, .ref (a 40)), (1, .int (L.1 1)), (2, .int (L.1 2)), (3, .int (L.1 3)), (4, .int (L.1 4))]) hx hb dX5_string_130 hl (k := 5) rfl rfl (by decide) rfl (fun ls hl => ?_)
            refine lv_goto (tgt := 115) hx hb dX5_string_133 (by decide) ?_
            exact ih.2.2.2.2.1 z _ _ (lI L 5 ((((L.1 5)) + 1))) r3.2.1 _ h hzk hc hs H locs ls hP hD hS (lv_sub hl [1, 2, 3, 4, 5, 0] rfl)
          · subst hy
            exact Or.inr ⟨h00, rfl, hc, hs⟩
      · intro z cells slots L σ r h hzk hc hs H locs ls hP hD hS hl
        rw [f_X5_string] at h
        refine lv_aload_n hx hb dX5_string_194 rfl (lv_at hl 0 rfl) ?_
        refine hg_40_0 hx hb hts in_f_X5_string_X5 hown hK hP (hts _ (List.mem_cons_of_mem _ (List.mem_append_left _ (List.mem_append_left _ (List.mem_of_getElem? (i := 0) rfl))))) dX5_string_195 ?_
        obtain ⟨r1, hc1, hle1, h9⟩ := ox_ex h
        clear h
        refine kx_v (vx_runV (As := []) (rest := []) ⟨hx, hb, hml, hown, hts⟩ (c_f_X2_advance l hl0 dC dI cy ek a k lZ σ r1 hc1 z H.size) (cwV 0 hts g_f_X5_string_X2_advance_V30 rfl rfl rfl hd_f_X2_advance ⟨Nat.le_of_ble_eq_true rfl, Nat.le_of_ble_eq_true rfl⟩) ⟨nb_blindF, va_recv hK hP (ci := 2) (q0 := 37) rfl rfl, (kx_pre hK hG hE hT hA hP hD hS)⟩ rfl rfl hl.1 rfl (lv_room (Nat.le_of_ble_eq_true rfl)) dX5_string_198 ⟨Nat.le_trans (Nat.add_le_add_left hle1.1 _) (Nat.le_of_eq hc), Nat.le_trans (Nat.add_le_add_left hle1.2 _) (Nat.le_of_eq hs)⟩) hK hA hzk hP hD hS (by decide) hno hlocks ?_
        rcases h9 with ⟨h00, y1, hny1, hy⟩ | ⟨h00, hy⟩
        · subst hy
          have h := hny1
          refine Or.inl ⟨h00, fun u H locs hz1 hzk hP hD hS => ?_⟩
          obtain rfl := (zk_nil hz1).symm
          replace hc := (Nat.add_assoc _ _ _).trans hc
          replace hs := (Nat.add_assoc _ _ _).trans hs
          obtain rfl := Option.some.inj h
          subst hc
          subst hs
          exact xr_v hx hb hr hK hzk hP hD hS hlocks dX5_string_201
        · subst hy
          exact Or.inr ⟨h00, rfl, hc, hs⟩
      · intro z cells slots L σ r h hzk hc hs H locs ls hP hD hS hl
        rw [f_X5_string] at h
        refine lv_iconst (v := 0) hx hb dX5_string_136 (by decide) ?_
        refine lv_istore (lv' := [(5, .int 0), (0, .ref (a 40)), (1, .int (L.1 1)), (2, .int (L.1 2)), (4, .int (L.1 4))]) hx hb dX5_string_137 hl (by decide) rfl (fun ls hl => ?_)
        exact ih.2.2.2.2.2.2.2 z _ _ (lI L 5 0) σ _ h hzk hc hs H locs ls hP hD hS (lv_sub hl [1, 2, 3, 4, 0] rfl)
      · intro z cells slots L σ r h hzk hc hs H locs ls hP hD hS hl
        rw [f_X5_string] at h
        refine lv_iload hx hb dX5_string_139 (lv_at hl 4 rfl) ?_
        refine lv_iload_n hx hb dX5_string_141 rfl (lv_at hl 2 rfl) ?_
        refine lv_icmp_ge (tgt := 194) hx hb dX5_string_142 (by decide) (fun c1 => ?_) (fun c1 => ?_)
        · rw [if_pos c1] at h
          exact ih.2.2.2.2.2.1 z _ _ L σ _ h hzk hc hs H locs ls hP hD hS (lv_sub hl [0] rfl)
        · rw [if_neg c1] at h
          refine lv_aload_n hx hb dX5_string_145 rfl (lv_at hl 0 rfl) ?_
          obtain ⟨b2, hb2, h⟩ := oP_ex h
          refine hgq_40_2 hx hb hts in_f_X5_string_X5 hown hK hP (hts _ (List.mem_cons_of_mem _ (List.mem_append_left _ (List.mem_append_left _ (List.mem_of_getElem? (i := 1) rfl))))) hb2 dX5_string_146 ?_
          refine hg_P_0n b2 hx hb hts in_f_X5_string_X7 hown hK hP (va_Nw.use rfl (hG.1 _ (List.mem_of_getElem? (i := 67) rfl))) dX5_string_149 ?_
          refine lv_iload hx hb dX5_string_152 (lv_at hl 3 rfl) ?_
          refine lv_iconst (v := 1) hx hb dX5_string_154 (by decide) ?_
          refine lv_iadd hx hb dX5_string_155 ?_
          refine lv_iload hx hb dX5_string_156 (lv_at hl 4 rfl) ?_
          refine lv_iconst (v := 2) hx hb dX5_string_158 (by decide) ?_
          refine lv_ishr hx hb dX5_string_159 ?_
          refine lv_iadd hx hb dX5_string_160 ?_
          refine lv_dup2_11 hx hb dX5_string_161 rfl rfl ?_
          obtain ⟨q3, h⟩ := kr_ite1 h
          refine hl_P0 ((sKd σ b2)) hx hb hK hP q3 dX5_string_162 ?_
          refine lv_aload_n hx hb dX5_string_163 rfl (lv_at hl 0 rfl) ?_
          refine hg_40_0 hx hb hts in_f_X5_string_X5 hown hK hP (hts _ (List.mem_cons_of_mem _ (List.mem_append_left _ (List.mem_append_left _ (List.mem_of_getElem? (i := 0) rfl))))) dX5_string_164 ?_
          refine hg_37_0n hx hb hts in_f_X5_string_X2 hown hK hP (va_Nw.use rfl (hG.1 _ (List.mem_of_getElem? (i := 50) rfl))) dX5_string_167 ?_
          refine lv_iload_n hx hb dX5_string_170 rfl (lv_at hl 1 rfl) ?_
          refine lv_iload hx hb dX5_string_171 (lv_at hl 4 rfl) ?_
          refine lv_iadd hx hb dX5_string_173 ?_
          obtain ⟨q4, h⟩ := kr_ite1 h
          refine hl_38 hx hb hK hP q4 dX5_string_174 ?_
          refine lv_sipush (v := 255) hx hb dX5_string_175 (by decide) ?_
          refine lv_iand hx hb dX5_string_178 ?_
          refine lv_iload hx hb dX5_string_179 (lv_at hl 4 rfl) ?_
          refine lv_iconst (v := 3) hx hb dX5_string_181 (by decide) ?_
          refine lv_iand hx hb dX5_string_182 ?_
          refine lv_iconst (v := 3) hx hb dX5_string_183 (by decide) ?_
          refine lv_ishl hx hb dX5_string_184 ?_
          refine lv_ishl hx hb dX5_string_185 ?_
          refine lv_ior hx hb dX5_string_186 ?_
          obtain ⟨q5, h⟩ := kr_ite1 h
          refine hs_P0 ((sKd σ b2)) hx hb hK hP hD hS q5 dX5_string_187 (fun H locs hP hD hS => ?_)
          refine lv_iinc (v := ((L.1 5)) + 1) (lv' := [(5, .int (((L.1 5)) + 1)), (0, .ref (a 40)), (1, .int (L.1 1)), (2, .int (L.1 2)), (4, .int (L.1 4))]) hx hb dX5_string_188 hl (k := 4) rfl rfl (by decide) rfl (fun ls hl => ?_)
          refine lv_goto (tgt := 139) hx hb dX5_string_191 (by decide) ?_
          exact ih.2.2.2.2.2.2.2 z _ _ (lI L 5 ((((L.1 5)) + 1))) (uA σ (pR0 ((sKd σ b2))) ((((((L.1 4)) + 1)) + ((((L.1 5)) >>> ((2 : Int32) &&& 31))))).toNatClampNeg ((((σ.2.2.1 (pR0 ((sKd σ b2))) ((((((L.1 4)) + 1)) + ((((L.1 5)) >>> ((2 : Int32) &&& 31))))).toNatClampNeg)) ||| ((((((σ.2.2.1 38 ((((L.1 1)) + ((L.1 5)))).toNatClampNeg)) &&& 255)) <<< (((((((L.1 5)) &&& 3)) <<< ((3 : Int32) &&& 31))) &&& 31)))))) _ h hzk hc hs H locs ls hP hD hS (lv_sub hl [1, 2, 3, 4, 0] rfl)
  exact (blk k0).1 z 0 0 L0 σ0 r0 h0 (zk_rf _ _) ((Nat.zero_add _).trans hmc) ((Nat.zero_add _).trans hms) s.heap [] ls hP hD hS hl
/-! X5_push -/
def f_X5_push : Nat → Nat → LV → CS → Option RS
  | 0, _, _, _ => none
  | k + 1, 0, L, σ => oP (sPp σ) (fun b1 => ox (f_X7_emit__P k 0 (lI (lI (lB lZ 0 b1) 1 32) 2 0) σ) (fun r2 => oP (sPp r2.2.1) (fun b3 => ox (f_X7_word__P k 0 (lI (lB lZ 0 b3) 1 ((L.1 1))) r2.2.1) (fun r4 => some ((0, 0), r4.2.1, (0, 0))))))
  | _ + 1, _ + 1, _, _ => none
def o_f_X5_push : List Cond := [.fieldLink RX5 93 "SetHouse$Parser" "p" "LSetHouse$Program;", .methodLink RX5 66 yX7_emit, .instanceMethod yX7_emit, .selects RX7 yX7_emit yX7_emit, .initialized RX7, .methodLink RX5 243 yX7_word, .instanceMethod yX7_word, .selects RX7 yX7_word yX7_word]
theorem o_f_X5_push_good : o_f_X5_push.all goodWord = true := by decide +kernel
def p_f_X5_push : List Cond := o_f_X5_push ++ ((.code yX7_emit cX7_emit 3 (some .int) :: p_f_X7_emit__P) ++ ((.code yX7_word cX7_word 2 (some .int) :: p_f_X7_word__P) ++ []))
theorem p_f_X5_push_good : p_f_X5_push.all goodWord = true := nb_all2 o_f_X5_push_good (nb_all2 (nb_allc (by decide +kernel) p_f_X7_emit__P_good) (nb_all2 (nb_allc (by decide +kernel) p_f_X7_word__P_good) rfl))
def w_f_X5_push : List Cond := .code yX5_push cX5_push 2 none :: (p_f_X5_push ++ fC)
theorem w_f_X5_push_good : w_f_X5_push.all goodWord = true := nb_allc (by decide +kernel) (nb_all2 p_f_X5_push_good fC_good)
theorem in_f_X5_push_X5 : ∀ w ∈ wsX50, w ∈ w_f_X5_push := fun _ h => List.mem_cons_of_mem _ (List.mem_append_right _ (List.mem_append_right _ (List.mem_append_right _ (List.mem_append_right _ (List.mem_append_right _ (List.mem_append_left _ h))))))
theorem hd_f_X5_push : yX5_push.cls = RX5 ∧ yX5_push.cls ≠ "java/lang/invoke/MethodHandle" ∧ yX5_push.cls ≠ "java/lang/invoke/VarHandle" ∧ (parseMethodDescriptor yX5_push.desc).map (fun d => d.parameters.length) = some 1 := by decide +kernel
theorem gg_f_X5_push_X7_emit__P : GoodIn w_f_X5_push w_f_X7_emit__P := goodIn_sub (fun w h => (List.mem_cons.mp h).elim (fun e => (List.mem_cons_of_mem _ (List.mem_append_left _ (List.mem_append_right _ (List.mem_append_left _ (List.mem_cons.mpr (Or.inl e))))))) (fun h => (List.mem_append.mp h).elim (fun h => (List.mem_cons_of_mem _ (List.mem_append_left _ (List.mem_append_right _ (List.mem_append_left _ (List.mem_cons_of_mem _ h)))))) (fun h => List.mem_cons_of_mem _ (List.mem_append_right _ h)))) w_f_X7_emit__P_good
theorem g_f_X5_push_X7_emit__P_V66 : GoodIn w_f_X5_push (wsV RX5 66 RX7 yX7_emit w_f_X7_emit__P) := goodIn_app (nb_g4 (List.mem_cons_of_mem _ (List.mem_append_left _ (List.mem_append_left _ (List.mem_of_getElem? (i := 1) rfl)))) (List.mem_cons_of_mem _ (List.mem_append_left _ (List.mem_append_left _ (List.mem_of_getElem? (i := 2) rfl)))) (List.mem_cons_of_mem _ (List.mem_append_left _ (List.mem_append_left _ (List.mem_of_getElem? (i := 3) rfl)))) (List.mem_cons_of_mem _ (List.mem_append_left _ (List.mem_append_left _ (List.mem_of_getElem? (i := 4) rfl)))) (by decide +kernel)) gg_f_X5_push_X7_emit__P
theorem gg_f_X5_push_X7_word__P : GoodIn w_f_X5_push w_f_X7_word__P := goodIn_sub (fun w h => (List.mem_cons.mp h).elim (fun e => (List.mem_cons_of_mem _ (List.mem_append_left _ (List.mem_append_right _ (List.mem_append_right _ (List.mem_append_left _ (List.mem_cons.mpr (Or.inl e)))))))) (fun h => (List.mem_append.mp h).elim (fun h => (List.mem_cons_of_mem _ (List.mem_append_left _ (List.mem_append_right _ (List.mem_append_right _ (List.mem_append_left _ (List.mem_cons_of_mem _ h))))))) (fun h => List.mem_cons_of_mem _ (List.mem_append_right _ h)))) w_f_X7_word__P_good
theorem g_f_X5_push_X7_word__P_V243 : GoodIn w_f_X5_push (wsV RX5 243 RX7 yX7_word w_f_X7_word__P) := goodIn_app (nb_g4 (List.mem_cons_of_mem _ (List.mem_append_left _ (List.mem_append_left _ (List.mem_of_getElem? (i := 5) rfl)))) (List.mem_cons_of_mem _ (List.mem_append_left _ (List.mem_append_left _ (List.mem_of_getElem? (i := 6) rfl)))) (List.mem_cons_of_mem _ (List.mem_append_left _ (List.mem_append_left _ (List.mem_of_getElem? (i := 7) rfl)))) (List.mem_cons_of_mem _ (List.mem_append_left _ (List.mem_append_left _ (List.mem_of_getElem? (i := 4) rfl)))) (by decide +kernel)) gg_f_X5_push_X7_word__P
set_option maxHeartbeats 40000000 in
set_option maxRecDepth 100000 in
theorem c_f_X5_push (l : Launch) (hl0 : l.stackTraces = false) (dC : Nat → ClassId) (dI : Nat → Nat → Nat) (cy : Nat → ClassId) (ek a : Nat → Nat) (k0 : Nat) (L0 : LV) (σ0 : CS) (r0 : RS) (h0 : f_X5_push k0 0 L0 σ0 = some r0) (z : Nat → Nat) (sz : Nat) : vx_Met l yX5_push w_f_X5_push ({ frames := 8, cells := r0.2.2.1, slots := r0.2.2.2, locals := 143 }) (va_Pc [.ref (a 40), .int (L0.1 1)] (nInF (dC, dI) cy ek sz (vC cy a z σ0))) (xV dC dI cy a (va_A (vC cy a z σ0) sz) [43, 51] z r0) (xX dC dI cy a (va_A (vC cy a z σ0) sz) [43, 51] z r0) r0.2.2.1 r0.2.2.2 (va_A (vC cy a z σ0) sz) := by
  refine vx_ofW (cc := cX5_push) (maxL := 2) (ret := none) (by decide) rfl ?_
  intro p e s m args below meth c s₁ B hml hno hv
  obtain ⟨rfl, ⟨⟨hsz, hP, hK, hD0, hG⟩, hE⟩, hT⟩ := hv
  have hx := B.exec
  have hb := B.bytes
  have hr := B.returns
  have hts := atoms_spec (ws := w_f_X5_push) B.pre
  have hown : s.vm.findClass RX5 = some m.cls := findClass_of_methodNamed B.named
  have hlocks := B.notSynchronized
  subst hsz
  have hD := hD0.self (sz := s.heap.size)
  generalize hAe : va_A (vC cy a z σ0) s.heap.size = A at hD hE hT ⊢
  have hA : ∀ q : Nat, s.heap.size ≤ q → A q := fun q h => by rw [← hAe]; exact Or.inr h
  have hS : va_S A s.heap s.heap [] := va_S.rf
  have hl := lv_entry ([.ref (a 40), .int (L0.1 1)]) (n := 2) (Nat.le_of_ble_eq_true rfl)
  rw [lg_entry_eq]
  generalize (lg_sl ([.ref (a 40), .int (L0.1 1)]) ++ List.replicate (2 - (lg_sl ([.ref (a 40), .int (L0.1 1)])).length) Slot.unset).toArray = ls at hl ⊢
  have hl : lv_has ls 2 [(0, .ref (a 40)), (1, .int (L0.1 1))] := hl
  generalize hmc : r0.2.2.1 = mc
  generalize hms : r0.2.2.2 = ms
  have blk : ∀ k : Nat, (bX p l e (headSpec w_f_X5_push ({ frames := 8, cells := mc, slots := ms, locals := 143 })).room s m #[.ref (a 40), .int (L0.1 1)] below meth c dC dI cy a A (fun r => vx_MQ below (xV dC dI cy a A [43, 51] z r) (xX dC dI cy a A [43, 51] z r) #[.ref (a 40), .int (L0.1 1)] s mc ms A) [43, 51] z mc ms 2 (f_X5_push k 0) (fun z L => [(0, .ref (a 40)), (1, .int (L.1 1))]) 0 (fun z L => [])) := by
    intro k
    induction k with
    | zero => exact fun z c1 c2 L σ r h => (by cases h)
    | succ k ih =>
      skip
      · intro z cells slots L σ r h hzk hc hs H locs ls hP hD hS hl
        rw [f_X5_push] at h
        refine lv_aload_n hx hb dX5_push_0 rfl (lv_at hl 0 rfl) ?_
        obtain ⟨b1, hb1, h⟩ := oP_ex h
        refine hgq_40_2 hx hb hts in_f_X5_push_X5 hown hK hP (hts _ (List.mem_cons_of_mem _ (List.mem_append_left _ (List.mem_append_left _ (List.mem_of_getElem? (i := 0) rfl))))) hb1 dX5_push_1 ?_
        refine lv_bipush (v := 32) hx hb dX5_push_4 (by decide) ?_
        refine lv_iconst (v := 0) hx hb dX5_push_6 (by decide) ?_
        obtain ⟨r2, hc2, hle2, h9⟩ := ox_ex h
        clear h
        refine kx_i (vx_runV (As := [.int 32, .int 0]) (rest := []) ⟨hx, hb, hml, hown, hts⟩ (c_f_X7_emit__P l hl0 dC dI cy ek a k (lI (lI (lB lZ 0 b1) 1 32) 2 0) σ r2 hc2 z H.size) (cwV 2 hts g_f_X5_push_X7_emit__P_V66 rfl rfl rfl hd_f_X7_emit__P ⟨Nat.le_of_ble_eq_true rfl, Nat.le_of_ble_eq_true rfl⟩) ⟨nb_blindF, recvP b1 hK hP, (kx_pre hK hG hE hT hA hP hD hS)⟩ rfl rfl hl.1 rfl (lv_room (Nat.le_of_ble_eq_true rfl)) dX5_push_7 ⟨Nat.le_trans (Nat.add_le_add_left hle2.1 _) (Nat.le_of_eq hc), Nat.le_trans (Nat.add_le_add_left hle2.2 _) (Nat.le_of_eq hs)⟩) hK hA hzk hP hD hS (by decide) hno hlocks ?_
        rcases h9 with ⟨h00, y2, hny2, hy⟩ | ⟨h00, hy⟩
        · subst hy
          have h := hny2
          refine Or.inl ⟨h00, fun z H locs hz2 hzk hP hD hS => ?_⟩
          replace hc := (Nat.add_assoc _ _ _).trans hc
          replace hs := (Nat.add_assoc _ _ _).trans hs
          refine lv_pop hx hb dX5_push_10 rfl ?_
          refine lv_aload_n hx hb dX5_push_11 rfl (lv_at hl 0 rfl) ?_
          obtain ⟨b3, hb3, h⟩ := oP_ex h
          refine hgq_40_2 hx hb hts in_f_X5_push_X5 hown hK hP (hts _ (List.mem_cons_of_mem _ (List.mem_append_left _ (List.mem_append_left _ (List.mem_of_getElem? (i := 0) rfl))))) hb3 dX5_push_12 ?_
          refine lv_iload_n hx hb dX5_push_15 rfl (lv_at hl 1 rfl) ?_
          obtain ⟨r4, hc4, hle4, h9⟩ := ox_ex h
          clear h
          refine kx_i (r := y2) (vx_runV (As := [.int (L.1 1)]) (rest := []) ⟨hx, hb, hml, hown, hts⟩ (c_f_X7_word__P l hl0 dC dI cy ek a k (lI (lB lZ 0 b3) 1 ((L.1 1))) r2.2.1 r4 hc4 z H.size) (cwV 1 hts g_f_X5_push_X7_word__P_V243 rfl rfl rfl hd_f_X7_word__P ⟨Nat.le_of_ble_eq_true rfl, Nat.le_of_ble_eq_true rfl⟩) ⟨nb_blindF, recvP b3 hK hP, (kx_pre hK hG hE hT hA hP hD hS)⟩ rfl rfl hl.1 rfl (lv_room (Nat.le_of_ble_eq_true rfl)) dX5_push_16 ⟨Nat.le_trans (Nat.add_le_add_left hle4.1 _) (Nat.le_of_eq hc), Nat.le_trans (Nat.add_le_add_left hle4.2 _) (Nat.le_of_eq hs)⟩) hK hA hzk hP hD hS (by decide) hno hlocks ?_
          rcases h9 with ⟨h00, y4, hny4, hy⟩ | ⟨h00, hy⟩
          · subst hy
            have h := hny4
            refine Or.inl ⟨h00, fun z H locs hz4 hzk hP hD hS => ?_⟩
            replace hc := (Nat.add_assoc _ _ _).trans hc
            replace hs := (Nat.add_assoc _ _ _).trans hs
            refine lv_pop hx hb dX5_push_19 rfl ?_
            obtain rfl := Option.some.inj h
            subst hc
            subst hs
            exact xr_v hx hb hr hK hzk hP hD hS hlocks dX5_push_20
          · subst hy
            exact Or.inr ⟨h00, rfl, hc, hs⟩
        · subst hy
          exact Or.inr ⟨h00, rfl, hc, hs⟩
  exact (blk k0) z 0 0 L0 σ0 r0 h0 (zk_rf _ _) ((Nat.zero_add _).trans hmc) ((Nat.zero_add _).trans hms) s.heap [] ls hP hD hS hl
/-! X5_iterNames -/
def f_X5_iterNames : Nat → Nat → LV → CS → Option RS
  | 0, _, _, _ => none
  | k + 1, 0, L, σ => if ((L.1 2)) = 0 then (f_X5_iterNames k 1 L σ) else (ox (f_X5_opens k 0 lZ σ) (fun r2 => f_X5_iterNames k 1 L r2.2.1))
  | k + 1, 1, L, σ => f_X5_iterNames k 2 (lI (lI L 4 1) 5 0) σ
  | k + 1, 2, L, σ => if 60 < ((L.1 5)) then (f_X5_iterNames k 3 L σ) else (if ((L.1 4)) = 0 then (f_X5_iterNames k 3 L σ) else (ox (f_X5_checkName k 0 (lI lZ 1 ((L.1 1))) σ) (fun r3 => oP (sPp r3.2.1) (fun b4 => if ¬ (((r3.2.1.1 4003)) < 0 ∨ 42 ≤ ((r3.2.1.1 4003)).toNatClampNeg) then (if ((L.1 3)) = 0 then (f_X5_iterNames k 4 (lB (lI (lI L 100 ((r3.2.1.2.2.1 (pR17 b4) ((r3.2.1.1 4003)).toNatClampNeg))) 101 ((r3.2.1.1 4003))) 102 b4) r3.2.1) else (f_X5_iterNames k 5 (lB (lI (lI (lI L 100 1) 101 ((r3.2.1.2.2.1 (pR17 b4) ((r3.2.1.1 4003)).toNatClampNeg))) 102 ((r3.2.1.1 4003))) 103 b4) r3.2.1)) else none))))
  | k + 1, 3, L, σ => if ((L.1 2)) = 0 then (f_X5_iterNames k 6 L σ) else (ox (f_X5_closes k 0 (lI lZ 1 15) σ) (fun r2 => f_X5_iterNames k 6 L r2.2.1))
  | k + 1, 4, L, σ => f_X5_iterNames k 5 (lB (lI (lI (lI L 100 0) 101 ((L.1 100))) 102 ((L.1 101))) 103 ((L.2.2.1 102))) σ
  | k + 1, 5, L, σ => if ¬ (((L.1 102)) < 0 ∨ 42 ≤ ((L.1 102)).toNatClampNeg) then (if ((L.1 3)) = 0 then (f_X5_iterNames k 7 L (uA σ (pR17 ((L.2.2.1 103))) ((L.1 102)).toNatClampNeg ((((L.1 101)) + ((L.1 100)))))) else (oP (sPp (uA σ (pR17 ((L.2.2.1 103))) ((L.1 102)).toNatClampNeg ((((L.1 101)) + ((L.1 100)))))) (fun b3 => op (y_X7_newSlots__P k 0 (lI (lI (lB lZ 0 b3) 1 (((uA σ (pR17 ((L.2.2.1 103))) ((L.1 102)).toNatClampNeg ((((L.1 101)) + ((L.1 100))))).1 4003))) 2 1) (uA σ (pR17 ((L.2.2.1 103))) ((L.1 102)).toNatClampNeg ((((L.1 101)) + ((L.1 100)))))) (fun r4 => f_X5_iterNames k 8 (lI L 100 r4.1) r4.2)))) else none
  | k + 1, 6, L, σ => some ((0, 0), σ, (0, 0))
  | k + 1, 7, L, σ => oP (sPp σ) (fun b1 => op (y_X7_newPassing__P k 0 (lI (lB lZ 0 b1) 1 1) σ) (fun r2 => f_X5_iterNames k 8 (lI L 100 r2.1) r2.2))
  | k + 1, 8, L, σ => oP (sPp σ) (fun b1 => if ((L.1 3)) = 0 then (f_X5_iterNames k 9 (lB (lJ (lJ (lI L 6 ((L.1 100))) 100 ((σ.2.1 3706))) 101 ((σ.2.1 3705))) 102 b1) σ) else (f_X5_iterNames k 10 (lB (lJ (lJ (lI (lI L 6 ((L.1 100))) 100 0) 101 ((σ.2.1 3706))) 102 ((σ.2.1 3705))) 103 b1) σ))
  | k + 1, 9, L, σ => f_X5_iterNames k 10 (lB (lJ (lJ (lI L 100 3) 101 ((L.2.1 100))) 102 ((L.2.1 101))) 103 ((L.2.2.1 102))) σ
  | k + 1, 10, L, σ => op (y_X7_tell__P k 0 (lI (lI (lI (lJ (lJ (lB lZ 0 ((L.2.2.1 103))) 1 ((L.2.1 102))) 3 ((L.2.1 101))) 5 ((L.1 100))) 6 ((σ.1 4003))) 7 ((L.1 6))) σ) (fun r1 => oP (sPp r1.2) (fun b2 => oP (sPp r1.2) (fun b3 => if ¬ (((((r1.2.1 (fP b3 11))) - 1)) < 0 ∨ 256 ≤ ((((r1.2.1 (fP b3 11))) - 1)).toNatClampNeg) then (ox (f_X2_advance k 0 lZ (uA r1.2 (pR10 b2) ((((r1.2.1 (fP b3 11))) - 1)).toNatClampNeg (vp_nar .boolean 1))) (fun r5 => if ((L.1 2)) = 0 then (f_X5_iterNames k 11 L r5.2.1) else (if ((r5.2.1.1 3702)) = 16 then (f_X5_iterNames k 12 (lI L 100 1) r5.2.1) else (f_X5_iterNames k 11 L r5.2.1)))) else none)))
  | k + 1, 11, L, σ => f_X5_iterNames k 12 (lI L 100 0) σ
  | k + 1, 12, L, σ => if ((L.1 100)) = 0 then (f_X5_iterNames k 13 (lI L 4 ((L.1 100))) σ) else (ox (f_X2_advance k 0 lZ σ) (fun r2 => f_X5_iterNames k 13 (lI L 4 ((L.1 100))) r2.2.1))
  | k + 1, 13, L, σ => f_X5_iterNames k 2 (lI L 5 ((((L.1 5)) + 1))) σ
  | _ + 1, _ + 14, _, _ => none
def o_f_X5_iterNames : List Cond := [.methodLink RX5 173 yX5_opens, .instanceMethod yX5_opens, .selects RX5 yX5_opens yX5_opens, .initialized RX5, .methodLink RX5 144 yX5_checkName, .instanceMethod yX5_checkName, .selects RX5 yX5_checkName yX5_checkName, .fieldLink RX5 93 "SetHouse$Parser" "p" "LSetHouse$Program;", .fieldLink RX5 97 "SetHouse$Parser" "unit" "I", .methodLink RX5 186 yX5_closes, .instanceMethod yX5_closes, .selects RX5 yX5_closes yX5_closes, .methodLink RX5 157 yX7_newSlots, .instanceMethod yX7_newSlots, .selects RX7 yX7_newSlots yX7_newSlots, .initialized RX7, .methodLink RX5 454 yX7_newPassing, .instanceMethod yX7_newPassing, .selects RX7 yX7_newPassing yX7_newPassing, .fieldLink RX5 18 "SetHouse$Parser" "lex" "LSetHouse$Lexer;", .methodLink RX5 160 yX7_tell, .instanceMethod yX7_tell, .selects RX7 yX7_tell yX7_tell, .methodLink RX5 30 yX2_advance, .instanceMethod yX2_advance, .selects RX2 yX2_advance yX2_advance, .initialized RX2]
theorem o_f_X5_iterNames_good : o_f_X5_iterNames.all goodWord = true := by decide +kernel
def p_f_X5_iterNames : List Cond := o_f_X5_iterNames ++ ((.code yX5_opens cX5_opens 1 none :: p_f_X5_opens) ++ ((.code yX5_checkName cX5_checkName 2 none :: p_f_X5_checkName) ++ ((.code yX5_closes cX5_closes 2 none :: p_f_X5_closes) ++ ((.code yX7_newSlots cX7_newSlots 3 (some .int) :: p_y_X7_newSlots__P) ++ ((.code yX7_newPassing cX7_newPassing 2 (some .int) :: p_y_X7_newPassing__P) ++ ((.code yX7_tell cX7_tell 8 none :: p_y_X7_tell__P) ++ ((.code yX2_advance cX2_advance 7 none :: p_f_X2_advance) ++ [])))))))
theorem p_f_X5_iterNames_good : p_f_X5_iterNames.all goodWord = true := nb_all2 o_f_X5_iterNames_good (nb_all2 (nb_allc (by decide +kernel) p_f_X5_opens_good) (nb_all2 (nb_allc (by decide +kernel) p_f_X5_checkName_good) (nb_all2 (nb_allc (by decide +kernel) p_f_X5_closes_good) (nb_all2 (nb_allc (by decide +kernel) p_y_X7_newSlots__P_good) (nb_all2 (nb_allc (by decide +kernel) p_y_X7_newPassing__P_good) (nb_all2 (nb_allc (by decide +kernel) p_y_X7_tell__P_good) (nb_all2 (nb_allc (by decide +kernel) p_f_X2_advance_good) rfl)))))))
def w_f_X5_iterNames : List Cond := .code yX5_iterNames cX5_iterNames 7 none :: (p_f_X5_iterNames ++ fC)
theorem w_f_X5_iterNames_good : w_f_X5_iterNames.all goodWord = true := nb_allc (by decide +kernel) (nb_all2 p_f_X5_iterNames_good fC_good)
theorem in_f_X5_iterNames_X2 : ∀ w ∈ wsX20, w ∈ w_f_X5_iterNames := fun _ h => List.mem_cons_of_mem _ (List.mem_append_right _ (List.mem_append_right _ (List.mem_append_right _ (List.mem_append_left _ h))))
theorem in_f_X5_iterNames_X5 : ∀ w ∈ wsX50, w ∈ w_f_X5_iterNames := fun _ h => List.mem_cons_of_mem _ (List.mem_append_right _ (List.mem_append_right _ (List.mem_append_right _ (List.mem_append_right _ (List.mem_append_right _ (List.mem_append_left _ h))))))
theorem in_f_X5_iterNames_X7 : ∀ w ∈ wsX70, w ∈ w_f_X5_iterNames := fun _ h => List.mem_cons_of_mem _ (List.mem_append_right _ (List.mem_append_right _ (List.mem_append_right _ (List.mem_append_right _ (List.mem_append_right _ (List.mem_append_right _ (List.mem_append_right _ (List.mem_append_left _ h))))))))
theorem hd_f_X5_iterNames : yX5_iterNames.cls = RX5 ∧ yX5_iterNames.cls ≠ "java/lang/invoke/MethodHandle" ∧ yX5_iterNames.cls ≠ "java/lang/invoke/VarHandle" ∧ (parseMethodDescriptor yX5_iterNames.desc).map (fun d => d.parameters.length) = some 3 := by decide +kernel
theorem gg_f_X5_iterNames_X2_advance : GoodIn w_f_X5_iterNames w_f_X2_advance := goodIn_sub (fun w h => (List.mem_cons.mp h).elim (fun e => (List.mem_cons_of_mem _ (List.mem_append_left _ (List.mem_append_right _ (List.mem_append_right _ (List.mem_append_right _ (List.mem_append_right _ (List.mem_append_right _ (List.mem_append_right _ (List.mem_append_right _ (List.mem_append_left _ (List.mem_cons.mpr (Or.inl e))))))))))))) (fun h => (List.mem_append.mp h).elim (fun h => (List.mem_cons_of_mem _ (List.mem_append_left _ (List.mem_append_right _ (List.mem_append_right _ (List.mem_append_right _ (List.mem_append_right _ (List.mem_append_right _ (List.mem_append_right _ (List.mem_append_right _ (List.mem_append_left _ (List.mem_cons_of_mem _ h)))))))))))) (fun h => List.mem_cons_of_mem _ (List.mem_append_right _ h)))) w_f_X2_advance_good
theorem g_f_X5_iterNames_X2_advance_V30 : GoodIn w_f_X5_iterNames (wsV RX5 30 RX2 yX2_advance w_f_X2_advance) := goodIn_app (nb_g4 (List.mem_cons_of_mem _ (List.mem_append_left _ (List.mem_append_left _ (List.mem_of_getElem? (i := 23) rfl)))) (List.mem_cons_of_mem _ (List.mem_append_left _ (List.mem_append_left _ (List.mem_of_getElem? (i := 24) rfl)))) (List.mem_cons_of_mem _ (List.mem_append_left _ (List.mem_append_left _ (List.mem_of_getElem? (i := 25) rfl)))) (List.mem_cons_of_mem _ (List.mem_append_left _ (List.mem_append_left _ (List.mem_of_getElem? (i := 26) rfl)))) (by decide +kernel)) gg_f_X5_iterNames_X2_advance
theorem gg_f_X5_iterNames_X5_checkName : GoodIn w_f_X5_iterNames w_f_X5_checkName := goodIn_sub (fun w h => (List.mem_cons.mp h).elim (fun e => (List.mem_cons_of_mem _ (List.mem_append_left _ (List.mem_append_right _ (List.mem_append_right _ (List.mem_append_left _ (List.mem_cons.mpr (Or.inl e)))))))) (fun h => (List.mem_append.mp h).elim (fun h => (List.mem_cons_of_mem _ (List.mem_append_left _ (List.mem_append_right _ (List.mem_append_right _ (List.mem_append_left _ (List.mem_cons_of_mem _ h))))))) (fun h => List.mem_cons_of_mem _ (List.mem_append_right _ h)))) w_f_X5_checkName_good
theorem g_f_X5_iterNames_X5_checkName_V144 : GoodIn w_f_X5_iterNames (wsV RX5 144 RX5 yX5_checkName w_f_X5_checkName) := goodIn_app (nb_g4 (List.mem_cons_of_mem _ (List.mem_append_left _ (List.mem_append_left _ (List.mem_of_getElem? (i := 4) rfl)))) (List.mem_cons_of_mem _ (List.mem_append_left _ (List.mem_append_left _ (List.mem_of_getElem? (i := 5) rfl)))) (List.mem_cons_of_mem _ (List.mem_append_left _ (List.mem_append_left _ (List.mem_of_getElem? (i := 6) rfl)))) (List.mem_cons_of_mem _ (List.mem_append_left _ (List.mem_append_left _ (List.mem_of_getElem? (i := 3) rfl)))) (by decide +kernel)) gg_f_X5_iterNames_X5_checkName
theorem gg_f_X5_iterNames_X5_closes : GoodIn w_f_X5_iterNames w_f_X5_closes := goodIn_sub (fun w h => (List.mem_cons.mp h).elim (fun e => (List.mem_cons_of_mem _ (List.mem_append_left _ (List.mem_append_right _ (List.mem_append_right _ (List.mem_append_right _ (List.mem_append_left _ (List.mem_cons.mpr (Or.inl e))))))))) (fun h => (List.mem_append.mp h).elim (fun h => (List.mem_cons_of_mem _ (List.mem_append_left _ (List.mem_append_right _ (List.mem_append_right _ (List.mem_append_right _ (List.mem_append_left _ (List.mem_cons_of_mem _ h)))))))) (fun h => List.mem_cons_of_mem _ (List.mem_append_right _ h)))) w_f_X5_closes_good
theorem g_f_X5_iterNames_X5_closes_V186 : GoodIn w_f_X5_iterNames (wsV RX5 186 RX5 yX5_closes w_f_X5_closes) := goodIn_app (nb_g4 (List.mem_cons_of_mem _ (List.mem_append_left _ (List.mem_append_left _ (List.mem_of_getElem? (i := 9) rfl)))) (List.mem_cons_of_mem _ (List.mem_append_left _ (List.mem_append_left _ (List.mem_of_getElem? (i := 10) rfl)))) (List.mem_cons_of_mem _ (List.mem_append_left _ (List.mem_append_left _ (List.mem_of_getElem? (i := 11) rfl)))) (List.mem_cons_of_mem _ (List.mem_append_left _ (List.mem_append_left _ (List.mem_of_getElem? (i := 3) rfl)))) (by decide +kernel)) gg_f_X5_iterNames_X5_closes
theorem gg_f_X5_iterNames_X5_opens : GoodIn w_f_X5_iterNames w_f_X5_opens := goodIn_sub (fun w h => (List.mem_cons.mp h).elim (fun e => (List.mem_cons_of_mem _ (List.mem_append_left _ (List.mem_append_right _ (List.mem_append_left _ (List.mem_cons.mpr (Or.inl e))))))) (fun h => (List.mem_append.mp h).elim (fun h => (List.mem_cons_of_mem _ (List.mem_append_left _ (List.mem_append_right _ (List.mem_append_left _ (List.mem_cons_of_mem _ h)))))) (fun h => List.mem_cons_of_mem _ (List.mem_append_right _ h)))) w_f_X5_opens_good
theorem g_f_X5_iterNames_X5_opens_V173 : GoodIn w_f_X5_iterNames (wsV RX5 173 RX5 yX5_opens w_f_X5_opens) := goodIn_app (nb_g4 (List.mem_cons_of_mem _ (List.mem_append_left _ (List.mem_append_left _ (List.mem_of_getElem? (i := 0) rfl)))) (List.mem_cons_of_mem _ (List.mem_append_left _ (List.mem_append_left _ (List.mem_of_getElem? (i := 1) rfl)))) (List.mem_cons_of_mem _ (List.mem_append_left _ (List.mem_append_left _ (List.mem_of_getElem? (i := 2) rfl)))) (List.mem_cons_of_mem _ (List.mem_append_left _ (List.mem_append_left _ (List.mem_of_getElem? (i := 3) rfl)))) (by decide +kernel)) gg_f_X5_iterNames_X5_opens
theorem gg_f_X5_iterNames_X7_newPassing__P : GoodIn w_f_X5_iterNames w_y_X7_newPassing__P := goodIn_sub (fun w h => (List.mem_cons.mp h).elim (fun e => (List.mem_cons_of_mem _ (List.mem_append_left _ (List.mem_append_right _ (List.mem_append_right _ (List.mem_append_right _ (List.mem_append_right _ (List.mem_append_right _ (List.mem_append_left _ (List.mem_cons.mpr (Or.inl e))))))))))) (fun h => (List.mem_append.mp h).elim (fun h => (List.mem_cons_of_mem _ (List.mem_append_left _ (List.mem_append_right _ (List.mem_append_right _ (List.mem_append_right _ (List.mem_append_right _ (List.mem_append_right _ (List.mem_append_left _ (List.mem_cons_of_mem _ h)))))))))) (fun h => List.mem_cons_of_mem _ (List.mem_append_right _ h)))) w_y_X7_newPassing__P_good
theorem g_y_X5_iterNames_X7_newPassing__P_V454 : GoodIn w_f_X5_iterNames (wsV RX5 454 RX7 yX7_newPassing w_y_X7_newPassing__P) := goodIn_app (nb_g4 (List.mem_cons_of_mem _ (List.mem_append_left _ (List.mem_append_left _ (List.mem_of_getElem? (i := 16) rfl)))) (List.mem_cons_of_mem _ (List.mem_append_left _ (List.mem_append_left _ (List.mem_of_getElem? (i := 17) rfl)))) (List.mem_cons_of_mem _ (List.mem_append_left _ (List.mem_append_left _ (List.mem_of_getElem? (i := 18) rfl)))) (List.mem_cons_of_mem _ (List.mem_append_left _ (List.mem_append_left _ (List.mem_of_getElem? (i := 15) rfl)))) (by decide +kernel)) gg_f_X5_iterNames_X7_newPassing__P
theorem gg_f_X5_iterNames_X7_newSlots__P : GoodIn w_f_X5_iterNames w_y_X7_newSlots__P := goodIn_sub (fun w h => (List.mem_cons.mp h).elim (fun e => (List.mem_cons_of_mem _ (List.mem_append_left _ (List.mem_append_right _ (List.mem_append_right _ (List.mem_append_right _ (List.mem_append_right _ (List.mem_append_left _ (List.mem_cons.mpr (Or.inl e)))))))))) (fun h => (List.mem_append.mp h).elim (fun h => (List.mem_cons_of_mem _ (List.mem_append_left _ (List.mem_append_right _ (List.mem_append_right _ (List.mem_append_right _ (List.mem_append_right _ (List.mem_append_left _ (List.mem_cons_of_mem _ h))))))))) (fun h => List.mem_cons_of_mem _ (List.mem_append_right _ h)))) w_y_X7_newSlots__P_good
theorem g_y_X5_iterNames_X7_newSlots__P_V157 : GoodIn w_f_X5_iterNames (wsV RX5 157 RX7 yX7_newSlots w_y_X7_newSlots__P) := goodIn_app (nb_g4 (List.mem_cons_of_mem _ (List.mem_append_left _ (List.mem_append_left _ (List.mem_of_getElem? (i := 12) rfl)))) (List.mem_cons_of_mem _ (List.mem_append_left _ (List.mem_append_left _ (List.mem_of_getElem? (i := 13) rfl)))) (List.mem_cons_of_mem _ (List.mem_append_left _ (List.mem_append_left _ (List.mem_of_getElem? (i := 14) rfl)))) (List.mem_cons_of_mem _ (List.mem_append_left _ (List.mem_append_left _ (List.mem_of_getElem? (i := 15) rfl)))) (by decide +kernel)) gg_f_X5_iterNames_X7_newSlots__P
theorem gg_f_X5_iterNames_X7_tell__P : GoodIn w_f_X5_iterNames w_y_X7_tell__P := goodIn_sub (fun w h => (List.mem_cons.mp h).elim (fun e => (List.mem_cons_of_mem _ (List.mem_append_left _ (List.mem_append_right _ (List.mem_append_right _ (List.mem_append_right _ (List.mem_append_right _ (List.mem_append_right _ (List.mem_append_right _ (List.mem_append_left _ (List.mem_cons.mpr (Or.inl e)))))))))))) (fun h => (List.mem_append.mp h).elim (fun h => (List.mem_cons_of_mem _ (List.mem_append_left _ (List.mem_append_right _ (List.mem_append_right _ (List.mem_append_right _ (List.mem_append_right _ (List.mem_append_right _ (List.mem_append_right _ (List.mem_append_left _ (List.mem_cons_of_mem _ h))))))))))) (fun h => List.mem_cons_of_mem _ (List.mem_append_right _ h)))) w_y_X7_tell__P_good
theorem g_y_X5_iterNames_X7_tell__P_V160 : GoodIn w_f_X5_iterNames (wsV RX5 160 RX7 yX7_tell w_y_X7_tell__P) := goodIn_app (nb_g4 (List.mem_cons_of_mem _ (List.mem_append_left _ (List.mem_append_left _ (List.mem_of_getElem? (i := 20) rfl)))) (List.mem_cons_of_mem _ (List.mem_append_left _ (List.mem_append_left _ (List.mem_of_getElem? (i := 21) rfl)))) (List.mem_cons_of_mem _ (List.mem_append_left _ (List.mem_append_left _ (List.mem_of_getElem? (i := 22) rfl)))) (List.mem_cons_of_mem _ (List.mem_append_left _ (List.mem_append_left _ (List.mem_of_getElem? (i := 15) rfl)))) (by decide +kernel)) gg_f_X5_iterNames_X7_tell__P
set_option maxHeartbeats 40000000 in
set_option maxRecDepth 100000 in
theorem c_f_X5_iterNames (l : Launch) (hl0 : l.stackTraces = false) (dC : Nat → ClassId) (dI : Nat → Nat → Nat) (cy : Nat → ClassId) (ek a : Nat → Nat) (k0 : Nat) (L0 : LV) (σ0 : CS) (r0 : RS) (h0 : f_X5_iterNames k0 0 L0 σ0 = some r0) (z : Nat → Nat) (sz : Nat) : vx_Met l yX5_iterNames w_f_X5_iterNames ({ frames := 8, cells := r0.2.2.1, slots := r0.2.2.2, locals := 147 }) (va_Pc [.ref (a 40), .int (L0.1 1), .int (L0.1 2), .int (L0.1 3)] (nInF (dC, dI) cy ek sz (vC cy a z σ0))) (xV dC dI cy a (va_A (vC cy a z σ0) sz) [] z r0) (xX dC dI cy a (va_A (vC cy a z σ0) sz) [] z r0) r0.2.2.1 r0.2.2.2 (va_A (vC cy a z σ0) sz) := by
  refine vx_ofW (cc := cX5_iterNames) (maxL := 7) (ret := none) (by decide) rfl ?_
  intro p e s m args below meth c s₁ B hml hno hv
  obtain ⟨rfl, ⟨⟨hsz, hP, hK, hD0, hG⟩, hE⟩, hT⟩ := hv
  have hx := B.exec
  have hb := B.bytes
  have hr := B.returns
  have hts := atoms_spec (ws := w_f_X5_iterNames) B.pre
  have hown : s.vm.findClass RX5 = some m.cls := findClass_of_methodNamed B.named
  have hlocks := B.notSynchronized
  subst hsz
  have hD := hD0.self (sz := s.heap.size)
  generalize hAe : va_A (vC cy a z σ0) s.heap.size = A at hD hE hT ⊢
  have hA : ∀ q : Nat, s.heap.size ≤ q → A q := fun q h => by rw [← hAe]; exact Or.inr h
  have hS : va_S A s.heap s.heap [] := va_S.rf
  have hl := lv_entry ([.ref (a 40), .int (L0.1 1), .int (L0.1 2), .int (L0.1 3)]) (n := 7) (Nat.le_of_ble_eq_true rfl)
  rw [lg_entry_eq]
  generalize (lg_sl ([.ref (a 40), .int (L0.1 1), .int (L0.1 2), .int (L0.1 3)]) ++ List.replicate (7 - (lg_sl ([.ref (a 40), .int (L0.1 1), .int (L0.1 2), .int (L0.1 3)])).length) Slot.unset).toArray = ls at hl ⊢
  have hl : lv_has ls 7 [(0, .ref (a 40)), (1, .int (L0.1 1)), (2, .int (L0.1 2)), (3, .int (L0.1 3))] := hl
  generalize hmc : r0.2.2.1 = mc
  generalize hms : r0.2.2.2 = ms
  have blk : ∀ k : Nat, (bX p l e (headSpec w_f_X5_iterNames ({ frames := 8, cells := mc, slots := ms, locals := 147 })).room s m #[.ref (a 40), .int (L0.1 1), .int (L0.1 2), .int (L0.1 3)] below meth c dC dI cy a A (fun r => vx_MQ below (xV dC dI cy a A [] z r) (xX dC dI cy a A [] z r) #[.ref (a 40), .int (L0.1 1), .int (L0.1 2), .int (L0.1 3)] s mc ms A) [] z mc ms 7 (f_X5_iterNames k 0) (fun z L => [(0, .ref (a 40)), (1, .int (L.1 1)), (2, .int (L.1 2)), (3, .int (L.1 3))]) 0 (fun z L => [])) ∧ (bX p l e (headSpec w_f_X5_iterNames ({ frames := 8, cells := mc, slots := ms, locals := 147 })).room s m #[.ref (a 40), .int (L0.1 1), .int (L0.1 2), .int (L0.1 3)] below meth c dC dI cy a A (fun r => vx_MQ below (xV dC dI cy a A [] z r) (xX dC dI cy a A [] z r) #[.ref (a 40), .int (L0.1 1), .int (L0.1 2), .int (L0.1 3)] s mc ms A) [] z mc ms 7 (f_X5_iterNames k 1) (fun z L => [(0, .ref (a 40)), (1, .int (L.1 1)), (2, .int (L.1 2)), (3, .int (L.1 3))]) 8 (fun z L => [])) ∧ (bX p l e (headSpec w_f_X5_iterNames ({ frames := 8, cells := mc, slots := ms, locals := 147 })).room s m #[.ref (a 40), .int (L0.1 1), .int (L0.1 2), .int (L0.1 3)] below meth c dC dI cy a A (fun r => vx_MQ below (xV dC dI cy a A [] z r) (xX dC dI cy a A [] z r) #[.ref (a 40), .int (L0.1 1), .int (L0.1 2), .int (L0.1 3)] s mc ms A) [] z mc ms 7 (f_X5_iterNames k 2) (fun z L => [(0, .ref (a 40)), (1, .int (L.1 1)), (2, .int (L.1 2)), (3, .int (L.1 3)), (4, .int (L.1 4)), (5, .int (L.1 5))]) 14 (fun z L => [])) ∧ (bX p l e (headSpec w_f_X5_iterNames ({ frames := 8, cells := mc, slots := ms, locals := 147 })).room s m #[.ref (a 40), .int (L0.1 1), .int (L0.1 2), .int (L0.1 3)] below meth c dC dI cy a A (fun r => vx_MQ below (xV dC dI cy a A [] z r) (xX dC dI cy a A [] z r) #[.ref (a 40), .int (L0.1 1), .int (L0.1 2), .int (L0.1 3)] s mc ms A) [] z mc ms 7 (f_X5_iterNames k 3) (fun z L => [(0, .ref (a 40)), (2, .int (L.1 2))]) 186 (fun z L => [])) ∧ (bX p l e (headSpec w_f_X5_iterNames ({ frames := 8, cells := mc, slots := ms, locals := 147 })).room s m #[.ref (a 40), .int (L0.1 1), .int (L0.1 2), .int (L0.1 3)] below meth c dC dI cy a A (fun r => vx_MQ below (xV dC dI cy a A [] z r) (xX dC dI cy a A [] z r) #[.ref (a 40), .int (L0.1 1), .int (L0.1 2), .int (L0.1 3)] s mc ms A) [] z mc ms 7 (f_X5_iterNames k 4) (fun z L => [(0, .ref (a 40)), (1, .int (L.1 1)), (2, .int (L.1 2)), (3, .int (L.1 3)), (5, .int (L.1 5))]) 52 (fun z L => [.int (L.1 100), .int (L.1 101), .ref (a (pR17 (L.2.2.1 102)))])) ∧ (bX p l e (headSpec w_f_X5_iterNames ({ frames := 8, cells := mc, slots := ms, locals := 147 })).room s m #[.ref (a 40), .int (L0.1 1), .int (L0.1 2), .int (L0.1 3)] below meth c dC dI cy a A (fun r => vx_MQ below (xV dC dI cy a A [] z r) (xX dC dI cy a A [] z r) #[.ref (a 40), .int (L0.1 1), .int (L0.1 2), .int (L0.1 3)] s mc ms A) [] z mc ms 7 (f_X5_iterNames k 5) (fun z L => [(0, .ref (a 40)), (1, .int (L.1 1)), (2, .int (L.1 2)), (3, .int (L.1 3)), (5, .int (L.1 5))]) 53 (fun z L => [.int (L.1 100), .int (L.1 101), .int (L.1 102), .ref (a (pR17 (L.2.2.1 103)))])) ∧ (bX p l e (headSpec w_f_X5_iterNames ({ frames := 8, cells := mc, slots := ms, locals := 147 })).room s m #[.ref (a 40), .int (L0.1 1), .int (L0.1 2), .int (L0.1 3)] below meth c dC dI cy a A (fun r => vx_MQ below (xV dC dI cy a A [] z r) (xX dC dI cy a A [] z r) #[.ref (a 40), .int (L0.1 1), .int (L0.1 2), .int (L0.1 3)] s mc ms A) [] z mc ms 7 (f_X5_iterNames k 6) (fun z L => []) 196 (fun z L => [])) ∧ (bX p l e (headSpec w_f_X5_iterNames ({ frames := 8, cells := mc, slots := ms, locals := 147 })).room s m #[.ref (a 40), .int (L0.1 1), .int (L0.1 2), .int (L0.1 3)] below meth c dC dI cy a A (fun r => vx_MQ below (xV dC dI cy a A [] z r) (xX dC dI cy a A [] z r) #[.ref (a 40), .int (L0.1 1), .int (L0.1 2), .int (L0.1 3)] s mc ms A) [] z mc ms 7 (f_X5_iterNames k 7) (fun z L => [(0, .ref (a 40)), (1, .int (L.1 1)), (2, .int (L.1 2)), (3, .int (L.1 3)), (5, .int (L.1 5))]) 74 (fun z L => [])) ∧ (bX p l e (headSpec w_f_X5_iterNames ({ frames := 8, cells := mc, slots := ms, locals := 147 })).room s m #[.ref (a 40), .int (L0.1 1), .int (L0.1 2), .int (L0.1 3)] below meth c dC dI cy a A (fun r => vx_MQ below (xV dC dI cy a A [] z r) (xX dC dI cy a A [] z r) #[.ref (a 40), .int (L0.1 1), .int (L0.1 2), .int (L0.1 3)] s mc ms A) [] z mc ms 7 (f_X5_iterNames k 8) (fun z L => [(0, .ref (a 40)), (1, .int (L.1 1)), (2, .int (L.1 2)), (3, .int (L.1 3)), (5, .int (L.1 5))]) 82 (fun z L => [.int (L.1 100)])) ∧ (bX p l e (headSpec w_f_X5_iterNames ({ frames := 8, cells := mc, slots := ms, locals := 147 })).room s m #[.ref (a 40), .int (L0.1 1), .int (L0.1 2), .int (L0.1 3)] below meth c dC dI cy a A (fun r => vx_MQ below (xV dC dI cy a A [] z r) (xX dC dI cy a A [] z r) #[.ref (a 40), .int (L0.1 1), .int (L0.1 2), .int (L0.1 3)] s mc ms A) [] z mc ms 7 (f_X5_iterNames k 9) (fun z L => [(0, .ref (a 40)), (1, .int (L.1 1)), (2, .int (L.1 2)), (3, .int (L.1 3)), (5, .int (L.1 5)), (6, .int (L.1 6))]) 110 (fun z L => [.long (L.2.1 100), .long (L.2.1 101), .ref (a (pA (L.2.2.1 102)))])) ∧ (bX p l e (headSpec w_f_X5_iterNames ({ frames := 8, cells := mc, slots := ms, locals := 147 })).room s m #[.ref (a 40), .int (L0.1 1), .int (L0.1 2), .int (L0.1 3)] below meth c dC dI cy a A (fun r => vx_MQ below (xV dC dI cy a A [] z r) (xX dC dI cy a A [] z r) #[.ref (a 40), .int (L0.1 1), .int (L0.1 2), .int (L0.1 3)] s mc ms A) [] z mc ms 7 (f_X5_iterNames k 10) (fun z L => [(0, .ref (a 40)), (1, .int (L.1 1)), (2, .int (L.1 2)), (3, .int (L.1 3)), (5, .int (L.1 5)), (6, .int (L.1 6))]) 111 (fun z L => [.int (L.1 100), .long (L.2.1 101), .long (L.2.1 102), .ref (a (pA (L.2.2.1 103)))])) ∧ (bX p l e (headSpec w_f_X5_iterNames ({ frames := 8, cells := mc, slots := ms, locals := 147 })).room s m #[.ref (a 40), .int (L0.1 1), .int (L0.1 2), .int (L0.1 3)] below meth c dC dI cy a A (fun r => vx_MQ below (xV dC dI cy a A [] z r) (xX dC dI cy a A [] z r) #[.ref (a 40), .int (L0.1 1), .int (L0.1 2), .int (L0.1 3)] s mc ms A) [] z mc ms 7 (f_X5_iterNames k 11) (fun z L => [(0, .ref (a 40)), (1, .int (L.1 1)), (2, .int (L.1 2)), (3, .int (L.1 3)), (5, .int (L.1 5))]) 165 (fun z L => [])) ∧ (bX p l e (headSpec w_f_X5_iterNames ({ frames := 8, cells := mc, slots := ms, locals := 147 })).room s m #[.ref (a 40), .int (L0.1 1), .int (L0.1 2), .int (L0.1 3)] below meth c dC dI cy a A (fun r => vx_MQ below (xV dC dI cy a A [] z r) (xX dC dI cy a A [] z r) #[.ref (a 40), .int (L0.1 1), .int (L0.1 2), .int (L0.1 3)] s mc ms A) [] z mc ms 7 (f_X5_iterNames k 12) (fun z L => [(0, .ref (a 40)), (1, .int (L.1 1)), (2, .int (L.1 2)), (3, .int (L.1 3)), (5, .int (L.1 5))]) 166 (fun z L => [.int (L.1 100)])) ∧ (bX p l e (headSpec w_f_X5_iterNames ({ frames := 8, cells := mc, slots := ms, locals := 147 })).room s m #[.ref (a 40), .int (L0.1 1), .int (L0.1 2), .int (L0.1 3)] below meth c dC dI cy a A (fun r => vx_MQ below (xV dC dI cy a A [] z r) (xX dC dI cy a A [] z r) #[.ref (a 40), .int (L0.1 1), .int (L0.1 2), .int (L0.1 3)] s mc ms A) [] z mc ms 7 (f_X5_iterNames k 13) (fun z L => [(0, .ref (a 40)), (1, .int (L.1 1)), (2, .int (L.1 2)), (3, .int (L.1 3)), (4, .int (L.1 4)), (5, .int (L.1 5))]) 180 (fun z L => [])) := by
    intro k
    induction k with
    | zero => exact ⟨fun z c1 c2 L σ r h => (by cases h), fun z c1 c2 L σ r h => (by cases h), fun z c1 c2 L σ r h => (by cases h), fun z c1 c2 L σ r h => (by cases h), fun z c1 c2 L σ r h => (by cases h), fun z c1 c2 L σ r h => (by cases h), fun z c1 c2 L σ r h => (by cases h), fun z c1 c2 L σ r h => (by cases h), fun z c1 c2 L σ r h => (by cases h), fun z c1 c2 L σ r h => (by cases h), fun z c1 c2 L σ r h => (by cases h), fun z c1 c2 L σ r h => (by cases h), fun z c1 c2 L σ r h => (by cases h), fun z c1 c2 L σ r h => (by cases h)⟩
    | succ k ih =>
      refine ⟨?_, ?_, ?_, ?_, ?_, ?_, ?_, ?_, ?_, ?_, ?_, ?_, ?_, ?_⟩
      · intro z cells slots L σ r h hzk hc hs H locs ls hP hD hS hl
        rw [f_X5_iterNames] at h
        refine lv_iload_n hx hb dX5_iterNames_0 rfl (lv_at hl 2 rfl) ?_
        refine lv_if_eq (tgt := 8) hx hb dX5_iterNames_1 (by decide) (fun c1 => ?_) (fun c1 => ?_)
        · rw [if_pos c1] at h
          exact ih.2.1 z _ _ L σ _ h hzk hc hs H locs ls hP hD hS (lv_sub hl [0, 1, 2, 3] rfl)
        · rw [if_neg c1] at h
          refine lv_aload_n hx hb dX5_iterNames_4 rfl (lv_at hl 0 rfl) ?_
          obtain ⟨r2, hc2, hle2, h9⟩ := ox_ex h
          clear h
          refine kx_v (vx_runV (As := []) (rest := []) ⟨hx, hb, hml, hown, hts⟩ (c_f_X5_opens l hl0 dC dI cy ek a k lZ σ r2 hc2 z H.size) (cwV 0 hts g_f_X5_iterNames_X5_opens_V173 rfl rfl rfl hd_f_X5_opens ⟨Nat.le_of_ble_eq_true rfl, Nat.le_of_ble_eq_true rfl⟩) ⟨nb_blindF, va_recv hK hP (ci := 4) (q0 := 40) rfl rfl, (kx_pre hK hG hE hT hA hP hD hS)⟩ rfl rfl hl.1 rfl (lv_room (Nat.le_of_ble_eq_true rfl)) dX5_iterNames_5 ⟨Nat.le_trans (Nat.add_le_add_left hle2.1 _) (Nat.le_of_eq hc), Nat.le_trans (Nat.add_le_add_left hle2.2 _) (Nat.le_of_eq hs)⟩) hK hA hzk hP hD hS (by decide) hno hlocks ?_
          rcases h9 with ⟨h00, y2, hny2, hy⟩ | ⟨h00, hy⟩
          · subst hy
            have h := hny2
            refine Or.inl ⟨h00, fun u H locs hz2 hzk hP hD hS => ?_⟩
            obtain rfl := (zk_nil hz2).symm
            replace hc := (Nat.add_assoc _ _ _).trans hc
            replace hs := (Nat.add_assoc _ _ _).trans hs
            exact ih.2.1 z _ _ L r2.2.1 _ h hzk hc hs H locs ls hP hD hS (lv_sub hl [0, 1, 2, 3] rfl)
          · subst hy
            exact Or.inr ⟨h00, rfl, hc, hs⟩
      · intro z cells slots L σ r h hzk hc hs H locs ls hP hD hS hl
        rw [f_X5_iterNames] at h
        refine lv_iconst (v := 1) hx hb dX5_iterNames_8 (by decide) ?_
        refine lv_istore (lv' := [(4, .int 1), (0, .ref (a 40)), (1, .int (L.1 1)), (2, .int (L.1 2)), (3, .int (L.1 3))]) hx hb dX5_iterNames_9 hl (by decide) rfl (fun ls hl => ?_)
        refine lv_iconst (v := 0) hx hb dX5_iterNames_11 (by decide) ?_
        refine lv_istore (lv' := [(5, .int 0), (4, .int 1), (0, .ref (a 40)), (1, .int (L.1 1)), (2, .int (L.1 2)), (3, .int (L.1 3))]) hx hb dX5_iterNames_12 hl (by decide) rfl (fun ls hl => ?_)
        exact ih.2.2.1 z _ _ (lI (lI L 4 1) 5 0) σ _ h hzk hc hs H locs ls hP hD hS (lv_sub hl [2, 3, 4, 5, 1, 0] rfl)
      · intro z cells slots L σ r h hzk hc hs H locs ls hP hD hS hl
        rw [f_X5_iterNames] at h
        refine lv_iload hx hb dX5_iterNames_14 (lv_at hl 5 rfl) ?_
        refine lv_bipush (v := 60) hx hb dX5_iterNames_16 (by decide) ?_
        refine lv_icmp_gt (tgt := 186) hx hb dX5_iterNames_18 (by decide) (fun c1 => ?_) (fun c1 => ?_)
        · rw [if_pos c1] at h
          exact ih.2.2.2.1 z _ _ L σ _ h hzk hc hs H locs ls hP hD hS (lv_sub hl [0, 2] rfl)
        · rw [if_neg c1] at h
          refine lv_iload hx hb dX5_iterNames_21 (lv_at hl 4 rfl) ?_
          refine lv_if_eq (tgt := 186) hx hb dX5_iterNames_23 (by decide) (fun c2 => ?_) (fun c2 => ?_)
          · rw [if_pos c2] at h
            exact ih.2.2.2.1 z _ _ L σ _ h hzk hc hs H locs ls hP hD hS (lv_sub hl [0, 2] rfl)
          · rw [if_neg c2] at h
            refine lv_aload_n hx hb dX5_iterNames_26 rfl (lv_at hl 0 rfl) ?_
            refine lv_iload_n hx hb dX5_iterNames_27 rfl (lv_at hl 1 rfl) ?_
            obtain ⟨r3, hc3, hle3, h9⟩ := ox_ex h
            clear h
            refine kx_v (vx_runV (As := [.int (L.1 1)]) (rest := []) ⟨hx, hb, hml, hown, hts⟩ (c_f_X5_checkName l hl0 dC dI cy ek a k (lI lZ 1 ((L.1 1))) σ r3 hc3 z H.size) (cwV 1 hts g_f_X5_iterNames_X5_checkName_V144 rfl rfl rfl hd_f_X5_checkName ⟨Nat.le_of_ble_eq_true rfl, Nat.le_of_ble_eq_true rfl⟩) ⟨nb_blindF, va_recv hK hP (ci := 4) (q0 := 40) rfl rfl, (kx_pre hK hG hE hT hA hP hD hS)⟩ rfl rfl hl.1 rfl (lv_room (Nat.le_of_ble_eq_true rfl)) dX5_iterNames_28 ⟨Nat.le_trans (Nat.add_le_add_left hle3.1 _) (Nat.le_of_eq hc), Nat.le_trans (Nat.add_le_add_left hle3.2 _) (Nat.le_of_eq hs)⟩) hK hA hzk hP hD hS (by decide) hno hlocks ?_
            rcases h9 with ⟨h00, y3, hny3, hy⟩ | ⟨h00, hy⟩
            · subst hy
              have h := hny3
              refine Or.inl ⟨h00, fun u H locs hz3 hzk hP hD hS => ?_⟩
              obtain rfl := (zk_nil hz3).symm
              replace hc := (Nat.add_assoc _ _ _).trans hc
              replace hs := (Nat.add_assoc _ _ _).trans hs
              refine lv_aload_n hx hb dX5_iterNames_31 rfl (lv_at hl 0 rfl) ?_
              obtain ⟨b4, hb4, h⟩ := oP_ex h
              refine hgq_40_2 hx hb hts in_f_X5_iterNames_X5 hown hK hP (hts _ (List.mem_cons_of_mem _ (List.mem_append_left _ (List.mem_append_left _ (List.mem_of_getElem? (i := 7) rfl))))) hb4 dX5_iterNames_32 ?_
              refine hg_P_17n b4 hx hb hts in_f_X5_iterNames_X7 hown hK hP (va_Nw.use rfl (hG.1 _ (List.mem_of_getElem? (i := 91) rfl))) dX5_iterNames_35 ?_
              refine lv_aload_n hx hb dX5_iterNames_38 rfl (lv_at hl 0 rfl) ?_
              refine hg_40_3 hx hb hts in_f_X5_iterNames_X5 hown hK hP (hts _ (List.mem_cons_of_mem _ (List.mem_append_left _ (List.mem_append_left _ (List.mem_of_getElem? (i := 8) rfl))))) dX5_iterNames_39 ?_
              refine lv_dup2_11 hx hb dX5_iterNames_42 rfl rfl ?_
              obtain ⟨q5, h⟩ := kr_ite1 h
              refine hl_P17 b4 hx hb hK hP q5 dX5_iterNames_43 ?_
              refine lv_iload_n hx hb dX5_iterNames_44 rfl (lv_at hl 3 rfl) ?_
              refine lv_if_eq (tgt := 52) hx hb dX5_iterNames_45 (by decide) (fun c6 => ?_) (fun c6 => ?_)
              · rw [if_pos c6] at h
                exact ih.2.2.2.2.1 z _ _ (lB (lI (lI L 100 ((r3.2.1.2.2.1 (pR17 b4) ((r3.2.1.1 4003)).toNatClampNeg))) 101 ((r3.2.1.1 4003))) 102 b4) r3.2.1 _ h hzk hc hs H locs ls hP hD hS (lv_sub hl [0, 1, 2, 3, 5] rfl)
              · rw [if_neg c6] at h
                refine lv_iconst (v := 1) hx hb dX5_iterNames_48 (by decide) ?_
                refine lv_goto (tgt := 53) hx hb dX5_iterNames_49 (by decide) ?_
                exact ih.2.2.2.2.2.1 z _ _ (lB (lI (lI (lI L 100 1) 101 ((r3.2.1.2.2.1 (pR17 b4) ((r3.2.1.1 4003)).toNatClampNeg))) 102 ((r3.2.1.1 4003))) 103 b4) r3.2.1 _ h hzk hc hs H locs ls hP hD hS (lv_sub hl [0, 1, 2, 3, 5] rfl)
            · subst hy
              exact Or.inr ⟨h00, rfl, hc, hs⟩
      · intro z cells slots L σ r h hzk hc hs H locs ls hP hD hS hl
        rw [f_X5_iterNames] at h
        refine lv_iload_n hx hb dX5_iterNames_186 rfl (lv_at hl 1 rfl) ?_
        refine lv_if_eq (tgt := 196) hx hb dX5_iterNames_187 (by decide) (fun c1 => ?_) (fun c1 => ?_)
        · rw [if_pos c1] at h
          exact ih.2.2.2.2.2.2.1 z _ _ L σ _ h hzk hc hs H locs ls hP hD hS (lv_sub hl [] rfl)
        · rw [if_neg c1] at h
          refine lv_aload_n hx hb dX5_iterNames_190 rfl (lv_at hl 0 rfl) ?_
          refine lv_bipush (v := 15) hx hb dX5_iterNames_191 (by decide) ?_
          obtain ⟨r2, hc2, hle2, h9⟩ := ox_ex h
          clear h
          refine kx_v (vx_runV (As := [.int 15]) (rest := []) ⟨hx, hb, hml, hown, hts⟩ (c_f_X5_closes l hl0 dC dI cy ek a k (lI lZ 1 15) σ r2 hc2 z H.size) (cwV 1 hts g_f_X5_iterNames_X5_closes_V186 rfl rfl rfl hd_f_X5_closes ⟨Nat.le_of_ble_eq_true rfl, Nat.le_of_ble_eq_true rfl⟩) ⟨nb_blindF, va_recv hK hP (ci := 4) (q0 := 40) rfl rfl, (kx_pre hK hG hE hT hA hP hD hS)⟩ rfl rfl hl.1 rfl (lv_room (Nat.le_of_ble_eq_true rfl)) dX5_iterNames_193 ⟨Nat.le_trans (Nat.add_le_add_left hle2.1 _) (Nat.le_of_eq hc), Nat.le_trans (Nat.add_le_add_left hle2.2 _) (Nat.le_of_eq hs)⟩) hK hA hzk hP hD hS (by decide) hno hlocks ?_
          rcases h9 with ⟨h00, y2, hny2, hy⟩ | ⟨h00, hy⟩
          · subst hy
            have h := hny2
            refine Or.inl ⟨h00, fun u H locs hz2 hzk hP hD hS => ?_⟩
            obtain rfl := (zk_nil hz2).symm
            replace hc := (Nat.add_assoc _ _ _).trans hc
            replace hs := (Nat.add_assoc _ _ _).trans hs
            exact ih.2.2.2.2.2.2.1 z _ _ L r2.2.1 _ h hzk hc hs H locs ls hP hD hS (lv_sub hl [] rfl)
          · subst hy
            exact Or.inr ⟨h00, rfl, hc, hs⟩
      · intro z cells slots L σ r h hzk hc hs H locs ls hP hD hS hl
        rw [f_X5_iterNames] at h
        refine lv_iconst (v := 0) hx hb dX5_iterNames_52 (by decide) ?_
        exact ih.2.2.2.2.2.1 z _ _ (lB (lI (lI (lI L 100 0) 101 ((L.1 100))) 102 ((L.1 101))) 103 ((L.2.2.1 102))) σ _ h hzk hc hs H locs ls hP hD hS (lv_sub hl [0, 1, 2, 3, 4] rfl)
      · intro z cells slots L σ r h hzk hc hs H locs ls hP hD hS hl
        rw [f_X5_iterNames] at h
        refine lv_iadd hx hb dX5_iterNames_53 ?_
        obtain ⟨q1, h⟩ := kr_ite1 h
        refine hs_P17 ((L.2.2.1 103)) hx hb hK hP hD hS q1 dX5_iterNames_54 (fun H locs hP hD hS => ?_)
        refine lv_iload_n hx hb dX5_iterNames_55 rfl (lv_at hl 3 rfl) ?_
        refine lv_if_eq (tgt := 74) hx hb dX5_iterNames_56 (by decide) (fun c2 => ?_) (fun c2 => ?_)
        · rw [if_pos c2] at h
          exact ih.2.2.2.2.2.2.2.1 z _ _ L (uA σ (pR17 ((L.2.2.1 103))) ((L.1 102)).toNatClampNeg ((((L.1 101)) + ((L.1 100))))) _ h hzk hc hs H locs ls hP hD hS (lv_sub hl [0, 1, 2, 3, 4] rfl)
        · rw [if_neg c2] at h
          refine lv_aload_n hx hb dX5_iterNames_59 rfl (lv_at hl 0 rfl) ?_
          obtain ⟨b3, hb3, h⟩ := oP_ex h
          refine hgq_40_2 hx hb hts in_f_X5_iterNames_X5 hown hK hP (hts _ (List.mem_cons_of_mem _ (List.mem_append_left _ (List.mem_append_left _ (List.mem_of_getElem? (i := 7) rfl))))) hb3 dX5_iterNames_60 ?_
          refine lv_aload_n hx hb dX5_iterNames_63 rfl (lv_at hl 0 rfl) ?_
          refine hg_40_3 hx hb hts in_f_X5_iterNames_X5 hown hK hP (hts _ (List.mem_cons_of_mem _ (List.mem_append_left _ (List.mem_append_left _ (List.mem_of_getElem? (i := 8) rfl))))) dX5_iterNames_64 ?_
          refine lv_iconst (v := 1) hx hb dX5_iterNames_67 (by decide) ?_
          obtain ⟨r4, hc4, h⟩ := op_ex h
          refine kc_i (va_runV (As := [.int ((uA σ (pR17 ((L.2.2.1 103))) ((L.1 102)).toNatClampNeg ((((L.1 101)) + ((L.1 100))))).1 4003), .int 1]) (rest := []) ⟨hx, hb, hml, hown, hts⟩ (c_y_X7_newSlots__P l dC dI cy a z k (lI (lI (lB lZ 0 b3) 1 (((uA σ (pR17 ((L.2.2.1 103))) ((L.1 102)).toNatClampNeg ((((L.1 101)) + ((L.1 100))))).1 4003))) 2 1) (uA σ (pR17 ((L.2.2.1 103))) ((L.1 102)).toNatClampNeg ((((L.1 101)) + ((L.1 100))))) r4 hc4 H.size) (cwV 2 hts g_y_X5_iterNames_X7_newSlots__P_V157 rfl rfl rfl hd_y_X7_newSlots__P ⟨Nat.le_of_ble_eq_true rfl, Nat.le_of_ble_eq_true rfl⟩) ⟨nb_blind, recvP b3 hK hP, (kb_pre hK hG hP hD)⟩ rfl rfl hl.1 rfl (lv_room (Nat.le_of_ble_eq_true rfl)) dX5_iterNames_68 ⟨(Nat.le_trans (Nat.le_add_right _ _) (Nat.le_of_eq hc)), (Nat.le_trans (Nat.le_add_right _ _) (Nat.le_of_eq hs))⟩) hA hP hD hS (fun H locs hP hD hS => ?_)
          refine lv_goto (tgt := 82) hx hb dX5_iterNames_71 (by decide) ?_
          exact ih.2.2.2.2.2.2.2.2.1 z _ _ (lI L 100 r4.1) r4.2 _ h hzk hc hs H locs ls hP hD hS (lv_sub hl [0, 1, 2, 3, 4] rfl)
      · intro z cells slots L σ r h hzk hc hs H locs ls hP hD hS hl
        rw [f_X5_iterNames] at h
        obtain rfl := Option.some.inj h
        subst hc
        subst hs
        exact xr_v hx hb hr hK hzk hP hD hS hlocks dX5_iterNames_196
      · intro z cells slots L σ r h hzk hc hs H locs ls hP hD hS hl
        rw [f_X5_iterNames] at h
        refine lv_aload_n hx hb dX5_iterNames_74 rfl (lv_at hl 0 rfl) ?_
        obtain ⟨b1, hb1, h⟩ := oP_ex h
        refine hgq_40_2 hx hb hts in_f_X5_iterNames_X5 hown hK hP (hts _ (List.mem_cons_of_mem _ (List.mem_append_left _ (List.mem_append_left _ (List.mem_of_getElem? (i := 7) rfl))))) hb1 dX5_iterNames_75 ?_
        refine lv_iconst (v := 1) hx hb dX5_iterNames_78 (by decide) ?_
        obtain ⟨r2, hc2, h⟩ := op_ex h
        refine kc_i (va_runV (As := [.int 1]) (rest := []) ⟨hx, hb, hml, hown, hts⟩ (c_y_X7_newPassing__P l dC dI cy a z k (lI (lB lZ 0 b1) 1 1) σ r2 hc2 H.size) (cwV 1 hts g_y_X5_iterNames_X7_newPassing__P_V454 rfl rfl rfl hd_y_X7_newPassing__P ⟨Nat.le_of_ble_eq_true rfl, Nat.le_of_ble_eq_true rfl⟩) ⟨nb_blind, recvP b1 hK hP, (kb_pre hK hG hP hD)⟩ rfl rfl hl.1 rfl (lv_room (Nat.le_of_ble_eq_true rfl)) dX5_iterNames_79 ⟨(Nat.le_trans (Nat.le_add_right _ _) (Nat.le_of_eq hc)), (Nat.le_trans (Nat.le_add_right _ _) (Nat.le_of_eq hs))⟩) hA hP hD hS (fun H locs hP hD hS => ?_)
        exact ih.2.2.2.2.2.2.2.2.1 z _ _ (lI L 100 r2.1) r2.2 _ h hzk hc hs H locs ls hP hD hS (lv_sub hl [0, 1, 2, 3, 4] rfl)
      · intro z cells slots L σ r h hzk hc hs H locs ls hP hD hS hl
        rw [f_X5_iterNames] at h
        refine lv_istore (lv' := [(6, .int (L.1 100)), (0, .ref (a 40)), (1, .int (L.1 1)), (2, .int (L.1 2)), (3, .int (L.1 3)), (5, .int (L.1 5))]) hx hb dX5_iterNames_82 hl (by decide) rfl (fun ls hl => ?_)
        refine lv_aload_n hx hb dX5_iterNames_84 rfl (lv_at hl 1 rfl) ?_
        obtain ⟨b1, hb1, h⟩ := oP_ex h
        refine hgq_40_2 hx hb hts in_f_X5_iterNames_X5 hown hK hP (hts _ (List.mem_cons_of_mem _ (List.mem_append_left _ (List.mem_append_left _ (List.mem_of_getElem? (i := 7) rfl))))) hb1 dX5_iterNames_85 ?_
        refine lv_aload_n hx hb dX5_iterNames_88 rfl (lv_at hl 1 rfl) ?_
        refine hg_40_0 hx hb hts in_f_X5_iterNames_X5 hown hK hP (hts _ (List.mem_cons_of_mem _ (List.mem_append_left _ (List.mem_append_left _ (List.mem_of_getElem? (i := 19) rfl))))) dX5_iterNames_89 ?_
        refine hg_37_5n hx hb hts in_f_X5_iterNames_X2 hown hK hP (va_Nw.use rfl (hG.1 _ (List.mem_of_getElem? (i := 58) rfl))) dX5_iterNames_92 ?_
        refine lv_aload_n hx hb dX5_iterNames_95 rfl (lv_at hl 1 rfl) ?_
        refine hg_40_0 hx hb hts in_f_X5_iterNames_X5 hown hK hP (hts _ (List.mem_cons_of_mem _ (List.mem_append_left _ (List.mem_append_left _ (List.mem_of_getElem? (i := 19) rfl))))) dX5_iterNames_96 ?_
        refine hg_37_6n hx hb hts in_f_X5_iterNames_X2 hown hK hP (va_Nw.use rfl (hG.1 _ (List.mem_of_getElem? (i := 60) rfl))) dX5_iterNames_99 ?_
        refine lv_iload_n hx hb dX5_iterNames_102 rfl (lv_at hl 4 rfl) ?_
        refine lv_if_eq (tgt := 110) hx hb dX5_iterNames_103 (by decide) (fun c2 => ?_) (fun c2 => ?_)
        · rw [if_pos c2] at h
          exact ih.2.2.2.2.2.2.2.2.2.1 z _ _ (lB (lJ (lJ (lI L 6 ((L.1 100))) 100 ((σ.2.1 3706))) 101 ((σ.2.1 3705))) 102 b1) σ _ h hzk hc hs H locs ls hP hD hS (lv_sub hl [1, 2, 3, 4, 5, 0] rfl)
        · rw [if_neg c2] at h
          refine lv_iconst (v := 0) hx hb dX5_iterNames_106 (by decide) ?_
          refine lv_goto (tgt := 111) hx hb dX5_iterNames_107 (by decide) ?_
          exact ih.2.2.2.2.2.2.2.2.2.2.1 z _ _ (lB (lJ (lJ (lI (lI L 6 ((L.1 100))) 100 0) 101 ((σ.2.1 3706))) 102 ((σ.2.1 3705))) 103 b1) σ _ h hzk hc hs H locs ls hP hD hS (lv_sub hl [1, 2, 3, 4, 5, 0] rfl)
      · intro z cells slots L σ r h hzk hc hs H locs ls hP hD hS hl
        rw [f_X5_iterNames] at h
        refine lv_iconst (v := 3) hx hb dX5_iterNames_110 (by decide) ?_
        exact ih.2.2.2.2.2.2.2.2.2.2.1 z _ _ (lB (lJ (lJ (lI L 100 3) 101 ((L.2.1 100))) 102 ((L.2.1 101))) 103 ((L.2.2.1 102))) σ _ h hzk hc hs H locs ls hP hD hS (lv_sub hl [0, 1, 2, 3, 4, 5] rfl)
      · intro z cells slots L σ r h hzk hc hs H locs ls hP hD hS hl
        rw [f_X5_iterNames] at h
        refine lv_aload_n hx hb dX5_iterNames_111 rfl (lv_at hl 0 rfl) ?_
        refine hg_40_3 hx hb hts in_f_X5_iterNames_X5 hown hK hP (hts _ (List.mem_cons_of_mem _ (List.mem_append_left _ (List.mem_append_left _ (List.mem_of_getElem? (i := 8) rfl))))) dX5_iterNames_112 ?_
        refine lv_iload hx hb dX5_iterNames_115 (lv_at hl 5 rfl) ?_
        obtain ⟨r1, hc1, h⟩ := op_ex h
        refine kc_v (va_runV (As := [.long (L.2.1 102), .long (L.2.1 101), .int (L.1 100), .int (σ.1 4003), .int (L.1 6)]) (rest := []) ⟨hx, hb, hml, hown, hts⟩ (c_y_X7_tell__P l dC dI cy a z k (lI (lI (lI (lJ (lJ (lB lZ 0 ((L.2.2.1 103))) 1 ((L.2.1 102))) 3 ((L.2.1 101))) 5 ((L.1 100))) 6 ((σ.1 4003))) 7 ((L.1 6))) σ r1 hc1 H.size) (cwV 5 hts g_y_X5_iterNames_X7_tell__P_V160 rfl rfl rfl hd_y_X7_tell__P ⟨Nat.le_of_ble_eq_true rfl, Nat.le_of_ble_eq_true rfl⟩) ⟨nb_blind, recvP ((L.2.2.1 103)) hK hP, (kb_pre hK hG hP hD)⟩ rfl rfl hl.1 rfl (lv_room (Nat.le_of_ble_eq_true rfl)) dX5_iterNames_117 ⟨(Nat.le_trans (Nat.le_add_right _ _) (Nat.le_of_eq hc)), (Nat.le_trans (Nat.le_add_right _ _) (Nat.le_of_eq hs))⟩) hA hP hD hS (fun H locs hP hD hS => ?_)
        refine lv_aload_n hx hb dX5_iterNames_120 rfl (lv_at hl 0 rfl) ?_
        obtain ⟨b2, hb2, h⟩ := oP_ex h
        refine hgq_40_2 hx hb hts in_f_X5_iterNames_X5 hown hK hP (hts _ (List.mem_cons_of_mem _ (List.mem_append_left _ (List.mem_append_left _ (List.mem_of_getElem? (i := 7) rfl))))) hb2 dX5_iterNames_121 ?_
        refine hg_P_10n b2 hx hb hts in_f_X5_iterNames_X7 hown hK hP (va_Nw.use rfl (hG.1 _ (List.mem_of_getElem? (i := 81) rfl))) dX5_iterNames_124 ?_
        refine lv_aload_n hx hb dX5_iterNames_127 rfl (lv_at hl 0 rfl) ?_
        obtain ⟨b3, hb3, h⟩ := oP_ex h
        refine hgq_40_2 hx hb hts in_f_X5_iterNames_X5 hown hK hP (hts _ (List.mem_cons_of_mem _ (List.mem_append_left _ (List.mem_append_left _ (List.mem_of_getElem? (i := 7) rfl))))) hb3 dX5_iterNames_128 ?_
        refine hg_P_11n b3 hx hb hts in_f_X5_iterNames_X7 hown hK hP (va_Nw.use rfl (hG.1 _ (List.mem_of_getElem? (i := 82) rfl))) dX5_iterNames_131 ?_
        refine lv_iconst (v := 1) hx hb dX5_iterNames_134 (by decide) ?_
        refine lv_isub hx hb dX5_iterNames_135 ?_
        refine lv_iconst (v := 1) hx hb dX5_iterNames_136 (by decide) ?_
        obtain ⟨q4, h⟩ := kr_ite1 h
        refine hs_P10 b2 hx hb hK hP hD hS q4 dX5_iterNames_137 (fun H locs hP hD hS => ?_)
        refine lv_aload_n hx hb dX5_iterNames_138 rfl (lv_at hl 0 rfl) ?_
        refine hg_40_0 hx hb hts in_f_X5_iterNames_X5 hown hK hP (hts _ (List.mem_cons_of_mem _ (List.mem_append_left _ (List.mem_append_left _ (List.mem_of_getElem? (i := 19) rfl))))) dX5_iterNames_139 ?_
        obtain ⟨r5, hc5, hle5, h9⟩ := ox_ex h
        clear h
        refine kx_v (vx_runV (As := []) (rest := []) ⟨hx, hb, hml, hown, hts⟩ (c_f_X2_advance l hl0 dC dI cy ek a k lZ (uA r1.2 (pR10 b2) ((((r1.2.1 (fP b3 11))) - 1)).toNatClampNeg (vp_nar .boolean 1)) r5 hc5 z H.size) (cwV 0 hts g_f_X5_iterNames_X2_advance_V30 rfl rfl rfl hd_f_X2_advance ⟨Nat.le_of_ble_eq_true rfl, Nat.le_of_ble_eq_true rfl⟩) ⟨nb_blindF, va_recv hK hP (ci := 2) (q0 := 37) rfl rfl, (kx_pre hK hG hE hT hA hP hD hS)⟩ rfl rfl hl.1 rfl (lv_room (Nat.le_of_ble_eq_true rfl)) dX5_iterNames_142 ⟨Nat.le_trans (Nat.add_le_add_left hle5.1 _) (Nat.le_of_eq hc), Nat.le_trans (Nat.add_le_add_left hle5.2 _) (Nat.le_of_eq hs)⟩) hK hA hzk hP hD hS (by decide) hno hlocks ?_
        rcases h9 with ⟨h00, y5, hny5, hy⟩ | ⟨h00, hy⟩
        · subst hy
          have h := hny5
          refine Or.inl ⟨h00, fun u H locs hz5 hzk hP hD hS => ?_⟩
          obtain rfl := (zk_nil hz5).symm
          replace hc := (Nat.add_assoc _ _ _).trans hc
          replace hs := (Nat.add_assoc _ _ _).trans hs
          refine lv_iload_n hx hb dX5_iterNames_145 rfl (lv_at hl 2 rfl) ?_
          refine lv_if_eq (tgt := 165) hx hb dX5_iterNames_146 (by decide) (fun c6 => ?_) (fun c6 => ?_)
          · rw [if_pos c6] at h
            exact ih.2.2.2.2.2.2.2.2.2.2.2.1 z _ _ L r5.2.1 _ h hzk hc hs H locs ls hP hD hS (lv_sub hl [0, 1, 2, 3, 4] rfl)
          · rw [if_neg c6] at h
            refine lv_aload_n hx hb dX5_iterNames_149 rfl (lv_at hl 0 rfl) ?_
            refine hg_40_0 hx hb hts in_f_X5_iterNames_X5 hown hK hP (hts _ (List.mem_cons_of_mem _ (List.mem_append_left _ (List.mem_append_left _ (List.mem_of_getElem? (i := 19) rfl))))) dX5_iterNames_150 ?_
            refine hg_37_2n hx hb hts in_f_X5_iterNames_X2 hown hK hP (va_Nw.use rfl (hG.1 _ (List.mem_of_getElem? (i := 52) rfl))) dX5_iterNames_153 ?_
            refine lv_bipush (v := 16) hx hb dX5_iterNames_156 (by decide) ?_
            refine lv_icmp_ne (tgt := 165) hx hb dX5_iterNames_158 (by decide) (fun c7 => ?_) (fun c7 => ?_)
            · rw [if_neg c7] at h
              exact ih.2.2.2.2.2.2.2.2.2.2.2.1 z _ _ L r5.2.1 _ h hzk hc hs H locs ls hP hD hS (lv_sub hl [0, 1, 2, 3, 4] rfl)
            · rw [if_pos c7] at h
              refine lv_iconst (v := 1) hx hb dX5_iterNames_161 (by decide) ?_
              refine lv_goto (tgt := 166) hx hb dX5_iterNames_162 (by decide) ?_
              exact ih.2.2.2.2.2.2.2.2.2.2.2.2.1 z _ _ (lI L 100 1) r5.2.1 _ h hzk hc hs H locs ls hP hD hS (lv_sub hl [0, 1, 2, 3, 4] rfl)
        · subst hy
          exact Or.inr ⟨h00, rfl, hc, hs⟩
      · intro z cells slots L σ r h hzk hc hs H locs ls hP hD hS hl
        rw [f_X5_iterNames] at h
        refine lv_iconst (v := 0) hx hb dX5_iterNames_165 (by decide) ?_
        exact ih.2.2.2.2.2.2.2.2.2.2.2.2.1 z _ _ (lI L 100 0) σ _ h hzk hc hs H locs ls hP hD hS (lv_sub hl [0, 1, 2, 3, 4] rfl)
      · intro z cells slots L σ r h hzk hc hs H locs ls hP hD hS hl
        rw [f_X5_iterNames] at h
        refine lv_istore (lv' := [(4, .int (L.1 100)), (0, .ref (a 40)), (1, .int (L.1 1)), (2, .int (L.1 2)), (3, .int (L.1 3)), (5, .int (L.1 5))]) hx hb dX5_iterNames_166 hl (by decide) rfl (fun ls hl => ?_)
        refine lv_iload hx hb dX5_iterNames_168 (lv_at hl 0 rfl) ?_
        refine lv_if_eq (tgt := 180) hx hb dX5_iterNames_170 (by decide) (fun c1 => ?_) (fun c1 => ?_)
        · rw [if_pos c1] at h
          exact ih.2.2.2.2.2.2.2.2.2.2.2.2.2 z _ _ (lI L 4 ((L.1 100))) σ _ h hzk hc hs H locs ls hP hD hS (lv_sub hl [1, 2, 3, 4, 0, 5] rfl)
        · rw [if_neg c1] at h
          refine lv_aload_n hx hb dX5_iterNames_173 rfl (lv_at hl 1 rfl) ?_
          refine hg_40_0 hx hb hts in_f_X5_iterNames_X5 hown hK hP (hts _ (List.mem_cons_of_mem _ (List.mem_append_left _ (List.mem_append_left _ (List.mem_of_getElem? (i := 19) rfl))))) dX5_iterNames_174 ?_
          obtain ⟨r2, hc2, hle2, h9⟩ := ox_ex h
          clear h
          refine kx_v (vx_runV (As := []) (rest := []) ⟨hx, hb, hml, hown, hts⟩ (c_f_X2_advance l hl0 dC dI cy ek a k lZ σ r2 hc2 z H.size) (cwV 0 hts g_f_X5_iterNames_X2_advance_V30 rfl rfl rfl hd_f_X2_advance ⟨Nat.le_of_ble_eq_true rfl, Nat.le_of_ble_eq_true rfl⟩) ⟨nb_blindF, va_recv hK hP (ci := 2) (q0 := 37) rfl rfl, (kx_pre hK hG hE hT hA hP hD hS)⟩ rfl rfl hl.1 rfl (lv_room (Nat.le_of_ble_eq_true rfl)) dX5_iterNames_177 ⟨Nat.le_trans (Nat.add_le_add_left hle2.1 _) (Nat.le_of_eq hc), Nat.le_trans (Nat.add_le_add_left hle2.2 _) (Nat.le_of_eq hs)⟩) hK hA hzk hP hD hS (by decide) hno hlocks ?_
          rcases h9 with ⟨h00, y2, hny2, hy⟩ | ⟨h00, hy⟩
          · subst hy
            have h := hny2
            refine Or.inl ⟨h00, fun u H locs hz2 hzk hP hD hS => ?_⟩
            obtain rfl := (zk_nil hz2).symm
            replace hc := (Nat.add_assoc _ _ _).trans hc
            replace hs := (Nat.add_assoc _ _ _).trans hs
            exact ih.2.2.2.2.2.2.2.2.2.2.2.2.2 z _ _ (lI L 4 ((L.1 100))) r2.2.1 _ h hzk hc hs H locs ls hP hD hS (lv_sub hl [1, 2, 3, 4, 0, 5] rfl)
          · subst hy
            exact Or.inr ⟨h00, rfl, hc, hs⟩
      · intro z cells slots L σ r h hzk hc hs H locs ls hP hD hS hl
        rw [f_X5_iterNames] at h
        refine lv_iinc (v := ((L.1 5)) + 1) (lv' := [(5, .int (((L.1 5)) + 1)), (0, .ref (a 40)), (1, .int (L.1 1)), (2, .int (L.1 2)), (3, .int (L.1 3)), (4, .int (L.1 4))]) hx hb dX5_iterNames_180 hl (k := 5) rfl rfl (by decide) rfl (fun ls hl => ?_)
        refine lv_goto (tgt := 14) hx hb dX5_iterNames_183 (by decide) ?_
        exact ih.2.2.1 z _ _ (lI L 5 ((((L.1 5)) + 1))) σ _ h hzk hc hs H locs ls hP hD hS (lv_sub hl [1, 2, 3, 4, 5, 0] rfl)
  exact (blk k0).1 z 0 0 L0 σ0 r0 h0 (zk_rf _ _) ((Nat.zero_add _).trans hmc) ((Nat.zero_add _).trans hms) s.heap [] ls hP hD hS hl
/-! X5_iterStore -/
def f_X5_iterStore : Nat → Nat → LV → CS → Option RS
  | 0, _, _, _ => none
  | k + 1, 0, L, σ => if ((L.1 2)) = 0 then (oP (sPp σ) (fun b2 => if ((L.1 3)) = 0 then (f_X5_iterStore k 2 (lB L 100 b2) σ) else (f_X5_iterStore k 3 (lB (lI L 100 71) 101 b2) σ))) else (f_X5_iterStore k 1 L σ)
  | k + 1, 1, L, σ => oP (sPp σ) (fun b1 => if ((L.1 3)) = 0 then (f_X5_iterStore k 4 (lB L 100 b1) σ) else (f_X5_iterStore k 5 (lB (lI L 100 72) 101 b1) σ))
  | k + 1, 2, L, σ => f_X5_iterStore k 3 (lB (lI L 100 66) 101 ((L.2.2.1 100))) σ
  | k + 1, 3, L, σ => ox (f_X7_emit__P k 0 (lI (lI (lB lZ 0 ((L.2.2.1 101))) 1 ((L.1 100))) 2 ((L.1 1))) σ) (fun r1 => f_X5_iterStore k 6 L r1.2.1)
  | k + 1, 4, L, σ => f_X5_iterStore k 5 (lB (lI L 100 67) 101 ((L.2.2.1 100))) σ
  | k + 1, 5, L, σ => ox (f_X7_emit__P k 0 (lI (lI (lB lZ 0 ((L.2.2.1 101))) 1 ((L.1 100))) 2 ((L.1 1))) σ) (fun r1 => oP (sPp r1.2.1) (fun b2 => ox (f_X7_word__P k 0 (lI (lB lZ 0 b2) 1 ((L.1 2))) r1.2.1) (fun r3 => f_X5_iterStore k 6 L r3.2.1)))
  | k + 1, 6, L, σ => some ((0, 0), σ, (0, 0))
  | _ + 1, _ + 7, _, _ => none
def o_f_X5_iterStore : List Cond := [.fieldLink RX5 93 "SetHouse$Parser" "p" "LSetHouse$Program;", .methodLink RX5 66 yX7_emit, .instanceMethod yX7_emit, .selects RX7 yX7_emit yX7_emit, .initialized RX7, .methodLink RX5 243 yX7_word, .instanceMethod yX7_word, .selects RX7 yX7_word yX7_word]
theorem o_f_X5_iterStore_good : o_f_X5_iterStore.all goodWord = true := by decide +kernel
def p_f_X5_iterStore : List Cond := o_f_X5_iterStore ++ ((.code yX7_emit cX7_emit 3 (some .int) :: p_f_X7_emit__P) ++ ((.code yX7_word cX7_word 2 (some .int) :: p_f_X7_word__P) ++ []))
theorem p_f_X5_iterStore_good : p_f_X5_iterStore.all goodWord = true := nb_all2 o_f_X5_iterStore_good (nb_all2 (nb_allc (by decide +kernel) p_f_X7_emit__P_good) (nb_all2 (nb_allc (by decide +kernel) p_f_X7_word__P_good) rfl))
def w_f_X5_iterStore : List Cond := .code yX5_iterStore cX5_iterStore 4 none :: (p_f_X5_iterStore ++ fC)
theorem w_f_X5_iterStore_good : w_f_X5_iterStore.all goodWord = true := nb_allc (by decide +kernel) (nb_all2 p_f_X5_iterStore_good fC_good)
theorem in_f_X5_iterStore_X5 : ∀ w ∈ wsX50, w ∈ w_f_X5_iterStore := fun _ h => List.mem_cons_of_mem _ (List.mem_append_right _ (List.mem_append_right _ (List.mem_append_right _ (List.mem_append_right _ (List.mem_append_right _ (List.mem_append_left _ h))))))
theorem hd_f_X5_iterStore : yX5_iterStore.cls = RX5 ∧ yX5_iterStore.cls ≠ "java/lang/invoke/MethodHandle" ∧ yX5_iterStore.cls ≠ "java/lang/invoke/VarHandle" ∧ (parseMethodDescriptor yX5_iterStore.desc).map (fun d => d.parameters.length) = some 3 := by decide +kernel
theorem gg_f_X5_iterStore_X7_emit__P : GoodIn w_f_X5_iterStore w_f_X7_emit__P := goodIn_sub (fun w h => (List.mem_cons.mp h).elim (fun e => (List.mem_cons_of_mem _ (List.mem_append_left _ (List.mem_append_right _ (List.mem_append_left _ (List.mem_cons.mpr (Or.inl e))))))) (fun h => (List.mem_append.mp h).elim (fun h => (List.mem_cons_of_mem _ (List.mem_append_left _ (List.mem_append_right _ (List.mem_append_left _ (List.mem_cons_of_mem _ h)))))) (fun h => List.mem_cons_of_mem _ (List.mem_append_right _ h)))) w_f_X7_emit__P_good
theorem g_f_X5_iterStore_X7_emit__P_V66 : GoodIn w_f_X5_iterStore (wsV RX5 66 RX7 yX7_emit w_f_X7_emit__P) := goodIn_app (nb_g4 (List.mem_cons_of_mem _ (List.mem_append_left _ (List.mem_append_left _ (List.mem_of_getElem? (i := 1) rfl)))) (List.mem_cons_of_mem _ (List.mem_append_left _ (List.mem_append_left _ (List.mem_of_getElem? (i := 2) rfl)))) (List.mem_cons_of_mem _ (List.mem_append_left _ (List.mem_append_left _ (List.mem_of_getElem? (i := 3) rfl)))) (List.mem_cons_of_mem _ (List.mem_append_left _ (List.mem_append_left _ (List.mem_of_getElem? (i := 4) rfl)))) (by decide +kernel)) gg_f_X5_iterStore_X7_emit__P
theorem gg_f_X5_iterStore_X7_word__P : GoodIn w_f_X5_iterStore w_f_X7_word__P := goodIn_sub (fun w h => (List.mem_cons.mp h).elim (fun e => (List.mem_cons_of_mem _ (List.mem_append_left _ (List.mem_append_right _ (List.mem_append_right _ (List.mem_append_left _ (List.mem_cons.mpr (Or.inl e)))))))) (fun h => (List.mem_append.mp h).elim (fun h => (List.mem_cons_of_mem _ (List.mem_append_left _ (List.mem_append_right _ (List.mem_append_right _ (List.mem_append_left _ (List.mem_cons_of_mem _ h))))))) (fun h => List.mem_cons_of_mem _ (List.mem_append_right _ h)))) w_f_X7_word__P_good
theorem g_f_X5_iterStore_X7_word__P_V243 : GoodIn w_f_X5_iterStore (wsV RX5 243 RX7 yX7_word w_f_X7_word__P) := goodIn_app (nb_g4 (List.mem_cons_of_mem _ (List.mem_append_left _ (List.mem_append_left _ (List.mem_of_getElem? (i := 5) rfl)))) (List.mem_cons_of_mem _ (List.mem_append_left _ (List.mem_append_left _ (List.mem_of_getElem? (i := 6) rfl)))) (List.mem_cons_of_mem _ (List.mem_append_left _ (List.mem_append_left _ (List.mem_of_getElem? (i := 7) rfl)))) (List.mem_cons_of_mem _ (List.mem_append_left _ (List.mem_append_left _ (List.mem_of_getElem? (i := 4) rfl)))) (by decide +kernel)) gg_f_X5_iterStore_X7_word__P
set_option maxHeartbeats 40000000 in
set_option maxRecDepth 100000 in
theorem c_f_X5_iterStore (l : Launch) (hl0 : l.stackTraces = false) (dC : Nat → ClassId) (dI : Nat → Nat → Nat) (cy : Nat → ClassId) (ek a : Nat → Nat) (k0 : Nat) (L0 : LV) (σ0 : CS) (r0 : RS) (h0 : f_X5_iterStore k0 0 L0 σ0 = some r0) (z : Nat → Nat) (sz : Nat) : vx_Met l yX5_iterStore w_f_X5_iterStore ({ frames := 8, cells := r0.2.2.1, slots := r0.2.2.2, locals := 143 }) (va_Pc [.ref (a 40), .int (L0.1 1), .int (L0.1 2), .int (L0.1 3)] (nInF (dC, dI) cy ek sz (vC cy a z σ0))) (xV dC dI cy a (va_A (vC cy a z σ0) sz) [43, 51] z r0) (xX dC dI cy a (va_A (vC cy a z σ0) sz) [43, 51] z r0) r0.2.2.1 r0.2.2.2 (va_A (vC cy a z σ0) sz) := by
  refine vx_ofW (cc := cX5_iterStore) (maxL := 4) (ret := none) (by decide) rfl ?_
  intro p e s m args below meth c s₁ B hml hno hv
  obtain ⟨rfl, ⟨⟨hsz, hP, hK, hD0, hG⟩, hE⟩, hT⟩ := hv
  have hx := B.exec
  have hb := B.bytes
  have hr := B.returns
  have hts := atoms_spec (ws := w_f_X5_iterStore) B.pre
  have hown : s.vm.findClass RX5 = some m.cls := findClass_of_methodNamed B.named
  have hlocks := B.notSynchronized
  subst hsz
  have hD := hD0.self (sz := s.heap.size)
  generalize hAe : va_A (vC cy a z σ0) s.heap.size = A at hD hE hT ⊢
  have hA : ∀ q : Nat, s.heap.size ≤ q → A q := fun q h => by rw [← hAe]; exact Or.inr h
  have hS : va_S A s.heap s.heap [] := va_S.rf
  have hl := lv_entry ([.ref (a 40), .int (L0.1 1), .int (L0.1 2), .int (L0.1 3)]) (n := 4) (Nat.le_of_ble_eq_true rfl)
  rw [lg_entry_eq]
  generalize (lg_sl ([.ref (a 40), .int (L0.1 1), .int (L0.1 2), .int (L0.1 3)]) ++ List.replicate (4 - (lg_sl ([.ref (a 40), .int (L0.1 1), .int (L0.1 2), .int (L0.1 3)])).length) Slot.unset).toArray = ls at hl ⊢
  have hl : lv_has ls 4 [(0, .ref (a 40)), (1, .int (L0.1 1)), (2, .int (L0.1 2)), (3, .int (L0.1 3))] := hl
  generalize hmc : r0.2.2.1 = mc
  generalize hms : r0.2.2.2 = ms
  have blk : ∀ k : Nat, (bX p l e (headSpec w_f_X5_iterStore ({ frames := 8, cells := mc, slots := ms, locals := 143 })).room s m #[.ref (a 40), .int (L0.1 1), .int (L0.1 2), .int (L0.1 3)] below meth c dC dI cy a A (fun r => vx_MQ below (xV dC dI cy a A [43, 51] z r) (xX dC dI cy a A [43, 51] z r) #[.ref (a 40), .int (L0.1 1), .int (L0.1 2), .int (L0.1 3)] s mc ms A) [43, 51] z mc ms 4 (f_X5_iterStore k 0) (fun z L => [(0, .ref (a 40)), (1, .int (L.1 1)), (2, .int (L.1 2)), (3, .int (L.1 3))]) 0 (fun z L => [])) ∧ (bX p l e (headSpec w_f_X5_iterStore ({ frames := 8, cells := mc, slots := ms, locals := 143 })).room s m #[.ref (a 40), .int (L0.1 1), .int (L0.1 2), .int (L0.1 3)] below meth c dC dI cy a A (fun r => vx_MQ below (xV dC dI cy a A [43, 51] z r) (xX dC dI cy a A [43, 51] z r) #[.ref (a 40), .int (L0.1 1), .int (L0.1 2), .int (L0.1 3)] s mc ms A) [43, 51] z mc ms 4 (f_X5_iterStore k 1) (fun z L => [(0, .ref (a 40)), (1, .int (L.1 1)), (2, .int (L.1 2)), (3, .int (L.1 3))]) 27 (fun z L => [])) ∧ (bX p l e (headSpec w_f_X5_iterStore ({ frames := 8, cells := mc, slots := ms, locals := 143 })).room s m #[.ref (a 40), .int (L0.1 1), .int (L0.1 2), .int (L0.1 3)] below meth c dC dI cy a A (fun r => vx_MQ below (xV dC dI cy a A [43, 51] z r) (xX dC dI cy a A [43, 51] z r) #[.ref (a 40), .int (L0.1 1), .int (L0.1 2), .int (L0.1 3)] s mc ms A) [43, 51] z mc ms 4 (f_X5_iterStore k 2) (fun z L => [(1, .int (L.1 1))]) 17 (fun z L => [.ref (a (pA (L.2.2.1 100)))])) ∧ (bX p l e (headSpec w_f_X5_iterStore ({ frames := 8, cells := mc, slots := ms, locals := 143 })).room s m #[.ref (a 40), .int (L0.1 1), .int (L0.1 2), .int (L0.1 3)] below meth c dC dI cy a A (fun r => vx_MQ below (xV dC dI cy a A [43, 51] z r) (xX dC dI cy a A [43, 51] z r) #[.ref (a 40), .int (L0.1 1), .int (L0.1 2), .int (L0.1 3)] s mc ms A) [43, 51] z mc ms 4 (f_X5_iterStore k 3) (fun z L => [(1, .int (L.1 1))]) 19 (fun z L => [.int (L.1 100), .ref (a (pA (L.2.2.1 101)))])) ∧ (bX p l e (headSpec w_f_X5_iterStore ({ frames := 8, cells := mc, slots := ms, locals := 143 })).room s m #[.ref (a 40), .int (L0.1 1), .int (L0.1 2), .int (L0.1 3)] below meth c dC dI cy a A (fun r => vx_MQ below (xV dC dI cy a A [43, 51] z r) (xX dC dI cy a A [43, 51] z r) #[.ref (a 40), .int (L0.1 1), .int (L0.1 2), .int (L0.1 3)] s mc ms A) [43, 51] z mc ms 4 (f_X5_iterStore k 4) (fun z L => [(0, .ref (a 40)), (1, .int (L.1 1)), (2, .int (L.1 2))]) 40 (fun z L => [.ref (a (pA (L.2.2.1 100)))])) ∧ (bX p l e (headSpec w_f_X5_iterStore ({ frames := 8, cells := mc, slots := ms, locals := 143 })).room s m #[.ref (a 40), .int (L0.1 1), .int (L0.1 2), .int (L0.1 3)] below meth c dC dI cy a A (fun r => vx_MQ below (xV dC dI cy a A [43, 51] z r) (xX dC dI cy a A [43, 51] z r) #[.ref (a 40), .int (L0.1 1), .int (L0.1 2), .int (L0.1 3)] s mc ms A) [43, 51] z mc ms 4 (f_X5_iterStore k 5) (fun z L => [(0, .ref (a 40)), (1, .int (L.1 1)), (2, .int (L.1 2))]) 42 (fun z L => [.int (L.1 100), .ref (a (pA (L.2.2.1 101)))])) ∧ (bX p l e (headSpec w_f_X5_iterStore ({ frames := 8, cells := mc, slots := ms, locals := 143 })).room s m #[.ref (a 40), .int (L0.1 1), .int (L0.1 2), .int (L0.1 3)] below meth c dC dI cy a A (fun r => vx_MQ below (xV dC dI cy a A [43, 51] z r) (xX dC dI cy a A [43, 51] z r) #[.ref (a 40), .int (L0.1 1), .int (L0.1 2), .int (L0.1 3)] s mc ms A) [43, 51] z mc ms 4 (f_X5_iterStore k 6) (fun z L => []) 56 (fun z L => [])) := by
    intro k
    induction k with
    | zero => exact ⟨fun z c1 c2 L σ r h => (by cases h), fun z c1 c2 L σ r h => (by cases h), fun z c1 c2 L σ r h => (by cases h), fun z c1 c2 L σ r h => (by cases h), fun z c1 c2 L σ r h => (by cases h), fun z c1 c2 L σ r h => (by cases h), fun z c1 c2 L σ r h => (by cases h)⟩
    | succ k ih =>
      refine ⟨?_, ?_, ?_, ?_, ?_, ?_, ?_⟩
      · intro z cells slots L σ r h hzk hc hs H locs ls hP hD hS hl
        rw [f_X5_iterStore] at h
        refine lv_iload_n hx hb dX5_iterStore_0 rfl (lv_at hl 2 rfl) ?_
        refine lv_if_ne (tgt := 27) hx hb dX5_iterStore_1 (by decide) (fun c1 => ?_) (fun c1 => ?_)
        · rw [if_neg c1] at h
          exact ih.2.1 z _ _ L σ _ h hzk hc hs H locs ls hP hD hS (lv_sub hl [0, 1, 2, 3] rfl)
        · rw [if_pos c1] at h
          refine lv_aload_n hx hb dX5_iterStore_4 rfl (lv_at hl 0 rfl) ?_
          obtain ⟨b2, hb2, h⟩ := oP_ex h
          refine hgq_40_2 hx hb hts in_f_X5_iterStore_X5 hown hK hP (hts _ (List.mem_cons_of_mem _ (List.mem_append_left _ (List.mem_append_left _ (List.mem_of_getElem? (i := 0) rfl))))) hb2 dX5_iterStore_5 ?_
          refine lv_iload_n hx hb dX5_iterStore_8 rfl (lv_at hl 3 rfl) ?_
          refine lv_if_eq (tgt := 17) hx hb dX5_iterStore_9 (by decide) (fun c3 => ?_) (fun c3 => ?_)
          · rw [if_pos c3] at h
            exact ih.2.2.1 z _ _ (lB L 100 b2) σ _ h hzk hc hs H locs ls hP hD hS (lv_sub hl [1] rfl)
          · rw [if_neg c3] at h
            refine lv_bipush (v := 71) hx hb dX5_iterStore_12 (by decide) ?_
            refine lv_goto (tgt := 19) hx hb dX5_iterStore_14 (by decide) ?_
            exact ih.2.2.2.1 z _ _ (lB (lI L 100 71) 101 b2) σ _ h hzk hc hs H locs ls hP hD hS (lv_sub hl [1] rfl)
      · intro z cells slots L σ r h hzk hc hs H locs ls hP hD hS hl
        rw [f_X5_iterStore] at h
        refine lv_aload_n hx hb dX5_iterStore_27 rfl (lv_at hl 0 rfl) ?_
        obtain ⟨b1, hb1, h⟩ := oP_ex h
        refine hgq_40_2 hx hb hts in_f_X5_iterStore_X5 hown hK hP (hts _ (List.mem_cons_of_mem _ (List.mem_append_left _ (List.mem_append_left _ (List.mem_of_getElem? (i := 0) rfl))))) hb1 dX5_iterStore_28 ?_
        refine lv_iload_n hx hb dX5_iterStore_31 rfl (lv_at hl 3 rfl) ?_
        refine lv_if_eq (tgt := 40) hx hb dX5_iterStore_32 (by decide) (fun c2 => ?_) (fun c2 => ?_)
        · rw [if_pos c2] at h
          exact ih.2.2.2.2.1 z _ _ (lB L 100 b1) σ _ h hzk hc hs H locs ls hP hD hS (lv_sub hl [0, 1, 2] rfl)
        · rw [if_neg c2] at h
          refine lv_bipush (v := 72) hx hb dX5_iterStore_35 (by decide) ?_
          refine lv_goto (tgt := 42) hx hb dX5_iterStore_37 (by decide) ?_
          exact ih.2.2.2.2.2.1 z _ _ (lB (lI L 100 72) 101 b1) σ _ h hzk hc hs H locs ls hP hD hS (lv_sub hl [0, 1, 2] rfl)
      · intro z cells slots L σ r h hzk hc hs H locs ls hP hD hS hl
        rw [f_X5_iterStore] at h
        refine lv_bipush (v := 66) hx hb dX5_iterStore_17 (by decide) ?_
        exact ih.2.2.2.1 z _ _ (lB (lI L 100 66) 101 ((L.2.2.1 100))) σ _ h hzk hc hs H locs ls hP hD hS (lv_sub hl [0] rfl)
      · intro z cells slots L σ r h hzk hc hs H locs ls hP hD hS hl
        rw [f_X5_iterStore] at h
        refine lv_iload_n hx hb dX5_iterStore_19 rfl (lv_at hl 0 rfl) ?_
        obtain ⟨r1, hc1, hle1, h9⟩ := ox_ex h
        clear h
        refine kx_i (vx_runV (As := [.int (L.1 100), .int (L.1 1)]) (rest := []) ⟨hx, hb, hml, hown, hts⟩ (c_f_X7_emit__P l hl0 dC dI cy ek a k (lI (lI (lB lZ 0 ((L.2.2.1 101))) 1 ((L.1 100))) 2 ((L.1 1))) σ r1 hc1 z H.size) (cwV 2 hts g_f_X5_iterStore_X7_emit__P_V66 rfl rfl rfl hd_f_X7_emit__P ⟨Nat.le_of_ble_eq_true rfl, Nat.le_of_ble_eq_true rfl⟩) ⟨nb_blindF, recvP ((L.2.2.1 101)) hK hP, (kx_pre hK hG hE hT hA hP hD hS)⟩ rfl rfl hl.1 rfl (lv_room (Nat.le_of_ble_eq_true rfl)) dX5_iterStore_20 ⟨Nat.le_trans (Nat.add_le_add_left hle1.1 _) (Nat.le_of_eq hc), Nat.le_trans (Nat.add_le_add_left hle1.2 _) (Nat.le_of_eq hs)⟩) hK hA hzk hP hD hS (by decide) hno hlocks ?_
        rcases h9 with ⟨h00, y1, hny1, hy⟩ | ⟨h00, hy⟩
        · subst hy
          have h := hny1
          refine Or.inl ⟨h00, fun z H locs hz1 hzk hP hD hS => ?_⟩
          replace hc := (Nat.add_assoc _ _ _).trans hc
          replace hs := (Nat.add_assoc _ _ _).trans hs
          refine lv_pop hx hb dX5_iterStore_23 rfl ?_
          refine lv_goto (tgt := 56) hx hb dX5_iterStore_24 (by decide) ?_
          exact ih.2.2.2.2.2.2 z _ _ L r1.2.1 _ h hzk hc hs H locs ls hP hD hS (lv_sub hl [] rfl)
        · subst hy
          exact Or.inr ⟨h00, rfl, hc, hs⟩
      · intro z cells slots L σ r h hzk hc hs H locs ls hP hD hS hl
        rw [f_X5_iterStore] at h
        refine lv_bipush (v := 67) hx hb dX5_iterStore_40 (by decide) ?_
        exact ih.2.2.2.2.2.1 z _ _ (lB (lI L 100 67) 101 ((L.2.2.1 100))) σ _ h hzk hc hs H locs ls hP hD hS (lv_sub hl [0, 1, 2] rfl)
      · intro z cells slots L σ r h hzk hc hs H locs ls hP hD hS hl
        rw [f_X5_iterStore] at h
        refine lv_iload_n hx hb dX5_iterStore_42 rfl (lv_at hl 1 rfl) ?_
        obtain ⟨r1, hc1, hle1, h9⟩ := ox_ex h
        clear h
        refine kx_i (vx_runV (As := [.int (L.1 100), .int (L.1 1)]) (rest := []) ⟨hx, hb, hml, hown, hts⟩ (c_f_X7_emit__P l hl0 dC dI cy ek a k (lI (lI (lB lZ 0 ((L.2.2.1 101))) 1 ((L.1 100))) 2 ((L.1 1))) σ r1 hc1 z H.size) (cwV 2 hts g_f_X5_iterStore_X7_emit__P_V66 rfl rfl rfl hd_f_X7_emit__P ⟨Nat.le_of_ble_eq_true rfl, Nat.le_of_ble_eq_true rfl⟩) ⟨nb_blindF, recvP ((L.2.2.1 101)) hK hP, (kx_pre hK hG hE hT hA hP hD hS)⟩ rfl rfl hl.1 rfl (lv_room (Nat.le_of_ble_eq_true rfl)) dX5_iterStore_43 ⟨Nat.le_trans (Nat.add_le_add_left hle1.1 _) (Nat.le_of_eq hc), Nat.le_trans (Nat.add_le_add_left hle1.2 _) (Nat.le_of_eq hs)⟩) hK hA hzk hP hD hS (by decide) hno hlocks ?_
        rcases h9 with ⟨h00, y1, hny1, hy⟩ | ⟨h00, hy⟩
        · subst hy
          have h := hny1
          refine Or.inl ⟨h00, fun z H locs hz1 hzk hP hD hS => ?_⟩
          replace hc := (Nat.add_assoc _ _ _).trans hc
          replace hs := (Nat.add_assoc _ _ _).trans hs
          refine lv_pop hx hb dX5_iterStore_46 rfl ?_
          refine lv_aload_n hx hb dX5_iterStore_47 rfl (lv_at hl 0 rfl) ?_
          obtain ⟨b2, hb2, h⟩ := oP_ex h
          refine hgq_40_2 hx hb hts in_f_X5_iterStore_X5 hown hK hP (hts _ (List.mem_cons_of_mem _ (List.mem_append_left _ (List.mem_append_left _ (List.mem_of_getElem? (i := 0) rfl))))) hb2 dX5_iterStore_48 ?_
          refine lv_iload_n hx hb dX5_iterStore_51 rfl (lv_at hl 2 rfl) ?_
          obtain ⟨r3, hc3, hle3, h9⟩ := ox_ex h
          clear h
          refine kx_i (r := y1) (vx_runV (As := [.int (L.1 2)]) (rest := []) ⟨hx, hb, hml, hown, hts⟩ (c_f_X7_word__P l hl0 dC dI cy ek a k (lI (lB lZ 0 b2) 1 ((L.1 2))) r1.2.1 r3 hc3 z H.size) (cwV 1 hts g_f_X5_iterStore_X7_word__P_V243 rfl rfl rfl hd_f_X7_word__P ⟨Nat.le_of_ble_eq_true rfl, Nat.le_of_ble_eq_true rfl⟩) ⟨nb_blindF, recvP b2 hK hP, (kx_pre hK hG hE hT hA hP hD hS)⟩ rfl rfl hl.1 rfl (lv_room (Nat.le_of_ble_eq_true rfl)) dX5_iterStore_52 ⟨Nat.le_trans (Nat.add_le_add_left hle3.1 _) (Nat.le_of_eq hc), Nat.le_trans (Nat.add_le_add_left hle3.2 _) (Nat.le_of_eq hs)⟩) hK hA hzk hP hD hS (by decide) hno hlocks ?_
          rcases h9 with ⟨h00, y3, hny3, hy⟩ | ⟨h00, hy⟩
          · subst hy
            have h := hny3
            refine Or.inl ⟨h00, fun z H locs hz3 hzk hP hD hS => ?_⟩
            replace hc := (Nat.add_assoc _ _ _).trans hc
            replace hs := (Nat.add_assoc _ _ _).trans hs
            refine lv_pop hx hb dX5_iterStore_55 rfl ?_
            exact ih.2.2.2.2.2.2 z _ _ L r3.2.1 _ h hzk hc hs H locs ls hP hD hS (lv_sub hl [] rfl)
          · subst hy
            exact Or.inr ⟨h00, rfl, hc, hs⟩
        · subst hy
          exact Or.inr ⟨h00, rfl, hc, hs⟩
      · intro z cells slots L σ r h hzk hc hs H locs ls hP hD hS hl
        rw [f_X5_iterStore] at h
        obtain rfl := Option.some.inj h
        subst hc
        subst hs
        exact xr_v hx hb hr hK hzk hP hD hS hlocks dX5_iterStore_56
  exact (blk k0).1 z 0 0 L0 σ0 r0 h0 (zk_rf _ _) ((Nat.zero_add _).trans hmc) ((Nat.zero_add _).trans hms) s.heap [] ls hP hD hS hl
/-! X5_mark -/
def f_X5_mark : Nat → Nat → LV → CS → Option RS
  | 0, _, _, _ => none
  | k + 1, 0, L, σ => ox (f_X5_widenMarks k 0 (lI lZ 1 1) σ) (fun r1 => if ¬ (((r1.2.1.1 4011)) < 0 ∨ (sN r1.2.1 41) ≤ ((r1.2.1.1 4011)).toNatClampNeg) then (some ((0, ((((uI (uA r1.2.1 41 ((r1.2.1.1 4011)).toNatClampNeg ((L.1 1))) 4011 (((((uA r1.2.1 41 ((r1.2.1.1 4011)).toNatClampNeg ((L.1 1))).1 4011)) + 1))).1 4011)) - 1)), (uI (uA r1.2.1 41 ((r1.2.1.1 4011)).toNatClampNeg ((L.1 1))) 4011 (((((uA r1.2.1 41 ((r1.2.1.1 4011)).toNatClampNeg ((L.1 1))).1 4011)) + 1))), (0, 0))) else none)
  | _ + 1, _ + 1, _, _ => none
def o_f_X5_mark : List Cond := [.methodLink RX5 129 yX5_widenMarks, .instanceMethod yX5_widenMarks, .selects RX5 yX5_widenMarks yX5_widenMarks, .initialized RX5, .fieldLink RX5 9 "SetHouse$Parser" "marks" "[I", .fieldLink RX5 112 "SetHouse$Parser" "marked" "I"]
theorem o_f_X5_mark_good : o_f_X5_mark.all goodWord = true := by decide +kernel
def p_f_X5_mark : List Cond := o_f_X5_mark ++ ((.code yX5_widenMarks cX5_widenMarks 2 none :: p_f_X5_widenMarks) ++ [])
theorem p_f_X5_mark_good : p_f_X5_mark.all goodWord = true := nb_all2 o_f_X5_mark_good (nb_all2 (nb_allc (by decide +kernel) p_f_X5_widenMarks_good) rfl)
def w_f_X5_mark : List Cond := .code yX5_mark cX5_mark 2 (some .int) :: (p_f_X5_mark ++ fC)
theorem w_f_X5_mark_good : w_f_X5_mark.all goodWord = true := nb_allc (by decide +kernel) (nb_all2 p_f_X5_mark_good fC_good)
theorem in_f_X5_mark_X5 : ∀ w ∈ wsX50, w ∈ w_f_X5_mark := fun _ h => List.mem_cons_of_mem _ (List.mem_append_right _ (List.mem_append_right _ (List.mem_append_right _ (List.mem_append_right _ (List.mem_append_right _ (List.mem_append_left _ h))))))
theorem hd_f_X5_mark : yX5_mark.cls = RX5 ∧ yX5_mark.cls ≠ "java/lang/invoke/MethodHandle" ∧ yX5_mark.cls ≠ "java/lang/invoke/VarHandle" ∧ (parseMethodDescriptor yX5_mark.desc).map (fun d => d.parameters.length) = some 1 := by decide +kernel
theorem gg_f_X5_mark_X5_widenMarks : GoodIn w_f_X5_mark w_f_X5_widenMarks := goodIn_sub (fun w h => (List.mem_cons.mp h).elim (fun e => (List.mem_cons_of_mem _ (List.mem_append_left _ (List.mem_append_right _ (List.mem_append_left _ (List.mem_cons.mpr (Or.inl e))))))) (fun h => (List.mem_append.mp h).elim (fun h => (List.mem_cons_of_mem _ (List.mem_append_left _ (List.mem_append_right _ (List.mem_append_left _ (List.mem_cons_of_mem _ h)))))) (fun h => List.mem_cons_of_mem _ (List.mem_append_right _ h)))) w_f_X5_widenMarks_good
theorem g_f_X5_mark_X5_widenMarks_V129 : GoodIn w_f_X5_mark (wsV RX5 129 RX5 yX5_widenMarks w_f_X5_widenMarks) := goodIn_app (nb_g4 (List.mem_cons_of_mem _ (List.mem_append_left _ (List.mem_append_left _ (List.mem_of_getElem? (i := 0) rfl)))) (List.mem_cons_of_mem _ (List.mem_append_left _ (List.mem_append_left _ (List.mem_of_getElem? (i := 1) rfl)))) (List.mem_cons_of_mem _ (List.mem_append_left _ (List.mem_append_left _ (List.mem_of_getElem? (i := 2) rfl)))) (List.mem_cons_of_mem _ (List.mem_append_left _ (List.mem_append_left _ (List.mem_of_getElem? (i := 3) rfl)))) (by decide +kernel)) gg_f_X5_mark_X5_widenMarks
set_option maxHeartbeats 40000000 in
set_option maxRecDepth 100000 in
theorem c_f_X5_mark (l : Launch) (hl0 : l.stackTraces = false) (dC : Nat → ClassId) (dI : Nat → Nat → Nat) (cy : Nat → ClassId) (ek a : Nat → Nat) (k0 : Nat) (L0 : LV) (σ0 : CS) (r0 : RS) (h0 : f_X5_mark k0 0 L0 σ0 = some r0) (z : Nat → Nat) (sz : Nat) : vx_Met l yX5_mark w_f_X5_mark ({ frames := 7, cells := r0.2.2.1, slots := r0.2.2.2, locals := 121 }) (va_Pc [.ref (a 40), .int (L0.1 1)] (nInF (dC, dI) cy ek sz (vC cy a z σ0))) (xI dC dI cy a (va_A (vC cy a z σ0) sz) [41] z r0) (xX dC dI cy a (va_A (vC cy a z σ0) sz) [41] z r0) r0.2.2.1 r0.2.2.2 (va_A (vC cy a z σ0) sz) := by
  refine vx_ofW (cc := cX5_mark) (maxL := 2) (ret := (some .int)) (by decide) rfl ?_
  intro p e s m args below meth c s₁ B hml hno hv
  obtain ⟨rfl, ⟨⟨hsz, hP, hK, hD0, hG⟩, hE⟩, hT⟩ := hv
  have hx := B.exec
  have hb := B.bytes
  have hr := B.returns
  have hts := atoms_spec (ws := w_f_X5_mark) B.pre
  have hown : s.vm.findClass RX5 = some m.cls := findClass_of_methodNamed B.named
  have hlocks := B.notSynchronized
  subst hsz
  have hD := hD0.self (sz := s.heap.size)
  generalize hAe : va_A (vC cy a z σ0) s.heap.size = A at hD hE hT ⊢
  have hA : ∀ q : Nat, s.heap.size ≤ q → A q := fun q h => by rw [← hAe]; exact Or.inr h
  have hS : va_S A s.heap s.heap [] := va_S.rf
  have hl := lv_entry ([.ref (a 40), .int (L0.1 1)]) (n := 2) (Nat.le_of_ble_eq_true rfl)
  rw [lg_entry_eq]
  generalize (lg_sl ([.ref (a 40), .int (L0.1 1)]) ++ List.replicate (2 - (lg_sl ([.ref (a 40), .int (L0.1 1)])).length) Slot.unset).toArray = ls at hl ⊢
  have hl : lv_has ls 2 [(0, .ref (a 40)), (1, .int (L0.1 1))] := hl
  generalize hmc : r0.2.2.1 = mc
  generalize hms : r0.2.2.2 = ms
  have blk : ∀ k : Nat, (bX p l e (headSpec w_f_X5_mark ({ frames := 7, cells := mc, slots := ms, locals := 121 })).room s m #[.ref (a 40), .int (L0.1 1)] below meth c dC dI cy a A (fun r => vx_MQ below (xI dC dI cy a A [41] z r) (xX dC dI cy a A [41] z r) #[.ref (a 40), .int (L0.1 1)] s mc ms A) [41] z mc ms 2 (f_X5_mark k 0) (fun z L => [(0, .ref (a 40)), (1, .int (L.1 1))]) 0 (fun z L => [])) := by
    intro k
    induction k with
    | zero => exact fun z c1 c2 L σ r h => (by cases h)
    | succ k ih =>
      skip
      · intro z cells slots L σ r h hzk hc hs H locs ls hP hD hS hl
        rw [f_X5_mark] at h
        refine lv_aload_n hx hb dX5_mark_0 rfl (lv_at hl 0 rfl) ?_
        refine lv_iconst (v := 1) hx hb dX5_mark_1 (by decide) ?_
        obtain ⟨r1, hc1, hle1, h9⟩ := ox_ex h
        clear h
        refine kx_v (vx_runV (As := [.int 1]) (rest := []) ⟨hx, hb, hml, hown, hts⟩ (c_f_X5_widenMarks l hl0 dC dI cy ek a k (lI lZ 1 1) σ r1 hc1 z H.size) (cwV 1 hts g_f_X5_mark_X5_widenMarks_V129 rfl rfl rfl hd_f_X5_widenMarks ⟨Nat.le_of_ble_eq_true rfl, Nat.le_of_ble_eq_true rfl⟩) ⟨nb_blindF, va_recv hK hP (ci := 4) (q0 := 40) rfl rfl, (kx_pre hK hG hE hT hA hP hD hS)⟩ rfl rfl hl.1 rfl (lv_room (Nat.le_of_ble_eq_true rfl)) dX5_mark_2 ⟨Nat.le_trans (Nat.add_le_add_left hle1.1 _) (Nat.le_of_eq hc), Nat.le_trans (Nat.add_le_add_left hle1.2 _) (Nat.le_of_eq hs)⟩) hK hA hzk hP hD hS (by decide) hno hlocks ?_
        rcases h9 with ⟨h00, y1, hny1, hy⟩ | ⟨h00, hy⟩
        · subst hy
          have h := hny1
          refine Or.inl ⟨h00, fun z H locs hz1 hzk hP hD hS => ?_⟩
          replace hc := (Nat.add_assoc _ _ _).trans hc
          replace hs := (Nat.add_assoc _ _ _).trans hs
          refine lv_aload_n hx hb dX5_mark_5 rfl (lv_at hl 0 rfl) ?_
          refine hg_40_10 hx hb hts in_f_X5_mark_X5 hown hK hP (hts _ (List.mem_cons_of_mem _ (List.mem_append_left _ (List.mem_append_left _ (List.mem_of_getElem? (i := 4) rfl))))) dX5_mark_6 ?_
          refine lv_aload_n hx hb dX5_mark_9 rfl (lv_at hl 0 rfl) ?_
          refine hg_40_11 hx hb hts in_f_X5_mark_X5 hown hK hP (hts _ (List.mem_cons_of_mem _ (List.mem_append_left _ (List.mem_append_left _ (List.mem_of_getElem? (i := 5) rfl))))) dX5_mark_10 ?_
          refine lv_iload_n hx hb dX5_mark_13 rfl (lv_at hl 1 rfl) ?_
          obtain ⟨q2, h⟩ := kr_ite1 h
          refine hs_41 hx hb hK hP hD hS q2 dX5_mark_14 (fun H locs hP hD hS => ?_)
          refine lv_aload_n hx hb dX5_mark_15 rfl (lv_at hl 0 rfl) ?_
          refine lv_dup hx hb dX5_mark_16 rfl ?_
          refine hg_40_11 hx hb hts in_f_X5_mark_X5 hown hK hP (hts _ (List.mem_cons_of_mem _ (List.mem_append_left _ (List.mem_append_left _ (List.mem_of_getElem? (i := 5) rfl))))) dX5_mark_17 ?_
          refine lv_iconst (v := 1) hx hb dX5_mark_20 (by decide) ?_
          refine lv_iadd hx hb dX5_mark_21 ?_
          refine hp_40_11 hx hb hts in_f_X5_mark_X5 hown hK hP hD hS (hts _ (List.mem_cons_of_mem _ (List.mem_append_left _ (List.mem_append_left _ (List.mem_of_getElem? (i := 5) rfl))))) dX5_mark_22 (fun H locs hP hD hS => ?_)
          refine lv_aload_n hx hb dX5_mark_25 rfl (lv_at hl 0 rfl) ?_
          refine hg_40_11 hx hb hts in_f_X5_mark_X5 hown hK hP (hts _ (List.mem_cons_of_mem _ (List.mem_append_left _ (List.mem_append_left _ (List.mem_of_getElem? (i := 5) rfl))))) dX5_mark_26 ?_
          refine lv_iconst (v := 1) hx hb dX5_mark_29 (by decide) ?_
          refine lv_isub hx hb dX5_mark_30 ?_
          obtain rfl := Option.some.inj h
          subst hc
          subst hs
          exact xr_i hx hb hr hK hzk hP hD hS hlocks dX5_mark_31
        · subst hy
          exact Or.inr ⟨h00, rfl, hc, hs⟩
  exact (blk k0) z 0 0 L0 σ0 r0 h0 (zk_rf _ _) ((Nat.zero_add _).trans hmc) ((Nat.zero_add _).trans hms) s.heap [] ls hP hD hS hl
/-! X5_clear -/
def f_X5_clear : Nat → Nat → LV → CS → Option RS
  | 0, _, _, _ => none
  | k + 1, 0, L, σ => oP (sPp σ) (fun b1 => ox (f_X7_emit__P k 0 (lI (lI (lB lZ 0 b1) 1 68) 2 ((L.1 1))) σ) (fun r2 => oP (sPp r2.2.1) (fun b3 => oP (sPp r2.2.1) (fun b4 => ox (f_X7_word__P k 0 (lI (lB lZ 0 b3) 1 ((((r2.2.1.1 (fP b4 19))) - ((L.1 1))))) r2.2.1) (fun r5 => oP (sPp r5.2.1) (fun b6 => some ((0, 0), (uI r5.2.1 (fP b6 19) ((L.1 1))), (0, 0))))))))
  | _ + 1, _ + 1, _, _ => none
def o_f_X5_clear : List Cond := [.fieldLink RX5 93 "SetHouse$Parser" "p" "LSetHouse$Program;", .methodLink RX5 66 yX7_emit, .instanceMethod yX7_emit, .selects RX7 yX7_emit yX7_emit, .initialized RX7, .methodLink RX5 243 yX7_word, .instanceMethod yX7_word, .selects RX7 yX7_word yX7_word]
theorem o_f_X5_clear_good : o_f_X5_clear.all goodWord = true := by decide +kernel
def p_f_X5_clear : List Cond := o_f_X5_clear ++ ((.code yX7_emit cX7_emit 3 (some .int) :: p_f_X7_emit__P) ++ ((.code yX7_word cX7_word 2 (some .int) :: p_f_X7_word__P) ++ []))
theorem p_f_X5_clear_good : p_f_X5_clear.all goodWord = true := nb_all2 o_f_X5_clear_good (nb_all2 (nb_allc (by decide +kernel) p_f_X7_emit__P_good) (nb_all2 (nb_allc (by decide +kernel) p_f_X7_word__P_good) rfl))
def w_f_X5_clear : List Cond := .code yX5_clear cX5_clear 2 none :: (p_f_X5_clear ++ fC)
theorem w_f_X5_clear_good : w_f_X5_clear.all goodWord = true := nb_allc (by decide +kernel) (nb_all2 p_f_X5_clear_good fC_good)
theorem in_f_X5_clear_X5 : ∀ w ∈ wsX50, w ∈ w_f_X5_clear := fun _ h => List.mem_cons_of_mem _ (List.mem_append_right _ (List.mem_append_right _ (List.mem_append_right _ (List.mem_append_right _ (List.mem_append_right _ (List.mem_append_left _ h))))))
theorem in_f_X5_clear_X7 : ∀ w ∈ wsX70, w ∈ w_f_X5_clear := fun _ h => List.mem_cons_of_mem _ (List.mem_append_right _ (List.mem_append_right _ (List.mem_append_right _ (List.mem_append_right _ (List.mem_append_right _ (List.mem_append_right _ (List.mem_append_right _ (List.mem_append_left _ h))))))))
theorem hd_f_X5_clear : yX5_clear.cls = RX5 ∧ yX5_clear.cls ≠ "java/lang/invoke/MethodHandle" ∧ yX5_clear.cls ≠ "java/lang/invoke/VarHandle" ∧ (parseMethodDescriptor yX5_clear.desc).map (fun d => d.parameters.length) = some 1 := by decide +kernel
theorem gg_f_X5_clear_X7_emit__P : GoodIn w_f_X5_clear w_f_X7_emit__P := goodIn_sub (fun w h => (List.mem_cons.mp h).elim (fun e => (List.mem_cons_of_mem _ (List.mem_append_left _ (List.mem_append_right _ (List.mem_append_left _ (List.mem_cons.mpr (Or.inl e))))))) (fun h => (List.mem_append.mp h).elim (fun h => (List.mem_cons_of_mem _ (List.mem_append_left _ (List.mem_append_right _ (List.mem_append_left _ (List.mem_cons_of_mem _ h)))))) (fun h => List.mem_cons_of_mem _ (List.mem_append_right _ h)))) w_f_X7_emit__P_good
theorem g_f_X5_clear_X7_emit__P_V66 : GoodIn w_f_X5_clear (wsV RX5 66 RX7 yX7_emit w_f_X7_emit__P) := goodIn_app (nb_g4 (List.mem_cons_of_mem _ (List.mem_append_left _ (List.mem_append_left _ (List.mem_of_getElem? (i := 1) rfl)))) (List.mem_cons_of_mem _ (List.mem_append_left _ (List.mem_append_left _ (List.mem_of_getElem? (i := 2) rfl)))) (List.mem_cons_of_mem _ (List.mem_append_left _ (List.mem_append_left _ (List.mem_of_getElem? (i := 3) rfl)))) (List.mem_cons_of_mem _ (List.mem_append_left _ (List.mem_append_left _ (List.mem_of_getElem? (i := 4) rfl)))) (by decide +kernel)) gg_f_X5_clear_X7_emit__P
theorem gg_f_X5_clear_X7_word__P : GoodIn w_f_X5_clear w_f_X7_word__P := goodIn_sub (fun w h => (List.mem_cons.mp h).elim (fun e => (List.mem_cons_of_mem _ (List.mem_append_left _ (List.mem_append_right _ (List.mem_append_right _ (List.mem_append_left _ (List.mem_cons.mpr (Or.inl e)))))))) (fun h => (List.mem_append.mp h).elim (fun h => (List.mem_cons_of_mem _ (List.mem_append_left _ (List.mem_append_right _ (List.mem_append_right _ (List.mem_append_left _ (List.mem_cons_of_mem _ h))))))) (fun h => List.mem_cons_of_mem _ (List.mem_append_right _ h)))) w_f_X7_word__P_good
theorem g_f_X5_clear_X7_word__P_V243 : GoodIn w_f_X5_clear (wsV RX5 243 RX7 yX7_word w_f_X7_word__P) := goodIn_app (nb_g4 (List.mem_cons_of_mem _ (List.mem_append_left _ (List.mem_append_left _ (List.mem_of_getElem? (i := 5) rfl)))) (List.mem_cons_of_mem _ (List.mem_append_left _ (List.mem_append_left _ (List.mem_of_getElem? (i := 6) rfl)))) (List.mem_cons_of_mem _ (List.mem_append_left _ (List.mem_append_left _ (List.mem_of_getElem? (i := 7) rfl)))) (List.mem_cons_of_mem _ (List.mem_append_left _ (List.mem_append_left _ (List.mem_of_getElem? (i := 4) rfl)))) (by decide +kernel)) gg_f_X5_clear_X7_word__P
set_option maxHeartbeats 40000000 in
set_option maxRecDepth 100000 in
theorem c_f_X5_clear (l : Launch) (hl0 : l.stackTraces = false) (dC : Nat → ClassId) (dI : Nat → Nat → Nat) (cy : Nat → ClassId) (ek a : Nat → Nat) (k0 : Nat) (L0 : LV) (σ0 : CS) (r0 : RS) (h0 : f_X5_clear k0 0 L0 σ0 = some r0) (z : Nat → Nat) (sz : Nat) : vx_Met l yX5_clear w_f_X5_clear ({ frames := 8, cells := r0.2.2.1, slots := r0.2.2.2, locals := 143 }) (va_Pc [.ref (a 40), .int (L0.1 1)] (nInF (dC, dI) cy ek sz (vC cy a z σ0))) (xV dC dI cy a (va_A (vC cy a z σ0) sz) [43, 51] z r0) (xX dC dI cy a (va_A (vC cy a z σ0) sz) [43, 51] z r0) r0.2.2.1 r0.2.2.2 (va_A (vC cy a z σ0) sz) := by
  refine vx_ofW (cc := cX5_clear) (maxL := 2) (ret := none) (by decide) rfl ?_
  intro p e s m args below meth c s₁ B hml hno hv
  obtain ⟨rfl, ⟨⟨hsz, hP, hK, hD0, hG⟩, hE⟩, hT⟩ := hv
  have hx := B.exec
  have hb := B.bytes
  have hr := B.returns
  have hts := atoms_spec (ws := w_f_X5_clear) B.pre
  have hown : s.vm.findClass RX5 = some m.cls := findClass_of_methodNamed B.named
  have hlocks := B.notSynchronized
  subst hsz
  have hD := hD0.self (sz := s.heap.size)
  generalize hAe : va_A (vC cy a z σ0) s.heap.size = A at hD hE hT ⊢
  have hA : ∀ q : Nat, s.heap.size ≤ q → A q := fun q h => by rw [← hAe]; exact Or.inr h
  have hS : va_S A s.heap s.heap [] := va_S.rf
  have hl := lv_entry ([.ref (a 40), .int (L0.1 1)]) (n := 2) (Nat.le_of_ble_eq_true rfl)
  rw [lg_entry_eq]
  generalize (lg_sl ([.ref (a 40), .int (L0.1 1)]) ++ List.replicate (2 - (lg_sl ([.ref (a 40), .int (L0.1 1)])).length) Slot.unset).toArray = ls at hl ⊢
  have hl : lv_has ls 2 [(0, .ref (a 40)), (1, .int (L0.1 1))] := hl
  generalize hmc : r0.2.2.1 = mc
  generalize hms : r0.2.2.2 = ms
  have blk : ∀ k : Nat, (bX p l e (headSpec w_f_X5_clear ({ frames := 8, cells := mc, slots := ms, locals := 143 })).room s m #[.ref (a 40), .int (L0.1 1)] below meth c dC dI cy a A (fun r => vx_MQ below (xV dC dI cy a A [43, 51] z r) (xX dC dI cy a A [43, 51] z r) #[.ref (a 40), .int (L0.1 1)] s mc ms A) [43, 51] z mc ms 2 (f_X5_clear k 0) (fun z L => [(0, .ref (a 40)), (1, .int (L.1 1))]) 0 (fun z L => [])) := by
    intro k
    induction k with
    | zero => exact fun z c1 c2 L σ r h => (by cases h)
    | succ k ih =>
      skip
      · intro z cells slots L σ r h hzk hc hs H locs ls hP hD hS hl
        rw [f_X5_clear] at h
        refine lv_aload_n hx hb dX5_clear_0 rfl (lv_at hl 0 rfl) ?_
        obtain ⟨b1, hb1, h⟩ := oP_ex h
        refine hgq_40_2 hx hb hts in_f_X5_clear_X5 hown hK hP (hts _ (List.mem_cons_of_mem _ (List.mem_append_left _ (List.mem_append_left _ (List.mem_of_getElem? (i := 0) rfl))))) hb1 dX5_clear_1 ?_
        refine lv_bipush (v := 68) hx hb dX5_clear_4 (by decide) ?_
        refine lv_iload_n hx hb dX5_clear_6 rfl (lv_at hl 1 rfl) ?_
        obtain ⟨r2, hc2, hle2, h9⟩ := ox_ex h
        clear h
        refine kx_i (vx_runV (As := [.int 68, .int (L.1 1)]) (rest := []) ⟨hx, hb, hml, hown, hts⟩ (c_f_X7_emit__P l hl0 dC dI cy ek a k (lI (lI (lB lZ 0 b1) 1 68) 2 ((L.1 1))) σ r2 hc2 z H.size) (cwV 2 hts g_f_X5_clear_X7_emit__P_V66 rfl rfl rfl hd_f_X7_emit__P ⟨Nat.le_of_ble_eq_true rfl, Nat.le_of_ble_eq_true rfl⟩) ⟨nb_blindF, recvP b1 hK hP, (kx_pre hK hG hE hT hA hP hD hS)⟩ rfl rfl hl.1 rfl (lv_room (Nat.le_of_ble_eq_true rfl)) dX5_clear_7 ⟨Nat.le_trans (Nat.add_le_add_left hle2.1 _) (Nat.le_of_eq hc), Nat.le_trans (Nat.add_le_add_left hle2.2 _) (Nat.le_of_eq hs)⟩) hK hA hzk hP hD hS (by decide) hno hlocks ?_
        rcases h9 with ⟨h00, y2, hny2, hy⟩ | ⟨h00, hy⟩
        · subst hy
          have h := hny2
          refine Or.inl ⟨h00, fun z H locs hz2 hzk hP hD hS => ?_⟩
          replace hc := (Nat.add_assoc _ _ _).trans hc
          replace hs := (Nat.add_assoc _ _ _).trans hs
          refine lv_pop hx hb dX5_clear_10 rfl ?_
          refine lv_aload_n hx hb dX5_clear_11 rfl (lv_at hl 0 rfl) ?_
          obtain ⟨b3, hb3, h⟩ := oP_ex h
          refine hgq_40_2 hx hb hts in_f_X5_clear_X5 hown hK hP (hts _ (List.mem_cons_of_mem _ (List.mem_append_left _ (List.mem_append_left _ (List.mem_of_getElem? (i := 0) rfl))))) hb3 dX5_clear_12 ?_
          refine lv_aload_n hx hb dX5_clear_15 rfl (lv_at hl 0 rfl) ?_
          obtain ⟨b4, hb4, h⟩ := oP_ex h
          refine hgq_40_2 hx hb hts in_f_X5_clear_X5 hown hK hP (hts _ (List.mem_cons_of_mem _ (List.mem_append_left _ (List.mem_append_left _ (List.mem_of_getElem? (i := 0) rfl))))) hb4 dX5_clear_16 ?_
          refine hg_P_19n b4 hx hb hts in_f_X5_clear_X7 hown hK hP (va_Nw.use rfl (hG.1 _ (List.mem_of_getElem? (i := 94) rfl))) dX5_clear_19 ?_
          refine lv_iload_n hx hb dX5_clear_22 rfl (lv_at hl 1 rfl) ?_
          refine lv_isub hx hb dX5_clear_23 ?_
          obtain ⟨r5, hc5, hle5, h9⟩ := ox_ex h
          clear h
          refine kx_i (r := y2) (vx_runV (As := [.int (((r2.2.1.1 (fP b4 19))) - ((L.1 1)))]) (rest := []) ⟨hx, hb, hml, hown, hts⟩ (c_f_X7_word__P l hl0 dC dI cy ek a k (lI (lB lZ 0 b3) 1 ((((r2.2.1.1 (fP b4 19))) - ((L.1 1))))) r2.2.1 r5 hc5 z H.size) (cwV 1 hts g_f_X5_clear_X7_word__P_V243 rfl rfl rfl hd_f_X7_word__P ⟨Nat.le_of_ble_eq_true rfl, Nat.le_of_ble_eq_true rfl⟩) ⟨nb_blindF, recvP b3 hK hP, (kx_pre hK hG hE hT hA hP hD hS)⟩ rfl rfl hl.1 rfl (lv_room (Nat.le_of_ble_eq_true rfl)) dX5_clear_24 ⟨Nat.le_trans (Nat.add_le_add_left hle5.1 _) (Nat.le_of_eq hc), Nat.le_trans (Nat.add_le_add_left hle5.2 _) (Nat.le_of_eq hs)⟩) hK hA hzk hP hD hS (by decide) hno hlocks ?_
          rcases h9 with ⟨h00, y5, hny5, hy⟩ | ⟨h00, hy⟩
          · subst hy
            have h := hny5
            refine Or.inl ⟨h00, fun z H locs hz5 hzk hP hD hS => ?_⟩
            replace hc := (Nat.add_assoc _ _ _).trans hc
            replace hs := (Nat.add_assoc _ _ _).trans hs
            refine lv_pop hx hb dX5_clear_27 rfl ?_
            refine lv_aload_n hx hb dX5_clear_28 rfl (lv_at hl 0 rfl) ?_
            obtain ⟨b6, hb6, h⟩ := oP_ex h
            refine hgq_40_2 hx hb hts in_f_X5_clear_X5 hown hK hP (hts _ (List.mem_cons_of_mem _ (List.mem_append_left _ (List.mem_append_left _ (List.mem_of_getElem? (i := 0) rfl))))) hb6 dX5_clear_29 ?_
            refine lv_iload_n hx hb dX5_clear_32 rfl (lv_at hl 1 rfl) ?_
            refine hp_P_19n b6 hx hb hts in_f_X5_clear_X7 hown hK hP hD hS (va_Nw.use rfl (hG.1 _ (List.mem_of_getElem? (i := 94) rfl))) dX5_clear_33 (fun H locs hP hD hS => ?_)
            obtain rfl := Option.some.inj h
            subst hc
            subst hs
            exact xr_v hx hb hr hK hzk hP hD hS hlocks dX5_clear_36
          · subst hy
            exact Or.inr ⟨h00, rfl, hc, hs⟩
        · subst hy
          exact Or.inr ⟨h00, rfl, hc, hs⟩
  exact (blk k0) z 0 0 L0 σ0 r0 h0 (zk_rf _ _) ((Nat.zero_add _).trans hmc) ((Nat.zero_add _).trans hms) s.heap [] ls hP hD hS hl
/-! X5_settle -/
def f_X5_settle : Nat → Nat → LV → CS → Option RS
  | 0, _, _, _ => none
  | k + 1, 0, L, σ => f_X5_settle k 1 (lI L 3 0) σ
  | k + 1, 1, L, σ => if 32768 < ((L.1 3)) then (f_X5_settle k 2 L σ) else (if ((σ.1 4011)) ≤ ((L.1 1)) then (f_X5_settle k 2 L σ) else (if ¬ (((((σ.1 4011)) - 3)) < 0 ∨ (sN σ 41) ≤ ((((σ.1 4011)) - 3)).toNatClampNeg) then (if ((σ.2.2.1 41 ((((σ.1 4011)) - 3)).toNatClampNeg)) < ((L.1 2)) then (f_X5_settle k 2 L σ) else (if ¬ ((((uI σ 4011 ((((σ.1 4011)) - 3))).1 4011)) < 0 ∨ (sN (uI σ 4011 ((((σ.1 4011)) - 3))) 41) ≤ (((uI σ 4011 ((((σ.1 4011)) - 3))).1 4011)).toNatClampNeg) then (if ¬ ((((((uI σ 4011 ((((σ.1 4011)) - 3))).1 4011)) + 2)) < 0 ∨ (sN (uI σ 4011 ((((σ.1 4011)) - 3))) 41) ≤ (((((uI σ 4011 ((((σ.1 4011)) - 3))).1 4011)) + 2)).toNatClampNeg) then (oP (sPp (uI σ 4011 ((((σ.1 4011)) - 3)))) (fun b7 => if ¬ ((((((uI σ 4011 ((((σ.1 4011)) - 3))).1 4011)) + 1)) < 0 ∨ (sN (uI σ 4011 ((((σ.1 4011)) - 3))) 41) ≤ (((((uI σ 4011 ((((σ.1 4011)) - 3))).1 4011)) + 1)).toNatClampNeg) then (ox (f_X7_emit__P k 0 (lI (lI (lB lZ 0 b7) 1 (((uI σ 4011 ((((σ.1 4011)) - 3))).2.2.1 41 (((((uI σ 4011 ((((σ.1 4011)) - 3))).1 4011)) + 1)).toNatClampNeg))) 2 0) (uI σ 4011 ((((σ.1 4011)) - 3)))) (fun r9 => if 1 < (((uI σ 4011 ((((σ.1 4011)) - 3))).2.2.1 41 (((uI σ 4011 ((((σ.1 4011)) - 3))).1 4011)).toNatClampNeg)) then (f_X5_settle k 3 (lI (lI L 4 (((uI σ 4011 ((((σ.1 4011)) - 3))).2.2.1 41 (((uI σ 4011 ((((σ.1 4011)) - 3))).1 4011)).toNatClampNeg))) 5 (((uI σ 4011 ((((σ.1 4011)) - 3))).2.2.1 41 (((((uI σ 4011 ((((σ.1 4011)) - 3))).1 4011)) + 2)).toNatClampNeg))) r9.2.1) else (oP (sPp r9.2.1) (fun b11 => oP (sPp r9.2.1) (fun b12 => op (y_X7_aim__P k 0 (lI (lI (lB lZ 0 b11) 1 (((uI σ 4011 ((((σ.1 4011)) - 3))).2.2.1 41 (((((uI σ 4011 ((((σ.1 4011)) - 3))).1 4011)) + 2)).toNatClampNeg))) 2 ((r9.2.1.1 (fP b12 1)))) r9.2.1) (fun r13 => f_X5_settle k 4 (lI L 5 (((uI σ 4011 ((((σ.1 4011)) - 3))).2.2.1 41 (((((uI σ 4011 ((((σ.1 4011)) - 3))).1 4011)) + 2)).toNatClampNeg))) r13.2)))))) else none)) else none) else none)) else none))
  | k + 1, 2, L, σ => some ((0, 0), σ, (0, 0))
  | k + 1, 3, L, σ => if ((L.1 4)) = 2 then (f_X5_settle k 5 L σ) else (if ((L.1 4)) < 6 then (f_X5_settle k 4 L σ) else (f_X5_settle k 5 L σ))
  | k + 1, 4, L, σ => if ¬ (((((σ.1 4011)) + 1)) < 0 ∨ (sN σ 41) ≤ ((((σ.1 4011)) + 1)).toNatClampNeg) then (if ((σ.2.2.1 41 ((((σ.1 4011)) + 1)).toNatClampNeg)) = 112 then (oP (sPp σ) (fun b3 => ox (f_X7_emit__P k 0 (lI (lI (lB lZ 0 b3) 1 113) 2 ((L.1 5))) σ) (fun r4 => f_X5_settle k 6 L r4.2.1))) else (f_X5_settle k 6 L σ)) else none
  | k + 1, 5, L, σ => f_X5_settle k 4 L (uI σ 4005 ((((σ.1 4005)) - 1)))
  | k + 1, 6, L, σ => f_X5_settle k 1 (lI L 3 ((((L.1 3)) + 1))) σ
  | _ + 1, _ + 7, _, _ => none
def o_f_X5_settle : List Cond := [.constant RX5 35 (32768), .fieldLink RX5 112 "SetHouse$Parser" "marked" "I", .fieldLink RX5 9 "SetHouse$Parser" "marks" "[I", .fieldLink RX5 93 "SetHouse$Parser" "p" "LSetHouse$Program;", .methodLink RX5 66 yX7_emit, .instanceMethod yX7_emit, .selects RX7 yX7_emit yX7_emit, .initialized RX7, .methodLink RX5 240 yX7_aim, .instanceMethod yX7_aim, .selects RX7 yX7_aim yX7_aim, .fieldLink RX5 103 "SetHouse$Parser" "open" "I"]
theorem o_f_X5_settle_good : o_f_X5_settle.all goodWord = true := by decide +kernel
def p_f_X5_settle : List Cond := o_f_X5_settle ++ ((.code yX7_emit cX7_emit 3 (some .int) :: p_f_X7_emit__P) ++ ((.code yX7_aim cX7_aim 3 none :: p_y_X7_aim__P) ++ []))
theorem p_f_X5_settle_good : p_f_X5_settle.all goodWord = true := nb_all2 o_f_X5_settle_good (nb_all2 (nb_allc (by decide +kernel) p_f_X7_emit__P_good) (nb_all2 (nb_allc (by decide +kernel) p_y_X7_aim__P_good) rfl))
def w_f_X5_settle : List Cond := .code yX5_settle cX5_settle 6 none :: (p_f_X5_settle ++ fC)
theorem w_f_X5_settle_good : w_f_X5_settle.all goodWord = true := nb_allc (by decide +kernel) (nb_all2 p_f_X5_settle_good fC_good)
theorem in_f_X5_settle_X5 : ∀ w ∈ wsX50, w ∈ w_f_X5_settle := fun _ h => List.mem_cons_of_mem _ (List.mem_append_right _ (List.mem_append_right _ (List.mem_append_right _ (List.mem_append_right _ (List.mem_append_right _ (List.mem_append_left _ h))))))
theorem in_f_X5_settle_X7 : ∀ w ∈ wsX70, w ∈ w_f_X5_settle := fun _ h => List.mem_cons_of_mem _ (List.mem_append_right _ (List.mem_append_right _ (List.mem_append_right _ (List.mem_append_right _ (List.mem_append_right _ (List.mem_append_right _ (List.mem_append_right _ (List.mem_append_left _ h))))))))
theorem hd_f_X5_settle : yX5_settle.cls = RX5 ∧ yX5_settle.cls ≠ "java/lang/invoke/MethodHandle" ∧ yX5_settle.cls ≠ "java/lang/invoke/VarHandle" ∧ (parseMethodDescriptor yX5_settle.desc).map (fun d => d.parameters.length) = some 2 := by decide +kernel
theorem gg_f_X5_settle_X7_emit__P : GoodIn w_f_X5_settle w_f_X7_emit__P := goodIn_sub (fun w h => (List.mem_cons.mp h).elim (fun e => (List.mem_cons_of_mem _ (List.mem_append_left _ (List.mem_append_right _ (List.mem_append_left _ (List.mem_cons.mpr (Or.inl e))))))) (fun h => (List.mem_append.mp h).elim (fun h => (List.mem_cons_of_mem _ (List.mem_append_left _ (List.mem_append_right _ (List.mem_append_left _ (List.mem_cons_of_mem _ h)))))) (fun h => List.mem_cons_of_mem _ (List.mem_append_right _ h)))) w_f_X7_emit__P_good
theorem g_f_X5_settle_X7_emit__P_V66 : GoodIn w_f_X5_settle (wsV RX5 66 RX7 yX7_emit w_f_X7_emit__P) := goodIn_app (nb_g4 (List.mem_cons_of_mem _ (List.mem_append_left _ (List.mem_append_left _ (List.mem_of_getElem? (i := 4) rfl)))) (List.mem_cons_of_mem _ (List.mem_append_left _ (List.mem_append_left _ (List.mem_of_getElem? (i := 5) rfl)))) (List.mem_cons_of_mem _ (List.mem_append_left _ (List.mem_append_left _ (List.mem_of_getElem? (i := 6) rfl)))) (List.mem_cons_of_mem _ (List.mem_append_left _ (List.mem_append_left _ (List.mem_of_getElem? (i := 7) rfl)))) (by decide +kernel)) gg_f_X5_settle_X7_emit__P
theorem gg_f_X5_settle_X7_aim__P : GoodIn w_f_X5_settle w_y_X7_aim__P := goodIn_sub (fun w h => (List.mem_cons.mp h).elim (fun e => (List.mem_cons_of_mem _ (List.mem_append_left _ (List.mem_append_right _ (List.mem_append_right _ (List.mem_append_left _ (List.mem_cons.mpr (Or.inl e)))))))) (fun h => (List.mem_append.mp h).elim (fun h => (List.mem_cons_of_mem _ (List.mem_append_left _ (List.mem_append_right _ (List.mem_append_right _ (List.mem_append_left _ (List.mem_cons_of_mem _ h))))))) (fun h => List.mem_cons_of_mem _ (List.mem_append_right _ h)))) w_y_X7_aim__P_good
theorem g_y_X5_settle_X7_aim__P_V240 : GoodIn w_f_X5_settle (wsV RX5 240 RX7 yX7_aim w_y_X7_aim__P) := goodIn_app (nb_g4 (List.mem_cons_of_mem _ (List.mem_append_left _ (List.mem_append_left _ (List.mem_of_getElem? (i := 8) rfl)))) (List.mem_cons_of_mem _ (List.mem_append_left _ (List.mem_append_left _ (List.mem_of_getElem? (i := 9) rfl)))) (List.mem_cons_of_mem _ (List.mem_append_left _ (List.mem_append_left _ (List.mem_of_getElem? (i := 10) rfl)))) (List.mem_cons_of_mem _ (List.mem_append_left _ (List.mem_append_left _ (List.mem_of_getElem? (i := 7) rfl)))) (by decide +kernel)) gg_f_X5_settle_X7_aim__P
set_option maxHeartbeats 40000000 in
set_option maxRecDepth 100000 in
theorem c_f_X5_settle (l : Launch) (hl0 : l.stackTraces = false) (dC : Nat → ClassId) (dI : Nat → Nat → Nat) (cy : Nat → ClassId) (ek a : Nat → Nat) (k0 : Nat) (L0 : LV) (σ0 : CS) (r0 : RS) (h0 : f_X5_settle k0 0 L0 σ0 = some r0) (z : Nat → Nat) (sz : Nat) : vx_Met l yX5_settle w_f_X5_settle ({ frames := 8, cells := r0.2.2.1, slots := r0.2.2.2, locals := 143 }) (va_Pc [.ref (a 40), .int (L0.1 1), .int (L0.1 2)] (nInF (dC, dI) cy ek sz (vC cy a z σ0))) (xV dC dI cy a (va_A (vC cy a z σ0) sz) [43, 51] z r0) (xX dC dI cy a (va_A (vC cy a z σ0) sz) [43, 51] z r0) r0.2.2.1 r0.2.2.2 (va_A (vC cy a z σ0) sz) := by
  refine vx_ofW (cc := cX5_settle) (maxL := 6) (ret := none) (by decide) rfl ?_
  intro p e s m args below meth c s₁ B hml hno hv
  obtain ⟨rfl, ⟨⟨hsz, hP, hK, hD0, hG⟩, hE⟩, hT⟩ := hv
  have hx := B.exec
  have hb := B.bytes
  have hr := B.returns
  have hts := atoms_spec (ws := w_f_X5_settle) B.pre
  have hown : s.vm.findClass RX5 = some m.cls := findClass_of_methodNamed B.named
  have hlocks := B.notSynchronized
  subst hsz
  have hD := hD0.self (sz := s.heap.size)
  generalize hAe : va_A (vC cy a z σ0) s.heap.size = A at hD hE hT ⊢
  have hA : ∀ q : Nat, s.heap.size ≤ q → A q := fun q h => by rw [← hAe]; exact Or.inr h
  have hS : va_S A s.heap s.heap [] := va_S.rf
  have hl := lv_entry ([.ref (a 40), .int (L0.1 1), .int (L0.1 2)]) (n := 6) (Nat.le_of_ble_eq_true rfl)
  rw [lg_entry_eq]
  generalize (lg_sl ([.ref (a 40), .int (L0.1 1), .int (L0.1 2)]) ++ List.replicate (6 - (lg_sl ([.ref (a 40), .int (L0.1 1), .int (L0.1 2)])).length) Slot.unset).toArray = ls at hl ⊢
  have hl : lv_has ls 6 [(0, .ref (a 40)), (1, .int (L0.1 1)), (2, .int (L0.1 2))] := hl
  generalize hmc : r0.2.2.1 = mc
  generalize hms : r0.2.2.2 = ms
  have blk : ∀ k : Nat, (bX p l e (headSpec w_f_X5_settle ({ frames := 8, cells := mc, slots := ms, locals := 143 })).room s m #[.ref (a 40), .int (L0.1 1), .int (L0.1 2)] below meth c dC dI cy a A (fun r => vx_MQ below (xV dC dI cy a A [43, 51] z r) (xX dC dI cy a A [43, 51] z r) #[.ref (a 40), .int (L0.1 1), .int (L0.1 2)] s mc ms A) [43, 51] z mc ms 6 (f_X5_settle k 0) (fun z L => [(0, .ref (a 40)), (1, .int (L.1 1)), (2, .int (L.1 2))]) 0 (fun z L => [])) ∧ (bX p l e (headSpec w_f_X5_settle ({ frames := 8, cells := mc, slots := ms, locals := 143 })).room s m #[.ref (a 40), .int (L0.1 1), .int (L0.1 2)] below meth c dC dI cy a A (fun r => vx_MQ below (xV dC dI cy a A [43, 51] z r) (xX dC dI cy a A [43, 51] z r) #[.ref (a 40), .int (L0.1 1), .int (L0.1 2)] s mc ms A) [43, 51] z mc ms 6 (f_X5_settle k 1) (fun z L => [(0, .ref (a 40)), (1, .int (L.1 1)), (2, .int (L.1 2)), (3, .int (L.1 3))]) 2 (fun z L => [])) ∧ (bX p l e (headSpec w_f_X5_settle ({ frames := 8, cells := mc, slots := ms, locals := 143 })).room s m #[.ref (a 40), .int (L0.1 1), .int (L0.1 2)] below meth c dC dI cy a A (fun r => vx_MQ below (xV dC dI cy a A [43, 51] z r) (xX dC dI cy a A [43, 51] z r) #[.ref (a 40), .int (L0.1 1), .int (L0.1 2)] s mc ms A) [43, 51] z mc ms 6 (f_X5_settle k 2) (fun z L => []) 167 (fun z L => [])) ∧ (bX p l e (headSpec w_f_X5_settle ({ frames := 8, cells := mc, slots := ms, locals := 143 })).room s m #[.ref (a 40), .int (L0.1 1), .int (L0.1 2)] below meth c dC dI cy a A (fun r => vx_MQ below (xV dC dI cy a A [43, 51] z r) (xX dC dI cy a A [43, 51] z r) #[.ref (a 40), .int (L0.1 1), .int (L0.1 2)] s mc ms A) [43, 51] z mc ms 6 (f_X5_settle k 3) (fun z L => [(0, .ref (a 40)), (1, .int (L.1 1)), (2, .int (L.1 2)), (3, .int (L.1 3)), (4, .int (L.1 4)), (5, .int (L.1 5))]) 110 (fun z L => [])) ∧ (bX p l e (headSpec w_f_X5_settle ({ frames := 8, cells := mc, slots := ms, locals := 143 })).room s m #[.ref (a 40), .int (L0.1 1), .int (L0.1 2)] below meth c dC dI cy a A (fun r => vx_MQ below (xV dC dI cy a A [43, 51] z r) (xX dC dI cy a A [43, 51] z r) #[.ref (a 40), .int (L0.1 1), .int (L0.1 2)] s mc ms A) [43, 51] z mc ms 6 (f_X5_settle k 4) (fun z L => [(0, .ref (a 40)), (1, .int (L.1 1)), (2, .int (L.1 2)), (3, .int (L.1 3)), (5, .int (L.1 5))]) 133 (fun z L => [])) ∧ (bX p l e (headSpec w_f_X5_settle ({ frames := 8, cells := mc, slots := ms, locals := 143 })).room s m #[.ref (a 40), .int (L0.1 1), .int (L0.1 2)] below meth c dC dI cy a A (fun r => vx_MQ below (xV dC dI cy a A [43, 51] z r) (xX dC dI cy a A [43, 51] z r) #[.ref (a 40), .int (L0.1 1), .int (L0.1 2)] s mc ms A) [43, 51] z mc ms 6 (f_X5_settle k 5) (fun z L => [(0, .ref (a 40)), (1, .int (L.1 1)), (2, .int (L.1 2)), (3, .int (L.1 3)), (5, .int (L.1 5))]) 123 (fun z L => [])) ∧ (bX p l e (headSpec w_f_X5_settle ({ frames := 8, cells := mc, slots := ms, locals := 143 })).room s m #[.ref (a 40), .int (L0.1 1), .int (L0.1 2)] below meth c dC dI cy a A (fun r => vx_MQ below (xV dC dI cy a A [43, 51] z r) (xX dC dI cy a A [43, 51] z r) #[.ref (a 40), .int (L0.1 1), .int (L0.1 2)] s mc ms A) [43, 51] z mc ms 6 (f_X5_settle k 6) (fun z L => [(0, .ref (a 40)), (1, .int (L.1 1)), (2, .int (L.1 2)), (3, .int (L.1 3))]) 161 (fun z L => [])) := by
    intro k
    induction k with
    | zero => exact ⟨fun z c1 c2 L σ r h => (by cases h), fun z c1 c2 L σ r h => (by cases h), fun z c1 c2 L σ r h => (by cases h), fun z c1 c2 L σ r h => (by cases h), fun z c1 c2 L σ r h => (by cases h), fun z c1 c2 L σ r h => (by cases h), fun z c1 c2 L σ r h => (by cases h)⟩
    | succ k ih =>
      refine ⟨?_, ?_, ?_, ?_, ?_, ?_, ?_⟩
      · intro z cells slots L σ r h hzk hc hs H locs ls hP hD hS hl
        rw [f_X5_settle] at h
        refine lv_iconst (v := 0) hx hb dX5_settle_0 (by decide) ?_
        refine lv_istore_n (lv' := [(3, .int 0), (0, .ref (a 40)), (1, .int (L.1 1)), (2, .int (L.1 2))]) hx hb dX5_settle_1 rfl hl (by decide) rfl (fun ls hl => ?_)
        exact ih.2.1 z _ _ (lI L 3 0) σ _ h hzk hc hs H locs ls hP hD hS (lv_sub hl [1, 2, 3, 0] rfl)
      · intro z cells slots L σ r h hzk hc hs H locs ls hP hD hS hl
        rw [f_X5_settle] at h
        refine lv_iload_n hx hb dX5_settle_2 rfl (lv_at hl 3 rfl) ?_
        refine lv_ldc (v := 32768) hx hb hown (hts _ (List.mem_cons_of_mem _ (List.mem_append_left _ (List.mem_append_left _ (List.mem_of_getElem? (i := 0) rfl))))) dX5_settle_3 ?_
        refine lv_icmp_gt (tgt := 167) hx hb dX5_settle_5 (by decide) (fun c1 => ?_) (fun c1 => ?_)
        · rw [if_pos c1] at h
          exact ih.2.2.1 z _ _ L σ _ h hzk hc hs H locs ls hP hD hS (lv_sub hl [] rfl)
        · rw [if_neg c1] at h
          refine lv_aload_n hx hb dX5_settle_8 rfl (lv_at hl 0 rfl) ?_
          refine hg_40_11 hx hb hts in_f_X5_settle_X5 hown hK hP (hts _ (List.mem_cons_of_mem _ (List.mem_append_left _ (List.mem_append_left _ (List.mem_of_getElem? (i := 1) rfl))))) dX5_settle_9 ?_
          refine lv_iload_n hx hb dX5_settle_12 rfl (lv_at hl 1 rfl) ?_
          refine lv_icmp_le (tgt := 167) hx hb dX5_settle_13 (by decide) (fun c2 => ?_) (fun c2 => ?_)
          · rw [if_pos c2] at h
            exact ih.2.2.1 z _ _ L σ _ h hzk hc hs H locs ls hP hD hS (lv_sub hl [] rfl)
          · rw [if_neg c2] at h
            refine lv_aload_n hx hb dX5_settle_16 rfl (lv_at hl 0 rfl) ?_
            refine hg_40_10 hx hb hts in_f_X5_settle_X5 hown hK hP (hts _ (List.mem_cons_of_mem _ (List.mem_append_left _ (List.mem_append_left _ (List.mem_of_getElem? (i := 2) rfl))))) dX5_settle_17 ?_
            refine lv_aload_n hx hb dX5_settle_20 rfl (lv_at hl 0 rfl) ?_
            refine hg_40_11 hx hb hts in_f_X5_settle_X5 hown hK hP (hts _ (List.mem_cons_of_mem _ (List.mem_append_left _ (List.mem_append_left _ (List.mem_of_getElem? (i := 1) rfl))))) dX5_settle_21 ?_
            refine lv_iconst (v := 3) hx hb dX5_settle_24 (by decide) ?_
            refine lv_isub hx hb dX5_settle_25 ?_
            obtain ⟨q3, h⟩ := kr_ite1 h
            refine hl_41 hx hb hK hP q3 dX5_settle_26 ?_
            refine lv_iload_n hx hb dX5_settle_27 rfl (lv_at hl 2 rfl) ?_
            refine lv_icmp_lt (tgt := 167) hx hb dX5_settle_28 (by decide) (fun c4 => ?_) (fun c4 => ?_)
            · rw [if_pos c4] at h
              exact ih.2.2.1 z _ _ L σ _ h hzk hc hs H locs ls hP hD hS (lv_sub hl [] rfl)
            · rw [if_neg c4] at h
              refine lv_aload_n hx hb dX5_settle_31 rfl (lv_at hl 0 rfl) ?_
              refine lv_aload_n hx hb dX5_settle_32 rfl (lv_at hl 0 rfl) ?_
              refine hg_40_11 hx hb hts in_f_X5_settle_X5 hown hK hP (hts _ (List.mem_cons_of_mem _ (List.mem_append_left _ (List.mem_append_left _ (List.mem_of_getElem? (i := 1) rfl))))) dX5_settle_33 ?_
              refine lv_iconst (v := 3) hx hb dX5_settle_36 (by decide) ?_
              refine lv_isub hx hb dX5_settle_37 ?_
              refine hp_40_11 hx hb hts in_f_X5_settle_X5 hown hK hP hD hS (hts _ (List.mem_cons_of_mem _ (List.mem_append_left _ (List.mem_append_left _ (List.mem_of_getElem? (i := 1) rfl))))) dX5_settle_38 (fun H locs hP hD hS => ?_)
              refine lv_aload_n hx hb dX5_settle_41 rfl (lv_at hl 0 rfl) ?_
              refine hg_40_10 hx hb hts in_f_X5_settle_X5 hown hK hP (hts _ (List.mem_cons_of_mem _ (List.mem_append_left _ (List.mem_append_left _ (List.mem_of_getElem? (i := 2) rfl))))) dX5_settle_42 ?_
              refine lv_aload_n hx hb dX5_settle_45 rfl (lv_at hl 0 rfl) ?_
              refine hg_40_11 hx hb hts in_f_X5_settle_X5 hown hK hP (hts _ (List.mem_cons_of_mem _ (List.mem_append_left _ (List.mem_append_left _ (List.mem_of_getElem? (i := 1) rfl))))) dX5_settle_46 ?_
              obtain ⟨q5, h⟩ := kr_ite1 h
              refine hl_41 hx hb hK hP q5 dX5_settle_49 ?_
              refine lv_istore (lv' := [(4, .int ((uI σ 4011 ((((σ.1 4011)) - 3))).2.2.1 41 (((uI σ 4011 ((((σ.1 4011)) - 3))).1 4011)).toNatClampNeg)), (0, .ref (a 40)), (1, .int (L.1 1)), (2, .int (L.1 2)), (3, .int (L.1 3))]) hx hb dX5_settle_50 hl (by decide) rfl (fun ls hl => ?_)
              refine lv_aload_n hx hb dX5_settle_52 rfl (lv_at hl 1 rfl) ?_
              refine hg_40_10 hx hb hts in_f_X5_settle_X5 hown hK hP (hts _ (List.mem_cons_of_mem _ (List.mem_append_left _ (List.mem_append_left _ (List.mem_of_getElem? (i := 2) rfl))))) dX5_settle_53 ?_
              refine lv_aload_n hx hb dX5_settle_56 rfl (lv_at hl 1 rfl) ?_
              refine hg_40_11 hx hb hts in_f_X5_settle_X5 hown hK hP (hts _ (List.mem_cons_of_mem _ (List.mem_append_left _ (List.mem_append_left _ (List.mem_of_getElem? (i := 1) rfl))))) dX5_settle_57 ?_
              refine lv_iconst (v := 2) hx hb dX5_settle_60 (by decide) ?_
              refine lv_iadd hx hb dX5_settle_61 ?_
              obtain ⟨q6, h⟩ := kr_ite1 h
              refine hl_41 hx hb hK hP q6 dX5_settle_62 ?_
              refine lv_istore (lv' := [(5, .int ((uI σ 4011 ((((σ.1 4011)) - 3))).2.2.1 41 (((((uI σ 4011 ((((σ.1 4011)) - 3))).1 4011)) + 2)).toNatClampNeg)), (4, .int ((uI σ 4011 ((((σ.1 4011)) - 3))).2.2.1 41 (((uI σ 4011 ((((σ.1 4011)) - 3))).1 4011)).toNatClampNeg)), (0, .ref (a 40)), (1, .int (L.1 1)), (2, .int (L.1 2)), (3, .int (L.1 3))]) hx hb dX5_settle_63 hl (by decide) rfl (fun ls hl => ?_)
              refine lv_aload_n hx hb dX5_settle_65 rfl (lv_at hl 2 rfl) ?_
              obtain ⟨b7, hb7, h⟩ := oP_ex h
              refine hgq_40_2 hx hb hts in_f_X5_settle_X5 hown hK hP (hts _ (List.mem_cons_of_mem _ (List.mem_append_left _ (List.mem_append_left _ (List.mem_of_getElem? (i := 3) rfl))))) hb7 dX5_settle_66 ?_
              refine lv_aload_n hx hb dX5_settle_69 rfl (lv_at hl 2 rfl) ?_
              refine hg_40_10 hx hb hts in_f_X5_settle_X5 hown hK hP (hts _ (List.mem_cons_of_mem _ (List.mem_append_left _ (List.mem_append_left _ (List.mem_of_getElem? (i := 2) rfl))))) dX5_settle_70 ?_
              refine lv_aload_n hx hb dX5_settle_73 rfl (lv_at hl 2 rfl) ?_
              refine hg_40_11 hx hb hts in_f_X5_settle_X5 hown hK hP (hts _ (List.mem_cons_of_mem _ (List.mem_append_left _ (List.mem_append_left _ (List.mem_of_getElem? (i := 1) rfl))))) dX5_settle_74 ?_
              refine lv_iconst (v := 1) hx hb dX5_settle_77 (by decide) ?_
              refine lv_iadd hx hb dX5_settle_78 ?_
              obtain ⟨q8, h⟩ := kr_ite1 h
              refine hl_41 hx hb hK hP q8 dX5_settle_79 ?_
              refine lv_iconst (v := 0) hx hb dX5_settle_80 (by decide) ?_
              obtain ⟨r9, hc9, hle9, h9⟩ := ox_ex h
              clear h
              refine kx_i (vx_runV (As := [.int ((uI σ 4011 ((((σ.1 4011)) - 3))).2.2.1 41 (((((uI σ 4011 ((((σ.1 4011)) - 3))).1 4011)) + 1)).toNatClampNeg), .int 0]) (rest := []) ⟨hx, hb, hml, hown, hts⟩ (c_f_X7_emit__P l hl0 dC dI cy ek a k (lI (lI (lB lZ 0 b7) 1 (((uI σ 4011 ((((σ.1 4011)) - 3))).2.2.1 41 (((((uI σ 4011 ((((σ.1 4011)) - 3))).1 4011)) + 1)).toNatClampNeg))) 2 0) (uI σ 4011 ((((σ.1 4011)) - 3))) r9 hc9 z H.size) (cwV 2 hts g_f_X5_settle_X7_emit__P_V66 rfl rfl rfl hd_f_X7_emit__P ⟨Nat.le_of_ble_eq_true rfl, Nat.le_of_ble_eq_true rfl⟩) ⟨nb_blindF, recvP b7 hK hP, (kx_pre hK hG hE hT hA hP hD hS)⟩ rfl rfl hl.1 rfl (lv_room (Nat.le_of_ble_eq_true rfl)) dX5_settle_81 ⟨Nat.le_trans (Nat.add_le_add_left hle9.1 _) (Nat.le_of_eq hc), Nat.le_trans (Nat.add_le_add_left hle9.2 _) (Nat.le_of_eq hs)⟩) hK hA hzk hP hD hS (by decide) hno hlocks ?_
              rcases h9 with ⟨h00, y9, hny9, hy⟩ | ⟨h00, hy⟩
              · subst hy
                have h := hny9
                refine Or.inl ⟨h00, fun z H locs hz9 hzk hP hD hS => ?_⟩
                replace hc := (Nat.add_assoc _ _ _).trans hc
                replace hs := (Nat.add_assoc _ _ _).trans hs
                refine lv_pop hx hb dX5_settle_84 rfl ?_
                refine lv_iload hx hb dX5_settle_85 (lv_at hl 1 rfl) ?_
                refine lv_iconst (v := 1) hx hb dX5_settle_87 (by decide) ?_
                refine lv_icmp_gt (tgt := 110) hx hb dX5_settle_88 (by decide) (fun c10 => ?_) (fun c10 => ?_)
                · rw [if_pos c10] at h
                  exact ih.2.2.2.1 z _ _ (lI (lI L 4 (((uI σ 4011 ((((σ.1 4011)) - 3))).2.2.1 41 (((uI σ 4011 ((((σ.1 4011)) - 3))).1 4011)).toNatClampNeg))) 5 (((uI σ 4011 ((((σ.1 4011)) - 3))).2.2.1 41 (((((uI σ 4011 ((((σ.1 4011)) - 3))).1 4011)) + 2)).toNatClampNeg))) r9.2.1 _ h hzk hc hs H locs ls hP hD hS (lv_sub hl [2, 3, 4, 5, 1, 0] rfl)
                · rw [if_neg c10] at h
                  refine lv_aload_n hx hb dX5_settle_91 rfl (lv_at hl 2 rfl) ?_
                  obtain ⟨b11, hb11, h⟩ := oP_ex h
                  refine hgq_40_2 hx hb hts in_f_X5_settle_X5 hown hK hP (hts _ (List.mem_cons_of_mem _ (List.mem_append_left _ (List.mem_append_left _ (List.mem_of_getElem? (i := 3) rfl))))) hb11 dX5_settle_92 ?_
                  refine lv_iload hx hb dX5_settle_95 (lv_at hl 0 rfl) ?_
                  refine lv_aload_n hx hb dX5_settle_97 rfl (lv_at hl 2 rfl) ?_
                  obtain ⟨b12, hb12, h⟩ := oP_ex h
                  refine hgq_40_2 hx hb hts in_f_X5_settle_X5 hown hK hP (hts _ (List.mem_cons_of_mem _ (List.mem_append_left _ (List.mem_append_left _ (List.mem_of_getElem? (i := 3) rfl))))) hb12 dX5_settle_98 ?_
                  refine hg_P_1n b12 hx hb hts in_f_X5_settle_X7 hown hK hP (va_Nw.use rfl (hG.1 _ (List.mem_of_getElem? (i := 68) rfl))) dX5_settle_101 ?_
                  obtain ⟨r13, hc13, h⟩ := op_ex h
                  refine kc_v (va_runV (As := [.int ((uI σ 4011 ((((σ.1 4011)) - 3))).2.2.1 41 (((((uI σ 4011 ((((σ.1 4011)) - 3))).1 4011)) + 2)).toNatClampNeg), .int (r9.2.1.1 (fP b12 1))]) (rest := []) ⟨hx, hb, hml, hown, hts⟩ (c_y_X7_aim__P l dC dI cy a z k (lI (lI (lB lZ 0 b11) 1 (((uI σ 4011 ((((σ.1 4011)) - 3))).2.2.1 41 (((((uI σ 4011 ((((σ.1 4011)) - 3))).1 4011)) + 2)).toNatClampNeg))) 2 ((r9.2.1.1 (fP b12 1)))) r9.2.1 r13 hc13 H.size) (cwV 2 hts g_y_X5_settle_X7_aim__P_V240 rfl rfl rfl hd_y_X7_aim__P ⟨Nat.le_of_ble_eq_true rfl, Nat.le_of_ble_eq_true rfl⟩) ⟨nb_blind, recvP b11 hK hP, (kb_pre hK hG hP hD)⟩ rfl rfl hl.1 rfl (lv_room (Nat.le_of_ble_eq_true rfl)) dX5_settle_104 ⟨(Nat.le_trans (Nat.le_add_right _ _) (Nat.le_of_eq hc)), (Nat.le_trans (Nat.le_add_right _ _) (Nat.le_of_eq hs))⟩) hA hP hD hS (fun H locs hP hD hS => ?_)
                  refine lv_goto (tgt := 133) hx hb dX5_settle_107 (by decide) ?_
                  exact ih.2.2.2.2.1 z _ _ (lI L 5 (((uI σ 4011 ((((σ.1 4011)) - 3))).2.2.1 41 (((((uI σ 4011 ((((σ.1 4011)) - 3))).1 4011)) + 2)).toNatClampNeg))) r13.2 _ h hzk hc hs H locs ls hP hD hS (lv_sub hl [2, 3, 4, 5, 0] rfl)
              · subst hy
                exact Or.inr ⟨h00, rfl, hc, hs⟩
      · intro z cells slots L σ r h hzk hc hs H locs ls hP hD hS hl
        rw [f_X5_settle] at h
        obtain rfl := Option.some.inj h
        subst hc
        subst hs
        exact xr_v hx hb hr hK hzk hP hD hS hlocks dX5_settle_167
      · intro z cells slots L σ r h hzk hc hs H locs ls hP hD hS hl
        rw [f_X5_settle] at h
        refine lv_iload hx hb dX5_settle_110 (lv_at hl 4 rfl) ?_
        refine lv_iconst (v := 2) hx hb dX5_settle_112 (by decide) ?_
        refine lv_icmp_eq (tgt := 123) hx hb dX5_settle_113 (by decide) (fun c1 => ?_) (fun c1 => ?_)
        · rw [if_pos c1] at h
          exact ih.2.2.2.2.2.1 z _ _ L σ _ h hzk hc hs H locs ls hP hD hS (lv_sub hl [0, 1, 2, 3, 5] rfl)
        · rw [if_neg c1] at h
          refine lv_iload hx hb dX5_settle_116 (lv_at hl 4 rfl) ?_
          refine lv_bipush (v := 6) hx hb dX5_settle_118 (by decide) ?_
          refine lv_icmp_lt (tgt := 133) hx hb dX5_settle_120 (by decide) (fun c2 => ?_) (fun c2 => ?_)
          · rw [if_pos c2] at h
            exact ih.2.2.2.2.1 z _ _ L σ _ h hzk hc hs H locs ls hP hD hS (lv_sub hl [0, 1, 2, 3, 5] rfl)
          · rw [if_neg c2] at h
            exact ih.2.2.2.2.2.1 z _ _ L σ _ h hzk hc hs H locs ls hP hD hS (lv_sub hl [0, 1, 2, 3, 5] rfl)
      · intro z cells slots L σ r h hzk hc hs H locs ls hP hD hS hl
        rw [f_X5_settle] at h
        refine lv_aload_n hx hb dX5_settle_133 rfl (lv_at hl 0 rfl) ?_
        refine hg_40_10 hx hb hts in_f_X5_settle_X5 hown hK hP (hts _ (List.mem_cons_of_mem _ (List.mem_append_left _ (List.mem_append_left _ (List.mem_of_getElem? (i := 2) rfl))))) dX5_settle_134 ?_
        refine lv_aload_n hx hb dX5_settle_137 rfl (lv_at hl 0 rfl) ?_
        refine hg_40_11 hx hb hts in_f_X5_settle_X5 hown hK hP (hts _ (List.mem_cons_of_mem _ (List.mem_append_left _ (List.mem_append_left _ (List.mem_of_getElem? (i := 1) rfl))))) dX5_settle_138 ?_
        refine lv_iconst (v := 1) hx hb dX5_settle_141 (by decide) ?_
        refine lv_iadd hx hb dX5_settle_142 ?_
        obtain ⟨q1, h⟩ := kr_ite1 h
        refine hl_41 hx hb hK hP q1 dX5_settle_143 ?_
        refine lv_bipush (v := 112) hx hb dX5_settle_144 (by decide) ?_
        refine lv_icmp_ne (tgt := 161) hx hb dX5_settle_146 (by decide) (fun c2 => ?_) (fun c2 => ?_)
        · rw [if_neg c2] at h
          exact ih.2.2.2.2.2.2 z _ _ L σ _ h hzk hc hs H locs ls hP hD hS (lv_sub hl [0, 1, 2, 3] rfl)
        · rw [if_pos c2] at h
          refine lv_aload_n hx hb dX5_settle_149 rfl (lv_at hl 0 rfl) ?_
          obtain ⟨b3, hb3, h⟩ := oP_ex h
          refine hgq_40_2 hx hb hts in_f_X5_settle_X5 hown hK hP (hts _ (List.mem_cons_of_mem _ (List.mem_append_left _ (List.mem_append_left _ (List.mem_of_getElem? (i := 3) rfl))))) hb3 dX5_settle_150 ?_
          refine lv_bipush (v := 113) hx hb dX5_settle_153 (by decide) ?_
          refine lv_iload hx hb dX5_settle_155 (lv_at hl 4 rfl) ?_
          obtain ⟨r4, hc4, hle4, h9⟩ := ox_ex h
          clear h
          refine kx_i (vx_runV (As := [.int 113, .int (L.1 5)]) (rest := []) ⟨hx, hb, hml, hown, hts⟩ (c_f_X7_emit__P l hl0 dC dI cy ek a k (lI (lI (lB lZ 0 b3) 1 113) 2 ((L.1 5))) σ r4 hc4 z H.size) (cwV 2 hts g_f_X5_settle_X7_emit__P_V66 rfl rfl rfl hd_f_X7_emit__P ⟨Nat.le_of_ble_eq_true rfl, Nat.le_of_ble_eq_true rfl⟩) ⟨nb_blindF, recvP b3 hK hP, (kx_pre hK hG hE hT hA hP hD hS)⟩ rfl rfl hl.1 rfl (lv_room (Nat.le_of_ble_eq_true rfl)) dX5_settle_157 ⟨Nat.le_trans (Nat.add_le_add_left hle4.1 _) (Nat.le_of_eq hc), Nat.le_trans (Nat.add_le_add_left hle4.2 _) (Nat.le_of_eq hs)⟩) hK hA hzk hP hD hS (by decide) hno hlocks ?_
          rcases h9 with ⟨h00, y4, hny4, hy⟩ | ⟨h00, hy⟩
          · subst hy
            have h := hny4
            refine Or.inl ⟨h00, fun z H locs hz4 hzk hP hD hS => ?_⟩
            replace hc := (Nat.add_assoc _ _ _).trans hc
            replace hs := (Nat.add_assoc _ _ _).trans hs
            refine lv_pop hx hb dX5_settle_160 rfl ?_
            exact ih.2.2.2.2.2.2 z _ _ L r4.2.1 _ h hzk hc hs H locs ls hP hD hS (lv_sub hl [0, 1, 2, 3] rfl)
          · subst hy
            exact Or.inr ⟨h00, rfl, hc, hs⟩
      · intro z cells slots L σ r h hzk hc hs H locs ls hP hD hS hl
        rw [f_X5_settle] at h
        refine lv_aload_n hx hb dX5_settle_123 rfl (lv_at hl 0 rfl) ?_
        refine lv_dup hx hb dX5_settle_124 rfl ?_
        refine hg_40_5 hx hb hts in_f_X5_settle_X5 hown hK hP (hts _ (List.mem_cons_of_mem _ (List.mem_append_left _ (List.mem_append_left _ (List.mem_of_getElem? (i := 11) rfl))))) dX5_settle_125 ?_
        refine lv_iconst (v := 1) hx hb dX5_settle_128 (by decide) ?_
        refine lv_isub hx hb dX5_settle_129 ?_
        refine hp_40_5 hx hb hts in_f_X5_settle_X5 hown hK hP hD hS (hts _ (List.mem_cons_of_mem _ (List.mem_append_left _ (List.mem_append_left _ (List.mem_of_getElem? (i := 11) rfl))))) dX5_settle_130 (fun H locs hP hD hS => ?_)
        exact ih.2.2.2.2.1 z _ _ L (uI σ 4005 ((((σ.1 4005)) - 1))) _ h hzk hc hs H locs ls hP hD hS (lv_sub hl [0, 1, 2, 3, 4] rfl)
      · intro z cells slots L σ r h hzk hc hs H locs ls hP hD hS hl
        rw [f_X5_settle] at h
        refine lv_iinc (v := ((L.1 3)) + 1) (lv' := [(3, .int (((L.1 3)) + 1)), (0, .ref (a 40)), (1, .int (L.1 1)), (2, .int (L.1 2))]) hx hb dX5_settle_161 hl (k := 3) rfl rfl (by decide) rfl (fun ls hl => ?_)
        refine lv_goto (tgt := 2) hx hb dX5_settle_164 (by decide) ?_
        exact ih.2.1 z _ _ (lI L 3 ((((L.1 3)) + 1))) σ _ h hzk hc hs H locs ls hP hD hS (lv_sub hl [1, 2, 3, 0] rfl)
  exact (blk k0).1 z 0 0 L0 σ0 r0 h0 (zk_rf _ _) ((Nat.zero_add _).trans hmc) ((Nat.zero_add _).trans hms) s.heap [] ls hP hD hS hl

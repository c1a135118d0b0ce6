/-! X5_plainStatement -/
def f_X5_plainStatement : Nat → Nat → LV → CS → Option RS
  | 0, _, _, _ => none
  | k + 1, 0, L, σ => ox (f_X2_advance k 0 lZ σ) (fun r1 => if ((σ.1 3702)) = (49 : Int32) then (f_X5_plainStatement k 1 L r1.2.1) else (if ((σ.1 3702)) = (50 : Int32) then (f_X5_plainStatement k 2 L r1.2.1) else (if ((σ.1 3702)) = (51 : Int32) then (f_X5_plainStatement k 3 L r1.2.1) else (if ((σ.1 3702)) = (52 : Int32) then (f_X5_plainStatement k 4 L r1.2.1) else (if ((σ.1 3702)) = (53 : Int32) then (f_X5_plainStatement k 5 L r1.2.1) else (if ((σ.1 3702)) = (54 : Int32) then (f_X5_plainStatement k 6 L r1.2.1) else (if ((σ.1 3702)) = (55 : Int32) then (f_X5_plainStatement k 7 L r1.2.1) else (f_X5_plainStatement k 4 L r1.2.1))))))))
  | k + 1, 1, L, σ => oP (sPp σ) (fun b1 => ox (f_X7_emit__P k 0 (lI (lI (lB lZ 0 b1) 1 3) 2 ((σ.1 4009))) σ) (fun r2 => f_X5_plainStatement k 8 L (uI r2.2.1 4009 r2.1.2)))
  | k + 1, 2, L, σ => oP (sPp σ) (fun b1 => oP (sPp σ) (fun b2 => ox (f_X7_emit__P k 0 (lI (lI (lB lZ 0 b2) 1 3) 2 0) σ) (fun r3 => op (y_X7_aim__P k 0 (lI (lI (lB lZ 0 b1) 1 r3.1.2) 2 ((r3.2.1.1 4008))) r3.2.1) (fun r4 => f_X5_plainStatement k 8 L r4.2))))
  | k + 1, 3, L, σ => if ((σ.1 3702)) = 17 then (ox (f_X5_push k 0 (lI lZ 1 ((-2147483648))) σ) (fun r2 => f_X5_plainStatement k 10 L r2.2.1)) else (f_X5_plainStatement k 9 L σ)
  | k + 1, 4, L, σ => oP (sPp σ) (fun b1 => ox (f_X7_emit__P k 0 (lI (lI (lB lZ 0 b1) 1 22) 2 0) σ) (fun r2 => f_X5_plainStatement k 8 L r2.2.1))
  | k + 1, 5, L, σ => ox (f_X5_exp k 0 (lI lZ 1 0) σ) (fun r1 => oP (sPp r1.2.1) (fun b2 => ox (f_X7_emit__P k 0 (lI (lI (lB lZ 0 b2) 1 24) 2 0) r1.2.1) (fun r3 => f_X5_plainStatement k 8 L r3.2.1)))
  | k + 1, 6, L, σ => oP (sPp σ) (fun b1 => ox (f_X7_emit__P k 0 (lI (lI (lB lZ 0 b1) 1 2) 2 0) σ) (fun r2 => f_X5_plainStatement k 8 L r2.2.1))
  | k + 1, 7, L, σ => oP (sPp σ) (fun b1 => ox (f_X7_emit__P k 0 (lI (lI (lB lZ 0 b1) 1 23) 2 0) σ) (fun r2 => f_X5_plainStatement k 8 L r2.2.1))
  | k + 1, 8, L, σ => some ((0, 0), σ, (0, 0))
  | k + 1, 9, L, σ => ox (f_X5_exp k 0 (lI lZ 1 0) σ) (fun r1 => f_X5_plainStatement k 10 L r1.2.1)
  | k + 1, 10, L, σ => oP (sPp σ) (fun b1 => ox (f_X7_emit__P k 0 (lI (lI (lB lZ 0 b1) 1 20) 2 0) σ) (fun r2 => f_X5_plainStatement k 8 L r2.2.1))
  | _ + 1, _ + 11, _, _ => none
def o_f_X5_plainStatement : List Cond := [.fieldLink RX5 18 "SetHouse$Parser" "lex" "LSetHouse$Lexer;", .methodLink RX5 30 yX2_advance, .instanceMethod yX2_advance, .selects RX2 yX2_advance yX2_advance, .initialized RX2, .fieldLink RX5 93 "SetHouse$Parser" "p" "LSetHouse$Program;", .fieldLink RX5 109 "SetHouse$Parser" "quits" "I", .methodLink RX5 66 yX7_emit, .instanceMethod yX7_emit, .selects RX7 yX7_emit yX7_emit, .initialized RX7, .fieldLink RX5 106 "SetHouse$Parser" "loopNext" "I", .methodLink RX5 240 yX7_aim, .instanceMethod yX7_aim, .selects RX7 yX7_aim yX7_aim, .constant RX5 198 (-2147483648), .methodLink RX5 199 yX5_push, .instanceMethod yX5_push, .selects RX5 yX5_push yX5_push, .initialized RX5, .methodLink RX5 90 yX5_exp, .instanceMethod yX5_exp, .selects RX5 yX5_exp yX5_exp]
theorem o_f_X5_plainStatement_good : o_f_X5_plainStatement.all goodWord = true := by decide +kernel
def p_f_X5_plainStatement : List Cond := o_f_X5_plainStatement ++ ((.code yX2_advance cX2_advance 7 none :: p_f_X2_advance) ++ ((.code yX7_emit cX7_emit 3 (some .int) :: p_f_X7_emit__P) ++ ((.code yX7_aim cX7_aim 3 none :: p_y_X7_aim__P) ++ ((.code yX5_push cX5_push 2 none :: p_f_X5_push) ++ ((.code yX5_exp cX5_exp 8 none :: p_f_F2) ++ [])))))
theorem p_f_X5_plainStatement_good : p_f_X5_plainStatement.all goodWord = true := nb_all2 o_f_X5_plainStatement_good (nb_all2 (nb_allc (by decide +kernel) p_f_X2_advance_good) (nb_all2 (nb_allc (by decide +kernel) p_f_X7_emit__P_good) (nb_all2 (nb_allc (by decide +kernel) p_y_X7_aim__P_good) (nb_all2 (nb_allc (by decide +kernel) p_f_X5_push_good) (nb_all2 (nb_allc (by decide +kernel) p_f_F2_good) rfl)))))
def w_f_X5_plainStatement : List Cond := .code yX5_plainStatement cX5_plainStatement 2 none :: (p_f_X5_plainStatement ++ fC)
theorem w_f_X5_plainStatement_good : w_f_X5_plainStatement.all goodWord = true := nb_allc (by decide +kernel) (nb_all2 p_f_X5_plainStatement_good fC_good)
theorem in_f_X5_plainStatement_X2 : ∀ w ∈ wsX20, w ∈ w_f_X5_plainStatement := fun _ h => List.mem_cons_of_mem _ (List.mem_append_right _ (List.mem_append_right _ (List.mem_append_right _ (List.mem_append_left _ h))))
theorem in_f_X5_plainStatement_X5 : ∀ w ∈ wsX50, w ∈ w_f_X5_plainStatement := fun _ h => List.mem_cons_of_mem _ (List.mem_append_right _ (List.mem_append_right _ (List.mem_append_right _ (List.mem_append_right _ (List.mem_append_right _ (List.mem_append_left _ h))))))
theorem hd_f_X5_plainStatement : yX5_plainStatement.cls = RX5 ∧ yX5_plainStatement.cls ≠ "java/lang/invoke/MethodHandle" ∧ yX5_plainStatement.cls ≠ "java/lang/invoke/VarHandle" ∧ (parseMethodDescriptor yX5_plainStatement.desc).map (fun d => d.parameters.length) = some 0 := by decide +kernel
theorem gg_f_X5_plainStatement_X2_advance : GoodIn w_f_X5_plainStatement w_f_X2_advance := goodIn_sub (fun w h => (List.mem_cons.mp h).elim (fun e => (List.mem_cons_of_mem _ (List.mem_append_left _ (List.mem_append_right _ (List.mem_append_left _ (List.mem_cons.mpr (Or.inl e))))))) (fun h => (List.mem_append.mp h).elim (fun h => (List.mem_cons_of_mem _ (List.mem_append_left _ (List.mem_append_right _ (List.mem_append_left _ (List.mem_cons_of_mem _ h)))))) (fun h => List.mem_cons_of_mem _ (List.mem_append_right _ h)))) w_f_X2_advance_good
theorem g_f_X5_plainStatement_X2_advance_V30 : GoodIn w_f_X5_plainStatement (wsV RX5 30 RX2 yX2_advance w_f_X2_advance) := goodIn_app (nb_g4 (List.mem_cons_of_mem _ (List.mem_append_left _ (List.mem_append_left _ (List.mem_of_getElem? (i := 1) rfl)))) (List.mem_cons_of_mem _ (List.mem_append_left _ (List.mem_append_left _ (List.mem_of_getElem? (i := 2) rfl)))) (List.mem_cons_of_mem _ (List.mem_append_left _ (List.mem_append_left _ (List.mem_of_getElem? (i := 3) rfl)))) (List.mem_cons_of_mem _ (List.mem_append_left _ (List.mem_append_left _ (List.mem_of_getElem? (i := 4) rfl)))) (by decide +kernel)) gg_f_X5_plainStatement_X2_advance
theorem gg_f_X5_plainStatement_X5_exp : GoodIn w_f_X5_plainStatement w_f_X5_exp := goodIn_sub (fun w h => (List.mem_cons.mp h).elim (fun e => (List.mem_cons_of_mem _ (List.mem_append_left _ (List.mem_append_right _ (List.mem_append_right _ (List.mem_append_right _ (List.mem_append_right _ (List.mem_append_right _ (List.mem_append_left _ (List.mem_cons.mpr (Or.inl e))))))))))) (fun h => (List.mem_append.mp h).elim (fun h => (List.mem_cons_of_mem _ (List.mem_append_left _ (List.mem_append_right _ (List.mem_append_right _ (List.mem_append_right _ (List.mem_append_right _ (List.mem_append_right _ (List.mem_append_left _ (List.mem_cons_of_mem _ h)))))))))) (fun h => List.mem_cons_of_mem _ (List.mem_append_right _ h)))) w_f_X5_exp_good
theorem g_f_X5_plainStatement_X5_exp_V90 : GoodIn w_f_X5_plainStatement (wsV RX5 90 RX5 yX5_exp w_f_X5_exp) := goodIn_app (nb_g4 (List.mem_cons_of_mem _ (List.mem_append_left _ (List.mem_append_left _ (List.mem_of_getElem? (i := 20) rfl)))) (List.mem_cons_of_mem _ (List.mem_append_left _ (List.mem_append_left _ (List.mem_of_getElem? (i := 21) rfl)))) (List.mem_cons_of_mem _ (List.mem_append_left _ (List.mem_append_left _ (List.mem_of_getElem? (i := 22) rfl)))) (List.mem_cons_of_mem _ (List.mem_append_left _ (List.mem_append_left _ (List.mem_of_getElem? (i := 19) rfl)))) (by decide +kernel)) gg_f_X5_plainStatement_X5_exp
theorem gg_f_X5_plainStatement_X5_push : GoodIn w_f_X5_plainStatement w_f_X5_push := goodIn_sub (fun w h => (List.mem_cons.mp h).elim (fun e => (List.mem_cons_of_mem _ (List.mem_append_left _ (List.mem_append_right _ (List.mem_append_right _ (List.mem_append_right _ (List.mem_append_right _ (List.mem_append_left _ (List.mem_cons.mpr (Or.inl e)))))))))) (fun h => (List.mem_append.mp h).elim (fun h => (List.mem_cons_of_mem _ (List.mem_append_left _ (List.mem_append_right _ (List.mem_append_right _ (List.mem_append_right _ (List.mem_append_right _ (List.mem_append_left _ (List.mem_cons_of_mem _ h))))))))) (fun h => List.mem_cons_of_mem _ (List.mem_append_right _ h)))) w_f_X5_push_good
theorem g_f_X5_plainStatement_X5_push_V199 : GoodIn w_f_X5_plainStatement (wsV RX5 199 RX5 yX5_push w_f_X5_push) := goodIn_app (nb_g4 (List.mem_cons_of_mem _ (List.mem_append_left _ (List.mem_append_left _ (List.mem_of_getElem? (i := 16) rfl)))) (List.mem_cons_of_mem _ (List.mem_append_left _ (List.mem_append_left _ (List.mem_of_getElem? (i := 17) rfl)))) (List.mem_cons_of_mem _ (List.mem_append_left _ (List.mem_append_left _ (List.mem_of_getElem? (i := 18) rfl)))) (List.mem_cons_of_mem _ (List.mem_append_left _ (List.mem_append_left _ (List.mem_of_getElem? (i := 19) rfl)))) (by decide +kernel)) gg_f_X5_plainStatement_X5_push
theorem gg_f_X5_plainStatement_X7_emit__P : GoodIn w_f_X5_plainStatement w_f_X7_emit__P := goodIn_sub (fun w h => (List.mem_cons.mp h).elim (fun e => (List.mem_cons_of_mem _ (List.mem_append_left _ (List.mem_append_right _ (List.mem_append_right _ (List.mem_append_left _ (List.mem_cons.mpr (Or.inl e)))))))) (fun h => (List.mem_append.mp h).elim (fun h => (List.mem_cons_of_mem _ (List.mem_append_left _ (List.mem_append_right _ (List.mem_append_right _ (List.mem_append_left _ (List.mem_cons_of_mem _ h))))))) (fun h => List.mem_cons_of_mem _ (List.mem_append_right _ h)))) w_f_X7_emit__P_good
theorem g_f_X5_plainStatement_X7_emit__P_V66 : GoodIn w_f_X5_plainStatement (wsV RX5 66 RX7 yX7_emit w_f_X7_emit__P) := goodIn_app (nb_g4 (List.mem_cons_of_mem _ (List.mem_append_left _ (List.mem_append_left _ (List.mem_of_getElem? (i := 7) rfl)))) (List.mem_cons_of_mem _ (List.mem_append_left _ (List.mem_append_left _ (List.mem_of_getElem? (i := 8) rfl)))) (List.mem_cons_of_mem _ (List.mem_append_left _ (List.mem_append_left _ (List.mem_of_getElem? (i := 9) rfl)))) (List.mem_cons_of_mem _ (List.mem_append_left _ (List.mem_append_left _ (List.mem_of_getElem? (i := 10) rfl)))) (by decide +kernel)) gg_f_X5_plainStatement_X7_emit__P
theorem gg_f_X5_plainStatement_X7_aim__P : GoodIn w_f_X5_plainStatement w_y_X7_aim__P := goodIn_sub (fun w h => (List.mem_cons.mp h).elim (fun e => (List.mem_cons_of_mem _ (List.mem_append_left _ (List.mem_append_right _ (List.mem_append_right _ (List.mem_append_right _ (List.mem_append_left _ (List.mem_cons.mpr (Or.inl e))))))))) (fun h => (List.mem_append.mp h).elim (fun h => (List.mem_cons_of_mem _ (List.mem_append_left _ (List.mem_append_right _ (List.mem_append_right _ (List.mem_append_right _ (List.mem_append_left _ (List.mem_cons_of_mem _ h)))))))) (fun h => List.mem_cons_of_mem _ (List.mem_append_right _ h)))) w_y_X7_aim__P_good
theorem g_y_X5_plainStatement_X7_aim__P_V240 : GoodIn w_f_X5_plainStatement (wsV RX5 240 RX7 yX7_aim w_y_X7_aim__P) := goodIn_app (nb_g4 (List.mem_cons_of_mem _ (List.mem_append_left _ (List.mem_append_left _ (List.mem_of_getElem? (i := 12) rfl)))) (List.mem_cons_of_mem _ (List.mem_append_left _ (List.mem_append_left _ (List.mem_of_getElem? (i := 13) rfl)))) (List.mem_cons_of_mem _ (List.mem_append_left _ (List.mem_append_left _ (List.mem_of_getElem? (i := 14) rfl)))) (List.mem_cons_of_mem _ (List.mem_append_left _ (List.mem_append_left _ (List.mem_of_getElem? (i := 10) rfl)))) (by decide +kernel)) gg_f_X5_plainStatement_X7_aim__P
set_option maxHeartbeats 40000000 in
set_option maxRecDepth 100000 in
theorem c_f_X5_plainStatement (l : Launch) (hl0 : l.stackTraces = false) (dC : Nat → ClassId) (dI : Nat → Nat → Nat) (cy : Nat → ClassId) (ek a : Nat → Nat) (k0 : Nat) (L0 : LV) (σ0 : CS) (r0 : RS) (h0 : f_X5_plainStatement k0 0 L0 σ0 = some r0) (z : Nat → Nat) (sz : Nat) : vx_Met l yX5_plainStatement w_f_X5_plainStatement ({ frames := 410, cells := r0.2.2.1, slots := r0.2.2.2, locals := 13400 }) (va_Pc [.ref (a 40)] (nInF (dC, dI) cy ek sz (vC cy a z σ0))) (xV dC dI cy a (va_A (vC cy a z σ0) sz) [41, 43, 51] z r0) (xX dC dI cy a (va_A (vC cy a z σ0) sz) [41, 43, 51] z r0) r0.2.2.1 r0.2.2.2 (va_A (vC cy a z σ0) sz) := by
  refine vx_ofW (cc := cX5_plainStatement) (maxL := 2) (ret := none) (by decide) rfl ?_
  intro p e s m args below meth c s₁ B hml hno hv
  obtain ⟨rfl, ⟨⟨hsz, hP, hK, hD0, hG⟩, hE⟩, hT⟩ := hv
  have hx := B.exec
  have hb := B.bytes
  have hr := B.returns
  have hts := atoms_spec (ws := w_f_X5_plainStatement) B.pre
  have hown : s.vm.findClass RX5 = some m.cls := findClass_of_methodNamed B.named
  have hlocks := B.notSynchronized
  subst hsz
  have hD := hD0.self (sz := s.heap.size)
  generalize hAe : va_A (vC cy a z σ0) s.heap.size = A at hD hE hT ⊢
  have hA : ∀ q : Nat, s.heap.size ≤ q → A q := fun q h => by rw [← hAe]; exact Or.inr h
  have hS : va_S A s.heap s.heap [] := va_S.rf
  have hl := lv_entry ([.ref (a 40)]) (n := 2) (Nat.le_of_ble_eq_true rfl)
  rw [lg_entry_eq]
  generalize (lg_sl ([.ref (a 40)]) ++ List.replicate (2 - (lg_sl ([.ref (a 40)])).length) Slot.unset).toArray = ls at hl ⊢
  have hl : lv_has ls 2 [(0, .ref (a 40))] := hl
  generalize hmc : r0.2.2.1 = mc
  generalize hms : r0.2.2.2 = ms
  have blk : ∀ k : Nat, (bX p l e (headSpec w_f_X5_plainStatement ({ frames := 410, cells := mc, slots := ms, locals := 13400 })).room s m #[.ref (a 40)] below meth c dC dI cy a A (fun r => vx_MQ below (xV dC dI cy a A [41, 43, 51] z r) (xX dC dI cy a A [41, 43, 51] z r) #[.ref (a 40)] s mc ms A) [41, 43, 51] z mc ms 2 (f_X5_plainStatement k 0) (fun z L => [(0, .ref (a 40))]) 0 (fun z L => [])) ∧ (bX p l e (headSpec w_f_X5_plainStatement ({ frames := 410, cells := mc, slots := ms, locals := 13400 })).room s m #[.ref (a 40)] below meth c dC dI cy a A (fun r => vx_MQ below (xV dC dI cy a A [41, 43, 51] z r) (xX dC dI cy a A [41, 43, 51] z r) #[.ref (a 40)] s mc ms A) [41, 43, 51] z mc ms 2 (f_X5_plainStatement k 1) (fun z L => [(0, .ref (a 40))]) 60 (fun z L => [])) ∧ (bX p l e (headSpec w_f_X5_plainStatement ({ frames := 410, cells := mc, slots := ms, locals := 13400 })).room s m #[.ref (a 40)] below meth c dC dI cy a A (fun r => vx_MQ below (xV dC dI cy a A [41, 43, 51] z r) (xX dC dI cy a A [41, 43, 51] z r) #[.ref (a 40)] s mc ms A) [41, 43, 51] z mc ms 2 (f_X5_plainStatement k 2) (fun z L => [(0, .ref (a 40))]) 79 (fun z L => [])) ∧ (bX p l e (headSpec w_f_X5_plainStatement ({ frames := 410, cells := mc, slots := ms, locals := 13400 })).room s m #[.ref (a 40)] below meth c dC dI cy a A (fun r => vx_MQ below (xV dC dI cy a A [41, 43, 51] z r) (xX dC dI cy a A [41, 43, 51] z r) #[.ref (a 40)] s mc ms A) [41, 43, 51] z mc ms 2 (f_X5_plainStatement k 3) (fun z L => [(0, .ref (a 40))]) 102 (fun z L => [])) ∧ (bX p l e (headSpec w_f_X5_plainStatement ({ frames := 410, cells := mc, slots := ms, locals := 13400 })).room s m #[.ref (a 40)] below meth c dC dI cy a A (fun r => vx_MQ below (xV dC dI cy a A [41, 43, 51] z r) (xX dC dI cy a A [41, 43, 51] z r) #[.ref (a 40)] s mc ms A) [41, 43, 51] z mc ms 2 (f_X5_plainStatement k 4) (fun z L => [(0, .ref (a 40))]) 188 (fun z L => [])) ∧ (bX p l e (headSpec w_f_X5_plainStatement ({ frames := 410, cells := mc, slots := ms, locals := 13400 })).room s m #[.ref (a 40)] below meth c dC dI cy a A (fun r => vx_MQ below (xV dC dI cy a A [41, 43, 51] z r) (xX dC dI cy a A [41, 43, 51] z r) #[.ref (a 40)] s mc ms A) [41, 43, 51] z mc ms 2 (f_X5_plainStatement k 5) (fun z L => [(0, .ref (a 40))]) 142 (fun z L => [])) ∧ (bX p l e (headSpec w_f_X5_plainStatement ({ frames := 410, cells := mc, slots := ms, locals := 13400 })).room s m #[.ref (a 40)] below meth c dC dI cy a A (fun r => vx_MQ below (xV dC dI cy a A [41, 43, 51] z r) (xX dC dI cy a A [41, 43, 51] z r) #[.ref (a 40)] s mc ms A) [41, 43, 51] z mc ms 2 (f_X5_plainStatement k 6) (fun z L => [(0, .ref (a 40))]) 161 (fun z L => [])) ∧ (bX p l e (headSpec w_f_X5_plainStatement ({ frames := 410, cells := mc, slots := ms, locals := 13400 })).room s m #[.ref (a 40)] below meth c dC dI cy a A (fun r => vx_MQ below (xV dC dI cy a A [41, 43, 51] z r) (xX dC dI cy a A [41, 43, 51] z r) #[.ref (a 40)] s mc ms A) [41, 43, 51] z mc ms 2 (f_X5_plainStatement k 7) (fun z L => [(0, .ref (a 40))]) 174 (fun z L => [])) ∧ (bX p l e (headSpec w_f_X5_plainStatement ({ frames := 410, cells := mc, slots := ms, locals := 13400 })).room s m #[.ref (a 40)] below meth c dC dI cy a A (fun r => vx_MQ below (xV dC dI cy a A [41, 43, 51] z r) (xX dC dI cy a A [41, 43, 51] z r) #[.ref (a 40)] s mc ms A) [41, 43, 51] z mc ms 2 (f_X5_plainStatement k 8) (fun z L => []) 199 (fun z L => [])) ∧ (bX p l e (headSpec w_f_X5_plainStatement ({ frames := 410, cells := mc, slots := ms, locals := 13400 })).room s m #[.ref (a 40)] below meth c dC dI cy a A (fun r => vx_MQ below (xV dC dI cy a A [41, 43, 51] z r) (xX dC dI cy a A [41, 43, 51] z r) #[.ref (a 40)] s mc ms A) [41, 43, 51] z mc ms 2 (f_X5_plainStatement k 9) (fun z L => [(0, .ref (a 40))]) 123 (fun z L => [])) ∧ (bX p l e (headSpec w_f_X5_plainStatement ({ frames := 410, cells := mc, slots := ms, locals := 13400 })).room s m #[.ref (a 40)] below meth c dC dI cy a A (fun r => vx_MQ below (xV dC dI cy a A [41, 43, 51] z r) (xX dC dI cy a A [41, 43, 51] z r) #[.ref (a 40)] s mc ms A) [41, 43, 51] z mc ms 2 (f_X5_plainStatement k 10) (fun z L => [(0, .ref (a 40))]) 128 (fun z L => [])) := by
    intro k
    induction k with
    | zero => exact ⟨fun z c1 c2 L σ r h => (by cases h), fun z c1 c2 L σ r h => (by cases h), fun z c1 c2 L σ r h => (by cases h), fun z c1 c2 L σ r h => (by cases h), fun z c1 c2 L σ r h => (by cases h), fun z c1 c2 L σ r h => (by cases h), fun z c1 c2 L σ r h => (by cases h), fun z c1 c2 L σ r h => (by cases h), fun z c1 c2 L σ r h => (by cases h), fun z c1 c2 L σ r h => (by cases h), fun z c1 c2 L σ r h => (by cases h)⟩
    | succ k ih =>
      refine ⟨?_, ?_, ?_, ?_, ?_, ?_, ?_, ?_, ?_, ?_, ?_⟩
      · intro z cells slots L σ r h hzk hc hs H locs ls hP hD hS hl
        rw [f_X5_plainStatement] at h
        refine lv_aload_n hx hb dX5_plainStatement_0 rfl (lv_at hl 0 rfl) ?_
        refine hg_40_0 hx hb hts in_f_X5_plainStatement_X5 hown hK hP (hts _ (List.mem_cons_of_mem _ (List.mem_append_left _ (List.mem_append_left _ (List.mem_of_getElem? (i := 0) rfl))))) dX5_plainStatement_1 ?_
        refine hg_37_2n hx hb hts in_f_X5_plainStatement_X2 hown hK hP (va_Nw.use rfl (hG.1 _ (List.mem_of_getElem? (i := 52) rfl))) dX5_plainStatement_4 ?_
        refine lv_istore_n (lv' := [(1, .int (σ.1 3702)), (0, .ref (a 40))]) hx hb dX5_plainStatement_7 rfl hl (by decide) rfl (fun ls hl => ?_)
        refine lv_aload_n hx hb dX5_plainStatement_8 rfl (lv_at hl 1 rfl) ?_
        refine hg_40_0 hx hb hts in_f_X5_plainStatement_X5 hown hK hP (hts _ (List.mem_cons_of_mem _ (List.mem_append_left _ (List.mem_append_left _ (List.mem_of_getElem? (i := 0) rfl))))) dX5_plainStatement_9 ?_
        obtain ⟨r1, hc1, hle1, h9⟩ := ox_ex h
        clear h
        refine kx_v (vx_runV (As := []) (rest := []) ⟨hx, hb, hml, hown, hts⟩ (c_f_X2_advance l hl0 dC dI cy ek a k lZ σ r1 hc1 z H.size) (cwV 0 hts g_f_X5_plainStatement_X2_advance_V30 rfl rfl rfl hd_f_X2_advance ⟨Nat.le_of_ble_eq_true rfl, Nat.le_of_ble_eq_true rfl⟩) ⟨nb_blindF, va_recv hK hP (ci := 2) (q0 := 37) rfl rfl, (kx_pre hK hG hE hT hA hP hD hS)⟩ rfl rfl hl.1 rfl (lv_room (Nat.le_of_ble_eq_true rfl)) dX5_plainStatement_12 ⟨Nat.le_trans (Nat.add_le_add_left hle1.1 _) (Nat.le_of_eq hc), Nat.le_trans (Nat.add_le_add_left hle1.2 _) (Nat.le_of_eq hs)⟩) hK hA hzk hP hD hS (by decide) hno hlocks ?_
        rcases h9 with ⟨h00, y1, hny1, hy⟩ | ⟨h00, hy⟩
        · subst hy
          have h := hny1
          refine Or.inl ⟨h00, fun u H locs hz1 hzk hP hD hS => ?_⟩
          obtain rfl := (zk_nil hz1).symm
          replace hc := (Nat.add_assoc _ _ _).trans hc
          replace hs := (Nat.add_assoc _ _ _).trans hs
          refine lv_iload_n hx hb dX5_plainStatement_15 rfl (lv_at hl 0 rfl) ?_
          by_cases q2 : ((σ.1 3702)) = (49 : Int32)
          · rw [if_pos q2] at h
            refine lv_tableIn (off := 44) (tgt := 60) hx hb dX5_plainStatement_16 (by rw [q2]; decide) (by rw [q2]; decide) (by rw [q2]; decide) (by decide) ?_
            exact ih.2.1 z _ _ L r1.2.1 _ h hzk hc hs H locs ls hP hD hS (lv_sub hl [1] rfl)
          · rw [if_neg q2] at h
            by_cases q3 : ((σ.1 3702)) = (50 : Int32)
            · rw [if_pos q3] at h
              refine lv_tableIn (off := 63) (tgt := 79) hx hb dX5_plainStatement_16 (by rw [q3]; decide) (by rw [q3]; decide) (by rw [q3]; decide) (by decide) ?_
              exact ih.2.2.1 z _ _ L r1.2.1 _ h hzk hc hs H locs ls hP hD hS (lv_sub hl [1] rfl)
            · rw [if_neg q3] at h
              by_cases q4 : ((σ.1 3702)) = (51 : Int32)
              · rw [if_pos q4] at h
                refine lv_tableIn (off := 86) (tgt := 102) hx hb dX5_plainStatement_16 (by rw [q4]; decide) (by rw [q4]; decide) (by rw [q4]; decide) (by decide) ?_
                exact ih.2.2.2.1 z _ _ L r1.2.1 _ h hzk hc hs H locs ls hP hD hS (lv_sub hl [1] rfl)
              · rw [if_neg q4] at h
                by_cases q5 : ((σ.1 3702)) = (52 : Int32)
                · rw [if_pos q5] at h
                  refine lv_tableIn (off := 172) (tgt := 188) hx hb dX5_plainStatement_16 (by rw [q5]; decide) (by rw [q5]; decide) (by rw [q5]; decide) (by decide) ?_
                  exact ih.2.2.2.2.1 z _ _ L r1.2.1 _ h hzk hc hs H locs ls hP hD hS (lv_sub hl [1] rfl)
                · rw [if_neg q5] at h
                  by_cases q6 : ((σ.1 3702)) = (53 : Int32)
                  · rw [if_pos q6] at h
                    refine lv_tableIn (off := 126) (tgt := 142) hx hb dX5_plainStatement_16 (by rw [q6]; decide) (by rw [q6]; decide) (by rw [q6]; decide) (by decide) ?_
                    exact ih.2.2.2.2.2.1 z _ _ L r1.2.1 _ h hzk hc hs H locs ls hP hD hS (lv_sub hl [1] rfl)
                  · rw [if_neg q6] at h
                    by_cases q7 : ((σ.1 3702)) = (54 : Int32)
                    · rw [if_pos q7] at h
                      refine lv_tableIn (off := 145) (tgt := 161) hx hb dX5_plainStatement_16 (by rw [q7]; decide) (by rw [q7]; decide) (by rw [q7]; decide) (by decide) ?_
                      exact ih.2.2.2.2.2.2.1 z _ _ L r1.2.1 _ h hzk hc hs H locs ls hP hD hS (lv_sub hl [1] rfl)
                    · rw [if_neg q7] at h
                      by_cases q8 : ((σ.1 3702)) = (55 : Int32)
                      · rw [if_pos q8] at h
                        refine lv_tableIn (off := 158) (tgt := 174) hx hb dX5_plainStatement_16 (by rw [q8]; decide) (by rw [q8]; decide) (by rw [q8]; decide) (by decide) ?_
                        exact ih.2.2.2.2.2.2.2.1 z _ _ L r1.2.1 _ h hzk hc hs H locs ls hP hD hS (lv_sub hl [1] rfl)
                      · rw [if_neg q8] at h
                        have nq2 : ¬ ((σ.1 3702)).toInt = 49 := nb_ti q2 rfl
                        have nq3 : ¬ ((σ.1 3702)).toInt = 50 := nb_ti q3 rfl
                        have nq4 : ¬ ((σ.1 3702)).toInt = 51 := nb_ti q4 rfl
                        have nq5 : ¬ ((σ.1 3702)).toInt = 52 := nb_ti q5 rfl
                        have nq6 : ¬ ((σ.1 3702)).toInt = 53 := nb_ti q6 rfl
                        have nq7 : ¬ ((σ.1 3702)).toInt = 54 := nb_ti q7 rfl
                        have nq8 : ¬ ((σ.1 3702)).toInt = 55 := nb_ti q8 rfl
                        refine lv_tableOut (tgt := 188) hx hb dX5_plainStatement_16 (by omega) (by decide) ?_
                        exact ih.2.2.2.2.1 z _ _ L r1.2.1 _ h hzk hc hs H locs ls hP hD hS (lv_sub hl [1] rfl)
        · subst hy
          exact Or.inr ⟨h00, rfl, hc, hs⟩
      · intro z cells slots L σ r h hzk hc hs H locs ls hP hD hS hl
        rw [f_X5_plainStatement] at h
        refine lv_aload_n hx hb dX5_plainStatement_60 rfl (lv_at hl 0 rfl) ?_
        refine lv_aload_n hx hb dX5_plainStatement_61 rfl (lv_at hl 0 rfl) ?_
        obtain ⟨b1, hb1, h⟩ := oP_ex h
        refine hgq_40_2 hx hb hts in_f_X5_plainStatement_X5 hown hK hP (hts _ (List.mem_cons_of_mem _ (List.mem_append_left _ (List.mem_append_left _ (List.mem_of_getElem? (i := 5) rfl))))) hb1 dX5_plainStatement_62 ?_
        refine lv_iconst (v := 3) hx hb dX5_plainStatement_65 (by decide) ?_
        refine lv_aload_n hx hb dX5_plainStatement_66 rfl (lv_at hl 0 rfl) ?_
        refine hg_40_9 hx hb hts in_f_X5_plainStatement_X5 hown hK hP (hts _ (List.mem_cons_of_mem _ (List.mem_append_left _ (List.mem_append_left _ (List.mem_of_getElem? (i := 6) rfl))))) dX5_plainStatement_67 ?_
        obtain ⟨r2, hc2, hle2, h9⟩ := ox_ex h
        clear h
        refine kx_i (vx_runV (As := [.int 3, .int (σ.1 4009)]) (rest := [.ref (a 40)]) ⟨hx, hb, hml, hown, hts⟩ (c_f_X7_emit__P l hl0 dC dI cy ek a k (lI (lI (lB lZ 0 b1) 1 3) 2 ((σ.1 4009))) σ r2 hc2 z H.size) (cwV 2 hts g_f_X5_plainStatement_X7_emit__P_V66 rfl rfl rfl hd_f_X7_emit__P ⟨Nat.le_of_ble_eq_true rfl, Nat.le_of_ble_eq_true rfl⟩) ⟨nb_blindF, recvP b1 hK hP, (kx_pre hK hG hE hT hA hP hD hS)⟩ rfl rfl hl.1 rfl (lv_room (Nat.le_of_ble_eq_true rfl)) dX5_plainStatement_70 ⟨Nat.le_trans (Nat.add_le_add_left hle2.1 _) (Nat.le_of_eq hc), Nat.le_trans (Nat.add_le_add_left hle2.2 _) (Nat.le_of_eq hs)⟩) hK hA hzk hP hD hS (by decide) hno hlocks ?_
        rcases h9 with ⟨h00, y2, hny2, hy⟩ | ⟨h00, hy⟩
        · subst hy
          have h := hny2
          refine Or.inl ⟨h00, fun z H locs hz2 hzk hP hD hS => ?_⟩
          replace hc := (Nat.add_assoc _ _ _).trans hc
          replace hs := (Nat.add_assoc _ _ _).trans hs
          refine hp_40_9 hx hb hts in_f_X5_plainStatement_X5 hown hK hP hD hS (hts _ (List.mem_cons_of_mem _ (List.mem_append_left _ (List.mem_append_left _ (List.mem_of_getElem? (i := 6) rfl))))) dX5_plainStatement_73 (fun H locs hP hD hS => ?_)
          refine lv_goto (tgt := 199) hx hb dX5_plainStatement_76 (by decide) ?_
          exact ih.2.2.2.2.2.2.2.2.1 z _ _ L (uI r2.2.1 4009 r2.1.2) _ h hzk hc hs H locs ls hP hD hS (lv_sub hl [] rfl)
        · subst hy
          exact Or.inr ⟨h00, rfl, hc, hs⟩
      · intro z cells slots L σ r h hzk hc hs H locs ls hP hD hS hl
        rw [f_X5_plainStatement] at h
        refine lv_aload_n hx hb dX5_plainStatement_79 rfl (lv_at hl 0 rfl) ?_
        obtain ⟨b1, hb1, h⟩ := oP_ex h
        refine hgq_40_2 hx hb hts in_f_X5_plainStatement_X5 hown hK hP (hts _ (List.mem_cons_of_mem _ (List.mem_append_left _ (List.mem_append_left _ (List.mem_of_getElem? (i := 5) rfl))))) hb1 dX5_plainStatement_80 ?_
        refine lv_aload_n hx hb dX5_plainStatement_83 rfl (lv_at hl 0 rfl) ?_
        obtain ⟨b2, hb2, h⟩ := oP_ex h
        refine hgq_40_2 hx hb hts in_f_X5_plainStatement_X5 hown hK hP (hts _ (List.mem_cons_of_mem _ (List.mem_append_left _ (List.mem_append_left _ (List.mem_of_getElem? (i := 5) rfl))))) hb2 dX5_plainStatement_84 ?_
        refine lv_iconst (v := 3) hx hb dX5_plainStatement_87 (by decide) ?_
        refine lv_iconst (v := 0) hx hb dX5_plainStatement_88 (by decide) ?_
        obtain ⟨r3, hc3, hle3, h9⟩ := ox_ex h
        clear h
        refine kx_i (vx_runV (As := [.int 3, .int 0]) (rest := [.ref (a (pA b1))]) ⟨hx, hb, hml, hown, hts⟩ (c_f_X7_emit__P l hl0 dC dI cy ek a k (lI (lI (lB lZ 0 b2) 1 3) 2 0) σ r3 hc3 z H.size) (cwV 2 hts g_f_X5_plainStatement_X7_emit__P_V66 rfl rfl rfl hd_f_X7_emit__P ⟨Nat.le_of_ble_eq_true rfl, Nat.le_of_ble_eq_true rfl⟩) ⟨nb_blindF, recvP b2 hK hP, (kx_pre hK hG hE hT hA hP hD hS)⟩ rfl rfl hl.1 rfl (lv_room (Nat.le_of_ble_eq_true rfl)) dX5_plainStatement_89 ⟨Nat.le_trans (Nat.add_le_add_left hle3.1 _) (Nat.le_of_eq hc), Nat.le_trans (Nat.add_le_add_left hle3.2 _) (Nat.le_of_eq hs)⟩) hK hA hzk hP hD hS (by decide) hno hlocks ?_
        rcases h9 with ⟨h00, y3, hny3, hy⟩ | ⟨h00, hy⟩
        · subst hy
          have h := hny3
          refine Or.inl ⟨h00, fun z H locs hz3 hzk hP hD hS => ?_⟩
          replace hc := (Nat.add_assoc _ _ _).trans hc
          replace hs := (Nat.add_assoc _ _ _).trans hs
          refine lv_aload_n hx hb dX5_plainStatement_92 rfl (lv_at hl 0 rfl) ?_
          refine hg_40_8 hx hb hts in_f_X5_plainStatement_X5 hown hK hP (hts _ (List.mem_cons_of_mem _ (List.mem_append_left _ (List.mem_append_left _ (List.mem_of_getElem? (i := 11) rfl))))) dX5_plainStatement_93 ?_
          obtain ⟨r4, hc4, h⟩ := op_ex h
          refine kc_v (va_runV (As := [.int r3.1.2, .int (r3.2.1.1 4008)]) (rest := []) ⟨hx, hb, hml, hown, hts⟩ (c_y_X7_aim__P l dC dI cy a z k (lI (lI (lB lZ 0 b1) 1 r3.1.2) 2 ((r3.2.1.1 4008))) r3.2.1 r4 hc4 H.size) (cwV 2 hts g_y_X5_plainStatement_X7_aim__P_V240 rfl rfl rfl hd_y_X7_aim__P ⟨Nat.le_of_ble_eq_true rfl, Nat.le_of_ble_eq_true rfl⟩) ⟨nb_blind, recvP b1 hK hP, (kb_pre hK hG hP hD)⟩ rfl rfl hl.1 rfl (lv_room (Nat.le_of_ble_eq_true rfl)) dX5_plainStatement_96 ⟨(Nat.le_trans (Nat.le_add_right _ _) (Nat.le_of_eq hc)), (Nat.le_trans (Nat.le_add_right _ _) (Nat.le_of_eq hs))⟩) hA hP hD hS (fun H locs hP hD hS => ?_)
          refine lv_goto (tgt := 199) hx hb dX5_plainStatement_99 (by decide) ?_
          exact ih.2.2.2.2.2.2.2.2.1 z _ _ L r4.2 _ h hzk hc hs H locs ls hP hD hS (lv_sub hl [] rfl)
        · subst hy
          exact Or.inr ⟨h00, rfl, hc, hs⟩
      · intro z cells slots L σ r h hzk hc hs H locs ls hP hD hS hl
        rw [f_X5_plainStatement] at h
        refine lv_aload_n hx hb dX5_plainStatement_102 rfl (lv_at hl 0 rfl) ?_
        refine hg_40_0 hx hb hts in_f_X5_plainStatement_X5 hown hK hP (hts _ (List.mem_cons_of_mem _ (List.mem_append_left _ (List.mem_append_left _ (List.mem_of_getElem? (i := 0) rfl))))) dX5_plainStatement_103 ?_
        refine hg_37_2n hx hb hts in_f_X5_plainStatement_X2 hown hK hP (va_Nw.use rfl (hG.1 _ (List.mem_of_getElem? (i := 52) rfl))) dX5_plainStatement_106 ?_
        refine lv_bipush (v := 17) hx hb dX5_plainStatement_109 (by decide) ?_
        refine lv_icmp_ne (tgt := 123) hx hb dX5_plainStatement_111 (by decide) (fun c1 => ?_) (fun c1 => ?_)
        · rw [if_neg c1] at h
          exact ih.2.2.2.2.2.2.2.2.2.1 z _ _ L σ _ h hzk hc hs H locs ls hP hD hS (lv_sub hl [0] rfl)
        · rw [if_pos c1] at h
          refine lv_aload_n hx hb dX5_plainStatement_114 rfl (lv_at hl 0 rfl) ?_
          refine lv_ldc (v := (-2147483648)) hx hb hown (hts _ (List.mem_cons_of_mem _ (List.mem_append_left _ (List.mem_append_left _ (List.mem_of_getElem? (i := 15) rfl))))) dX5_plainStatement_115 ?_
          obtain ⟨r2, hc2, hle2, h9⟩ := ox_ex h
          clear h
          refine kx_v (vx_runV (As := [.int (-2147483648)]) (rest := []) ⟨hx, hb, hml, hown, hts⟩ (c_f_X5_push l hl0 dC dI cy ek a k (lI lZ 1 ((-2147483648))) σ r2 hc2 z H.size) (cwV 1 hts g_f_X5_plainStatement_X5_push_V199 rfl rfl rfl hd_f_X5_push ⟨Nat.le_of_ble_eq_true rfl, Nat.le_of_ble_eq_true rfl⟩) ⟨nb_blindF, va_recv hK hP (ci := 4) (q0 := 40) rfl rfl, (kx_pre hK hG hE hT hA hP hD hS)⟩ rfl rfl hl.1 rfl (lv_room (Nat.le_of_ble_eq_true rfl)) dX5_plainStatement_117 ⟨Nat.le_trans (Nat.add_le_add_left hle2.1 _) (Nat.le_of_eq hc), Nat.le_trans (Nat.add_le_add_left hle2.2 _) (Nat.le_of_eq hs)⟩) hK hA hzk hP hD hS (by decide) hno hlocks ?_
          rcases h9 with ⟨h00, y2, hny2, hy⟩ | ⟨h00, hy⟩
          · subst hy
            have h := hny2
            refine Or.inl ⟨h00, fun z H locs hz2 hzk hP hD hS => ?_⟩
            replace hc := (Nat.add_assoc _ _ _).trans hc
            replace hs := (Nat.add_assoc _ _ _).trans hs
            refine lv_goto (tgt := 128) hx hb dX5_plainStatement_120 (by decide) ?_
            exact ih.2.2.2.2.2.2.2.2.2.2 z _ _ L r2.2.1 _ h hzk hc hs H locs ls hP hD hS (lv_sub hl [0] rfl)
          · subst hy
            exact Or.inr ⟨h00, rfl, hc, hs⟩
      · intro z cells slots L σ r h hzk hc hs H locs ls hP hD hS hl
        rw [f_X5_plainStatement] at h
        refine lv_aload_n hx hb dX5_plainStatement_188 rfl (lv_at hl 0 rfl) ?_
        obtain ⟨b1, hb1, h⟩ := oP_ex h
        refine hgq_40_2 hx hb hts in_f_X5_plainStatement_X5 hown hK hP (hts _ (List.mem_cons_of_mem _ (List.mem_append_left _ (List.mem_append_left _ (List.mem_of_getElem? (i := 5) rfl))))) hb1 dX5_plainStatement_189 ?_
        refine lv_bipush (v := 22) hx hb dX5_plainStatement_192 (by decide) ?_
        refine lv_iconst (v := 0) hx hb dX5_plainStatement_194 (by decide) ?_
        obtain ⟨r2, hc2, hle2, h9⟩ := ox_ex h
        clear h
        refine kx_i (vx_runV (As := [.int 22, .int 0]) (rest := []) ⟨hx, hb, hml, hown, hts⟩ (c_f_X7_emit__P l hl0 dC dI cy ek a k (lI (lI (lB lZ 0 b1) 1 22) 2 0) σ r2 hc2 z H.size) (cwV 2 hts g_f_X5_plainStatement_X7_emit__P_V66 rfl rfl rfl hd_f_X7_emit__P ⟨Nat.le_of_ble_eq_true rfl, Nat.le_of_ble_eq_true rfl⟩) ⟨nb_blindF, recvP b1 hK hP, (kx_pre hK hG hE hT hA hP hD hS)⟩ rfl rfl hl.1 rfl (lv_room (Nat.le_of_ble_eq_true rfl)) dX5_plainStatement_195 ⟨Nat.le_trans (Nat.add_le_add_left hle2.1 _) (Nat.le_of_eq hc), Nat.le_trans (Nat.add_le_add_left hle2.2 _) (Nat.le_of_eq hs)⟩) hK hA hzk hP hD hS (by decide) hno hlocks ?_
        rcases h9 with ⟨h00, y2, hny2, hy⟩ | ⟨h00, hy⟩
        · subst hy
          have h := hny2
          refine Or.inl ⟨h00, fun z H locs hz2 hzk hP hD hS => ?_⟩
          replace hc := (Nat.add_assoc _ _ _).trans hc
          replace hs := (Nat.add_assoc _ _ _).trans hs
          refine lv_pop hx hb dX5_plainStatement_198 rfl ?_
          exact ih.2.2.2.2.2.2.2.2.1 z _ _ L r2.2.1 _ h hzk hc hs H locs ls hP hD hS (lv_sub hl [] rfl)
        · subst hy
          exact Or.inr ⟨h00, rfl, hc, hs⟩
      · intro z cells slots L σ r h hzk hc hs H locs ls hP hD hS hl
        rw [f_X5_plainStatement] at h
        refine lv_aload_n hx hb dX5_plainStatement_142 rfl (lv_at hl 0 rfl) ?_
        refine lv_iconst (v := 0) hx hb dX5_plainStatement_143 (by decide) ?_
        obtain ⟨r1, hc1, hle1, h9⟩ := ox_ex h
        clear h
        refine kx_v (vx_runV (As := [.int 0]) (rest := []) ⟨hx, hb, hml, hown, hts⟩ (c_f_X5_exp l hl0 dC dI cy ek a k (lI lZ 1 0) σ r1 hc1 z H.size) (cwV 1 hts g_f_X5_plainStatement_X5_exp_V90 rfl rfl rfl hd_f_X5_exp ⟨Nat.le_of_ble_eq_true rfl, Nat.le_of_ble_eq_true rfl⟩) ⟨nb_blindF, va_recv hK hP (ci := 4) (q0 := 40) rfl rfl, (kx_pre hK hG hE hT hA hP hD hS)⟩ rfl rfl hl.1 rfl (lv_room (Nat.le_of_ble_eq_true rfl)) dX5_plainStatement_144 ⟨Nat.le_trans (Nat.add_le_add_left hle1.1 _) (Nat.le_of_eq hc), Nat.le_trans (Nat.add_le_add_left hle1.2 _) (Nat.le_of_eq hs)⟩) hK hA hzk hP hD hS (by decide) hno hlocks ?_
        rcases h9 with ⟨h00, y1, hny1, hy⟩ | ⟨h00, hy⟩
        · subst hy
          have h := hny1
          refine Or.inl ⟨h00, fun z H locs hz1 hzk hP hD hS => ?_⟩
          replace hc := (Nat.add_assoc _ _ _).trans hc
          replace hs := (Nat.add_assoc _ _ _).trans hs
          refine lv_aload_n hx hb dX5_plainStatement_147 rfl (lv_at hl 0 rfl) ?_
          obtain ⟨b2, hb2, h⟩ := oP_ex h
          refine hgq_40_2 hx hb hts in_f_X5_plainStatement_X5 hown hK hP (hts _ (List.mem_cons_of_mem _ (List.mem_append_left _ (List.mem_append_left _ (List.mem_of_getElem? (i := 5) rfl))))) hb2 dX5_plainStatement_148 ?_
          refine lv_bipush (v := 24) hx hb dX5_plainStatement_151 (by decide) ?_
          refine lv_iconst (v := 0) hx hb dX5_plainStatement_153 (by decide) ?_
          obtain ⟨r3, hc3, hle3, h9⟩ := ox_ex h
          clear h
          refine kx_i (r := y1) (vx_runV (As := [.int 24, .int 0]) (rest := []) ⟨hx, hb, hml, hown, hts⟩ (c_f_X7_emit__P l hl0 dC dI cy ek a k (lI (lI (lB lZ 0 b2) 1 24) 2 0) r1.2.1 r3 hc3 z H.size) (cwV 2 hts g_f_X5_plainStatement_X7_emit__P_V66 rfl rfl rfl hd_f_X7_emit__P ⟨Nat.le_of_ble_eq_true rfl, Nat.le_of_ble_eq_true rfl⟩) ⟨nb_blindF, recvP b2 hK hP, (kx_pre hK hG hE hT hA hP hD hS)⟩ rfl rfl hl.1 rfl (lv_room (Nat.le_of_ble_eq_true rfl)) dX5_plainStatement_154 ⟨Nat.le_trans (Nat.add_le_add_left hle3.1 _) (Nat.le_of_eq hc), Nat.le_trans (Nat.add_le_add_left hle3.2 _) (Nat.le_of_eq hs)⟩) hK hA hzk hP hD hS (by decide) hno hlocks ?_
          rcases h9 with ⟨h00, y3, hny3, hy⟩ | ⟨h00, hy⟩
          · subst hy
            have h := hny3
            refine Or.inl ⟨h00, fun z H locs hz3 hzk hP hD hS => ?_⟩
            replace hc := (Nat.add_assoc _ _ _).trans hc
            replace hs := (Nat.add_assoc _ _ _).trans hs
            refine lv_pop hx hb dX5_plainStatement_157 rfl ?_
            refine lv_goto (tgt := 199) hx hb dX5_plainStatement_158 (by decide) ?_
            exact ih.2.2.2.2.2.2.2.2.1 z _ _ L r3.2.1 _ h hzk hc hs H locs ls hP hD hS (lv_sub hl [] rfl)
          · subst hy
            exact Or.inr ⟨h00, rfl, hc, hs⟩
        · subst hy
          exact Or.inr ⟨h00, rfl, hc, hs⟩
      · intro z cells slots L σ r h hzk hc hs H locs ls hP hD hS hl
        rw [f_X5_plainStatement] at h
        refine lv_aload_n hx hb dX5_plainStatement_161 rfl (lv_at hl 0 rfl) ?_
        obtain ⟨b1, hb1, h⟩ := oP_ex h
        refine hgq_40_2 hx hb hts in_f_X5_plainStatement_X5 hown hK hP (hts _ (List.mem_cons_of_mem _ (List.mem_append_left _ (List.mem_append_left _ (List.mem_of_getElem? (i := 5) rfl))))) hb1 dX5_plainStatement_162 ?_
        refine lv_iconst (v := 2) hx hb dX5_plainStatement_165 (by decide) ?_
        refine lv_iconst (v := 0) hx hb dX5_plainStatement_166 (by decide) ?_
        obtain ⟨r2, hc2, hle2, h9⟩ := ox_ex h
        clear h
        refine kx_i (vx_runV (As := [.int 2, .int 0]) (rest := []) ⟨hx, hb, hml, hown, hts⟩ (c_f_X7_emit__P l hl0 dC dI cy ek a k (lI (lI (lB lZ 0 b1) 1 2) 2 0) σ r2 hc2 z H.size) (cwV 2 hts g_f_X5_plainStatement_X7_emit__P_V66 rfl rfl rfl hd_f_X7_emit__P ⟨Nat.le_of_ble_eq_true rfl, Nat.le_of_ble_eq_true rfl⟩) ⟨nb_blindF, recvP b1 hK hP, (kx_pre hK hG hE hT hA hP hD hS)⟩ rfl rfl hl.1 rfl (lv_room (Nat.le_of_ble_eq_true rfl)) dX5_plainStatement_167 ⟨Nat.le_trans (Nat.add_le_add_left hle2.1 _) (Nat.le_of_eq hc), Nat.le_trans (Nat.add_le_add_left hle2.2 _) (Nat.le_of_eq hs)⟩) hK hA hzk hP hD hS (by decide) hno hlocks ?_
        rcases h9 with ⟨h00, y2, hny2, hy⟩ | ⟨h00, hy⟩
        · subst hy
          have h := hny2
          refine Or.inl ⟨h00, fun z H locs hz2 hzk hP hD hS => ?_⟩
          replace hc := (Nat.add_assoc _ _ _).trans hc
          replace hs := (Nat.add_assoc _ _ _).trans hs
          refine lv_pop hx hb dX5_plainStatement_170 rfl ?_
          refine lv_goto (tgt := 199) hx hb dX5_plainStatement_171 (by decide) ?_
          exact ih.2.2.2.2.2.2.2.2.1 z _ _ L r2.2.1 _ h hzk hc hs H locs ls hP hD hS (lv_sub hl [] rfl)
        · subst hy
          exact Or.inr ⟨h00, rfl, hc, hs⟩
      · intro z cells slots L σ r h hzk hc hs H locs ls hP hD hS hl
        rw [f_X5_plainStatement] at h
        refine lv_aload_n hx hb dX5_plainStatement_174 rfl (lv_at hl 0 rfl) ?_
        obtain ⟨b1, hb1, h⟩ := oP_ex h
        refine hgq_40_2 hx hb hts in_f_X5_plainStatement_X5 hown hK hP (hts _ (List.mem_cons_of_mem _ (List.mem_append_left _ (List.mem_append_left _ (List.mem_of_getElem? (i := 5) rfl))))) hb1 dX5_plainStatement_175 ?_
        refine lv_bipush (v := 23) hx hb dX5_plainStatement_178 (by decide) ?_
        refine lv_iconst (v := 0) hx hb dX5_plainStatement_180 (by decide) ?_
        obtain ⟨r2, hc2, hle2, h9⟩ := ox_ex h
        clear h
        refine kx_i (vx_runV (As := [.int 23, .int 0]) (rest := []) ⟨hx, hb, hml, hown, hts⟩ (c_f_X7_emit__P l hl0 dC dI cy ek a k (lI (lI (lB lZ 0 b1) 1 23) 2 0) σ r2 hc2 z H.size) (cwV 2 hts g_f_X5_plainStatement_X7_emit__P_V66 rfl rfl rfl hd_f_X7_emit__P ⟨Nat.le_of_ble_eq_true rfl, Nat.le_of_ble_eq_true rfl⟩) ⟨nb_blindF, recvP b1 hK hP, (kx_pre hK hG hE hT hA hP hD hS)⟩ rfl rfl hl.1 rfl (lv_room (Nat.le_of_ble_eq_true rfl)) dX5_plainStatement_181 ⟨Nat.le_trans (Nat.add_le_add_left hle2.1 _) (Nat.le_of_eq hc), Nat.le_trans (Nat.add_le_add_left hle2.2 _) (Nat.le_of_eq hs)⟩) hK hA hzk hP hD hS (by decide) hno hlocks ?_
        rcases h9 with ⟨h00, y2, hny2, hy⟩ | ⟨h00, hy⟩
        · subst hy
          have h := hny2
          refine Or.inl ⟨h00, fun z H locs hz2 hzk hP hD hS => ?_⟩
          replace hc := (Nat.add_assoc _ _ _).trans hc
          replace hs := (Nat.add_assoc _ _ _).trans hs
          refine lv_pop hx hb dX5_plainStatement_184 rfl ?_
          refine lv_goto (tgt := 199) hx hb dX5_plainStatement_185 (by decide) ?_
          exact ih.2.2.2.2.2.2.2.2.1 z _ _ L r2.2.1 _ h hzk hc hs H locs ls hP hD hS (lv_sub hl [] rfl)
        · subst hy
          exact Or.inr ⟨h00, rfl, hc, hs⟩
      · intro z cells slots L σ r h hzk hc hs H locs ls hP hD hS hl
        rw [f_X5_plainStatement] at h
        obtain rfl := Option.some.inj h
        subst hc
        subst hs
        exact xr_v hx hb hr hK hzk hP hD hS hlocks dX5_plainStatement_199
      · intro z cells slots L σ r h hzk hc hs H locs ls hP hD hS hl
        rw [f_X5_plainStatement] at h
        refine lv_aload_n hx hb dX5_plainStatement_123 rfl (lv_at hl 0 rfl) ?_
        refine lv_iconst (v := 0) hx hb dX5_plainStatement_124 (by decide) ?_
        obtain ⟨r1, hc1, hle1, h9⟩ := ox_ex h
        clear h
        refine kx_v (vx_runV (As := [.int 0]) (rest := []) ⟨hx, hb, hml, hown, hts⟩ (c_f_X5_exp l hl0 dC dI cy ek a k (lI lZ 1 0) σ r1 hc1 z H.size) (cwV 1 hts g_f_X5_plainStatement_X5_exp_V90 rfl rfl rfl hd_f_X5_exp ⟨Nat.le_of_ble_eq_true rfl, Nat.le_of_ble_eq_true rfl⟩) ⟨nb_blindF, va_recv hK hP (ci := 4) (q0 := 40) rfl rfl, (kx_pre hK hG hE hT hA hP hD hS)⟩ rfl rfl hl.1 rfl (lv_room (Nat.le_of_ble_eq_true rfl)) dX5_plainStatement_125 ⟨Nat.le_trans (Nat.add_le_add_left hle1.1 _) (Nat.le_of_eq hc), Nat.le_trans (Nat.add_le_add_left hle1.2 _) (Nat.le_of_eq hs)⟩) hK hA hzk hP hD hS (by decide) hno hlocks ?_
        rcases h9 with ⟨h00, y1, hny1, hy⟩ | ⟨h00, hy⟩
        · subst hy
          have h := hny1
          refine Or.inl ⟨h00, fun z H locs hz1 hzk hP hD hS => ?_⟩
          replace hc := (Nat.add_assoc _ _ _).trans hc
          replace hs := (Nat.add_assoc _ _ _).trans hs
          exact ih.2.2.2.2.2.2.2.2.2.2 z _ _ L r1.2.1 _ h hzk hc hs H locs ls hP hD hS (lv_sub hl [0] rfl)
        · subst hy
          exact Or.inr ⟨h00, rfl, hc, hs⟩
      · intro z cells slots L σ r h hzk hc hs H locs ls hP hD hS hl
        rw [f_X5_plainStatement] at h
        refine lv_aload_n hx hb dX5_plainStatement_128 rfl (lv_at hl 0 rfl) ?_
        obtain ⟨b1, hb1, h⟩ := oP_ex h
        refine hgq_40_2 hx hb hts in_f_X5_plainStatement_X5 hown hK hP (hts _ (List.mem_cons_of_mem _ (List.mem_append_left _ (List.mem_append_left _ (List.mem_of_getElem? (i := 5) rfl))))) hb1 dX5_plainStatement_129 ?_
        refine lv_bipush (v := 20) hx hb dX5_plainStatement_132 (by decide) ?_
        refine lv_iconst (v := 0) hx hb dX5_plainStatement_134 (by decide) ?_
        obtain ⟨r2, hc2, hle2, h9⟩ := ox_ex h
        clear h
        refine kx_i (vx_runV (As := [.int 20, .int 0]) (rest := []) ⟨hx, hb, hml, hown, hts⟩ (c_f_X7_emit__P l hl0 dC dI cy ek a k (lI (lI (lB lZ 0 b1) 1 20) 2 0) σ r2 hc2 z H.size) (cwV 2 hts g_f_X5_plainStatement_X7_emit__P_V66 rfl rfl rfl hd_f_X7_emit__P ⟨Nat.le_of_ble_eq_true rfl, Nat.le_of_ble_eq_true rfl⟩) ⟨nb_blindF, recvP b1 hK hP, (kx_pre hK hG hE hT hA hP hD hS)⟩ rfl rfl hl.1 rfl (lv_room (Nat.le_of_ble_eq_true rfl)) dX5_plainStatement_135 ⟨Nat.le_trans (Nat.add_le_add_left hle2.1 _) (Nat.le_of_eq hc), Nat.le_trans (Nat.add_le_add_left hle2.2 _) (Nat.le_of_eq hs)⟩) hK hA hzk hP hD hS (by decide) hno hlocks ?_
        rcases h9 with ⟨h00, y2, hny2, hy⟩ | ⟨h00, hy⟩
        · subst hy
          have h := hny2
          refine Or.inl ⟨h00, fun z H locs hz2 hzk hP hD hS => ?_⟩
          replace hc := (Nat.add_assoc _ _ _).trans hc
          replace hs := (Nat.add_assoc _ _ _).trans hs
          refine lv_pop hx hb dX5_plainStatement_138 rfl ?_
          refine lv_goto (tgt := 199) hx hb dX5_plainStatement_139 (by decide) ?_
          exact ih.2.2.2.2.2.2.2.2.1 z _ _ L r2.2.1 _ h hzk hc hs H locs ls hP hD hS (lv_sub hl [] rfl)
        · subst hy
          exact Or.inr ⟨h00, rfl, hc, hs⟩
  exact (blk k0).1 z 0 0 L0 σ0 r0 h0 (zk_rf _ _) ((Nat.zero_add _).trans hmc) ((Nat.zero_add _).trans hms) s.heap [] ls hP hD hS hl
/-! F3: X5.block, X5.forStatement, X5.ifStatement, X5.loopBody, X5.statement, X5.whileStatement -/
def t_X5_block (X : Nat → Nat → Nat → LV → CS → Option RS) (K d : Nat) (b : Nat) (L : LV) (σ : CS) : Option RS := match b with
  | 0 => X d 0 1 (lI L 1 0) σ
  | 1 => if 400 < ((L.1 1)) then (X d 0 2 L σ) else (op (y_X5_beginsStatement K 0 lZ σ) (fun r2 => if r2.1 = 0 then (X d 0 2 L r2.2) else (ox (f_X5_checkStatement K 0 lZ r2.2) (fun r4 => oP (sPp r4.2.1) (fun b5 => oP (sPp (uI r4.2.1 (fP b5 3) ((((r4.2.1.1 (fP b5 3))) + 1)))) (fun b6 => ox (f_X7_emit__P K 0 (lI (lI (lB lZ 0 b6) 1 0) 2 (((uI r4.2.1 (fP b5 3) ((((r4.2.1.1 (fP b5 3))) + 1))).1 3703))) (uI r4.2.1 (fP b5 3) ((((r4.2.1.1 (fP b5 3))) + 1)))) (fun r7 => of d (fun e8 => ox (X e8 4 0 (lI lZ 1 r7.1.2) r7.2.1) (fun r8 => X d 0 1 (lI L 1 ((((L.1 1)) + 1))) r8.2.1)))))))))
  | 2 => some ((0, 0), σ, (0, 0))
  | _ => none
theorem t_X5_block_0 (X : Nat → Nat → Nat → LV → CS → Option RS) (K d : Nat) (L : LV) (σ : CS) : t_X5_block X K d 0 L σ = (X d 0 1 (lI L 1 0) σ) := rfl
theorem t_X5_block_1 (X : Nat → Nat → Nat → LV → CS → Option RS) (K d : Nat) (L : LV) (σ : CS) : t_X5_block X K d 1 L σ = (if 400 < ((L.1 1)) then (X d 0 2 L σ) else (op (y_X5_beginsStatement K 0 lZ σ) (fun r2 => if r2.1 = 0 then (X d 0 2 L r2.2) else (ox (f_X5_checkStatement K 0 lZ r2.2) (fun r4 => oP (sPp r4.2.1) (fun b5 => oP (sPp (uI r4.2.1 (fP b5 3) ((((r4.2.1.1 (fP b5 3))) + 1)))) (fun b6 => ox (f_X7_emit__P K 0 (lI (lI (lB lZ 0 b6) 1 0) 2 (((uI r4.2.1 (fP b5 3) ((((r4.2.1.1 (fP b5 3))) + 1))).1 3703))) (uI r4.2.1 (fP b5 3) ((((r4.2.1.1 (fP b5 3))) + 1)))) (fun r7 => of d (fun e8 => ox (X e8 4 0 (lI lZ 1 r7.1.2) r7.2.1) (fun r8 => X d 0 1 (lI L 1 ((((L.1 1)) + 1))) r8.2.1)))))))))) := rfl
theorem t_X5_block_2 (X : Nat → Nat → Nat → LV → CS → Option RS) (K d : Nat) (L : LV) (σ : CS) : t_X5_block X K d 2 L σ = (some ((0, 0), σ, (0, 0))) := rfl
def t_X5_forStatement (X : Nat → Nat → Nat → LV → CS → Option RS) (K d : Nat) (b : Nat) (L : LV) (σ : CS) : Option RS := match b with
  | 0 => oP (sPp σ) (fun b1 => oP (sPp σ) (fun b2 => if ¬ (((σ.1 4003)) < 0 ∨ 42 ≤ ((σ.1 4003)).toNatClampNeg) then (ox (f_X5_opens K 0 lZ σ) (fun r4 => oP (sPp r4.2.1) (fun b5 => ox (f_X7_emit__P K 0 (lI (lI (lB lZ 0 b5) 1 42) 2 0) r4.2.1) (fun r6 => ox (f_X5_iters K 0 (lI lZ 1 1) r6.2.1) (fun r7 => oP (sPp r7.2.1) (fun b8 => if ¬ (((r7.2.1.1 4003)) < 0 ∨ 42 ≤ ((r7.2.1.1 4003)).toNatClampNeg) then (oP (sPp r7.2.1) (fun b10 => if ¬ (r6.1.2 < 0 ∨ (sN r7.2.1 (pR0 ((sKd r7.2.1 b10)))) ≤ r6.1.2.toNatClampNeg) then (if (((uA r7.2.1 (pR0 ((sKd r7.2.1 b10))) r6.1.2.toNatClampNeg ((42 ||| ((((((r7.2.1.2.2.1 (pR18 b8) ((r7.2.1.1 4003)).toNatClampNeg)) - ((σ.2.2.1 (pR18 b2) ((σ.1 4003)).toNatClampNeg)))) <<< ((8 : Int32) &&& 31)))))).1 3702)) = 19 then (ox (f_X2_advance K 0 lZ (uA r7.2.1 (pR0 ((sKd r7.2.1 b10))) r6.1.2.toNatClampNeg ((42 ||| ((((((r7.2.1.2.2.1 (pR18 b8) ((r7.2.1.1 4003)).toNatClampNeg)) - ((σ.2.2.1 (pR18 b2) ((σ.1 4003)).toNatClampNeg)))) <<< ((8 : Int32) &&& 31))))))) (fun r13 => ox (f_X5_exp K 0 (lI lZ 1 0) r13.2.1) (fun r14 => oP (sPp r14.2.1) (fun b15 => oP (sPp r14.2.1) (fun b16 => ox (f_X7_emit__P K 0 (lI (lI (lB lZ 0 b16) 1 4) 2 0) r14.2.1) (fun r17 => op (y_X7_aim__P K 0 (lI (lI (lB lZ 0 b15) 1 r17.1.2) 2 (((uA r7.2.1 (pR0 ((sKd r7.2.1 b10))) r6.1.2.toNatClampNeg ((42 ||| ((((((r7.2.1.2.2.1 (pR18 b8) ((r7.2.1.1 4003)).toNatClampNeg)) - ((σ.2.2.1 (pR18 b2) ((σ.1 4003)).toNatClampNeg)))) <<< ((8 : Int32) &&& 31)))))).1 4015))) r17.2.1) (fun r18 => X d 1 1 (lI (lI (lI (lI (lI (lI L 1 ((σ.1 (fP b1 11)))) 2 ((σ.1 4011))) 3 ((σ.2.2.1 (pR18 b2) ((σ.1 4003)).toNatClampNeg))) 5 ((((r7.2.1.2.2.1 (pR18 b8) ((r7.2.1.1 4003)).toNatClampNeg)) - ((σ.2.2.1 (pR18 b2) ((σ.1 4003)).toNatClampNeg))))) 6 (((uA r7.2.1 (pR0 ((sKd r7.2.1 b10))) r6.1.2.toNatClampNeg ((42 ||| ((((((r7.2.1.2.2.1 (pR18 b8) ((r7.2.1.1 4003)).toNatClampNeg)) - ((σ.2.2.1 (pR18 b2) ((σ.1 4003)).toNatClampNeg)))) <<< ((8 : Int32) &&& 31)))))).1 4014))) 7 (((uA r7.2.1 (pR0 ((sKd r7.2.1 b10))) r6.1.2.toNatClampNeg ((42 ||| ((((((r7.2.1.2.2.1 (pR18 b8) ((r7.2.1.1 4003)).toNatClampNeg)) - ((σ.2.2.1 (pR18 b2) ((σ.1 4003)).toNatClampNeg)))) <<< ((8 : Int32) &&& 31)))))).1 4015))) r18.2))))))) else (X d 1 1 (lI (lI (lI (lI (lI (lI L 1 ((σ.1 (fP b1 11)))) 2 ((σ.1 4011))) 3 ((σ.2.2.1 (pR18 b2) ((σ.1 4003)).toNatClampNeg))) 5 ((((r7.2.1.2.2.1 (pR18 b8) ((r7.2.1.1 4003)).toNatClampNeg)) - ((σ.2.2.1 (pR18 b2) ((σ.1 4003)).toNatClampNeg))))) 6 (((uA r7.2.1 (pR0 ((sKd r7.2.1 b10))) r6.1.2.toNatClampNeg ((42 ||| ((((((r7.2.1.2.2.1 (pR18 b8) ((r7.2.1.1 4003)).toNatClampNeg)) - ((σ.2.2.1 (pR18 b2) ((σ.1 4003)).toNatClampNeg)))) <<< ((8 : Int32) &&& 31)))))).1 4014))) 7 (((uA r7.2.1 (pR0 ((sKd r7.2.1 b10))) r6.1.2.toNatClampNeg ((42 ||| ((((((r7.2.1.2.2.1 (pR18 b8) ((r7.2.1.1 4003)).toNatClampNeg)) - ((σ.2.2.1 (pR18 b2) ((σ.1 4003)).toNatClampNeg)))) <<< ((8 : Int32) &&& 31)))))).1 4015))) (uA r7.2.1 (pR0 ((sKd r7.2.1 b10))) r6.1.2.toNatClampNeg ((42 ||| ((((((r7.2.1.2.2.1 (pR18 b8) ((r7.2.1.1 4003)).toNatClampNeg)) - ((σ.2.2.1 (pR18 b2) ((σ.1 4003)).toNatClampNeg)))) <<< ((8 : Int32) &&& 31)))))))) else none)) else none)))))) else none))
  | 1 => ox (f_X5_expect K 0 (lI lZ 1 44) σ) (fun r1 => of d (fun e2 => ox (X e2 3 0 (lI lZ 1 ((L.1 7))) r1.2.1) (fun r2 => oP (sPp r2.2.1) (fun b3 => oP (sPp r2.2.1) (fun b4 => if ¬ (((((L.1 6)) + 1)) < 0 ∨ (sN r2.2.1 (pR0 ((sKd r2.2.1 b3)))) ≤ ((((L.1 6)) + 1)).toNatClampNeg) then (X d 1 2 (lI L 8 ((L.1 2))) (uA r2.2.1 (pR0 ((sKd r2.2.1 b3))) ((((L.1 6)) + 1)).toNatClampNeg ((((r2.2.1.1 (fP b4 1))) - ((L.1 6)))))) else none)))))
  | 2 => if ((σ.1 4011)) ≤ ((((L.1 8)) + 2)) then (X d 1 3 L σ) else (oP (sPp σ) (fun b2 => if ¬ (((L.1 8)) < 0 ∨ (sN σ 41) ≤ ((L.1 8)).toNatClampNeg) then (ox (f_X7_emit__P K 0 (lI (lI (lB lZ 0 b2) 1 73) 2 ((σ.2.2.1 41 ((L.1 8)).toNatClampNeg))) σ) (fun r4 => oP (sPp r4.2.1) (fun b5 => if ¬ (((((L.1 8)) + 1)) < 0 ∨ (sN r4.2.1 41) ≤ ((((L.1 8)) + 1)).toNatClampNeg) then (ox (f_X7_word__P K 0 (lI (lB lZ 0 b5) 1 ((r4.2.1.2.2.1 41 ((((L.1 8)) + 1)).toNatClampNeg))) r4.2.1) (fun r7 => oP (sPp r7.2.1) (fun b8 => if ¬ (((((L.1 8)) + 2)) < 0 ∨ (sN r7.2.1 41) ≤ ((((L.1 8)) + 2)).toNatClampNeg) then (ox (f_X7_word__P K 0 (lI (lB lZ 0 b8) 1 ((r7.2.1.2.2.1 41 ((((L.1 8)) + 2)).toNatClampNeg))) r7.2.1) (fun r10 => X d 1 2 (lI L 8 ((((L.1 8)) + 3))) r10.2.1)) else none))) else none))) else none))
  | 3 => oP (sPp σ) (fun b1 => ox (f_X7_emit__P K 0 (lI (lI (lB lZ 0 b1) 1 37) 2 ((L.1 5))) σ) (fun r2 => oP (sPp (uI r2.2.1 4011 ((L.1 2)))) (fun b3 => if ¬ ((((uI r2.2.1 4011 ((L.1 2))).1 4003)) < 0 ∨ 42 ≤ (((uI r2.2.1 4011 ((L.1 2))).1 4003)).toNatClampNeg) then (oP (sPp (uA (uI r2.2.1 4011 ((L.1 2))) (pR18 b3) (((uI r2.2.1 4011 ((L.1 2))).1 4003)).toNatClampNeg ((L.1 3)))) (fun b5 => X d 1 4 L (uI (uA (uI r2.2.1 4011 ((L.1 2))) (pR18 b3) (((uI r2.2.1 4011 ((L.1 2))).1 4003)).toNatClampNeg ((L.1 3))) (fP b5 11) ((L.1 1))))) else none)))
  | 4 => some ((0, 0), σ, (0, 0))
  | _ => none
theorem t_X5_forStatement_0 (X : Nat → Nat → Nat → LV → CS → Option RS) (K d : Nat) (L : LV) (σ : CS) : t_X5_forStatement X K d 0 L σ = (oP (sPp σ) (fun b1 => oP (sPp σ) (fun b2 => if ¬ (((σ.1 4003)) < 0 ∨ 42 ≤ ((σ.1 4003)).toNatClampNeg) then (ox (f_X5_opens K 0 lZ σ) (fun r4 => oP (sPp r4.2.1) (fun b5 => ox (f_X7_emit__P K 0 (lI (lI (lB lZ 0 b5) 1 42) 2 0) r4.2.1) (fun r6 => ox (f_X5_iters K 0 (lI lZ 1 1) r6.2.1) (fun r7 => oP (sPp r7.2.1) (fun b8 => if ¬ (((r7.2.1.1 4003)) < 0 ∨ 42 ≤ ((r7.2.1.1 4003)).toNatClampNeg) then (oP (sPp r7.2.1) (fun b10 => if ¬ (r6.1.2 < 0 ∨ (sN r7.2.1 (pR0 ((sKd r7.2.1 b10)))) ≤ r6.1.2.toNatClampNeg) then (if (((uA r7.2.1 (pR0 ((sKd r7.2.1 b10))) r6.1.2.toNatClampNeg ((42 ||| ((((((r7.2.1.2.2.1 (pR18 b8) ((r7.2.1.1 4003)).toNatClampNeg)) - ((σ.2.2.1 (pR18 b2) ((σ.1 4003)).toNatClampNeg)))) <<< ((8 : Int32) &&& 31)))))).1 3702)) = 19 then (ox (f_X2_advance K 0 lZ (uA r7.2.1 (pR0 ((sKd r7.2.1 b10))) r6.1.2.toNatClampNeg ((42 ||| ((((((r7.2.1.2.2.1 (pR18 b8) ((r7.2.1.1 4003)).toNatClampNeg)) - ((σ.2.2.1 (pR18 b2) ((σ.1 4003)).toNatClampNeg)))) <<< ((8 : Int32) &&& 31))))))) (fun r13 => ox (f_X5_exp K 0 (lI lZ 1 0) r13.2.1) (fun r14 => oP (sPp r14.2.1) (fun b15 => oP (sPp r14.2.1) (fun b16 => ox (f_X7_emit__P K 0 (lI (lI (lB lZ 0 b16) 1 4) 2 0) r14.2.1) (fun r17 => op (y_X7_aim__P K 0 (lI (lI (lB lZ 0 b15) 1 r17.1.2) 2 (((uA r7.2.1 (pR0 ((sKd r7.2.1 b10))) r6.1.2.toNatClampNeg ((42 ||| ((((((r7.2.1.2.2.1 (pR18 b8) ((r7.2.1.1 4003)).toNatClampNeg)) - ((σ.2.2.1 (pR18 b2) ((σ.1 4003)).toNatClampNeg)))) <<< ((8 : Int32) &&& 31)))))).1 4015))) r17.2.1) (fun r18 => X d 1 1 (lI (lI (lI (lI (lI (lI L 1 ((σ.1 (fP b1 11)))) 2 ((σ.1 4011))) 3 ((σ.2.2.1 (pR18 b2) ((σ.1 4003)).toNatClampNeg))) 5 ((((r7.2.1.2.2.1 (pR18 b8) ((r7.2.1.1 4003)).toNatClampNeg)) - ((σ.2.2.1 (pR18 b2) ((σ.1 4003)).toNatClampNeg))))) 6 (((uA r7.2.1 (pR0 ((sKd r7.2.1 b10))) r6.1.2.toNatClampNeg ((42 ||| ((((((r7.2.1.2.2.1 (pR18 b8) ((r7.2.1.1 4003)).toNatClampNeg)) - ((σ.2.2.1 (pR18 b2) ((σ.1 4003)).toNatClampNeg)))) <<< ((8 : Int32) &&& 31)))))).1 4014))) 7 (((uA r7.2.1 (pR0 ((sKd r7.2.1 b10))) r6.1.2.toNatClampNeg ((42 ||| ((((((r7.2.1.2.2.1 (pR18 b8) ((r7.2.1.1 4003)).toNatClampNeg)) - ((σ.2.2.1 (pR18 b2) ((σ.1 4003)).toNatClampNeg)))) <<< ((8 : Int32) &&& 31)))))).1 4015))) r18.2))))))) else (X d 1 1 (lI (lI (lI (lI (lI (lI L 1 ((σ.1 (fP b1 11)))) 2 ((σ.1 4011))) 3 ((σ.2.2.1 (pR18 b2) ((σ.1 4003)).toNatClampNeg))) 5 ((((r7.2.1.2.2.1 (pR18 b8) ((r7.2.1.1 4003)).toNatClampNeg)) - ((σ.2.2.1 (pR18 b2) ((σ.1 4003)).toNatClampNeg))))) 6 (((uA r7.2.1 (pR0 ((sKd r7.2.1 b10))) r6.1.2.toNatClampNeg ((42 ||| ((((((r7.2.1.2.2.1 (pR18 b8) ((r7.2.1.1 4003)).toNatClampNeg)) - ((σ.2.2.1 (pR18 b2) ((σ.1 4003)).toNatClampNeg)))) <<< ((8 : Int32) &&& 31)))))).1 4014))) 7 (((uA r7.2.1 (pR0 ((sKd r7.2.1 b10))) r6.1.2.toNatClampNeg ((42 ||| ((((((r7.2.1.2.2.1 (pR18 b8) ((r7.2.1.1 4003)).toNatClampNeg)) - ((σ.2.2.1 (pR18 b2) ((σ.1 4003)).toNatClampNeg)))) <<< ((8 : Int32) &&& 31)))))).1 4015))) (uA r7.2.1 (pR0 ((sKd r7.2.1 b10))) r6.1.2.toNatClampNeg ((42 ||| ((((((r7.2.1.2.2.1 (pR18 b8) ((r7.2.1.1 4003)).toNatClampNeg)) - ((σ.2.2.1 (pR18 b2) ((σ.1 4003)).toNatClampNeg)))) <<< ((8 : Int32) &&& 31)))))))) else none)) else none)))))) else none))) := rfl
theorem t_X5_forStatement_1 (X : Nat → Nat → Nat → LV → CS → Option RS) (K d : Nat) (L : LV) (σ : CS) : t_X5_forStatement X K d 1 L σ = (ox (f_X5_expect K 0 (lI lZ 1 44) σ) (fun r1 => of d (fun e2 => ox (X e2 3 0 (lI lZ 1 ((L.1 7))) r1.2.1) (fun r2 => oP (sPp r2.2.1) (fun b3 => oP (sPp r2.2.1) (fun b4 => if ¬ (((((L.1 6)) + 1)) < 0 ∨ (sN r2.2.1 (pR0 ((sKd r2.2.1 b3)))) ≤ ((((L.1 6)) + 1)).toNatClampNeg) then (X d 1 2 (lI L 8 ((L.1 2))) (uA r2.2.1 (pR0 ((sKd r2.2.1 b3))) ((((L.1 6)) + 1)).toNatClampNeg ((((r2.2.1.1 (fP b4 1))) - ((L.1 6)))))) else none)))))) := rfl
theorem t_X5_forStatement_2 (X : Nat → Nat → Nat → LV → CS → Option RS) (K d : Nat) (L : LV) (σ : CS) : t_X5_forStatement X K d 2 L σ = (if ((σ.1 4011)) ≤ ((((L.1 8)) + 2)) then (X d 1 3 L σ) else (oP (sPp σ) (fun b2 => if ¬ (((L.1 8)) < 0 ∨ (sN σ 41) ≤ ((L.1 8)).toNatClampNeg) then (ox (f_X7_emit__P K 0 (lI (lI (lB lZ 0 b2) 1 73) 2 ((σ.2.2.1 41 ((L.1 8)).toNatClampNeg))) σ) (fun r4 => oP (sPp r4.2.1) (fun b5 => if ¬ (((((L.1 8)) + 1)) < 0 ∨ (sN r4.2.1 41) ≤ ((((L.1 8)) + 1)).toNatClampNeg) then (ox (f_X7_word__P K 0 (lI (lB lZ 0 b5) 1 ((r4.2.1.2.2.1 41 ((((L.1 8)) + 1)).toNatClampNeg))) r4.2.1) (fun r7 => oP (sPp r7.2.1) (fun b8 => if ¬ (((((L.1 8)) + 2)) < 0 ∨ (sN r7.2.1 41) ≤ ((((L.1 8)) + 2)).toNatClampNeg) then (ox (f_X7_word__P K 0 (lI (lB lZ 0 b8) 1 ((r7.2.1.2.2.1 41 ((((L.1 8)) + 2)).toNatClampNeg))) r7.2.1) (fun r10 => X d 1 2 (lI L 8 ((((L.1 8)) + 3))) r10.2.1)) else none))) else none))) else none))) := rfl
theorem t_X5_forStatement_3 (X : Nat → Nat → Nat → LV → CS → Option RS) (K d : Nat) (L : LV) (σ : CS) : t_X5_forStatement X K d 3 L σ = (oP (sPp σ) (fun b1 => ox (f_X7_emit__P K 0 (lI (lI (lB lZ 0 b1) 1 37) 2 ((L.1 5))) σ) (fun r2 => oP (sPp (uI r2.2.1 4011 ((L.1 2)))) (fun b3 => if ¬ ((((uI r2.2.1 4011 ((L.1 2))).1 4003)) < 0 ∨ 42 ≤ (((uI r2.2.1 4011 ((L.1 2))).1 4003)).toNatClampNeg) then (oP (sPp (uA (uI r2.2.1 4011 ((L.1 2))) (pR18 b3) (((uI r2.2.1 4011 ((L.1 2))).1 4003)).toNatClampNeg ((L.1 3)))) (fun b5 => X d 1 4 L (uI (uA (uI r2.2.1 4011 ((L.1 2))) (pR18 b3) (((uI r2.2.1 4011 ((L.1 2))).1 4003)).toNatClampNeg ((L.1 3))) (fP b5 11) ((L.1 1))))) else none)))) := rfl
theorem t_X5_forStatement_4 (X : Nat → Nat → Nat → LV → CS → Option RS) (K d : Nat) (L : LV) (σ : CS) : t_X5_forStatement X K d 4 L σ = (some ((0, 0), σ, (0, 0))) := rfl
def t_X5_ifStatement (X : Nat → Nat → Nat → LV → CS → Option RS) (K d : Nat) (b : Nat) (L : LV) (σ : CS) : Option RS := match b with
  | 0 => ox (f_X5_opens K 0 lZ σ) (fun r1 => if ((r1.2.1.1 3702)) = 63 then (ox (f_X2_advance K 0 lZ r1.2.1) (fun r3 => oP (sPp r3.2.1) (fun b4 => ox (f_X7_emit__P K 0 (lI (lI (lB lZ 0 b4) 1 21) 2 0) r3.2.1) (fun r5 => X d 2 2 L r5.2.1)))) else (X d 2 1 L r1.2.1))
  | 1 => ox (f_X5_exp K 0 (lI lZ 1 0) σ) (fun r1 => X d 2 2 L r1.2.1)
  | 2 => ox (f_X5_expect K 0 (lI lZ 1 40) σ) (fun r1 => oP (sPp r1.2.1) (fun b2 => ox (f_X7_emit__P K 0 (lI (lI (lB lZ 0 b2) 1 4) 2 0) r1.2.1) (fun r3 => of d (fun e4 => ox (X e4 0 0 lZ r3.2.1) (fun r4 => X d 2 3 (lI (lI (lI L 1 0) 2 r3.1.2) 3 0) r4.2.1)))))
  | 3 => if 32768 < ((L.1 3)) then (X d 2 4 L σ) else (if ((σ.1 3702)) = 41 then (oP (sPp σ) (fun b3 => ox (f_X7_emit__P K 0 (lI (lI (lB lZ 0 b3) 1 3) 2 ((L.1 1))) σ) (fun r4 => oP (sPp r4.2.1) (fun b5 => oP (sPp r4.2.1) (fun b6 => op (y_X7_aim__P K 0 (lI (lI (lB lZ 0 b5) 1 ((L.1 2))) 2 ((r4.2.1.1 (fP b6 1)))) r4.2.1) (fun r7 => ox (f_X2_advance K 0 lZ r7.2) (fun r8 => ox (f_X5_exp K 0 (lI lZ 1 0) r8.2.1) (fun r9 => ox (f_X5_expect K 0 (lI lZ 1 40) r9.2.1) (fun r10 => oP (sPp r10.2.1) (fun b11 => ox (f_X7_emit__P K 0 (lI (lI (lB lZ 0 b11) 1 4) 2 0) r10.2.1) (fun r12 => of d (fun e13 => ox (X e13 0 0 lZ r12.2.1) (fun r13 => X d 2 3 (lI (lI (lI L 1 r4.1.2) 2 r12.1.2) 3 ((((L.1 3)) + 1))) r13.2.1))))))))))))) else (X d 2 4 L σ))
  | 4 => if ((σ.1 3702)) = 42 then (oP (sPp σ) (fun b2 => ox (f_X7_emit__P K 0 (lI (lI (lB lZ 0 b2) 1 3) 2 ((L.1 1))) σ) (fun r3 => oP (sPp r3.2.1) (fun b4 => oP (sPp r3.2.1) (fun b5 => op (y_X7_aim__P K 0 (lI (lI (lB lZ 0 b4) 1 ((L.1 2))) 2 ((r3.2.1.1 (fP b5 1)))) r3.2.1) (fun r6 => ox (f_X2_advance K 0 lZ r6.2) (fun r7 => of d (fun e8 => ox (X e8 0 0 lZ r7.2.1) (fun r8 => X d 2 5 (lI (lI L 1 r3.1.2) 2 ((-1))) r8.2.1))))))))) else (X d 2 5 L σ)
  | 5 => ox (f_X5_closes K 0 (lI lZ 1 38) σ) (fun r1 => if ((L.1 2)) = ((-1)) then (X d 2 6 L r1.2.1) else (oP (sPp r1.2.1) (fun b3 => oP (sPp r1.2.1) (fun b4 => op (y_X7_aim__P K 0 (lI (lI (lB lZ 0 b3) 1 ((L.1 2))) 2 ((r1.2.1.1 (fP b4 1)))) r1.2.1) (fun r5 => X d 2 6 L r5.2)))))
  | 6 => op (y_X5_aimAll K 0 (lI lZ 1 ((L.1 1))) σ) (fun r1 => some ((0, 0), r1.2, (0, 0)))
  | _ => none
theorem t_X5_ifStatement_0 (X : Nat → Nat → Nat → LV → CS → Option RS) (K d : Nat) (L : LV) (σ : CS) : t_X5_ifStatement X K d 0 L σ = (ox (f_X5_opens K 0 lZ σ) (fun r1 => if ((r1.2.1.1 3702)) = 63 then (ox (f_X2_advance K 0 lZ r1.2.1) (fun r3 => oP (sPp r3.2.1) (fun b4 => ox (f_X7_emit__P K 0 (lI (lI (lB lZ 0 b4) 1 21) 2 0) r3.2.1) (fun r5 => X d 2 2 L r5.2.1)))) else (X d 2 1 L r1.2.1))) := rfl
theorem t_X5_ifStatement_1 (X : Nat → Nat → Nat → LV → CS → Option RS) (K d : Nat) (L : LV) (σ : CS) : t_X5_ifStatement X K d 1 L σ = (ox (f_X5_exp K 0 (lI lZ 1 0) σ) (fun r1 => X d 2 2 L r1.2.1)) := rfl
theorem t_X5_ifStatement_2 (X : Nat → Nat → Nat → LV → CS → Option RS) (K d : Nat) (L : LV) (σ : CS) : t_X5_ifStatement X K d 2 L σ = (ox (f_X5_expect K 0 (lI lZ 1 40) σ) (fun r1 => oP (sPp r1.2.1) (fun b2 => ox (f_X7_emit__P K 0 (lI (lI (lB lZ 0 b2) 1 4) 2 0) r1.2.1) (fun r3 => of d (fun e4 => ox (X e4 0 0 lZ r3.2.1) (fun r4 => X d 2 3 (lI (lI (lI L 1 0) 2 r3.1.2) 3 0) r4.2.1)))))) := rfl
theorem t_X5_ifStatement_3 (X : Nat → Nat → Nat → LV → CS → Option RS) (K d : Nat) (L : LV) (σ : CS) : t_X5_ifStatement X K d 3 L σ = (if 32768 < ((L.1 3)) then (X d 2 4 L σ) else (if ((σ.1 3702)) = 41 then (oP (sPp σ) (fun b3 => ox (f_X7_emit__P K 0 (lI (lI (lB lZ 0 b3) 1 3) 2 ((L.1 1))) σ) (fun r4 => oP (sPp r4.2.1) (fun b5 => oP (sPp r4.2.1) (fun b6 => op (y_X7_aim__P K 0 (lI (lI (lB lZ 0 b5) 1 ((L.1 2))) 2 ((r4.2.1.1 (fP b6 1)))) r4.2.1) (fun r7 => ox (f_X2_advance K 0 lZ r7.2) (fun r8 => ox (f_X5_exp K 0 (lI lZ 1 0) r8.2.1) (fun r9 => ox (f_X5_expect K 0 (lI lZ 1 40) r9.2.1) (fun r10 => oP (sPp r10.2.1) (fun b11 => ox (f_X7_emit__P K 0 (lI (lI (lB lZ 0 b11) 1 4) 2 0) r10.2.1) (fun r12 => of d (fun e13 => ox (X e13 0 0 lZ r12.2.1) (fun r13 => X d 2 3 (lI (lI (lI L 1 r4.1.2) 2 r12.1.2) 3 ((((L.1 3)) + 1))) r13.2.1))))))))))))) else (X d 2 4 L σ))) := rfl
theorem t_X5_ifStatement_4 (X : Nat → Nat → Nat → LV → CS → Option RS) (K d : Nat) (L : LV) (σ : CS) : t_X5_ifStatement X K d 4 L σ = (if ((σ.1 3702)) = 42 then (oP (sPp σ) (fun b2 => ox (f_X7_emit__P K 0 (lI (lI (lB lZ 0 b2) 1 3) 2 ((L.1 1))) σ) (fun r3 => oP (sPp r3.2.1) (fun b4 => oP (sPp r3.2.1) (fun b5 => op (y_X7_aim__P K 0 (lI (lI (lB lZ 0 b4) 1 ((L.1 2))) 2 ((r3.2.1.1 (fP b5 1)))) r3.2.1) (fun r6 => ox (f_X2_advance K 0 lZ r6.2) (fun r7 => of d (fun e8 => ox (X e8 0 0 lZ r7.2.1) (fun r8 => X d 2 5 (lI (lI L 1 r3.1.2) 2 ((-1))) r8.2.1))))))))) else (X d 2 5 L σ)) := rfl
theorem t_X5_ifStatement_5 (X : Nat → Nat → Nat → LV → CS → Option RS) (K d : Nat) (L : LV) (σ : CS) : t_X5_ifStatement X K d 5 L σ = (ox (f_X5_closes K 0 (lI lZ 1 38) σ) (fun r1 => if ((L.1 2)) = ((-1)) then (X d 2 6 L r1.2.1) else (oP (sPp r1.2.1) (fun b3 => oP (sPp r1.2.1) (fun b4 => op (y_X7_aim__P K 0 (lI (lI (lB lZ 0 b3) 1 ((L.1 2))) 2 ((r1.2.1.1 (fP b4 1)))) r1.2.1) (fun r5 => X d 2 6 L r5.2)))))) := rfl
theorem t_X5_ifStatement_6 (X : Nat → Nat → Nat → LV → CS → Option RS) (K d : Nat) (L : LV) (σ : CS) : t_X5_ifStatement X K d 6 L σ = (op (y_X5_aimAll K 0 (lI lZ 1 ((L.1 1))) σ) (fun r1 => some ((0, 0), r1.2, (0, 0)))) := rfl
def t_X5_loopBody (X : Nat → Nat → Nat → LV → CS → Option RS) (K d : Nat) (b : Nat) (L : LV) (σ : CS) : Option RS := match b with
  | 0 => of d (fun e1 => ox (X e1 0 0 lZ (uI (uI σ 4008 ((L.1 1))) 4009 0)) (fun r1 => ox (f_X5_closes K 0 (lI lZ 1 38) r1.2.1) (fun r2 => oP (sPp r2.2.1) (fun b3 => oP (sPp r2.2.1) (fun b4 => ox (f_X7_emit__P K 0 (lI (lI (lB lZ 0 b4) 1 3) 2 0) r2.2.1) (fun r5 => op (y_X7_aim__P K 0 (lI (lI (lB lZ 0 b3) 1 r5.1.2) 2 ((L.1 1))) r5.2.1) (fun r6 => op (y_X5_aimAll K 0 (lI lZ 1 ((r6.2.1 4009))) r6.2) (fun r7 => X d 3 1 (lI L 3 ((σ.1 4009))) (uI r7.2 4008 ((σ.1 4008)))))))))))
  | 1 => some ((0, 0), (uI σ 4009 ((L.1 3))), (0, 0))
  | _ => none
theorem t_X5_loopBody_0 (X : Nat → Nat → Nat → LV → CS → Option RS) (K d : Nat) (L : LV) (σ : CS) : t_X5_loopBody X K d 0 L σ = (of d (fun e1 => ox (X e1 0 0 lZ (uI (uI σ 4008 ((L.1 1))) 4009 0)) (fun r1 => ox (f_X5_closes K 0 (lI lZ 1 38) r1.2.1) (fun r2 => oP (sPp r2.2.1) (fun b3 => oP (sPp r2.2.1) (fun b4 => ox (f_X7_emit__P K 0 (lI (lI (lB lZ 0 b4) 1 3) 2 0) r2.2.1) (fun r5 => op (y_X7_aim__P K 0 (lI (lI (lB lZ 0 b3) 1 r5.1.2) 2 ((L.1 1))) r5.2.1) (fun r6 => op (y_X5_aimAll K 0 (lI lZ 1 ((r6.2.1 4009))) r6.2) (fun r7 => X d 3 1 (lI L 3 ((σ.1 4009))) (uI r7.2 4008 ((σ.1 4008)))))))))))) := rfl
theorem t_X5_loopBody_1 (X : Nat → Nat → Nat → LV → CS → Option RS) (K d : Nat) (L : LV) (σ : CS) : t_X5_loopBody X K d 1 L σ = (some ((0, 0), (uI σ 4009 ((L.1 3))), (0, 0))) := rfl
def t_X5_statement (X : Nat → Nat → Nat → LV → CS → Option RS) (K d : Nat) (b : Nat) (L : LV) (σ : CS) : Option RS := match b with
  | 0 => if ((σ.1 3702)) = (2 : Int32) then (X d 4 1 L σ) else (if ((σ.1 3702)) = (14 : Int32) then (X d 4 2 L σ) else (if ((σ.1 3702)) = (39 : Int32) then (X d 4 3 L σ) else (if ((σ.1 3702)) = (43 : Int32) then (X d 4 4 L σ) else (if ((σ.1 3702)) = (45 : Int32) then (X d 4 5 L σ) else (if ((σ.1 3702)) = (52 : Int32) then (X d 4 6 L σ) else (X d 4 7 L σ))))))
  | 1 => ox (f_X5_nameStatement K 0 lZ σ) (fun r1 => X d 4 8 L r1.2.1)
  | 2 => ox (f_X5_holesStatement K 0 lZ σ) (fun r1 => X d 4 8 L r1.2.1)
  | 3 => of d (fun e1 => ox (X e1 2 0 lZ σ) (fun r1 => X d 4 8 L r1.2.1))
  | 4 => of d (fun e1 => ox (X e1 5 0 (lI lZ 1 ((L.1 1))) σ) (fun r1 => X d 4 8 L r1.2.1))
  | 5 => of d (fun e1 => ox (X e1 1 0 lZ σ) (fun r1 => X d 4 8 L r1.2.1))
  | 6 => ox (f_X2_advance K 0 lZ σ) (fun r1 => ox (f_X5_want K 0 (lI lZ 1 10) r1.2.1) (fun r2 => ox (f_X5_opens K 0 lZ r2.2.1) (fun r3 => oP (sPp r3.2.1) (fun b4 => ox (f_X5_exps K 0 lZ r3.2.1) (fun r5 => ox (f_X7_emit__P K 0 (lI (lI (lB lZ 0 b4) 1 208) 2 r5.1.2) r5.2.1) (fun r6 => ox (f_X5_closes K 0 (lI lZ 1 11) r6.2.1) (fun r7 => X d 4 8 L r7.2.1)))))))
  | 7 => ox (f_X5_plainStatement K 0 lZ σ) (fun r1 => X d 4 8 L r1.2.1)
  | 8 => ox (f_X5_expect K 0 (lI lZ 1 17) σ) (fun r1 => some ((0, 0), r1.2.1, (0, 0)))
  | _ => none
theorem t_X5_statement_0 (X : Nat → Nat → Nat → LV → CS → Option RS) (K d : Nat) (L : LV) (σ : CS) : t_X5_statement X K d 0 L σ = (if ((σ.1 3702)) = (2 : Int32) then (X d 4 1 L σ) else (if ((σ.1 3702)) = (14 : Int32) then (X d 4 2 L σ) else (if ((σ.1 3702)) = (39 : Int32) then (X d 4 3 L σ) else (if ((σ.1 3702)) = (43 : Int32) then (X d 4 4 L σ) else (if ((σ.1 3702)) = (45 : Int32) then (X d 4 5 L σ) else (if ((σ.1 3702)) = (52 : Int32) then (X d 4 6 L σ) else (X d 4 7 L σ))))))) := rfl
theorem t_X5_statement_1 (X : Nat → Nat → Nat → LV → CS → Option RS) (K d : Nat) (L : LV) (σ : CS) : t_X5_statement X K d 1 L σ = (ox (f_X5_nameStatement K 0 lZ σ) (fun r1 => X d 4 8 L r1.2.1)) := rfl
theorem t_X5_statement_2 (X : Nat → Nat → Nat → LV → CS → Option RS) (K d : Nat) (L : LV) (σ : CS) : t_X5_statement X K d 2 L σ = (ox (f_X5_holesStatement K 0 lZ σ) (fun r1 => X d 4 8 L r1.2.1)) := rfl
theorem t_X5_statement_3 (X : Nat → Nat → Nat → LV → CS → Option RS) (K d : Nat) (L : LV) (σ : CS) : t_X5_statement X K d 3 L σ = (of d (fun e1 => ox (X e1 2 0 lZ σ) (fun r1 => X d 4 8 L r1.2.1))) := rfl
theorem t_X5_statement_4 (X : Nat → Nat → Nat → LV → CS → Option RS) (K d : Nat) (L : LV) (σ : CS) : t_X5_statement X K d 4 L σ = (of d (fun e1 => ox (X e1 5 0 (lI lZ 1 ((L.1 1))) σ) (fun r1 => X d 4 8 L r1.2.1))) := rfl
theorem t_X5_statement_5 (X : Nat → Nat → Nat → LV → CS → Option RS) (K d : Nat) (L : LV) (σ : CS) : t_X5_statement X K d 5 L σ = (of d (fun e1 => ox (X e1 1 0 lZ σ) (fun r1 => X d 4 8 L r1.2.1))) := rfl
theorem t_X5_statement_6 (X : Nat → Nat → Nat → LV → CS → Option RS) (K d : Nat) (L : LV) (σ : CS) : t_X5_statement X K d 6 L σ = (ox (f_X2_advance K 0 lZ σ) (fun r1 => ox (f_X5_want K 0 (lI lZ 1 10) r1.2.1) (fun r2 => ox (f_X5_opens K 0 lZ r2.2.1) (fun r3 => oP (sPp r3.2.1) (fun b4 => ox (f_X5_exps K 0 lZ r3.2.1) (fun r5 => ox (f_X7_emit__P K 0 (lI (lI (lB lZ 0 b4) 1 208) 2 r5.1.2) r5.2.1) (fun r6 => ox (f_X5_closes K 0 (lI lZ 1 11) r6.2.1) (fun r7 => X d 4 8 L r7.2.1)))))))) := rfl
theorem t_X5_statement_7 (X : Nat → Nat → Nat → LV → CS → Option RS) (K d : Nat) (L : LV) (σ : CS) : t_X5_statement X K d 7 L σ = (ox (f_X5_plainStatement K 0 lZ σ) (fun r1 => X d 4 8 L r1.2.1)) := rfl
theorem t_X5_statement_8 (X : Nat → Nat → Nat → LV → CS → Option RS) (K d : Nat) (L : LV) (σ : CS) : t_X5_statement X K d 8 L σ = (ox (f_X5_expect K 0 (lI lZ 1 17) σ) (fun r1 => some ((0, 0), r1.2.1, (0, 0)))) := rfl
def t_X5_whileStatement (X : Nat → Nat → Nat → LV → CS → Option RS) (K d : Nat) (b : Nat) (L : LV) (σ : CS) : Option RS := match b with
  | 0 => ox (f_X5_opens K 0 lZ σ) (fun r1 => ox (f_X5_exp K 0 (lI lZ 1 0) r1.2.1) (fun r2 => ox (f_X5_expect K 0 (lI lZ 1 44) r2.2.1) (fun r3 => oP (sPp r3.2.1) (fun b4 => ox (f_X7_emit__P K 0 (lI (lI (lB lZ 0 b4) 1 4) 2 0) r3.2.1) (fun r5 => of d (fun e6 => ox (X e6 3 0 (lI lZ 1 ((L.1 1))) r5.2.1) (fun r6 => oP (sPp r6.2.1) (fun b7 => oP (sPp r6.2.1) (fun b8 => op (y_X7_aim__P K 0 (lI (lI (lB lZ 0 b7) 1 r5.1.2) 2 ((r6.2.1.1 (fP b8 1)))) r6.2.1) (fun r9 => some ((0, 0), r9.2, (0, 0))))))))))))
  | _ => none
theorem t_X5_whileStatement_0 (X : Nat → Nat → Nat → LV → CS → Option RS) (K d : Nat) (L : LV) (σ : CS) : t_X5_whileStatement X K d 0 L σ = (ox (f_X5_opens K 0 lZ σ) (fun r1 => ox (f_X5_exp K 0 (lI lZ 1 0) r1.2.1) (fun r2 => ox (f_X5_expect K 0 (lI lZ 1 44) r2.2.1) (fun r3 => oP (sPp r3.2.1) (fun b4 => ox (f_X7_emit__P K 0 (lI (lI (lB lZ 0 b4) 1 4) 2 0) r3.2.1) (fun r5 => of d (fun e6 => ox (X e6 3 0 (lI lZ 1 ((L.1 1))) r5.2.1) (fun r6 => oP (sPp r6.2.1) (fun b7 => oP (sPp r6.2.1) (fun b8 => op (y_X7_aim__P K 0 (lI (lI (lB lZ 0 b7) 1 r5.1.2) 2 ((r6.2.1.1 (fP b8 1)))) r6.2.1) (fun r9 => some ((0, 0), r9.2, (0, 0))))))))))))) := rfl
def f_F3 : Nat → Nat → Nat → Nat → LV → CS → Option RS
  | 0 => fun _ _ _ _ _ => none
  | k + 1 => fun d m b L σ => match m with
    | 0 => t_X5_block (f_F3 k) k d b L σ
    | 1 => t_X5_forStatement (f_F3 k) k d b L σ
    | 2 => t_X5_ifStatement (f_F3 k) k d b L σ
    | 3 => t_X5_loopBody (f_F3 k) k d b L σ
    | 4 => t_X5_statement (f_F3 k) k d b L σ
    | 5 => t_X5_whileStatement (f_F3 k) k d b L σ
    | _ => none
theorem f_F3_0 (k d b : Nat) (L : LV) (σ : CS) : f_F3 (k + 1) d 0 b L σ = t_X5_block (f_F3 k) k d b L σ := rfl
theorem f_F3_1 (k d b : Nat) (L : LV) (σ : CS) : f_F3 (k + 1) d 1 b L σ = t_X5_forStatement (f_F3 k) k d b L σ := rfl
theorem f_F3_2 (k d b : Nat) (L : LV) (σ : CS) : f_F3 (k + 1) d 2 b L σ = t_X5_ifStatement (f_F3 k) k d b L σ := rfl
theorem f_F3_3 (k d b : Nat) (L : LV) (σ : CS) : f_F3 (k + 1) d 3 b L σ = t_X5_loopBody (f_F3 k) k d b L σ := rfl
theorem f_F3_4 (k d b : Nat) (L : LV) (σ : CS) : f_F3 (k + 1) d 4 b L σ = t_X5_statement (f_F3 k) k d b L σ := rfl
theorem f_F3_5 (k d b : Nat) (L : LV) (σ : CS) : f_F3 (k + 1) d 5 b L σ = t_X5_whileStatement (f_F3 k) k d b L σ := rfl
def o_f_F3 : List Cond := [.code yX5_block cX5_block 3 none, .code yX5_forStatement cX5_forStatement 9 none, .code yX5_ifStatement cX5_ifStatement 4 none, .code yX5_loopBody cX5_loopBody 4 none, .code yX5_statement cX5_statement 2 none, .code yX5_whileStatement cX5_whileStatement 3 none, .methodLink RX5 205 yX5_beginsStatement, .instanceMethod yX5_beginsStatement, .selects RX5 yX5_beginsStatement yX5_beginsStatement, .initialized RX5, .methodLink RX5 209 yX5_checkStatement, .instanceMethod yX5_checkStatement, .selects RX5 yX5_checkStatement yX5_checkStatement, .fieldLink RX5 93 "SetHouse$Parser" "p" "LSetHouse$Program;", .fieldLink RX5 18 "SetHouse$Parser" "lex" "LSetHouse$Lexer;", .methodLink RX5 66 yX7_emit, .instanceMethod yX7_emit, .selects RX7 yX7_emit yX7_emit, .initialized RX7, .methodLink RX5 215 yX5_statement, .instanceMethod yX5_statement, .selects RX5 yX5_statement yX5_statement, .fieldLink RX5 112 "SetHouse$Parser" "marked" "I", .fieldLink RX5 97 "SetHouse$Parser" "unit" "I", .methodLink RX5 173 yX5_opens, .instanceMethod yX5_opens, .selects RX5 yX5_opens yX5_opens, .methodLink RX5 258 yX5_iters, .instanceMethod yX5_iters, .selects RX5 yX5_iters yX5_iters, .fieldLink RX5 262 "SetHouse$Parser" "rowFirst" "I", .fieldLink RX5 265 "SetHouse$Parser" "rowLast" "I", .methodLink RX5 30 yX2_advance, .instanceMethod yX2_advance, .selects RX2 yX2_advance yX2_advance, .initialized RX2, .methodLink RX5 90 yX5_exp, .instanceMethod yX5_exp, .selects RX5 yX5_exp yX5_exp, .methodLink RX5 240 yX7_aim, .instanceMethod yX7_aim, .selects RX7 yX7_aim yX7_aim, .methodLink RX5 141 yX5_expect, .instanceMethod yX5_expect, .selects RX5 yX5_expect yX5_expect, .methodLink RX5 252 yX5_loopBody, .instanceMethod yX5_loopBody, .selects RX5 yX5_loopBody yX5_loopBody, .fieldLink RX5 9 "SetHouse$Parser" "marks" "[I", .methodLink RX5 243 yX7_word, .instanceMethod yX7_word, .selects RX7 yX7_word yX7_word, .methodLink RX5 58 yX5_block, .instanceMethod yX5_block, .selects RX5 yX5_block yX5_block, .constant RX5 35 (32768), .methodLink RX5 186 yX5_closes, .instanceMethod yX5_closes, .selects RX5 yX5_closes yX5_closes, .methodLink RX5 249 yX5_aimAll, .instanceMethod yX5_aimAll, .selects RX5 yX5_aimAll yX5_aimAll, .fieldLink RX5 106 "SetHouse$Parser" "loopNext" "I", .fieldLink RX5 109 "SetHouse$Parser" "quits" "I", .methodLink RX5 218 yX5_nameStatement, .instanceMethod yX5_nameStatement, .selects RX5 yX5_nameStatement yX5_nameStatement, .methodLink RX5 221 yX5_holesStatement, .instanceMethod yX5_holesStatement, .selects RX5 yX5_holesStatement yX5_holesStatement, .methodLink RX5 224 yX5_ifStatement, .instanceMethod yX5_ifStatement, .selects RX5 yX5_ifStatement yX5_ifStatement, .methodLink RX5 227 yX5_whileStatement, .instanceMethod yX5_whileStatement, .selects RX5 yX5_whileStatement yX5_whileStatement, .methodLink RX5 230 yX5_forStatement, .instanceMethod yX5_forStatement, .selects RX5 yX5_forStatement yX5_forStatement, .methodLink RX5 61 yX5_want, .instanceMethod yX5_want, .selects RX5 yX5_want yX5_want, .methodLink RX5 233 yX5_exps, .instanceMethod yX5_exps, .selects RX5 yX5_exps yX5_exps, .methodLink RX5 237 yX5_plainStatement, .instanceMethod yX5_plainStatement, .selects RX5 yX5_plainStatement yX5_plainStatement]
theorem o_f_F3_good : o_f_F3.all goodWord = true := by decide +kernel
def p_f_F3 : List Cond := o_f_F3 ++ ((.code yX5_beginsStatement cX5_beginsStatement 1 (some .boolean) :: p_y_X5_beginsStatement) ++ ((.code yX5_checkStatement cX5_checkStatement 4 none :: p_f_X5_checkStatement) ++ ((.code yX7_emit cX7_emit 3 (some .int) :: p_f_X7_emit__P) ++ ((.code yX5_opens cX5_opens 1 none :: p_f_X5_opens) ++ ((.code yX5_iters cX5_iters 14 none :: p_f_F2) ++ ((.code yX2_advance cX2_advance 7 none :: p_f_X2_advance) ++ ((.code yX5_exp cX5_exp 8 none :: p_f_F2) ++ ((.code yX7_aim cX7_aim 3 none :: p_y_X7_aim__P) ++ ((.code yX5_expect cX5_expect 2 none :: p_f_X5_expect) ++ ((.code yX7_word cX7_word 2 (some .int) :: p_f_X7_word__P) ++ ((.code yX5_closes cX5_closes 2 none :: p_f_X5_closes) ++ ((.code yX5_aimAll cX5_aimAll 5 none :: p_y_X5_aimAll) ++ ((.code yX5_nameStatement cX5_nameStatement 7 none :: p_f_X5_nameStatement) ++ ((.code yX5_holesStatement cX5_holesStatement 7 none :: p_f_X5_holesStatement) ++ ((.code yX5_want cX5_want 2 none :: p_f_X5_want) ++ ((.code yX5_exps cX5_exps 3 (some .int) :: p_f_F2) ++ ((.code yX5_plainStatement cX5_plainStatement 2 none :: p_f_X5_plainStatement) ++ [])))))))))))))))))
theorem p_f_F3_good : p_f_F3.all goodWord = true := nb_all2 o_f_F3_good (nb_all2 (nb_allc (by decide +kernel) p_y_X5_beginsStatement_good) (nb_all2 (nb_allc (by decide +kernel) p_f_X5_checkStatement_good) (nb_all2 (nb_allc (by decide +kernel) p_f_X7_emit__P_good) (nb_all2 (nb_allc (by decide +kernel) p_f_X5_opens_good) (nb_all2 (nb_allc (by decide +kernel) p_f_F2_good) (nb_all2 (nb_allc (by decide +kernel) p_f_X2_advance_good) (nb_all2 (nb_allc (by decide +kernel) p_f_F2_good) (nb_all2 (nb_allc (by decide +kernel) p_y_X7_aim__P_good) (nb_all2 (nb_allc (by decide +kernel) p_f_X5_expect_good) (nb_all2 (nb_allc (by decide +kernel) p_f_X7_word__P_good) (nb_all2 (nb_allc (by decide +kernel) p_f_X5_closes_good) (nb_all2 (nb_allc (by decide +kernel) p_y_X5_aimAll_good) (nb_all2 (nb_allc (by decide +kernel) p_f_X5_nameStatement_good) (nb_all2 (nb_allc (by decide +kernel) p_f_X5_holesStatement_good) (nb_all2 (nb_allc (by decide +kernel) p_f_X5_want_good) (nb_all2 (nb_allc (by decide +kernel) p_f_F2_good) (nb_all2 (nb_allc (by decide +kernel) p_f_X5_plainStatement_good) rfl)))))))))))))))))
def w_f_X5_block : List Cond := .code yX5_block cX5_block 3 none :: (p_f_F3 ++ fC)
theorem w_f_X5_block_good : w_f_X5_block.all goodWord = true := nb_allc (by decide +kernel) (nb_all2 p_f_F3_good fC_good)
theorem in_f_X5_block_X2 : ∀ w ∈ wsX20, w ∈ w_f_X5_block := fun _ h => List.mem_cons_of_mem _ (List.mem_append_right _ (List.mem_append_right _ (List.mem_append_right _ (List.mem_append_left _ h))))
theorem in_f_X5_block_X5 : ∀ w ∈ wsX50, w ∈ w_f_X5_block := fun _ h => List.mem_cons_of_mem _ (List.mem_append_right _ (List.mem_append_right _ (List.mem_append_right _ (List.mem_append_right _ (List.mem_append_right _ (List.mem_append_left _ h))))))
theorem in_f_X5_block_X7 : ∀ w ∈ wsX70, w ∈ w_f_X5_block := fun _ h => List.mem_cons_of_mem _ (List.mem_append_right _ (List.mem_append_right _ (List.mem_append_right _ (List.mem_append_right _ (List.mem_append_right _ (List.mem_append_right _ (List.mem_append_right _ (List.mem_append_left _ h))))))))
theorem hd_f_X5_block : yX5_block.cls = RX5 ∧ yX5_block.cls ≠ "java/lang/invoke/MethodHandle" ∧ yX5_block.cls ≠ "java/lang/invoke/VarHandle" ∧ (parseMethodDescriptor yX5_block.desc).map (fun d => d.parameters.length) = some 0 := by decide +kernel
def w_f_X5_forStatement : List Cond := .code yX5_forStatement cX5_forStatement 9 none :: (p_f_F3 ++ fC)
theorem w_f_X5_forStatement_good : w_f_X5_forStatement.all goodWord = true := nb_allc (by decide +kernel) (nb_all2 p_f_F3_good fC_good)
theorem in_f_X5_forStatement_X2 : ∀ w ∈ wsX20, w ∈ w_f_X5_forStatement := fun _ h => List.mem_cons_of_mem _ (List.mem_append_right _ (List.mem_append_right _ (List.mem_append_right _ (List.mem_append_left _ h))))
theorem in_f_X5_forStatement_X5 : ∀ w ∈ wsX50, w ∈ w_f_X5_forStatement := fun _ h => List.mem_cons_of_mem _ (List.mem_append_right _ (List.mem_append_right _ (List.mem_append_right _ (List.mem_append_right _ (List.mem_append_right _ (List.mem_append_left _ h))))))
theorem in_f_X5_forStatement_X7 : ∀ w ∈ wsX70, w ∈ w_f_X5_forStatement := fun _ h => List.mem_cons_of_mem _ (List.mem_append_right _ (List.mem_append_right _ (List.mem_append_right _ (List.mem_append_right _ (List.mem_append_right _ (List.mem_append_right _ (List.mem_append_right _ (List.mem_append_left _ h))))))))
theorem hd_f_X5_forStatement : yX5_forStatement.cls = RX5 ∧ yX5_forStatement.cls ≠ "java/lang/invoke/MethodHandle" ∧ yX5_forStatement.cls ≠ "java/lang/invoke/VarHandle" ∧ (parseMethodDescriptor yX5_forStatement.desc).map (fun d => d.parameters.length) = some 0 := by decide +kernel
def w_f_X5_ifStatement : List Cond := .code yX5_ifStatement cX5_ifStatement 4 none :: (p_f_F3 ++ fC)
theorem w_f_X5_ifStatement_good : w_f_X5_ifStatement.all goodWord = true := nb_allc (by decide +kernel) (nb_all2 p_f_F3_good fC_good)
theorem in_f_X5_ifStatement_X2 : ∀ w ∈ wsX20, w ∈ w_f_X5_ifStatement := fun _ h => List.mem_cons_of_mem _ (List.mem_append_right _ (List.mem_append_right _ (List.mem_append_right _ (List.mem_append_left _ h))))
theorem in_f_X5_ifStatement_X5 : ∀ w ∈ wsX50, w ∈ w_f_X5_ifStatement := fun _ h => List.mem_cons_of_mem _ (List.mem_append_right _ (List.mem_append_right _ (List.mem_append_right _ (List.mem_append_right _ (List.mem_append_right _ (List.mem_append_left _ h))))))
theorem in_f_X5_ifStatement_X7 : ∀ w ∈ wsX70, w ∈ w_f_X5_ifStatement := fun _ h => List.mem_cons_of_mem _ (List.mem_append_right _ (List.mem_append_right _ (List.mem_append_right _ (List.mem_append_right _ (List.mem_append_right _ (List.mem_append_right _ (List.mem_append_right _ (List.mem_append_left _ h))))))))
theorem hd_f_X5_ifStatement : yX5_ifStatement.cls = RX5 ∧ yX5_ifStatement.cls ≠ "java/lang/invoke/MethodHandle" ∧ yX5_ifStatement.cls ≠ "java/lang/invoke/VarHandle" ∧ (parseMethodDescriptor yX5_ifStatement.desc).map (fun d => d.parameters.length) = some 0 := by decide +kernel
def w_f_X5_loopBody : List Cond := .code yX5_loopBody cX5_loopBody 4 none :: (p_f_F3 ++ fC)
theorem w_f_X5_loopBody_good : w_f_X5_loopBody.all goodWord = true := nb_allc (by decide +kernel) (nb_all2 p_f_F3_good fC_good)
theorem in_f_X5_loopBody_X5 : ∀ w ∈ wsX50, w ∈ w_f_X5_loopBody := fun _ h => List.mem_cons_of_mem _ (List.mem_append_right _ (List.mem_append_right _ (List.mem_append_right _ (List.mem_append_right _ (List.mem_append_right _ (List.mem_append_left _ h))))))
theorem hd_f_X5_loopBody : yX5_loopBody.cls = RX5 ∧ yX5_loopBody.cls ≠ "java/lang/invoke/MethodHandle" ∧ yX5_loopBody.cls ≠ "java/lang/invoke/VarHandle" ∧ (parseMethodDescriptor yX5_loopBody.desc).map (fun d => d.parameters.length) = some 1 := by decide +kernel
def w_f_X5_statement : List Cond := .code yX5_statement cX5_statement 2 none :: (p_f_F3 ++ fC)
theorem w_f_X5_statement_good : w_f_X5_statement.all goodWord = true := nb_allc (by decide +kernel) (nb_all2 p_f_F3_good fC_good)
theorem in_f_X5_statement_X2 : ∀ w ∈ wsX20, w ∈ w_f_X5_statement := fun _ h => List.mem_cons_of_mem _ (List.mem_append_right _ (List.mem_append_right _ (List.mem_append_right _ (List.mem_append_left _ h))))
theorem in_f_X5_statement_X5 : ∀ w ∈ wsX50, w ∈ w_f_X5_statement := fun _ h => List.mem_cons_of_mem _ (List.mem_append_right _ (List.mem_append_right _ (List.mem_append_right _ (List.mem_append_right _ (List.mem_append_right _ (List.mem_append_left _ h))))))
theorem hd_f_X5_statement : yX5_statement.cls = RX5 ∧ yX5_statement.cls ≠ "java/lang/invoke/MethodHandle" ∧ yX5_statement.cls ≠ "java/lang/invoke/VarHandle" ∧ (parseMethodDescriptor yX5_statement.desc).map (fun d => d.parameters.length) = some 1 := by decide +kernel
def w_f_X5_whileStatement : List Cond := .code yX5_whileStatement cX5_whileStatement 3 none :: (p_f_F3 ++ fC)
theorem w_f_X5_whileStatement_good : w_f_X5_whileStatement.all goodWord = true := nb_allc (by decide +kernel) (nb_all2 p_f_F3_good fC_good)
theorem in_f_X5_whileStatement_X5 : ∀ w ∈ wsX50, w ∈ w_f_X5_whileStatement := fun _ h => List.mem_cons_of_mem _ (List.mem_append_right _ (List.mem_append_right _ (List.mem_append_right _ (List.mem_append_right _ (List.mem_append_right _ (List.mem_append_left _ h))))))
theorem in_f_X5_whileStatement_X7 : ∀ w ∈ wsX70, w ∈ w_f_X5_whileStatement := fun _ h => List.mem_cons_of_mem _ (List.mem_append_right _ (List.mem_append_right _ (List.mem_append_right _ (List.mem_append_right _ (List.mem_append_right _ (List.mem_append_right _ (List.mem_append_right _ (List.mem_append_left _ h))))))))
theorem hd_f_X5_whileStatement : yX5_whileStatement.cls = RX5 ∧ yX5_whileStatement.cls ≠ "java/lang/invoke/MethodHandle" ∧ yX5_whileStatement.cls ≠ "java/lang/invoke/VarHandle" ∧ (parseMethodDescriptor yX5_whileStatement.desc).map (fun d => d.parameters.length) = some 1 := by decide +kernel
abbrev P_F3 (l : Launch) (dC : Nat → ClassId) (dI : Nat → Nat → Nat) (cy : Nat → ClassId) (ek a : Nat → Nat) (k0 : Nat) : Prop := (∀ (d : Nat) (L0 : LV) (σ0 : CS) (r0 : RS), f_F3 k0 d 0 0 L0 σ0 = some r0 → ∀ (z : Nat → Nat) (sz : Nat), vx_Met l yX5_block w_f_X5_block ({ frames := 412 + d, cells := r0.2.2.1, slots := r0.2.2.2, locals := 13455 + 28 * d }) (va_Pc [.ref (a 40)] (nInF (dC, dI) cy ek sz (vC cy a z σ0))) (xV dC dI cy a (va_A (vC cy a z σ0) sz) [41, 42, 43, 51] z r0) (xX dC dI cy a (va_A (vC cy a z σ0) sz) [41, 42, 43, 51] z r0) r0.2.2.1 r0.2.2.2 (va_A (vC cy a z σ0) sz)) ∧ (∀ (d : Nat) (L0 : LV) (σ0 : CS) (r0 : RS), f_F3 k0 d 1 0 L0 σ0 = some r0 → ∀ (z : Nat → Nat) (sz : Nat), vx_Met l yX5_forStatement w_f_X5_forStatement ({ frames := 412 + d, cells := r0.2.2.1, slots := r0.2.2.2, locals := 13455 + 28 * d }) (va_Pc [.ref (a 40)] (nInF (dC, dI) cy ek sz (vC cy a z σ0))) (xV dC dI cy a (va_A (vC cy a z σ0) sz) [41, 42, 43, 51] z r0) (xX dC dI cy a (va_A (vC cy a z σ0) sz) [41, 42, 43, 51] z r0) r0.2.2.1 r0.2.2.2 (va_A (vC cy a z σ0) sz)) ∧ (∀ (d : Nat) (L0 : LV) (σ0 : CS) (r0 : RS), f_F3 k0 d 2 0 L0 σ0 = some r0 → ∀ (z : Nat → Nat) (sz : Nat), vx_Met l yX5_ifStatement w_f_X5_ifStatement ({ frames := 412 + d, cells := r0.2.2.1, slots := r0.2.2.2, locals := 13455 + 28 * d }) (va_Pc [.ref (a 40)] (nInF (dC, dI) cy ek sz (vC cy a z σ0))) (xV dC dI cy a (va_A (vC cy a z σ0) sz) [41, 42, 43, 51] z r0) (xX dC dI cy a (va_A (vC cy a z σ0) sz) [41, 42, 43, 51] z r0) r0.2.2.1 r0.2.2.2 (va_A (vC cy a z σ0) sz)) ∧ (∀ (d : Nat) (L0 : LV) (σ0 : CS) (r0 : RS), f_F3 k0 d 3 0 L0 σ0 = some r0 → ∀ (z : Nat → Nat) (sz : Nat), vx_Met l yX5_loopBody w_f_X5_loopBody ({ frames := 412 + d, cells := r0.2.2.1, slots := r0.2.2.2, locals := 13455 + 28 * d }) (va_Pc [.ref (a 40), .int (L0.1 1)] (nInF (dC, dI) cy ek sz (vC cy a z σ0))) (xV dC dI cy a (va_A (vC cy a z σ0) sz) [41, 42, 43, 51] z r0) (xX dC dI cy a (va_A (vC cy a z σ0) sz) [41, 42, 43, 51] z r0) r0.2.2.1 r0.2.2.2 (va_A (vC cy a z σ0) sz)) ∧ (∀ (d : Nat) (L0 : LV) (σ0 : CS) (r0 : RS), f_F3 k0 d 4 0 L0 σ0 = some r0 → ∀ (z : Nat → Nat) (sz : Nat), vx_Met l yX5_statement w_f_X5_statement ({ frames := 412 + d, cells := r0.2.2.1, slots := r0.2.2.2, locals := 13455 + 28 * d }) (va_Pc [.ref (a 40), .int (L0.1 1)] (nInF (dC, dI) cy ek sz (vC cy a z σ0))) (xV dC dI cy a (va_A (vC cy a z σ0) sz) [41, 42, 43, 51] z r0) (xX dC dI cy a (va_A (vC cy a z σ0) sz) [41, 42, 43, 51] z r0) r0.2.2.1 r0.2.2.2 (va_A (vC cy a z σ0) sz)) ∧ (∀ (d : Nat) (L0 : LV) (σ0 : CS) (r0 : RS), f_F3 k0 d 5 0 L0 σ0 = some r0 → ∀ (z : Nat → Nat) (sz : Nat), vx_Met l yX5_whileStatement w_f_X5_whileStatement ({ frames := 412 + d, cells := r0.2.2.1, slots := r0.2.2.2, locals := 13455 + 28 * d }) (va_Pc [.ref (a 40), .int (L0.1 1)] (nInF (dC, dI) cy ek sz (vC cy a z σ0))) (xV dC dI cy a (va_A (vC cy a z σ0) sz) [41, 42, 43, 51] z r0) (xX dC dI cy a (va_A (vC cy a z σ0) sz) [41, 42, 43, 51] z r0) r0.2.2.1 r0.2.2.2 (va_A (vC cy a z σ0) sz))
theorem gg_f_X5_block_X5_checkStatement : GoodIn w_f_X5_block w_f_X5_checkStatement := goodIn_sub (fun w h => (List.mem_cons.mp h).elim (fun e => (List.mem_cons_of_mem _ (List.mem_append_left _ (List.mem_append_right _ (List.mem_append_right _ (List.mem_append_left _ (List.mem_cons.mpr (Or.inl e)))))))) (fun h => (List.mem_append.mp h).elim (fun h => (List.mem_cons_of_mem _ (List.mem_append_left _ (List.mem_append_right _ (List.mem_append_right _ (List.mem_append_left _ (List.mem_cons_of_mem _ h))))))) (fun h => List.mem_cons_of_mem _ (List.mem_append_right _ h)))) w_f_X5_checkStatement_good
theorem g_f_X5_block_X5_checkStatement_V209 : GoodIn w_f_X5_block (wsV RX5 209 RX5 yX5_checkStatement w_f_X5_checkStatement) := goodIn_app (nb_g4 (List.mem_cons_of_mem _ (List.mem_append_left _ (List.mem_append_left _ (List.mem_of_getElem? (i := 10) rfl)))) (List.mem_cons_of_mem _ (List.mem_append_left _ (List.mem_append_left _ (List.mem_of_getElem? (i := 11) rfl)))) (List.mem_cons_of_mem _ (List.mem_append_left _ (List.mem_append_left _ (List.mem_of_getElem? (i := 12) rfl)))) (List.mem_cons_of_mem _ (List.mem_append_left _ (List.mem_append_left _ (List.mem_of_getElem? (i := 9) rfl)))) (by decide +kernel)) gg_f_X5_block_X5_checkStatement
theorem gg_f_X5_block_X5_statement : GoodIn w_f_X5_block w_f_X5_statement := goodIn_sub (fun w h => (List.mem_cons.mp h).elim (fun e => e ▸ (List.mem_cons_of_mem _ (List.mem_append_left _ (List.mem_append_left _ (List.mem_of_getElem? (i := 4) rfl))))) (fun h => List.mem_cons_of_mem _ h)) w_f_X5_statement_good
theorem g_f_X5_block_X5_statement_V215 : GoodIn w_f_X5_block (wsV RX5 215 RX5 yX5_statement w_f_X5_statement) := goodIn_app (nb_g4 (List.mem_cons_of_mem _ (List.mem_append_left _ (List.mem_append_left _ (List.mem_of_getElem? (i := 19) rfl)))) (List.mem_cons_of_mem _ (List.mem_append_left _ (List.mem_append_left _ (List.mem_of_getElem? (i := 20) rfl)))) (List.mem_cons_of_mem _ (List.mem_append_left _ (List.mem_append_left _ (List.mem_of_getElem? (i := 21) rfl)))) (List.mem_cons_of_mem _ (List.mem_append_left _ (List.mem_append_left _ (List.mem_of_getElem? (i := 9) rfl)))) (by decide +kernel)) gg_f_X5_block_X5_statement
theorem gg_f_X5_block_X7_emit__P : GoodIn w_f_X5_block w_f_X7_emit__P := goodIn_sub (fun w h => (List.mem_cons.mp h).elim (fun e => (List.mem_cons_of_mem _ (List.mem_append_left _ (List.mem_append_right _ (List.mem_append_right _ (List.mem_append_right _ (List.mem_append_left _ (List.mem_cons.mpr (Or.inl e))))))))) (fun h => (List.mem_append.mp h).elim (fun h => (List.mem_cons_of_mem _ (List.mem_append_left _ (List.mem_append_right _ (List.mem_append_right _ (List.mem_append_right _ (List.mem_append_left _ (List.mem_cons_of_mem _ h)))))))) (fun h => List.mem_cons_of_mem _ (List.mem_append_right _ h)))) w_f_X7_emit__P_good
theorem g_f_X5_block_X7_emit__P_V66 : GoodIn w_f_X5_block (wsV RX5 66 RX7 yX7_emit w_f_X7_emit__P) := goodIn_app (nb_g4 (List.mem_cons_of_mem _ (List.mem_append_left _ (List.mem_append_left _ (List.mem_of_getElem? (i := 15) rfl)))) (List.mem_cons_of_mem _ (List.mem_append_left _ (List.mem_append_left _ (List.mem_of_getElem? (i := 16) rfl)))) (List.mem_cons_of_mem _ (List.mem_append_left _ (List.mem_append_left _ (List.mem_of_getElem? (i := 17) rfl)))) (List.mem_cons_of_mem _ (List.mem_append_left _ (List.mem_append_left _ (List.mem_of_getElem? (i := 18) rfl)))) (by decide +kernel)) gg_f_X5_block_X7_emit__P
theorem gg_f_X5_block_X5_beginsStatement : GoodIn w_f_X5_block w_y_X5_beginsStatement := goodIn_sub (fun w h => (List.mem_cons.mp h).elim (fun e => (List.mem_cons_of_mem _ (List.mem_append_left _ (List.mem_append_right _ (List.mem_append_left _ (List.mem_cons.mpr (Or.inl e))))))) (fun h => (List.mem_append.mp h).elim (fun h => (List.mem_cons_of_mem _ (List.mem_append_left _ (List.mem_append_right _ (List.mem_append_left _ (List.mem_cons_of_mem _ h)))))) (fun h => List.mem_cons_of_mem _ (List.mem_append_right _ h)))) w_y_X5_beginsStatement_good
theorem g_y_X5_block_X5_beginsStatement_V205 : GoodIn w_f_X5_block (wsV RX5 205 RX5 yX5_beginsStatement w_y_X5_beginsStatement) := goodIn_app (nb_g4 (List.mem_cons_of_mem _ (List.mem_append_left _ (List.mem_append_left _ (List.mem_of_getElem? (i := 6) rfl)))) (List.mem_cons_of_mem _ (List.mem_append_left _ (List.mem_append_left _ (List.mem_of_getElem? (i := 7) rfl)))) (List.mem_cons_of_mem _ (List.mem_append_left _ (List.mem_append_left _ (List.mem_of_getElem? (i := 8) rfl)))) (List.mem_cons_of_mem _ (List.mem_append_left _ (List.mem_append_left _ (List.mem_of_getElem? (i := 9) rfl)))) (by decide +kernel)) gg_f_X5_block_X5_beginsStatement
set_option maxHeartbeats 40000000 in
set_option maxRecDepth 100000 in
theorem c_t_X5_block (l : Launch) (hl0 : l.stackTraces = false) (dC : Nat → ClassId) (dI : Nat → Nat → Nat) (cy : Nat → ClassId) (ek a : Nat → Nat) (k0 : Nat) (IH : ∀ j : Nat, j < k0 → P_F3 l dC dI cy ek a j) (d : Nat) (L0 : LV) (σ0 : CS) (r0 : RS) (h0 : f_F3 k0 d 0 0 L0 σ0 = some r0) (z : Nat → Nat) (sz : Nat) : vx_Met l yX5_block w_f_X5_block ({ frames := 412 + d, cells := r0.2.2.1, slots := r0.2.2.2, locals := 13455 + 28 * d }) (va_Pc [.ref (a 40)] (nInF (dC, dI) cy ek sz (vC cy a z σ0))) (xV dC dI cy a (va_A (vC cy a z σ0) sz) [41, 42, 43, 51] z r0) (xX dC dI cy a (va_A (vC cy a z σ0) sz) [41, 42, 43, 51] z r0) r0.2.2.1 r0.2.2.2 (va_A (vC cy a z σ0) sz) := by
  refine vx_ofW (cc := cX5_block) (maxL := 3) (ret := none) (by decide) rfl ?_
  intro p e s m args below meth c s₁ B hml hno hv
  obtain ⟨rfl, ⟨⟨hsz, hP, hK, hD0, hG⟩, hE⟩, hT⟩ := hv
  have hx := B.exec
  have hb := B.bytes
  have hr := B.returns
  have hts := atoms_spec (ws := w_f_X5_block) B.pre
  have hown : s.vm.findClass RX5 = some m.cls := findClass_of_methodNamed B.named
  have hlocks := B.notSynchronized
  subst hsz
  have hD := hD0.self (sz := s.heap.size)
  generalize hAe : va_A (vC cy a z σ0) s.heap.size = A at hD hE hT ⊢
  have hA : ∀ q : Nat, s.heap.size ≤ q → A q := fun q h => by rw [← hAe]; exact Or.inr h
  have hS : va_S A s.heap s.heap [] := va_S.rf
  have hl := lv_entry ([.ref (a 40)]) (n := 3) (Nat.le_of_ble_eq_true rfl)
  rw [lg_entry_eq]
  generalize (lg_sl ([.ref (a 40)]) ++ List.replicate (3 - (lg_sl ([.ref (a 40)])).length) Slot.unset).toArray = ls at hl ⊢
  have hl : lv_has ls 3 [(0, .ref (a 40))] := hl
  generalize hmc : r0.2.2.1 = mc
  generalize hms : r0.2.2.2 = ms
  have blk : ∀ k : Nat, k ≤ k0 → (bX p l e (headSpec w_f_X5_block ({ frames := 412 + d, cells := mc, slots := ms, locals := 13455 + 28 * d })).room s m #[.ref (a 40)] below meth c dC dI cy a A (fun r => vx_MQ below (xV dC dI cy a A [41, 42, 43, 51] z r) (xX dC dI cy a A [41, 42, 43, 51] z r) #[.ref (a 40)] s mc ms A) [41, 42, 43, 51] z mc ms 3 (f_F3 k d 0 0) (fun z L => [(0, .ref (a 40))]) 0 (fun z L => [])) ∧ (bX p l e (headSpec w_f_X5_block ({ frames := 412 + d, cells := mc, slots := ms, locals := 13455 + 28 * d })).room s m #[.ref (a 40)] below meth c dC dI cy a A (fun r => vx_MQ below (xV dC dI cy a A [41, 42, 43, 51] z r) (xX dC dI cy a A [41, 42, 43, 51] z r) #[.ref (a 40)] s mc ms A) [41, 42, 43, 51] z mc ms 3 (f_F3 k d 0 1) (fun z L => [(0, .ref (a 40)), (1, .int (L.1 1))]) 2 (fun z L => [])) ∧ (bX p l e (headSpec w_f_X5_block ({ frames := 412 + d, cells := mc, slots := ms, locals := 13455 + 28 * d })).room s m #[.ref (a 40)] below meth c dC dI cy a A (fun r => vx_MQ below (xV dC dI cy a A [41, 42, 43, 51] z r) (xX dC dI cy a A [41, 42, 43, 51] z r) #[.ref (a 40)] s mc ms A) [41, 42, 43, 51] z mc ms 3 (f_F3 k d 0 2) (fun z L => []) 60 (fun z L => [])) := by
    intro k
    induction k with
    | zero => exact fun _ => ⟨fun z c1 c2 L σ r h => (by cases h), fun z c1 c2 L σ r h => (by cases h), fun z c1 c2 L σ r h => (by cases h)⟩
    | succ k ih =>
      intro hk
      replace ih := ih (by omega)
      refine ⟨?_, ?_, ?_⟩
      · intro z cells slots L σ r h hzk hc hs H locs ls hP hD hS hl
        rw [f_F3_0, t_X5_block_0] at h
        refine lv_iconst (v := 0) hx hb dX5_block_0 (by decide) ?_
        refine lv_istore_n (lv' := [(1, .int 0), (0, .ref (a 40))]) hx hb dX5_block_1 rfl hl (by decide) rfl (fun ls hl => ?_)
        exact ih.2.1 z _ _ (lI L 1 0) σ _ h hzk hc hs H locs ls hP hD hS (lv_sub hl [1, 0] rfl)
      · intro z cells slots L σ r h hzk hc hs H locs ls hP hD hS hl
        rw [f_F3_0, t_X5_block_1] at h
        refine lv_iload_n hx hb dX5_block_2 rfl (lv_at hl 1 rfl) ?_
        refine lv_sipush (v := 400) hx hb dX5_block_3 (by decide) ?_
        refine lv_icmp_gt (tgt := 60) hx hb dX5_block_6 (by decide) (fun c1 => ?_) (fun c1 => ?_)
        · rw [if_pos c1] at h
          exact ih.2.2 z _ _ L σ _ h hzk hc hs H locs ls hP hD hS (lv_sub hl [] rfl)
        · rw [if_neg c1] at h
          refine lv_aload_n hx hb dX5_block_9 rfl (lv_at hl 0 rfl) ?_
          obtain ⟨r2, hc2, h⟩ := op_ex h
          refine kc_i (va_runV (As := []) (rest := []) ⟨hx, hb, hml, hown, hts⟩ (c_y_X5_beginsStatement l dC dI cy a z k lZ σ r2 hc2 H.size) (cwV 0 hts g_y_X5_block_X5_beginsStatement_V205 rfl rfl rfl hd_y_X5_beginsStatement (by show 0 + 1 ≤ 412 + d ∧ 8 + (1 + 11) + 0 ≤ 13455 + 28 * d; omega)) ⟨nb_blind, va_recv hK hP (ci := 4) (q0 := 40) rfl rfl, (kb_pre hK hG hP hD)⟩ rfl rfl hl.1 rfl (lv_room (Nat.le_of_ble_eq_true rfl)) dX5_block_10 ⟨(Nat.le_trans (Nat.le_add_right _ _) (Nat.le_of_eq hc)), (Nat.le_trans (Nat.le_add_right _ _) (Nat.le_of_eq hs))⟩) hA hP hD hS (fun H locs hP hD hS => ?_)
          refine lv_if_eq (tgt := 60) hx hb dX5_block_13 (by decide) (fun c3 => ?_) (fun c3 => ?_)
          · rw [if_pos c3] at h
            exact ih.2.2 z _ _ L r2.2 _ h hzk hc hs H locs ls hP hD hS (lv_sub hl [] rfl)
          · rw [if_neg c3] at h
            refine lv_aload_n hx hb dX5_block_16 rfl (lv_at hl 0 rfl) ?_
            obtain ⟨r4, hc4, hle4, h9⟩ := ox_ex h
            clear h
            refine kx_v (vx_runV (As := []) (rest := []) ⟨hx, hb, hml, hown, hts⟩ (c_f_X5_checkStatement l hl0 dC dI cy ek a k lZ r2.2 r4 hc4 z H.size) (cwV 0 hts g_f_X5_block_X5_checkStatement_V209 rfl rfl rfl hd_f_X5_checkStatement (by show 7 + 1 ≤ 412 + d ∧ 8 + (4 + 11) + 122 ≤ 13455 + 28 * d; omega)) ⟨nb_blindF, va_recv hK hP (ci := 4) (q0 := 40) rfl rfl, (kx_pre hK hG hE hT hA hP hD hS)⟩ rfl rfl hl.1 rfl (lv_room (Nat.le_of_ble_eq_true rfl)) dX5_block_17 ⟨Nat.le_trans (Nat.add_le_add_left hle4.1 _) (Nat.le_of_eq hc), Nat.le_trans (Nat.add_le_add_left hle4.2 _) (Nat.le_of_eq hs)⟩) hK hA hzk hP hD hS (by decide) hno hlocks ?_
            rcases h9 with ⟨h00, y4, hny4, hy⟩ | ⟨h00, hy⟩
            · subst hy
              have h := hny4
              refine Or.inl ⟨h00, fun u H locs hz4 hzk hP hD hS => ?_⟩
              obtain rfl := (zk_nil hz4).symm
              replace hc := (Nat.add_assoc _ _ _).trans hc
              replace hs := (Nat.add_assoc _ _ _).trans hs
              refine lv_aload_n hx hb dX5_block_20 rfl (lv_at hl 0 rfl) ?_
              obtain ⟨b5, hb5, h⟩ := oP_ex h
              refine hgq_40_2 hx hb hts in_f_X5_block_X5 hown hK hP (hts _ (List.mem_cons_of_mem _ (List.mem_append_left _ (List.mem_append_left _ (List.mem_of_getElem? (i := 13) rfl))))) hb5 dX5_block_21 ?_
              refine lv_dup hx hb dX5_block_24 rfl ?_
              refine hg_P_3n b5 hx hb hts in_f_X5_block_X7 hown hK hP (va_Nw.use rfl (hG.1 _ (List.mem_of_getElem? (i := 73) rfl))) dX5_block_25 ?_
              refine lv_iconst (v := 1) hx hb dX5_block_28 (by decide) ?_
              refine lv_iadd hx hb dX5_block_29 ?_
              refine hp_P_3n b5 hx hb hts in_f_X5_block_X7 hown hK hP hD hS (va_Nw.use rfl (hG.1 _ (List.mem_of_getElem? (i := 73) rfl))) dX5_block_30 (fun H locs hP hD hS => ?_)
              refine lv_aload_n hx hb dX5_block_33 rfl (lv_at hl 0 rfl) ?_
              obtain ⟨b6, hb6, h⟩ := oP_ex h
              refine hgq_40_2 hx hb hts in_f_X5_block_X5 hown hK hP (hts _ (List.mem_cons_of_mem _ (List.mem_append_left _ (List.mem_append_left _ (List.mem_of_getElem? (i := 13) rfl))))) hb6 dX5_block_34 ?_
              refine lv_iconst (v := 0) hx hb dX5_block_37 (by decide) ?_
              refine lv_aload_n hx hb dX5_block_38 rfl (lv_at hl 0 rfl) ?_
              refine hg_40_0 hx hb hts in_f_X5_block_X5 hown hK hP (hts _ (List.mem_cons_of_mem _ (List.mem_append_left _ (List.mem_append_left _ (List.mem_of_getElem? (i := 14) rfl))))) dX5_block_39 ?_
              refine hg_37_3n hx hb hts in_f_X5_block_X2 hown hK hP (va_Nw.use rfl (hG.1 _ (List.mem_of_getElem? (i := 54) rfl))) dX5_block_42 ?_
              obtain ⟨r7, hc7, hle7, h9⟩ := ox_ex h
              clear h
              refine kx_i (r := y4) (vx_runV (As := [.int 0, .int ((uI r4.2.1 (fP b5 3) ((((r4.2.1.1 (fP b5 3))) + 1))).1 3703)]) (rest := []) ⟨hx, hb, hml, hown, hts⟩ (c_f_X7_emit__P l hl0 dC dI cy ek a k (lI (lI (lB lZ 0 b6) 1 0) 2 (((uI r4.2.1 (fP b5 3) ((((r4.2.1.1 (fP b5 3))) + 1))).1 3703))) (uI r4.2.1 (fP b5 3) ((((r4.2.1.1 (fP b5 3))) + 1))) r7 hc7 z H.size) (cwV 2 hts g_f_X5_block_X7_emit__P_V66 rfl rfl rfl hd_f_X7_emit__P (by show 7 + 1 ≤ 412 + d ∧ 8 + (3 + 11) + 121 ≤ 13455 + 28 * d; omega)) ⟨nb_blindF, recvP b6 hK hP, (kx_pre hK hG hE hT hA hP hD hS)⟩ rfl rfl hl.1 rfl (lv_room (Nat.le_of_ble_eq_true rfl)) dX5_block_45 ⟨Nat.le_trans (Nat.add_le_add_left hle7.1 _) (Nat.le_of_eq hc), Nat.le_trans (Nat.add_le_add_left hle7.2 _) (Nat.le_of_eq hs)⟩) hK hA hzk hP hD hS (by decide) hno hlocks ?_
              rcases h9 with ⟨h00, y7, hny7, hy⟩ | ⟨h00, hy⟩
              · subst hy
                have h := hny7
                refine Or.inl ⟨h00, fun z H locs hz7 hzk hP hD hS => ?_⟩
                replace hc := (Nat.add_assoc _ _ _).trans hc
                replace hs := (Nat.add_assoc _ _ _).trans hs
                refine lv_istore_n (lv' := [(2, .int r7.1.2), (0, .ref (a 40)), (1, .int (L.1 1))]) hx hb dX5_block_48 rfl hl (by decide) rfl (fun ls hl => ?_)
                refine lv_aload_n hx hb dX5_block_49 rfl (lv_at hl 1 rfl) ?_
                refine lv_iload_n hx hb dX5_block_50 rfl (lv_at hl 0 rfl) ?_
                obtain ⟨e8, he8, h⟩ := of_ex h
                obtain ⟨r8, hc8, hle8, h9⟩ := ox_ex h
                clear h
                refine kx_v (r := y7) (vx_runV (As := [.int r7.1.2]) (rest := []) ⟨hx, hb, hml, hown, hts⟩ ((IH k (by omega)).2.2.2.2.1 e8 (lI lZ 1 r7.1.2) r7.2.1 r8 hc8 z H.size) (cwV 1 hts g_f_X5_block_X5_statement_V215 rfl rfl rfl hd_f_X5_statement (by show (412 + e8) + 1 ≤ 412 + d ∧ 8 + (2 + 11) + (13455 + 28 * e8) ≤ 13455 + 28 * d; omega)) ⟨nb_blindF, va_recv hK hP (ci := 4) (q0 := 40) rfl rfl, (kx_pre hK hG hE hT hA hP hD hS)⟩ rfl rfl hl.1 rfl (lv_room (Nat.le_of_ble_eq_true rfl)) dX5_block_51 ⟨Nat.le_trans (Nat.add_le_add_left hle8.1 _) (Nat.le_of_eq hc), Nat.le_trans (Nat.add_le_add_left hle8.2 _) (Nat.le_of_eq hs)⟩) hK hA hzk hP hD hS (by decide) hno hlocks ?_
                rcases h9 with ⟨h00, y8, hny8, hy⟩ | ⟨h00, hy⟩
                · subst hy
                  have h := hny8
                  refine Or.inl ⟨h00, fun z H locs hz8 hzk hP hD hS => ?_⟩
                  replace hc := (Nat.add_assoc _ _ _).trans hc
                  replace hs := (Nat.add_assoc _ _ _).trans hs
                  refine lv_iinc (v := ((L.1 1)) + 1) (lv' := [(1, .int (((L.1 1)) + 1)), (2, .int r7.1.2), (0, .ref (a 40))]) hx hb dX5_block_54 hl (k := 2) rfl rfl (by decide) rfl (fun ls hl => ?_)
                  refine lv_goto (tgt := 2) hx hb dX5_block_57 (by decide) ?_
                  exact ih.2.1 z _ _ (lI L 1 ((((L.1 1)) + 1))) r8.2.1 _ h hzk hc hs H locs ls hP hD hS (lv_sub hl [2, 0] rfl)
                · subst hy
                  exact Or.inr ⟨h00, rfl, hc, hs⟩
              · subst hy
                exact Or.inr ⟨h00, rfl, hc, hs⟩
            · subst hy
              exact Or.inr ⟨h00, rfl, hc, hs⟩
      · intro z cells slots L σ r h hzk hc hs H locs ls hP hD hS hl
        rw [f_F3_0, t_X5_block_2] at h
        obtain rfl := Option.some.inj h
        subst hc
        subst hs
        exact xr_v hx hb hr hK hzk hP hD hS hlocks dX5_block_60
  exact (blk k0 (Nat.le_refl _)).1 z 0 0 L0 σ0 r0 h0 (zk_rf _ _) ((Nat.zero_add _).trans hmc) ((Nat.zero_add _).trans hms) s.heap [] ls hP hD hS hl
theorem gg_f_X5_forStatement_X2_advance : GoodIn w_f_X5_forStatement w_f_X2_advance := goodIn_sub (fun w h => (List.mem_cons.mp h).elim (fun e => (List.mem_cons_of_mem _ (List.mem_append_left _ (List.mem_append_right _ (List.mem_append_right _ (List.mem_append_right _ (List.mem_append_right _ (List.mem_append_right _ (List.mem_append_right _ (List.mem_append_left _ (List.mem_cons.mpr (Or.inl e)))))))))))) (fun h => (List.mem_append.mp h).elim (fun h => (List.mem_cons_of_mem _ (List.mem_append_left _ (List.mem_append_right _ (List.mem_append_right _ (List.mem_append_right _ (List.mem_append_right _ (List.mem_append_right _ (List.mem_append_right _ (List.mem_append_left _ (List.mem_cons_of_mem _ h))))))))))) (fun h => List.mem_cons_of_mem _ (List.mem_append_right _ h)))) w_f_X2_advance_good
theorem g_f_X5_forStatement_X2_advance_V30 : GoodIn w_f_X5_forStatement (wsV RX5 30 RX2 yX2_advance w_f_X2_advance) := goodIn_app (nb_g4 (List.mem_cons_of_mem _ (List.mem_append_left _ (List.mem_append_left _ (List.mem_of_getElem? (i := 32) rfl)))) (List.mem_cons_of_mem _ (List.mem_append_left _ (List.mem_append_left _ (List.mem_of_getElem? (i := 33) rfl)))) (List.mem_cons_of_mem _ (List.mem_append_left _ (List.mem_append_left _ (List.mem_of_getElem? (i := 34) rfl)))) (List.mem_cons_of_mem _ (List.mem_append_left _ (List.mem_append_left _ (List.mem_of_getElem? (i := 35) rfl)))) (by decide +kernel)) gg_f_X5_forStatement_X2_advance
theorem gg_f_X5_forStatement_X5_exp : GoodIn w_f_X5_forStatement w_f_X5_exp := goodIn_sub (fun w h => (List.mem_cons.mp h).elim (fun e => (List.mem_cons_of_mem _ (List.mem_append_left _ (List.mem_append_right _ (List.mem_append_right _ (List.mem_append_right _ (List.mem_append_right _ (List.mem_append_right _ (List.mem_append_right _ (List.mem_append_right _ (List.mem_append_left _ (List.mem_cons.mpr (Or.inl e))))))))))))) (fun h => (List.mem_append.mp h).elim (fun h => (List.mem_cons_of_mem _ (List.mem_append_left _ (List.mem_append_right _ (List.mem_append_right _ (List.mem_append_right _ (List.mem_append_right _ (List.mem_append_right _ (List.mem_append_right _ (List.mem_append_right _ (List.mem_append_left _ (List.mem_cons_of_mem _ h)))))))))))) (fun h => List.mem_cons_of_mem _ (List.mem_append_right _ h)))) w_f_X5_exp_good
theorem g_f_X5_forStatement_X5_exp_V90 : GoodIn w_f_X5_forStatement (wsV RX5 90 RX5 yX5_exp w_f_X5_exp) := goodIn_app (nb_g4 (List.mem_cons_of_mem _ (List.mem_append_left _ (List.mem_append_left _ (List.mem_of_getElem? (i := 36) rfl)))) (List.mem_cons_of_mem _ (List.mem_append_left _ (List.mem_append_left _ (List.mem_of_getElem? (i := 37) rfl)))) (List.mem_cons_of_mem _ (List.mem_append_left _ (List.mem_append_left _ (List.mem_of_getElem? (i := 38) rfl)))) (List.mem_cons_of_mem _ (List.mem_append_left _ (List.mem_append_left _ (List.mem_of_getElem? (i := 9) rfl)))) (by decide +kernel)) gg_f_X5_forStatement_X5_exp
theorem gg_f_X5_forStatement_X5_expect : GoodIn w_f_X5_forStatement w_f_X5_expect := goodIn_sub (fun w h => (List.mem_cons.mp h).elim (fun e => (List.mem_cons_of_mem _ (List.mem_append_left _ (List.mem_append_right _ (List.mem_append_right _ (List.mem_append_right _ (List.mem_append_right _ (List.mem_append_right _ (List.mem_append_right _ (List.mem_append_right _ (List.mem_append_right _ (List.mem_append_right _ (List.mem_append_left _ (List.mem_cons.mpr (Or.inl e))))))))))))))) (fun h => (List.mem_append.mp h).elim (fun h => (List.mem_cons_of_mem _ (List.mem_append_left _ (List.mem_append_right _ (List.mem_append_right _ (List.mem_append_right _ (List.mem_append_right _ (List.mem_append_right _ (List.mem_append_right _ (List.mem_append_right _ (List.mem_append_right _ (List.mem_append_right _ (List.mem_append_left _ (List.mem_cons_of_mem _ h)))))))))))))) (fun h => List.mem_cons_of_mem _ (List.mem_append_right _ h)))) w_f_X5_expect_good
theorem g_f_X5_forStatement_X5_expect_V141 : GoodIn w_f_X5_forStatement (wsV RX5 141 RX5 yX5_expect w_f_X5_expect) := goodIn_app (nb_g4 (List.mem_cons_of_mem _ (List.mem_append_left _ (List.mem_append_left _ (List.mem_of_getElem? (i := 42) rfl)))) (List.mem_cons_of_mem _ (List.mem_append_left _ (List.mem_append_left _ (List.mem_of_getElem? (i := 43) rfl)))) (List.mem_cons_of_mem _ (List.mem_append_left _ (List.mem_append_left _ (List.mem_of_getElem? (i := 44) rfl)))) (List.mem_cons_of_mem _ (List.mem_append_left _ (List.mem_append_left _ (List.mem_of_getElem? (i := 9) rfl)))) (by decide +kernel)) gg_f_X5_forStatement_X5_expect
theorem gg_f_X5_forStatement_X5_iters : GoodIn w_f_X5_forStatement w_f_X5_iters := goodIn_sub (fun w h => (List.mem_cons.mp h).elim (fun e => (List.mem_cons_of_mem _ (List.mem_append_left _ (List.mem_append_right _ (List.mem_append_right _ (List.mem_append_right _ (List.mem_append_right _ (List.mem_append_right _ (List.mem_append_left _ (List.mem_cons.mpr (Or.inl e))))))))))) (fun h => (List.mem_append.mp h).elim (fun h => (List.mem_cons_of_mem _ (List.mem_append_left _ (List.mem_append_right _ (List.mem_append_right _ (List.mem_append_right _ (List.mem_append_right _ (List.mem_append_right _ (List.mem_append_left _ (List.mem_cons_of_mem _ h)))))))))) (fun h => List.mem_cons_of_mem _ (List.mem_append_right _ h)))) w_f_X5_iters_good
theorem g_f_X5_forStatement_X5_iters_V258 : GoodIn w_f_X5_forStatement (wsV RX5 258 RX5 yX5_iters w_f_X5_iters) := goodIn_app (nb_g4 (List.mem_cons_of_mem _ (List.mem_append_left _ (List.mem_append_left _ (List.mem_of_getElem? (i := 27) rfl)))) (List.mem_cons_of_mem _ (List.mem_append_left _ (List.mem_append_left _ (List.mem_of_getElem? (i := 28) rfl)))) (List.mem_cons_of_mem _ (List.mem_append_left _ (List.mem_append_left _ (List.mem_of_getElem? (i := 29) rfl)))) (List.mem_cons_of_mem _ (List.mem_append_left _ (List.mem_append_left _ (List.mem_of_getElem? (i := 9) rfl)))) (by decide +kernel)) gg_f_X5_forStatement_X5_iters
theorem gg_f_X5_forStatement_X5_loopBody : GoodIn w_f_X5_forStatement w_f_X5_loopBody := goodIn_sub (fun w h => (List.mem_cons.mp h).elim (fun e => e ▸ (List.mem_cons_of_mem _ (List.mem_append_left _ (List.mem_append_left _ (List.mem_of_getElem? (i := 3) rfl))))) (fun h => List.mem_cons_of_mem _ h)) w_f_X5_loopBody_good
theorem g_f_X5_forStatement_X5_loopBody_V252 : GoodIn w_f_X5_forStatement (wsV RX5 252 RX5 yX5_loopBody w_f_X5_loopBody) := goodIn_app (nb_g4 (List.mem_cons_of_mem _ (List.mem_append_left _ (List.mem_append_left _ (List.mem_of_getElem? (i := 45) rfl)))) (List.mem_cons_of_mem _ (List.mem_append_left _ (List.mem_append_left _ (List.mem_of_getElem? (i := 46) rfl)))) (List.mem_cons_of_mem _ (List.mem_append_left _ (List.mem_append_left _ (List.mem_of_getElem? (i := 47) rfl)))) (List.mem_cons_of_mem _ (List.mem_append_left _ (List.mem_append_left _ (List.mem_of_getElem? (i := 9) rfl)))) (by decide +kernel)) gg_f_X5_forStatement_X5_loopBody
theorem gg_f_X5_forStatement_X5_opens : GoodIn w_f_X5_forStatement w_f_X5_opens := goodIn_sub (fun w h => (List.mem_cons.mp h).elim (fun e => (List.mem_cons_of_mem _ (List.mem_append_left _ (List.mem_append_right _ (List.mem_append_right _ (List.mem_append_right _ (List.mem_append_right _ (List.mem_append_left _ (List.mem_cons.mpr (Or.inl e)))))))))) (fun h => (List.mem_append.mp h).elim (fun h => (List.mem_cons_of_mem _ (List.mem_append_left _ (List.mem_append_right _ (List.mem_append_right _ (List.mem_append_right _ (List.mem_append_right _ (List.mem_append_left _ (List.mem_cons_of_mem _ h))))))))) (fun h => List.mem_cons_of_mem _ (List.mem_append_right _ h)))) w_f_X5_opens_good
theorem g_f_X5_forStatement_X5_opens_V173 : GoodIn w_f_X5_forStatement (wsV RX5 173 RX5 yX5_opens w_f_X5_opens) := goodIn_app (nb_g4 (List.mem_cons_of_mem _ (List.mem_append_left _ (List.mem_append_left _ (List.mem_of_getElem? (i := 24) rfl)))) (List.mem_cons_of_mem _ (List.mem_append_left _ (List.mem_append_left _ (List.mem_of_getElem? (i := 25) rfl)))) (List.mem_cons_of_mem _ (List.mem_append_left _ (List.mem_append_left _ (List.mem_of_getElem? (i := 26) rfl)))) (List.mem_cons_of_mem _ (List.mem_append_left _ (List.mem_append_left _ (List.mem_of_getElem? (i := 9) rfl)))) (by decide +kernel)) gg_f_X5_forStatement_X5_opens
theorem gg_f_X5_forStatement_X7_emit__P : GoodIn w_f_X5_forStatement w_f_X7_emit__P := goodIn_sub (fun w h => (List.mem_cons.mp h).elim (fun e => (List.mem_cons_of_mem _ (List.mem_append_left _ (List.mem_append_right _ (List.mem_append_right _ (List.mem_append_right _ (List.mem_append_left _ (List.mem_cons.mpr (Or.inl e))))))))) (fun h => (List.mem_append.mp h).elim (fun h => (List.mem_cons_of_mem _ (List.mem_append_left _ (List.mem_append_right _ (List.mem_append_right _ (List.mem_append_right _ (List.mem_append_left _ (List.mem_cons_of_mem _ h)))))))) (fun h => List.mem_cons_of_mem _ (List.mem_append_right _ h)))) w_f_X7_emit__P_good
theorem g_f_X5_forStatement_X7_emit__P_V66 : GoodIn w_f_X5_forStatement (wsV RX5 66 RX7 yX7_emit w_f_X7_emit__P) := goodIn_app (nb_g4 (List.mem_cons_of_mem _ (List.mem_append_left _ (List.mem_append_left _ (List.mem_of_getElem? (i := 15) rfl)))) (List.mem_cons_of_mem _ (List.mem_append_left _ (List.mem_append_left _ (List.mem_of_getElem? (i := 16) rfl)))) (List.mem_cons_of_mem _ (List.mem_append_left _ (List.mem_append_left _ (List.mem_of_getElem? (i := 17) rfl)))) (List.mem_cons_of_mem _ (List.mem_append_left _ (List.mem_append_left _ (List.mem_of_getElem? (i := 18) rfl)))) (by decide +kernel)) gg_f_X5_forStatement_X7_emit__P
theorem gg_f_X5_forStatement_X7_word__P : GoodIn w_f_X5_forStatement w_f_X7_word__P := goodIn_sub (fun w h => (List.mem_cons.mp h).elim (fun e => (List.mem_cons_of_mem _ (List.mem_append_left _ (List.mem_append_right _ (List.mem_append_right _ (List.mem_append_right _ (List.mem_append_right _ (List.mem_append_right _ (List.mem_append_right _ (List.mem_append_right _ (List.mem_append_right _ (List.mem_append_right _ (List.mem_append_right _ (List.mem_append_left _ (List.mem_cons.mpr (Or.inl e)))))))))))))))) (fun h => (List.mem_append.mp h).elim (fun h => (List.mem_cons_of_mem _ (List.mem_append_left _ (List.mem_append_right _ (List.mem_append_right _ (List.mem_append_right _ (List.mem_append_right _ (List.mem_append_right _ (List.mem_append_right _ (List.mem_append_right _ (List.mem_append_right _ (List.mem_append_right _ (List.mem_append_right _ (List.mem_append_left _ (List.mem_cons_of_mem _ h))))))))))))))) (fun h => List.mem_cons_of_mem _ (List.mem_append_right _ h)))) w_f_X7_word__P_good
theorem g_f_X5_forStatement_X7_word__P_V243 : GoodIn w_f_X5_forStatement (wsV RX5 243 RX7 yX7_word w_f_X7_word__P) := goodIn_app (nb_g4 (List.mem_cons_of_mem _ (List.mem_append_left _ (List.mem_append_left _ (List.mem_of_getElem? (i := 49) rfl)))) (List.mem_cons_of_mem _ (List.mem_append_left _ (List.mem_append_left _ (List.mem_of_getElem? (i := 50) rfl)))) (List.mem_cons_of_mem _ (List.mem_append_left _ (List.mem_append_left _ (List.mem_of_getElem? (i := 51) rfl)))) (List.mem_cons_of_mem _ (List.mem_append_left _ (List.mem_append_left _ (List.mem_of_getElem? (i := 18) rfl)))) (by decide +kernel)) gg_f_X5_forStatement_X7_word__P
theorem gg_f_X5_forStatement_X7_aim__P : GoodIn w_f_X5_forStatement w_y_X7_aim__P := goodIn_sub (fun w h => (List.mem_cons.mp h).elim (fun e => (List.mem_cons_of_mem _ (List.mem_append_left _ (List.mem_append_right _ (List.mem_append_right _ (List.mem_append_right _ (List.mem_append_right _ (List.mem_append_right _ (List.mem_append_right _ (List.mem_append_right _ (List.mem_append_right _ (List.mem_append_left _ (List.mem_cons.mpr (Or.inl e)))))))))))))) (fun h => (List.mem_append.mp h).elim (fun h => (List.mem_cons_of_mem _ (List.mem_append_left _ (List.mem_append_right _ (List.mem_append_right _ (List.mem_append_right _ (List.mem_append_right _ (List.mem_append_right _ (List.mem_append_right _ (List.mem_append_right _ (List.mem_append_right _ (List.mem_append_left _ (List.mem_cons_of_mem _ h))))))))))))) (fun h => List.mem_cons_of_mem _ (List.mem_append_right _ h)))) w_y_X7_aim__P_good
theorem g_y_X5_forStatement_X7_aim__P_V240 : GoodIn w_f_X5_forStatement (wsV RX5 240 RX7 yX7_aim w_y_X7_aim__P) := goodIn_app (nb_g4 (List.mem_cons_of_mem _ (List.mem_append_left _ (List.mem_append_left _ (List.mem_of_getElem? (i := 39) rfl)))) (List.mem_cons_of_mem _ (List.mem_append_left _ (List.mem_append_left _ (List.mem_of_getElem? (i := 40) rfl)))) (List.mem_cons_of_mem _ (List.mem_append_left _ (List.mem_append_left _ (List.mem_of_getElem? (i := 41) rfl)))) (List.mem_cons_of_mem _ (List.mem_append_left _ (List.mem_append_left _ (List.mem_of_getElem? (i := 18) rfl)))) (by decide +kernel)) gg_f_X5_forStatement_X7_aim__P
set_option maxHeartbeats 40000000 in
set_option maxRecDepth 100000 in
theorem c_t_X5_forStatement (l : Launch) (hl0 : l.stackTraces = false) (dC : Nat → ClassId) (dI : Nat → Nat → Nat) (cy : Nat → ClassId) (ek a : Nat → Nat) (k0 : Nat) (IH : ∀ j : Nat, j < k0 → P_F3 l dC dI cy ek a j) (d : Nat) (L0 : LV) (σ0 : CS) (r0 : RS) (h0 : f_F3 k0 d 1 0 L0 σ0 = some r0) (z : Nat → Nat) (sz : Nat) : vx_Met l yX5_forStatement w_f_X5_forStatement ({ frames := 412 + d, cells := r0.2.2.1, slots := r0.2.2.2, locals := 13455 + 28 * d }) (va_Pc [.ref (a 40)] (nInF (dC, dI) cy ek sz (vC cy a z σ0))) (xV dC dI cy a (va_A (vC cy a z σ0) sz) [41, 42, 43, 51] z r0) (xX dC dI cy a (va_A (vC cy a z σ0) sz) [41, 42, 43, 51] z r0) r0.2.2.1 r0.2.2.2 (va_A (vC cy a z σ0) sz) := by
  refine vx_ofW (cc := cX5_forStatement) (maxL := 9) (ret := none) (by decide) rfl ?_
  intro p e s m args below meth c s₁ B hml hno hv
  obtain ⟨rfl, ⟨⟨hsz, hP, hK, hD0, hG⟩, hE⟩, hT⟩ := hv
  have hx := B.exec
  have hb := B.bytes
  have hr := B.returns
  have hts := atoms_spec (ws := w_f_X5_forStatement) B.pre
  have hown : s.vm.findClass RX5 = some m.cls := findClass_of_methodNamed B.named
  have hlocks := B.notSynchronized
  subst hsz
  have hD := hD0.self (sz := s.heap.size)
  generalize hAe : va_A (vC cy a z σ0) s.heap.size = A at hD hE hT ⊢
  have hA : ∀ q : Nat, s.heap.size ≤ q → A q := fun q h => by rw [← hAe]; exact Or.inr h
  have hS : va_S A s.heap s.heap [] := va_S.rf
  have hl := lv_entry ([.ref (a 40)]) (n := 9) (Nat.le_of_ble_eq_true rfl)
  rw [lg_entry_eq]
  generalize (lg_sl ([.ref (a 40)]) ++ List.replicate (9 - (lg_sl ([.ref (a 40)])).length) Slot.unset).toArray = ls at hl ⊢
  have hl : lv_has ls 9 [(0, .ref (a 40))] := hl
  generalize hmc : r0.2.2.1 = mc
  generalize hms : r0.2.2.2 = ms
  have blk : ∀ k : Nat, k ≤ k0 → (bX p l e (headSpec w_f_X5_forStatement ({ frames := 412 + d, cells := mc, slots := ms, locals := 13455 + 28 * d })).room s m #[.ref (a 40)] below meth c dC dI cy a A (fun r => vx_MQ below (xV dC dI cy a A [41, 42, 43, 51] z r) (xX dC dI cy a A [41, 42, 43, 51] z r) #[.ref (a 40)] s mc ms A) [41, 42, 43, 51] z mc ms 9 (f_F3 k d 1 0) (fun z L => [(0, .ref (a 40))]) 0 (fun z L => [])) ∧ (bX p l e (headSpec w_f_X5_forStatement ({ frames := 412 + d, cells := mc, slots := ms, locals := 13455 + 28 * d })).room s m #[.ref (a 40)] below meth c dC dI cy a A (fun r => vx_MQ below (xV dC dI cy a A [41, 42, 43, 51] z r) (xX dC dI cy a A [41, 42, 43, 51] z r) #[.ref (a 40)] s mc ms A) [41, 42, 43, 51] z mc ms 9 (f_F3 k d 1 1) (fun z L => [(0, .ref (a 40)), (1, .int (L.1 1)), (2, .int (L.1 2)), (3, .int (L.1 3)), (5, .int (L.1 5)), (6, .int (L.1 6)), (7, .int (L.1 7))]) 135 (fun z L => [])) ∧ (bX p l e (headSpec w_f_X5_forStatement ({ frames := 412 + d, cells := mc, slots := ms, locals := 13455 + 28 * d })).room s m #[.ref (a 40)] below meth c dC dI cy a A (fun r => vx_MQ below (xV dC dI cy a A [41, 42, 43, 51] z r) (xX dC dI cy a A [41, 42, 43, 51] z r) #[.ref (a 40)] s mc ms A) [41, 42, 43, 51] z mc ms 9 (f_F3 k d 1 2) (fun z L => [(0, .ref (a 40)), (1, .int (L.1 1)), (2, .int (L.1 2)), (3, .int (L.1 3)), (5, .int (L.1 5)), (8, .int (L.1 8))]) 172 (fun z L => [])) ∧ (bX p l e (headSpec w_f_X5_forStatement ({ frames := 412 + d, cells := mc, slots := ms, locals := 13455 + 28 * d })).room s m #[.ref (a 40)] below meth c dC dI cy a A (fun r => vx_MQ below (xV dC dI cy a A [41, 42, 43, 51] z r) (xX dC dI cy a A [41, 42, 43, 51] z r) #[.ref (a 40)] s mc ms A) [41, 42, 43, 51] z mc ms 9 (f_F3 k d 1 3) (fun z L => [(0, .ref (a 40)), (1, .int (L.1 1)), (2, .int (L.1 2)), (3, .int (L.1 3)), (5, .int (L.1 5))]) 243 (fun z L => [])) ∧ (bX p l e (headSpec w_f_X5_forStatement ({ frames := 412 + d, cells := mc, slots := ms, locals := 13455 + 28 * d })).room s m #[.ref (a 40)] below meth c dC dI cy a A (fun r => vx_MQ below (xV dC dI cy a A [41, 42, 43, 51] z r) (xX dC dI cy a A [41, 42, 43, 51] z r) #[.ref (a 40)] s mc ms A) [41, 42, 43, 51] z mc ms 9 (f_F3 k d 1 4) (fun z L => []) 281 (fun z L => [])) := by
    intro k
    induction k with
    | zero => exact fun _ => ⟨fun z c1 c2 L σ r h => (by cases h), fun z c1 c2 L σ r h => (by cases h), fun z c1 c2 L σ r h => (by cases h), fun z c1 c2 L σ r h => (by cases h), fun z c1 c2 L σ r h => (by cases h)⟩
    | succ k ih =>
      intro hk
      replace ih := ih (by omega)
      refine ⟨?_, ?_, ?_, ?_, ?_⟩
      · intro z cells slots L σ r h hzk hc hs H locs ls hP hD hS hl
        rw [f_F3_1, t_X5_forStatement_0] at h
        refine lv_aload_n hx hb dX5_forStatement_0 rfl (lv_at hl 0 rfl) ?_
        obtain ⟨b1, hb1, h⟩ := oP_ex h
        refine hgq_40_2 hx hb hts in_f_X5_forStatement_X5 hown hK hP (hts _ (List.mem_cons_of_mem _ (List.mem_append_left _ (List.mem_append_left _ (List.mem_of_getElem? (i := 13) rfl))))) hb1 dX5_forStatement_1 ?_
        refine hg_P_11n b1 hx hb hts in_f_X5_forStatement_X7 hown hK hP (va_Nw.use rfl (hG.1 _ (List.mem_of_getElem? (i := 82) rfl))) dX5_forStatement_4 ?_
        refine lv_istore_n (lv' := [(1, .int (σ.1 (fP b1 11))), (0, .ref (a 40))]) hx hb dX5_forStatement_7 rfl hl (by decide) rfl (fun ls hl => ?_)
        refine lv_aload_n hx hb dX5_forStatement_8 rfl (lv_at hl 1 rfl) ?_
        refine hg_40_11 hx hb hts in_f_X5_forStatement_X5 hown hK hP (hts _ (List.mem_cons_of_mem _ (List.mem_append_left _ (List.mem_append_left _ (List.mem_of_getElem? (i := 22) rfl))))) dX5_forStatement_9 ?_
        refine lv_istore_n (lv' := [(2, .int (σ.1 4011)), (1, .int (σ.1 (fP b1 11))), (0, .ref (a 40))]) hx hb dX5_forStatement_12 rfl hl (by decide) rfl (fun ls hl => ?_)
        refine lv_aload_n hx hb dX5_forStatement_13 rfl (lv_at hl 2 rfl) ?_
        obtain ⟨b2, hb2, h⟩ := oP_ex h
        refine hgq_40_2 hx hb hts in_f_X5_forStatement_X5 hown hK hP (hts _ (List.mem_cons_of_mem _ (List.mem_append_left _ (List.mem_append_left _ (List.mem_of_getElem? (i := 13) rfl))))) hb2 dX5_forStatement_14 ?_
        refine hg_P_18n b2 hx hb hts in_f_X5_forStatement_X7 hown hK hP (va_Nw.use rfl (hG.1 _ (List.mem_of_getElem? (i := 93) rfl))) dX5_forStatement_17 ?_
        refine lv_aload_n hx hb dX5_forStatement_20 rfl (lv_at hl 2 rfl) ?_
        refine hg_40_3 hx hb hts in_f_X5_forStatement_X5 hown hK hP (hts _ (List.mem_cons_of_mem _ (List.mem_append_left _ (List.mem_append_left _ (List.mem_of_getElem? (i := 23) rfl))))) dX5_forStatement_21 ?_
        obtain ⟨q3, h⟩ := kr_ite1 h
        refine hl_P18 b2 hx hb hK hP q3 dX5_forStatement_24 ?_
        refine lv_istore_n (lv' := [(3, .int (σ.2.2.1 (pR18 b2) ((σ.1 4003)).toNatClampNeg)), (2, .int (σ.1 4011)), (1, .int (σ.1 (fP b1 11))), (0, .ref (a 40))]) hx hb dX5_forStatement_25 rfl hl (by decide) rfl (fun ls hl => ?_)
        refine lv_aload_n hx hb dX5_forStatement_26 rfl (lv_at hl 3 rfl) ?_
        obtain ⟨r4, hc4, hle4, h9⟩ := ox_ex h
        clear h
        refine kx_v (vx_runV (As := []) (rest := []) ⟨hx, hb, hml, hown, hts⟩ (c_f_X5_opens l hl0 dC dI cy ek a k lZ σ r4 hc4 z H.size) (cwV 0 hts g_f_X5_forStatement_X5_opens_V173 rfl rfl rfl hd_f_X5_opens (by show 7 + 1 ≤ 412 + d ∧ 8 + (1 + 11) + 126 ≤ 13455 + 28 * d; omega)) ⟨nb_blindF, va_recv hK hP (ci := 4) (q0 := 40) rfl rfl, (kx_pre hK hG hE hT hA hP hD hS)⟩ rfl rfl hl.1 rfl (lv_room (Nat.le_of_ble_eq_true rfl)) dX5_forStatement_27 ⟨Nat.le_trans (Nat.add_le_add_left hle4.1 _) (Nat.le_of_eq hc), Nat.le_trans (Nat.add_le_add_left hle4.2 _) (Nat.le_of_eq hs)⟩) hK hA hzk hP hD hS (by decide) hno hlocks ?_
        rcases h9 with ⟨h00, y4, hny4, hy⟩ | ⟨h00, hy⟩
        · subst hy
          have h := hny4
          refine Or.inl ⟨h00, fun u H locs hz4 hzk hP hD hS => ?_⟩
          obtain rfl := (zk_nil hz4).symm
          replace hc := (Nat.add_assoc _ _ _).trans hc
          replace hs := (Nat.add_assoc _ _ _).trans hs
          refine lv_aload_n hx hb dX5_forStatement_30 rfl (lv_at hl 3 rfl) ?_
          obtain ⟨b5, hb5, h⟩ := oP_ex h
          refine hgq_40_2 hx hb hts in_f_X5_forStatement_X5 hown hK hP (hts _ (List.mem_cons_of_mem _ (List.mem_append_left _ (List.mem_append_left _ (List.mem_of_getElem? (i := 13) rfl))))) hb5 dX5_forStatement_31 ?_
          refine lv_bipush (v := 42) hx hb dX5_forStatement_34 (by decide) ?_
          refine lv_iconst (v := 0) hx hb dX5_forStatement_36 (by decide) ?_
          obtain ⟨r6, hc6, hle6, h9⟩ := ox_ex h
          clear h
          refine kx_i (r := y4) (vx_runV (As := [.int 42, .int 0]) (rest := []) ⟨hx, hb, hml, hown, hts⟩ (c_f_X7_emit__P l hl0 dC dI cy ek a k (lI (lI (lB lZ 0 b5) 1 42) 2 0) r4.2.1 r6 hc6 z H.size) (cwV 2 hts g_f_X5_forStatement_X7_emit__P_V66 rfl rfl rfl hd_f_X7_emit__P (by show 7 + 1 ≤ 412 + d ∧ 8 + (3 + 11) + 121 ≤ 13455 + 28 * d; omega)) ⟨nb_blindF, recvP b5 hK hP, (kx_pre hK hG hE hT hA hP hD hS)⟩ rfl rfl hl.1 rfl (lv_room (Nat.le_of_ble_eq_true rfl)) dX5_forStatement_37 ⟨Nat.le_trans (Nat.add_le_add_left hle6.1 _) (Nat.le_of_eq hc), Nat.le_trans (Nat.add_le_add_left hle6.2 _) (Nat.le_of_eq hs)⟩) hK hA hzk hP hD hS (by decide) hno hlocks ?_
          rcases h9 with ⟨h00, y6, hny6, hy⟩ | ⟨h00, hy⟩
          · subst hy
            have h := hny6
            refine Or.inl ⟨h00, fun z H locs hz6 hzk hP hD hS => ?_⟩
            replace hc := (Nat.add_assoc _ _ _).trans hc
            replace hs := (Nat.add_assoc _ _ _).trans hs
            refine lv_istore (lv' := [(4, .int r6.1.2), (3, .int (σ.2.2.1 (pR18 b2) ((σ.1 4003)).toNatClampNeg)), (2, .int (σ.1 4011)), (1, .int (σ.1 (fP b1 11))), (0, .ref (a 40))]) hx hb dX5_forStatement_40 hl (by decide) rfl (fun ls hl => ?_)
            refine lv_aload_n hx hb dX5_forStatement_42 rfl (lv_at hl 4 rfl) ?_
            refine lv_iconst (v := 1) hx hb dX5_forStatement_43 (by decide) ?_
            obtain ⟨r7, hc7, hle7, h9⟩ := ox_ex h
            clear h
            refine kx_v (r := y6) (vx_runV (As := [.int 1]) (rest := []) ⟨hx, hb, hml, hown, hts⟩ (c_f_X5_iters l hl0 dC dI cy ek a k (lI lZ 1 1) r6.2.1 r7 hc7 z H.size) (cwV 1 hts g_f_X5_forStatement_X5_iters_V258 rfl rfl rfl hd_f_X5_iters (by show 409 + 1 ≤ 412 + d ∧ 8 + (14 + 11) + 13373 ≤ 13455 + 28 * d; omega)) ⟨nb_blindF, va_recv hK hP (ci := 4) (q0 := 40) rfl rfl, (kx_pre hK hG hE hT hA hP hD hS)⟩ rfl rfl hl.1 rfl (lv_room (Nat.le_of_ble_eq_true rfl)) dX5_forStatement_44 ⟨Nat.le_trans (Nat.add_le_add_left hle7.1 _) (Nat.le_of_eq hc), Nat.le_trans (Nat.add_le_add_left hle7.2 _) (Nat.le_of_eq hs)⟩) hK hA hzk hP hD hS (by decide) hno hlocks ?_
            rcases h9 with ⟨h00, y7, hny7, hy⟩ | ⟨h00, hy⟩
            · subst hy
              have h := hny7
              refine Or.inl ⟨h00, fun z H locs hz7 hzk hP hD hS => ?_⟩
              replace hc := (Nat.add_assoc _ _ _).trans hc
              replace hs := (Nat.add_assoc _ _ _).trans hs
              refine lv_aload_n hx hb dX5_forStatement_47 rfl (lv_at hl 4 rfl) ?_
              obtain ⟨b8, hb8, h⟩ := oP_ex h
              refine hgq_40_2 hx hb hts in_f_X5_forStatement_X5 hown hK hP (hts _ (List.mem_cons_of_mem _ (List.mem_append_left _ (List.mem_append_left _ (List.mem_of_getElem? (i := 13) rfl))))) hb8 dX5_forStatement_48 ?_
              refine hg_P_18n b8 hx hb hts in_f_X5_forStatement_X7 hown hK hP (va_Nw.use rfl (hG.1 _ (List.mem_of_getElem? (i := 93) rfl))) dX5_forStatement_51 ?_
              refine lv_aload_n hx hb dX5_forStatement_54 rfl (lv_at hl 4 rfl) ?_
              refine hg_40_3 hx hb hts in_f_X5_forStatement_X5 hown hK hP (hts _ (List.mem_cons_of_mem _ (List.mem_append_left _ (List.mem_append_left _ (List.mem_of_getElem? (i := 23) rfl))))) dX5_forStatement_55 ?_
              obtain ⟨q9, h⟩ := kr_ite1 h
              refine hl_P18 b8 hx hb hK hP q9 dX5_forStatement_58 ?_
              refine lv_iload_n hx hb dX5_forStatement_59 rfl (lv_at hl 1 rfl) ?_
              refine lv_isub hx hb dX5_forStatement_60 ?_
              refine lv_istore (lv' := [(5, .int (((r7.2.1.2.2.1 (pR18 b8) ((r7.2.1.1 4003)).toNatClampNeg)) - ((σ.2.2.1 (pR18 b2) ((σ.1 4003)).toNatClampNeg)))), (4, .int r6.1.2), (3, .int (σ.2.2.1 (pR18 b2) ((σ.1 4003)).toNatClampNeg)), (2, .int (σ.1 4011)), (1, .int (σ.1 (fP b1 11))), (0, .ref (a 40))]) hx hb dX5_forStatement_61 hl (by decide) rfl (fun ls hl => ?_)
              refine lv_aload_n hx hb dX5_forStatement_63 rfl (lv_at hl 5 rfl) ?_
              obtain ⟨b10, hb10, h⟩ := oP_ex h
              refine hgq_40_2 hx hb hts in_f_X5_forStatement_X5 hown hK hP (hts _ (List.mem_cons_of_mem _ (List.mem_append_left _ (List.mem_append_left _ (List.mem_of_getElem? (i := 13) rfl))))) hb10 dX5_forStatement_64 ?_
              refine hg_P_0n b10 hx hb hts in_f_X5_forStatement_X7 hown hK hP (va_Nw.use rfl (hG.1 _ (List.mem_of_getElem? (i := 67) rfl))) dX5_forStatement_67 ?_
              refine lv_iload hx hb dX5_forStatement_70 (lv_at hl 1 rfl) ?_
              refine lv_bipush (v := 42) hx hb dX5_forStatement_72 (by decide) ?_
              refine lv_iload hx hb dX5_forStatement_74 (lv_at hl 0 rfl) ?_
              refine lv_bipush (v := 8) hx hb dX5_forStatement_76 (by decide) ?_
              refine lv_ishl hx hb dX5_forStatement_78 ?_
              refine lv_ior hx hb dX5_forStatement_79 ?_
              obtain ⟨q11, h⟩ := kr_ite1 h
              refine hs_P0 ((sKd r7.2.1 b10)) hx hb hK hP hD hS q11 dX5_forStatement_80 (fun H locs hP hD hS => ?_)
              refine lv_aload_n hx hb dX5_forStatement_81 rfl (lv_at hl 5 rfl) ?_
              refine hg_40_14 hx hb hts in_f_X5_forStatement_X5 hown hK hP (hts _ (List.mem_cons_of_mem _ (List.mem_append_left _ (List.mem_append_left _ (List.mem_of_getElem? (i := 30) rfl))))) dX5_forStatement_82 ?_
              refine lv_istore (lv' := [(6, .int ((uA r7.2.1 (pR0 ((sKd r7.2.1 b10))) r6.1.2.toNatClampNeg ((42 ||| ((((((r7.2.1.2.2.1 (pR18 b8) ((r7.2.1.1 4003)).toNatClampNeg)) - ((σ.2.2.1 (pR18 b2) ((σ.1 4003)).toNatClampNeg)))) <<< ((8 : Int32) &&& 31)))))).1 4014)), (5, .int (((r7.2.1.2.2.1 (pR18 b8) ((r7.2.1.1 4003)).toNatClampNeg)) - ((σ.2.2.1 (pR18 b2) ((σ.1 4003)).toNatClampNeg)))), (4, .int r6.1.2), (3, .int (σ.2.2.1 (pR18 b2) ((σ.1 4003)).toNatClampNeg)), (2, .int (σ.1 4011)), (1, .int (σ.1 (fP b1 11))), (0, .ref (a 40))]) hx hb dX5_forStatement_85 hl (by decide) rfl (fun ls hl => ?_)
              refine lv_aload_n hx hb dX5_forStatement_87 rfl (lv_at hl 6 rfl) ?_
              refine hg_40_15 hx hb hts in_f_X5_forStatement_X5 hown hK hP (hts _ (List.mem_cons_of_mem _ (List.mem_append_left _ (List.mem_append_left _ (List.mem_of_getElem? (i := 31) rfl))))) dX5_forStatement_88 ?_
              refine lv_istore (lv' := [(7, .int ((uA r7.2.1 (pR0 ((sKd r7.2.1 b10))) r6.1.2.toNatClampNeg ((42 ||| ((((((r7.2.1.2.2.1 (pR18 b8) ((r7.2.1.1 4003)).toNatClampNeg)) - ((σ.2.2.1 (pR18 b2) ((σ.1 4003)).toNatClampNeg)))) <<< ((8 : Int32) &&& 31)))))).1 4015)), (6, .int ((uA r7.2.1 (pR0 ((sKd r7.2.1 b10))) r6.1.2.toNatClampNeg ((42 ||| ((((((r7.2.1.2.2.1 (pR18 b8) ((r7.2.1.1 4003)).toNatClampNeg)) - ((σ.2.2.1 (pR18 b2) ((σ.1 4003)).toNatClampNeg)))) <<< ((8 : Int32) &&& 31)))))).1 4014)), (5, .int (((r7.2.1.2.2.1 (pR18 b8) ((r7.2.1.1 4003)).toNatClampNeg)) - ((σ.2.2.1 (pR18 b2) ((σ.1 4003)).toNatClampNeg)))), (4, .int r6.1.2), (3, .int (σ.2.2.1 (pR18 b2) ((σ.1 4003)).toNatClampNeg)), (2, .int (σ.1 4011)), (1, .int (σ.1 (fP b1 11))), (0, .ref (a 40))]) hx hb dX5_forStatement_91 hl (by decide) rfl (fun ls hl => ?_)
              refine lv_aload_n hx hb dX5_forStatement_93 rfl (lv_at hl 7 rfl) ?_
              refine hg_40_0 hx hb hts in_f_X5_forStatement_X5 hown hK hP (hts _ (List.mem_cons_of_mem _ (List.mem_append_left _ (List.mem_append_left _ (List.mem_of_getElem? (i := 14) rfl))))) dX5_forStatement_94 ?_
              refine hg_37_2n hx hb hts in_f_X5_forStatement_X2 hown hK hP (va_Nw.use rfl (hG.1 _ (List.mem_of_getElem? (i := 52) rfl))) dX5_forStatement_97 ?_
              refine lv_bipush (v := 19) hx hb dX5_forStatement_100 (by decide) ?_
              refine lv_icmp_ne (tgt := 135) hx hb dX5_forStatement_102 (by decide) (fun c12 => ?_) (fun c12 => ?_)
              · rw [if_neg c12] at h
                exact ih.2.1 z _ _ (lI (lI (lI (lI (lI (lI L 1 ((σ.1 (fP b1 11)))) 2 ((σ.1 4011))) 3 ((σ.2.2.1 (pR18 b2) ((σ.1 4003)).toNatClampNeg))) 5 ((((r7.2.1.2.2.1 (pR18 b8) ((r7.2.1.1 4003)).toNatClampNeg)) - ((σ.2.2.1 (pR18 b2) ((σ.1 4003)).toNatClampNeg))))) 6 (((uA r7.2.1 (pR0 ((sKd r7.2.1 b10))) r6.1.2.toNatClampNeg ((42 ||| ((((((r7.2.1.2.2.1 (pR18 b8) ((r7.2.1.1 4003)).toNatClampNeg)) - ((σ.2.2.1 (pR18 b2) ((σ.1 4003)).toNatClampNeg)))) <<< ((8 : Int32) &&& 31)))))).1 4014))) 7 (((uA r7.2.1 (pR0 ((sKd r7.2.1 b10))) r6.1.2.toNatClampNeg ((42 ||| ((((((r7.2.1.2.2.1 (pR18 b8) ((r7.2.1.1 4003)).toNatClampNeg)) - ((σ.2.2.1 (pR18 b2) ((σ.1 4003)).toNatClampNeg)))) <<< ((8 : Int32) &&& 31)))))).1 4015))) (uA r7.2.1 (pR0 ((sKd r7.2.1 b10))) r6.1.2.toNatClampNeg ((42 ||| ((((((r7.2.1.2.2.1 (pR18 b8) ((r7.2.1.1 4003)).toNatClampNeg)) - ((σ.2.2.1 (pR18 b2) ((σ.1 4003)).toNatClampNeg)))) <<< ((8 : Int32) &&& 31)))))) _ h hzk hc hs H locs ls hP hD hS (lv_sub hl [7, 6, 5, 4, 2, 1, 0] rfl)
              · rw [if_pos c12] at h
                refine lv_aload_n hx hb dX5_forStatement_105 rfl (lv_at hl 7 rfl) ?_
                refine hg_40_0 hx hb hts in_f_X5_forStatement_X5 hown hK hP (hts _ (List.mem_cons_of_mem _ (List.mem_append_left _ (List.mem_append_left _ (List.mem_of_getElem? (i := 14) rfl))))) dX5_forStatement_106 ?_
                obtain ⟨r13, hc13, hle13, h9⟩ := ox_ex h
                clear h
                refine kx_v (r := y7) (vx_runV (As := []) (rest := []) ⟨hx, hb, hml, hown, hts⟩ (c_f_X2_advance l hl0 dC dI cy ek a k lZ (uA r7.2.1 (pR0 ((sKd r7.2.1 b10))) r6.1.2.toNatClampNeg ((42 ||| ((((((r7.2.1.2.2.1 (pR18 b8) ((r7.2.1.1 4003)).toNatClampNeg)) - ((σ.2.2.1 (pR18 b2) ((σ.1 4003)).toNatClampNeg)))) <<< ((8 : Int32) &&& 31)))))) r13 hc13 z H.size) (cwV 0 hts g_f_X5_forStatement_X2_advance_V30 rfl rfl rfl hd_f_X2_advance (by show 6 + 1 ≤ 412 + d ∧ 8 + (7 + 11) + 100 ≤ 13455 + 28 * d; omega)) ⟨nb_blindF, va_recv hK hP (ci := 2) (q0 := 37) rfl rfl, (kx_pre hK hG hE hT hA hP hD hS)⟩ rfl rfl hl.1 rfl (lv_room (Nat.le_of_ble_eq_true rfl)) dX5_forStatement_109 ⟨Nat.le_trans (Nat.add_le_add_left hle13.1 _) (Nat.le_of_eq hc), Nat.le_trans (Nat.add_le_add_left hle13.2 _) (Nat.le_of_eq hs)⟩) hK hA hzk hP hD hS (by decide) hno hlocks ?_
                rcases h9 with ⟨h00, y13, hny13, hy⟩ | ⟨h00, hy⟩
                · subst hy
                  have h := hny13
                  refine Or.inl ⟨h00, fun u H locs hz13 hzk hP hD hS => ?_⟩
                  obtain rfl := (zk_nil hz13).symm
                  replace hc := (Nat.add_assoc _ _ _).trans hc
                  replace hs := (Nat.add_assoc _ _ _).trans hs
                  refine lv_aload_n hx hb dX5_forStatement_112 rfl (lv_at hl 7 rfl) ?_
                  refine lv_iconst (v := 0) hx hb dX5_forStatement_113 (by decide) ?_
                  obtain ⟨r14, hc14, hle14, h9⟩ := ox_ex h
                  clear h
                  refine kx_v (r := y13) (vx_runV (As := [.int 0]) (rest := []) ⟨hx, hb, hml, hown, hts⟩ (c_f_X5_exp l hl0 dC dI cy ek a k (lI lZ 1 0) r13.2.1 r14 hc14 z H.size) (cwV 1 hts g_f_X5_forStatement_X5_exp_V90 rfl rfl rfl hd_f_X5_exp (by show 409 + 1 ≤ 412 + d ∧ 8 + (8 + 11) + 13373 ≤ 13455 + 28 * d; omega)) ⟨nb_blindF, va_recv hK hP (ci := 4) (q0 := 40) rfl rfl, (kx_pre hK hG hE hT hA hP hD hS)⟩ rfl rfl hl.1 rfl (lv_room (Nat.le_of_ble_eq_true rfl)) dX5_forStatement_114 ⟨Nat.le_trans (Nat.add_le_add_left hle14.1 _) (Nat.le_of_eq hc), Nat.le_trans (Nat.add_le_add_left hle14.2 _) (Nat.le_of_eq hs)⟩) hK hA hzk hP hD hS (by decide) hno hlocks ?_
                  rcases h9 with ⟨h00, y14, hny14, hy⟩ | ⟨h00, hy⟩
                  · subst hy
                    have h := hny14
                    refine Or.inl ⟨h00, fun z H locs hz14 hzk hP hD hS => ?_⟩
                    replace hc := (Nat.add_assoc _ _ _).trans hc
                    replace hs := (Nat.add_assoc _ _ _).trans hs
                    refine lv_aload_n hx hb dX5_forStatement_117 rfl (lv_at hl 7 rfl) ?_
                    obtain ⟨b15, hb15, h⟩ := oP_ex h
                    refine hgq_40_2 hx hb hts in_f_X5_forStatement_X5 hown hK hP (hts _ (List.mem_cons_of_mem _ (List.mem_append_left _ (List.mem_append_left _ (List.mem_of_getElem? (i := 13) rfl))))) hb15 dX5_forStatement_118 ?_
                    refine lv_aload_n hx hb dX5_forStatement_121 rfl (lv_at hl 7 rfl) ?_
                    obtain ⟨b16, hb16, h⟩ := oP_ex h
                    refine hgq_40_2 hx hb hts in_f_X5_forStatement_X5 hown hK hP (hts _ (List.mem_cons_of_mem _ (List.mem_append_left _ (List.mem_append_left _ (List.mem_of_getElem? (i := 13) rfl))))) hb16 dX5_forStatement_122 ?_
                    refine lv_iconst (v := 4) hx hb dX5_forStatement_125 (by decide) ?_
                    refine lv_iconst (v := 0) hx hb dX5_forStatement_126 (by decide) ?_
                    obtain ⟨r17, hc17, hle17, h9⟩ := ox_ex h
                    clear h
                    refine kx_i (r := y14) (vx_runV (As := [.int 4, .int 0]) (rest := [.ref (a (pA b15))]) ⟨hx, hb, hml, hown, hts⟩ (c_f_X7_emit__P l hl0 dC dI cy ek a k (lI (lI (lB lZ 0 b16) 1 4) 2 0) r14.2.1 r17 hc17 z H.size) (cwV 2 hts g_f_X5_forStatement_X7_emit__P_V66 rfl rfl rfl hd_f_X7_emit__P (by show 7 + 1 ≤ 412 + d ∧ 8 + (3 + 11) + 121 ≤ 13455 + 28 * d; omega)) ⟨nb_blindF, recvP b16 hK hP, (kx_pre hK hG hE hT hA hP hD hS)⟩ rfl rfl hl.1 rfl (lv_room (Nat.le_of_ble_eq_true rfl)) dX5_forStatement_127 ⟨Nat.le_trans (Nat.add_le_add_left hle17.1 _) (Nat.le_of_eq hc), Nat.le_trans (Nat.add_le_add_left hle17.2 _) (Nat.le_of_eq hs)⟩) hK hA hzk hP hD hS (by decide) hno hlocks ?_
                    rcases h9 with ⟨h00, y17, hny17, hy⟩ | ⟨h00, hy⟩
                    · subst hy
                      have h := hny17
                      refine Or.inl ⟨h00, fun z H locs hz17 hzk hP hD hS => ?_⟩
                      replace hc := (Nat.add_assoc _ _ _).trans hc
                      replace hs := (Nat.add_assoc _ _ _).trans hs
                      refine lv_iload hx hb dX5_forStatement_130 (lv_at hl 0 rfl) ?_
                      obtain ⟨r18, hc18, h⟩ := op_ex h
                      refine kc_v (va_runV (As := [.int r17.1.2, .int ((uA r7.2.1 (pR0 ((sKd r7.2.1 b10))) r6.1.2.toNatClampNeg ((42 ||| ((((((r7.2.1.2.2.1 (pR18 b8) ((r7.2.1.1 4003)).toNatClampNeg)) - ((σ.2.2.1 (pR18 b2) ((σ.1 4003)).toNatClampNeg)))) <<< ((8 : Int32) &&& 31)))))).1 4015)]) (rest := []) ⟨hx, hb, hml, hown, hts⟩ (c_y_X7_aim__P l dC dI cy a z k (lI (lI (lB lZ 0 b15) 1 r17.1.2) 2 (((uA r7.2.1 (pR0 ((sKd r7.2.1 b10))) r6.1.2.toNatClampNeg ((42 ||| ((((((r7.2.1.2.2.1 (pR18 b8) ((r7.2.1.1 4003)).toNatClampNeg)) - ((σ.2.2.1 (pR18 b2) ((σ.1 4003)).toNatClampNeg)))) <<< ((8 : Int32) &&& 31)))))).1 4015))) r17.2.1 r18 hc18 H.size) (cwV 2 hts g_y_X5_forStatement_X7_aim__P_V240 rfl rfl rfl hd_y_X7_aim__P (by show 0 + 1 ≤ 412 + d ∧ 8 + (3 + 11) + 0 ≤ 13455 + 28 * d; omega)) ⟨nb_blind, recvP b15 hK hP, (kb_pre hK hG hP hD)⟩ rfl rfl hl.1 rfl (lv_room (Nat.le_of_ble_eq_true rfl)) dX5_forStatement_132 ⟨(Nat.le_trans (Nat.le_add_right _ _) (Nat.le_of_eq hc)), (Nat.le_trans (Nat.le_add_right _ _) (Nat.le_of_eq hs))⟩) hA hP hD hS (fun H locs hP hD hS => ?_)
                      exact ih.2.1 z _ _ (lI (lI (lI (lI (lI (lI L 1 ((σ.1 (fP b1 11)))) 2 ((σ.1 4011))) 3 ((σ.2.2.1 (pR18 b2) ((σ.1 4003)).toNatClampNeg))) 5 ((((r7.2.1.2.2.1 (pR18 b8) ((r7.2.1.1 4003)).toNatClampNeg)) - ((σ.2.2.1 (pR18 b2) ((σ.1 4003)).toNatClampNeg))))) 6 (((uA r7.2.1 (pR0 ((sKd r7.2.1 b10))) r6.1.2.toNatClampNeg ((42 ||| ((((((r7.2.1.2.2.1 (pR18 b8) ((r7.2.1.1 4003)).toNatClampNeg)) - ((σ.2.2.1 (pR18 b2) ((σ.1 4003)).toNatClampNeg)))) <<< ((8 : Int32) &&& 31)))))).1 4014))) 7 (((uA r7.2.1 (pR0 ((sKd r7.2.1 b10))) r6.1.2.toNatClampNeg ((42 ||| ((((((r7.2.1.2.2.1 (pR18 b8) ((r7.2.1.1 4003)).toNatClampNeg)) - ((σ.2.2.1 (pR18 b2) ((σ.1 4003)).toNatClampNeg)))) <<< ((8 : Int32) &&& 31)))))).1 4015))) r18.2 _ h hzk hc hs H locs ls hP hD hS (lv_sub hl [7, 6, 5, 4, 2, 1, 0] rfl)
                    · subst hy
                      exact Or.inr ⟨h00, rfl, hc, hs⟩
                  · subst hy
                    exact Or.inr ⟨h00, rfl, hc, hs⟩
                · subst hy
                  exact Or.inr ⟨h00, rfl, hc, hs⟩
            · subst hy
              exact Or.inr ⟨h00, rfl, hc, hs⟩
          · subst hy
            exact Or.inr ⟨h00, rfl, hc, hs⟩
        · subst hy
          exact Or.inr ⟨h00, rfl, hc, hs⟩
      · intro z cells slots L σ r h hzk hc hs H locs ls hP hD hS hl
        rw [f_F3_1, t_X5_forStatement_1] at h
        refine lv_aload_n hx hb dX5_forStatement_135 rfl (lv_at hl 0 rfl) ?_
        refine lv_bipush (v := 44) hx hb dX5_forStatement_136 (by decide) ?_
        obtain ⟨r1, hc1, hle1, h9⟩ := ox_ex h
        clear h
        refine kx_v (vx_runV (As := [.int 44]) (rest := []) ⟨hx, hb, hml, hown, hts⟩ (c_f_X5_expect l hl0 dC dI cy ek a k (lI lZ 1 44) σ r1 hc1 z H.size) (cwV 1 hts g_f_X5_forStatement_X5_expect_V141 rfl rfl rfl hd_f_X5_expect (by show 7 + 1 ≤ 412 + d ∧ 8 + (2 + 11) + 126 ≤ 13455 + 28 * d; omega)) ⟨nb_blindF, va_recv hK hP (ci := 4) (q0 := 40) rfl rfl, (kx_pre hK hG hE hT hA hP hD hS)⟩ rfl rfl hl.1 rfl (lv_room (Nat.le_of_ble_eq_true rfl)) dX5_forStatement_138 ⟨Nat.le_trans (Nat.add_le_add_left hle1.1 _) (Nat.le_of_eq hc), Nat.le_trans (Nat.add_le_add_left hle1.2 _) (Nat.le_of_eq hs)⟩) hK hA hzk hP hD hS (by decide) hno hlocks ?_
        rcases h9 with ⟨h00, y1, hny1, hy⟩ | ⟨h00, hy⟩
        · subst hy
          have h := hny1
          refine Or.inl ⟨h00, fun u H locs hz1 hzk hP hD hS => ?_⟩
          obtain rfl := (zk_nil hz1).symm
          replace hc := (Nat.add_assoc _ _ _).trans hc
          replace hs := (Nat.add_assoc _ _ _).trans hs
          refine lv_aload_n hx hb dX5_forStatement_141 rfl (lv_at hl 0 rfl) ?_
          refine lv_iload hx hb dX5_forStatement_142 (lv_at hl 6 rfl) ?_
          obtain ⟨e2, he2, h⟩ := of_ex h
          obtain ⟨r2, hc2, hle2, h9⟩ := ox_ex h
          clear h
          refine kx_v (r := y1) (vx_runV (As := [.int (L.1 7)]) (rest := []) ⟨hx, hb, hml, hown, hts⟩ ((IH k (by omega)).2.2.2.1 e2 (lI lZ 1 ((L.1 7))) r1.2.1 r2 hc2 z H.size) (cwV 1 hts g_f_X5_forStatement_X5_loopBody_V252 rfl rfl rfl hd_f_X5_loopBody (by show (412 + e2) + 1 ≤ 412 + d ∧ 8 + (4 + 11) + (13455 + 28 * e2) ≤ 13455 + 28 * d; omega)) ⟨nb_blindF, va_recv hK hP (ci := 4) (q0 := 40) rfl rfl, (kx_pre hK hG hE hT hA hP hD hS)⟩ rfl rfl hl.1 rfl (lv_room (Nat.le_of_ble_eq_true rfl)) dX5_forStatement_144 ⟨Nat.le_trans (Nat.add_le_add_left hle2.1 _) (Nat.le_of_eq hc), Nat.le_trans (Nat.add_le_add_left hle2.2 _) (Nat.le_of_eq hs)⟩) hK hA hzk hP hD hS (by decide) hno hlocks ?_
          rcases h9 with ⟨h00, y2, hny2, hy⟩ | ⟨h00, hy⟩
          · subst hy
            have h := hny2
            refine Or.inl ⟨h00, fun z H locs hz2 hzk hP hD hS => ?_⟩
            replace hc := (Nat.add_assoc _ _ _).trans hc
            replace hs := (Nat.add_assoc _ _ _).trans hs
            refine lv_aload_n hx hb dX5_forStatement_147 rfl (lv_at hl 0 rfl) ?_
            obtain ⟨b3, hb3, h⟩ := oP_ex h
            refine hgq_40_2 hx hb hts in_f_X5_forStatement_X5 hown hK hP (hts _ (List.mem_cons_of_mem _ (List.mem_append_left _ (List.mem_append_left _ (List.mem_of_getElem? (i := 13) rfl))))) hb3 dX5_forStatement_148 ?_
            refine hg_P_0n b3 hx hb hts in_f_X5_forStatement_X7 hown hK hP (va_Nw.use rfl (hG.1 _ (List.mem_of_getElem? (i := 67) rfl))) dX5_forStatement_151 ?_
            refine lv_iload hx hb dX5_forStatement_154 (lv_at hl 5 rfl) ?_
            refine lv_iconst (v := 1) hx hb dX5_forStatement_156 (by decide) ?_
            refine lv_iadd hx hb dX5_forStatement_157 ?_
            refine lv_aload_n hx hb dX5_forStatement_158 rfl (lv_at hl 0 rfl) ?_
            obtain ⟨b4, hb4, h⟩ := oP_ex h
            refine hgq_40_2 hx hb hts in_f_X5_forStatement_X5 hown hK hP (hts _ (List.mem_cons_of_mem _ (List.mem_append_left _ (List.mem_append_left _ (List.mem_of_getElem? (i := 13) rfl))))) hb4 dX5_forStatement_159 ?_
            refine hg_P_1n b4 hx hb hts in_f_X5_forStatement_X7 hown hK hP (va_Nw.use rfl (hG.1 _ (List.mem_of_getElem? (i := 68) rfl))) dX5_forStatement_162 ?_
            refine lv_iload hx hb dX5_forStatement_165 (lv_at hl 5 rfl) ?_
            refine lv_isub hx hb dX5_forStatement_167 ?_
            obtain ⟨q5, h⟩ := kr_ite1 h
            refine hs_P0 ((sKd r2.2.1 b3)) hx hb hK hP hD hS q5 dX5_forStatement_168 (fun H locs hP hD hS => ?_)
            refine lv_iload_n hx hb dX5_forStatement_169 rfl (lv_at hl 2 rfl) ?_
            refine lv_istore (lv' := [(8, .int (L.1 2)), (0, .ref (a 40)), (1, .int (L.1 1)), (2, .int (L.1 2)), (3, .int (L.1 3)), (5, .int (L.1 5)), (6, .int (L.1 6)), (7, .int (L.1 7))]) hx hb dX5_forStatement_170 hl (by decide) rfl (fun ls hl => ?_)
            exact ih.2.2.1 z _ _ (lI L 8 ((L.1 2))) (uA r2.2.1 (pR0 ((sKd r2.2.1 b3))) ((((L.1 6)) + 1)).toNatClampNeg ((((r2.2.1.1 (fP b4 1))) - ((L.1 6))))) _ h hzk hc hs H locs ls hP hD hS (lv_sub hl [1, 2, 3, 4, 5, 0] rfl)
          · subst hy
            exact Or.inr ⟨h00, rfl, hc, hs⟩
        · subst hy
          exact Or.inr ⟨h00, rfl, hc, hs⟩
      · intro z cells slots L σ r h hzk hc hs H locs ls hP hD hS hl
        rw [f_F3_1, t_X5_forStatement_2] at h
        refine lv_iload hx hb dX5_forStatement_172 (lv_at hl 5 rfl) ?_
        refine lv_iconst (v := 2) hx hb dX5_forStatement_174 (by decide) ?_
        refine lv_iadd hx hb dX5_forStatement_175 ?_
        refine lv_aload_n hx hb dX5_forStatement_176 rfl (lv_at hl 0 rfl) ?_
        refine hg_40_11 hx hb hts in_f_X5_forStatement_X5 hown hK hP (hts _ (List.mem_cons_of_mem _ (List.mem_append_left _ (List.mem_append_left _ (List.mem_of_getElem? (i := 22) rfl))))) dX5_forStatement_177 ?_
        refine lv_icmp_ge (tgt := 243) hx hb dX5_forStatement_180 (by decide) (fun c1 => ?_) (fun c1 => ?_)
        · rw [if_pos c1] at h
          exact ih.2.2.2.1 z _ _ L σ _ h hzk hc hs H locs ls hP hD hS (lv_sub hl [0, 1, 2, 3, 4] rfl)
        · rw [if_neg c1] at h
          refine lv_aload_n hx hb dX5_forStatement_183 rfl (lv_at hl 0 rfl) ?_
          obtain ⟨b2, hb2, h⟩ := oP_ex h
          refine hgq_40_2 hx hb hts in_f_X5_forStatement_X5 hown hK hP (hts _ (List.mem_cons_of_mem _ (List.mem_append_left _ (List.mem_append_left _ (List.mem_of_getElem? (i := 13) rfl))))) hb2 dX5_forStatement_184 ?_
          refine lv_bipush (v := 73) hx hb dX5_forStatement_187 (by decide) ?_
          refine lv_aload_n hx hb dX5_forStatement_189 rfl (lv_at hl 0 rfl) ?_
          refine hg_40_10 hx hb hts in_f_X5_forStatement_X5 hown hK hP (hts _ (List.mem_cons_of_mem _ (List.mem_append_left _ (List.mem_append_left _ (List.mem_of_getElem? (i := 48) rfl))))) dX5_forStatement_190 ?_
          refine lv_iload hx hb dX5_forStatement_193 (lv_at hl 5 rfl) ?_
          obtain ⟨q3, h⟩ := kr_ite1 h
          refine hl_41 hx hb hK hP q3 dX5_forStatement_195 ?_
          obtain ⟨r4, hc4, hle4, h9⟩ := ox_ex h
          clear h
          refine kx_i (vx_runV (As := [.int 73, .int (σ.2.2.1 41 ((L.1 8)).toNatClampNeg)]) (rest := []) ⟨hx, hb, hml, hown, hts⟩ (c_f_X7_emit__P l hl0 dC dI cy ek a k (lI (lI (lB lZ 0 b2) 1 73) 2 ((σ.2.2.1 41 ((L.1 8)).toNatClampNeg))) σ r4 hc4 z H.size) (cwV 2 hts g_f_X5_forStatement_X7_emit__P_V66 rfl rfl rfl hd_f_X7_emit__P (by show 7 + 1 ≤ 412 + d ∧ 8 + (3 + 11) + 121 ≤ 13455 + 28 * d; omega)) ⟨nb_blindF, recvP b2 hK hP, (kx_pre hK hG hE hT hA hP hD hS)⟩ rfl rfl hl.1 rfl (lv_room (Nat.le_of_ble_eq_true rfl)) dX5_forStatement_196 ⟨Nat.le_trans (Nat.add_le_add_left hle4.1 _) (Nat.le_of_eq hc), Nat.le_trans (Nat.add_le_add_left hle4.2 _) (Nat.le_of_eq hs)⟩) hK hA hzk hP hD hS (by decide) hno hlocks ?_
          rcases h9 with ⟨h00, y4, hny4, hy⟩ | ⟨h00, hy⟩
          · subst hy
            have h := hny4
            refine Or.inl ⟨h00, fun z H locs hz4 hzk hP hD hS => ?_⟩
            replace hc := (Nat.add_assoc _ _ _).trans hc
            replace hs := (Nat.add_assoc _ _ _).trans hs
            refine lv_pop hx hb dX5_forStatement_199 rfl ?_
            refine lv_aload_n hx hb dX5_forStatement_200 rfl (lv_at hl 0 rfl) ?_
            obtain ⟨b5, hb5, h⟩ := oP_ex h
            refine hgq_40_2 hx hb hts in_f_X5_forStatement_X5 hown hK hP (hts _ (List.mem_cons_of_mem _ (List.mem_append_left _ (List.mem_append_left _ (List.mem_of_getElem? (i := 13) rfl))))) hb5 dX5_forStatement_201 ?_
            refine lv_aload_n hx hb dX5_forStatement_204 rfl (lv_at hl 0 rfl) ?_
            refine hg_40_10 hx hb hts in_f_X5_forStatement_X5 hown hK hP (hts _ (List.mem_cons_of_mem _ (List.mem_append_left _ (List.mem_append_left _ (List.mem_of_getElem? (i := 48) rfl))))) dX5_forStatement_205 ?_
            refine lv_iload hx hb dX5_forStatement_208 (lv_at hl 5 rfl) ?_
            refine lv_iconst (v := 1) hx hb dX5_forStatement_210 (by decide) ?_
            refine lv_iadd hx hb dX5_forStatement_211 ?_
            obtain ⟨q6, h⟩ := kr_ite1 h
            refine hl_41 hx hb hK hP q6 dX5_forStatement_212 ?_
            obtain ⟨r7, hc7, hle7, h9⟩ := ox_ex h
            clear h
            refine kx_i (r := y4) (vx_runV (As := [.int (r4.2.1.2.2.1 41 ((((L.1 8)) + 1)).toNatClampNeg)]) (rest := []) ⟨hx, hb, hml, hown, hts⟩ (c_f_X7_word__P l hl0 dC dI cy ek a k (lI (lB lZ 0 b5) 1 ((r4.2.1.2.2.1 41 ((((L.1 8)) + 1)).toNatClampNeg))) r4.2.1 r7 hc7 z H.size) (cwV 1 hts g_f_X5_forStatement_X7_word__P_V243 rfl rfl rfl hd_f_X7_word__P (by show 7 + 1 ≤ 412 + d ∧ 8 + (2 + 11) + 121 ≤ 13455 + 28 * d; omega)) ⟨nb_blindF, recvP b5 hK hP, (kx_pre hK hG hE hT hA hP hD hS)⟩ rfl rfl hl.1 rfl (lv_room (Nat.le_of_ble_eq_true rfl)) dX5_forStatement_213 ⟨Nat.le_trans (Nat.add_le_add_left hle7.1 _) (Nat.le_of_eq hc), Nat.le_trans (Nat.add_le_add_left hle7.2 _) (Nat.le_of_eq hs)⟩) hK hA hzk hP hD hS (by decide) hno hlocks ?_
            rcases h9 with ⟨h00, y7, hny7, hy⟩ | ⟨h00, hy⟩
            · subst hy
              have h := hny7
              refine Or.inl ⟨h00, fun z H locs hz7 hzk hP hD hS => ?_⟩
              replace hc := (Nat.add_assoc _ _ _).trans hc
              replace hs := (Nat.add_assoc _ _ _).trans hs
              refine lv_pop hx hb dX5_forStatement_216 rfl ?_
              refine lv_aload_n hx hb dX5_forStatement_217 rfl (lv_at hl 0 rfl) ?_
              obtain ⟨b8, hb8, h⟩ := oP_ex h
              refine hgq_40_2 hx hb hts in_f_X5_forStatement_X5 hown hK hP (hts _ (List.mem_cons_of_mem _ (List.mem_append_left _ (List.mem_append_left _ (List.mem_of_getElem? (i := 13) rfl))))) hb8 dX5_forStatement_218 ?_
              refine lv_aload_n hx hb dX5_forStatement_221 rfl (lv_at hl 0 rfl) ?_
              refine hg_40_10 hx hb hts in_f_X5_forStatement_X5 hown hK hP (hts _ (List.mem_cons_of_mem _ (List.mem_append_left _ (List.mem_append_left _ (List.mem_of_getElem? (i := 48) rfl))))) dX5_forStatement_222 ?_
              refine lv_iload hx hb dX5_forStatement_225 (lv_at hl 5 rfl) ?_
              refine lv_iconst (v := 2) hx hb dX5_forStatement_227 (by decide) ?_
              refine lv_iadd hx hb dX5_forStatement_228 ?_
              obtain ⟨q9, h⟩ := kr_ite1 h
              refine hl_41 hx hb hK hP q9 dX5_forStatement_229 ?_
              obtain ⟨r10, hc10, hle10, h9⟩ := ox_ex h
              clear h
              refine kx_i (r := y7) (vx_runV (As := [.int (r7.2.1.2.2.1 41 ((((L.1 8)) + 2)).toNatClampNeg)]) (rest := []) ⟨hx, hb, hml, hown, hts⟩ (c_f_X7_word__P l hl0 dC dI cy ek a k (lI (lB lZ 0 b8) 1 ((r7.2.1.2.2.1 41 ((((L.1 8)) + 2)).toNatClampNeg))) r7.2.1 r10 hc10 z H.size) (cwV 1 hts g_f_X5_forStatement_X7_word__P_V243 rfl rfl rfl hd_f_X7_word__P (by show 7 + 1 ≤ 412 + d ∧ 8 + (2 + 11) + 121 ≤ 13455 + 28 * d; omega)) ⟨nb_blindF, recvP b8 hK hP, (kx_pre hK hG hE hT hA hP hD hS)⟩ rfl rfl hl.1 rfl (lv_room (Nat.le_of_ble_eq_true rfl)) dX5_forStatement_230 ⟨Nat.le_trans (Nat.add_le_add_left hle10.1 _) (Nat.le_of_eq hc), Nat.le_trans (Nat.add_le_add_left hle10.2 _) (Nat.le_of_eq hs)⟩) hK hA hzk hP hD hS (by decide) hno hlocks ?_
              rcases h9 with ⟨h00, y10, hny10, hy⟩ | ⟨h00, hy⟩
              · subst hy
                have h := hny10
                refine Or.inl ⟨h00, fun z H locs hz10 hzk hP hD hS => ?_⟩
                replace hc := (Nat.add_assoc _ _ _).trans hc
                replace hs := (Nat.add_assoc _ _ _).trans hs
                refine lv_pop hx hb dX5_forStatement_233 rfl ?_
                refine lv_iload hx hb dX5_forStatement_234 (lv_at hl 5 rfl) ?_
                refine lv_iconst (v := 3) hx hb dX5_forStatement_236 (by decide) ?_
                refine lv_iadd hx hb dX5_forStatement_237 ?_
                refine lv_istore (lv' := [(8, .int (((L.1 8)) + 3)), (0, .ref (a 40)), (1, .int (L.1 1)), (2, .int (L.1 2)), (3, .int (L.1 3)), (5, .int (L.1 5))]) hx hb dX5_forStatement_238 hl (by decide) rfl (fun ls hl => ?_)
                refine lv_goto (tgt := 172) hx hb dX5_forStatement_240 (by decide) ?_
                exact ih.2.2.1 z _ _ (lI L 8 ((((L.1 8)) + 3))) r10.2.1 _ h hzk hc hs H locs ls hP hD hS (lv_sub hl [1, 2, 3, 4, 5, 0] rfl)
              · subst hy
                exact Or.inr ⟨h00, rfl, hc, hs⟩
            · subst hy
              exact Or.inr ⟨h00, rfl, hc, hs⟩
          · subst hy
            exact Or.inr ⟨h00, rfl, hc, hs⟩
      · intro z cells slots L σ r h hzk hc hs H locs ls hP hD hS hl
        rw [f_F3_1, t_X5_forStatement_3] at h
        refine lv_aload_n hx hb dX5_forStatement_243 rfl (lv_at hl 0 rfl) ?_
        obtain ⟨b1, hb1, h⟩ := oP_ex h
        refine hgq_40_2 hx hb hts in_f_X5_forStatement_X5 hown hK hP (hts _ (List.mem_cons_of_mem _ (List.mem_append_left _ (List.mem_append_left _ (List.mem_of_getElem? (i := 13) rfl))))) hb1 dX5_forStatement_244 ?_
        refine lv_bipush (v := 37) hx hb dX5_forStatement_247 (by decide) ?_
        refine lv_iload hx hb dX5_forStatement_249 (lv_at hl 4 rfl) ?_
        obtain ⟨r2, hc2, hle2, h9⟩ := ox_ex h
        clear h
        refine kx_i (vx_runV (As := [.int 37, .int (L.1 5)]) (rest := []) ⟨hx, hb, hml, hown, hts⟩ (c_f_X7_emit__P l hl0 dC dI cy ek a k (lI (lI (lB lZ 0 b1) 1 37) 2 ((L.1 5))) σ r2 hc2 z H.size) (cwV 2 hts g_f_X5_forStatement_X7_emit__P_V66 rfl rfl rfl hd_f_X7_emit__P (by show 7 + 1 ≤ 412 + d ∧ 8 + (3 + 11) + 121 ≤ 13455 + 28 * d; omega)) ⟨nb_blindF, recvP b1 hK hP, (kx_pre hK hG hE hT hA hP hD hS)⟩ rfl rfl hl.1 rfl (lv_room (Nat.le_of_ble_eq_true rfl)) dX5_forStatement_251 ⟨Nat.le_trans (Nat.add_le_add_left hle2.1 _) (Nat.le_of_eq hc), Nat.le_trans (Nat.add_le_add_left hle2.2 _) (Nat.le_of_eq hs)⟩) hK hA hzk hP hD hS (by decide) hno hlocks ?_
        rcases h9 with ⟨h00, y2, hny2, hy⟩ | ⟨h00, hy⟩
        · subst hy
          have h := hny2
          refine Or.inl ⟨h00, fun z H locs hz2 hzk hP hD hS => ?_⟩
          replace hc := (Nat.add_assoc _ _ _).trans hc
          replace hs := (Nat.add_assoc _ _ _).trans hs
          refine lv_pop hx hb dX5_forStatement_254 rfl ?_
          refine lv_aload_n hx hb dX5_forStatement_255 rfl (lv_at hl 0 rfl) ?_
          refine lv_iload_n hx hb dX5_forStatement_256 rfl (lv_at hl 2 rfl) ?_
          refine hp_40_11 hx hb hts in_f_X5_forStatement_X5 hown hK hP hD hS (hts _ (List.mem_cons_of_mem _ (List.mem_append_left _ (List.mem_append_left _ (List.mem_of_getElem? (i := 22) rfl))))) dX5_forStatement_257 (fun H locs hP hD hS => ?_)
          refine lv_aload_n hx hb dX5_forStatement_260 rfl (lv_at hl 0 rfl) ?_
          obtain ⟨b3, hb3, h⟩ := oP_ex h
          refine hgq_40_2 hx hb hts in_f_X5_forStatement_X5 hown hK hP (hts _ (List.mem_cons_of_mem _ (List.mem_append_left _ (List.mem_append_left _ (List.mem_of_getElem? (i := 13) rfl))))) hb3 dX5_forStatement_261 ?_
          refine hg_P_18n b3 hx hb hts in_f_X5_forStatement_X7 hown hK hP (va_Nw.use rfl (hG.1 _ (List.mem_of_getElem? (i := 93) rfl))) dX5_forStatement_264 ?_
          refine lv_aload_n hx hb dX5_forStatement_267 rfl (lv_at hl 0 rfl) ?_
          refine hg_40_3 hx hb hts in_f_X5_forStatement_X5 hown hK hP (hts _ (List.mem_cons_of_mem _ (List.mem_append_left _ (List.mem_append_left _ (List.mem_of_getElem? (i := 23) rfl))))) dX5_forStatement_268 ?_
          refine lv_iload_n hx hb dX5_forStatement_271 rfl (lv_at hl 3 rfl) ?_
          obtain ⟨q4, h⟩ := kr_ite1 h
          refine hs_P18 b3 hx hb hK hP hD hS q4 dX5_forStatement_272 (fun H locs hP hD hS => ?_)
          refine lv_aload_n hx hb dX5_forStatement_273 rfl (lv_at hl 0 rfl) ?_
          obtain ⟨b5, hb5, h⟩ := oP_ex h
          refine hgq_40_2 hx hb hts in_f_X5_forStatement_X5 hown hK hP (hts _ (List.mem_cons_of_mem _ (List.mem_append_left _ (List.mem_append_left _ (List.mem_of_getElem? (i := 13) rfl))))) hb5 dX5_forStatement_274 ?_
          refine lv_iload_n hx hb dX5_forStatement_277 rfl (lv_at hl 1 rfl) ?_
          refine hp_P_11n b5 hx hb hts in_f_X5_forStatement_X7 hown hK hP hD hS (va_Nw.use rfl (hG.1 _ (List.mem_of_getElem? (i := 82) rfl))) dX5_forStatement_278 (fun H locs hP hD hS => ?_)
          exact ih.2.2.2.2 z _ _ L (uI (uA (uI r2.2.1 4011 ((L.1 2))) (pR18 b3) (((uI r2.2.1 4011 ((L.1 2))).1 4003)).toNatClampNeg ((L.1 3))) (fP b5 11) ((L.1 1))) _ h hzk hc hs H locs ls hP hD hS (lv_sub hl [] rfl)
        · subst hy
          exact Or.inr ⟨h00, rfl, hc, hs⟩
      · intro z cells slots L σ r h hzk hc hs H locs ls hP hD hS hl
        rw [f_F3_1, t_X5_forStatement_4] at h
        obtain rfl := Option.some.inj h
        subst hc
        subst hs
        exact xr_v hx hb hr hK hzk hP hD hS hlocks dX5_forStatement_281
  exact (blk k0 (Nat.le_refl _)).1 z 0 0 L0 σ0 r0 h0 (zk_rf _ _) ((Nat.zero_add _).trans hmc) ((Nat.zero_add _).trans hms) s.heap [] ls hP hD hS hl

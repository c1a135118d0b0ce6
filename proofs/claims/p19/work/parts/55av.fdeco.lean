/-! X5_target -/
def f_X5_target : Nat → Nat → LV → CS → Option RS
  | 0, _, _, _ => none
  | k + 1, 0, L, σ => if ((L.1 1)) = ((-1)) then (ox (f_X5_want k 0 (lI lZ 1 2) σ) (fun r2 => ox (f_X5_takenName k 0 lZ r2.2.1) (fun r3 => if r3.1.2 = ((-1)) then (f_X5_target k 2 (lI (lI L 2 r3.1.2) 3 ((r2.2.1.1 3703))) r3.2.1) else (oP (sPp r3.2.1) (fun b5 => if ¬ (r3.1.2 < 0 ∨ 256 ≤ r3.1.2.toNatClampNeg) then (if ((r3.2.1.2.2.1 (pR7 b5) r3.1.2.toNatClampNeg)) = 0 then (f_X5_target k 1 (lI L 2 r3.1.2) r3.2.1) else (f_X5_target k 2 (lI (lI L 2 r3.1.2) 3 ((r2.2.1.1 3703))) r3.2.1)) else none))))) else (f_X5_target k 1 (lI L 2 ((L.1 1))) σ)
  | k + 1, 1, L, σ => oP (sPp σ) (fun b1 => if ¬ (((L.1 2)) < 0 ∨ 256 ≤ ((L.1 2)).toNatClampNeg) then (ox (f_X5_mark k 0 (lI lZ 1 ((σ.2.2.1 (pR9 b1) ((L.1 2)).toNatClampNeg))) σ) (fun r3 => oP (sPp r3.2.1) (fun b4 => if ¬ (((L.1 2)) < 0 ∨ 256 ≤ ((L.1 2)).toNatClampNeg) then (ox (f_X5_mark k 0 (lI lZ 1 ((r3.2.1.2.2.1 (pR8 b4) ((L.1 2)).toNatClampNeg))) r3.2.1) (fun r6 => ox (f_X5_mark k 0 (lI lZ 1 0) r6.2.1) (fun r7 => ox (f_X5_mark k 0 (lI lZ 1 0) r7.2.1) (fun r8 => f_X5_target k 3 (lI (lI L 3 r3.1.2) 4 0) r8.2.1)))) else none))) else none)
  | k + 1, 2, L, σ => ox (f_X5_refuse k 0 (lI (lI lZ 1 5) 2 ((L.1 3))) σ) (fun r1 => f_X5_target k 1 L r1.2.1)
  | k + 1, 3, L, σ => if 32768 < ((L.1 4)) then (f_X5_target k 4 L σ) else (if ((σ.1 3702)) = 10 then (f_X5_target k 5 L σ) else (if ((σ.1 3702)) = 12 then (f_X5_target k 5 L σ) else (f_X5_target k 4 L σ)))
  | k + 1, 4, L, σ => some ((0, (L.1 3)), σ, (0, 0))
  | k + 1, 5, L, σ => ox (f_X5_part k 0 lZ σ) (fun r1 => ox (f_X5_mark k 0 (lI lZ 1 r1.1.2) r1.2.1) (fun r2 => if ¬ (((((L.1 3)) + 2)) < 0 ∨ (sN r2.2.1 41) ≤ ((((L.1 3)) + 2)).toNatClampNeg) then (if r1.1.2 = 97 then (f_X5_target k 7 (lI (lI (lI L 100 2) 101 ((r2.2.1.2.2.1 41 ((((L.1 3)) + 2)).toNatClampNeg))) 102 ((((L.1 3)) + 2))) r2.2.1) else (f_X5_target k 6 (lI (lI L 100 ((r2.2.1.2.2.1 41 ((((L.1 3)) + 2)).toNatClampNeg))) 101 ((((L.1 3)) + 2))) r2.2.1)) else none))
  | k + 1, 6, L, σ => f_X5_target k 7 (lI (lI (lI L 100 1) 101 ((L.1 100))) 102 ((L.1 101))) σ
  | k + 1, 7, L, σ => if ¬ (((L.1 102)) < 0 ∨ (sN σ 41) ≤ ((L.1 102)).toNatClampNeg) then (if ¬ (((((L.1 3)) + 3)) < 0 ∨ (sN (uA σ 41 ((L.1 102)).toNatClampNeg ((((L.1 101)) + ((L.1 100))))) 41) ≤ ((((L.1 3)) + 3)).toNatClampNeg) then (if ¬ (((((L.1 3)) + 3)) < 0 ∨ (sN (uA σ 41 ((L.1 102)).toNatClampNeg ((((L.1 101)) + ((L.1 100))))) 41) ≤ ((((L.1 3)) + 3)).toNatClampNeg) then (f_X5_target k 3 (lI L 4 ((((L.1 4)) + 1))) (uA (uA σ 41 ((L.1 102)).toNatClampNeg ((((L.1 101)) + ((L.1 100))))) 41 ((((L.1 3)) + 3)).toNatClampNeg (((((uA σ 41 ((L.1 102)).toNatClampNeg ((((L.1 101)) + ((L.1 100))))).2.2.1 41 ((((L.1 3)) + 3)).toNatClampNeg)) + 1)))) else none) else none) else none
  | _ + 1, _ + 8, _, _ => none
def o_f_X5_target : List Cond := [.methodLink RX5 61 yX5_want, .instanceMethod yX5_want, .selects RX5 yX5_want yX5_want, .initialized RX5, .fieldLink RX5 18 "SetHouse$Parser" "lex" "LSetHouse$Lexer;", .methodLink RX5 268 yX5_takenName, .instanceMethod yX5_takenName, .selects RX5 yX5_takenName yX5_takenName, .fieldLink RX5 93 "SetHouse$Parser" "p" "LSetHouse$Program;", .methodLink RX5 303 yX5_mark, .instanceMethod yX5_mark, .selects RX5 yX5_mark yX5_mark, .methodLink RX5 125 yX5_refuse, .instanceMethod yX5_refuse, .selects RX5 yX5_refuse yX5_refuse, .constant RX5 35 (32768), .methodLink RX5 309 yX5_part, .instanceMethod yX5_part, .selects RX5 yX5_part yX5_part, .fieldLink RX5 9 "SetHouse$Parser" "marks" "[I"]
theorem o_f_X5_target_good : o_f_X5_target.all goodWord = true := by decide +kernel
def p_f_X5_target : List Cond := o_f_X5_target ++ ((.code yX5_want cX5_want 2 none :: p_f_X5_want) ++ ((.code yX5_takenName cX5_takenName 5 (some .int) :: p_f_X5_takenName) ++ ((.code yX5_mark cX5_mark 2 (some .int) :: p_f_X5_mark) ++ ((.code yX5_refuse cX5_refuse 3 none :: p_f_X5_refuse) ++ ((.code yX5_part cX5_part 2 (some .int) :: p_f_F2) ++ [])))))
theorem p_f_X5_target_good : p_f_X5_target.all goodWord = true := nb_all2 o_f_X5_target_good (nb_all2 (nb_allc (by decide +kernel) p_f_X5_want_good) (nb_all2 (nb_allc (by decide +kernel) p_f_X5_takenName_good) (nb_all2 (nb_allc (by decide +kernel) p_f_X5_mark_good) (nb_all2 (nb_allc (by decide +kernel) p_f_X5_refuse_good) (nb_all2 (nb_allc (by decide +kernel) p_f_F2_good) rfl)))))
def w_f_X5_target : List Cond := .code yX5_target cX5_target 6 (some .int) :: (p_f_X5_target ++ fC)
theorem w_f_X5_target_good : w_f_X5_target.all goodWord = true := nb_allc (by decide +kernel) (nb_all2 p_f_X5_target_good fC_good)
theorem in_f_X5_target_X2 : ∀ w ∈ wsX20, w ∈ w_f_X5_target := fun _ h => List.mem_cons_of_mem _ (List.mem_append_right _ (List.mem_append_right _ (List.mem_append_right _ (List.mem_append_left _ h))))
theorem in_f_X5_target_X5 : ∀ w ∈ wsX50, w ∈ w_f_X5_target := fun _ h => List.mem_cons_of_mem _ (List.mem_append_right _ (List.mem_append_right _ (List.mem_append_right _ (List.mem_append_right _ (List.mem_append_right _ (List.mem_append_left _ h))))))
theorem in_f_X5_target_X7 : ∀ w ∈ wsX70, w ∈ w_f_X5_target := fun _ h => List.mem_cons_of_mem _ (List.mem_append_right _ (List.mem_append_right _ (List.mem_append_right _ (List.mem_append_right _ (List.mem_append_right _ (List.mem_append_right _ (List.mem_append_right _ (List.mem_append_left _ h))))))))
theorem hd_f_X5_target : yX5_target.cls = RX5 ∧ yX5_target.cls ≠ "java/lang/invoke/MethodHandle" ∧ yX5_target.cls ≠ "java/lang/invoke/VarHandle" ∧ (parseMethodDescriptor yX5_target.desc).map (fun d => d.parameters.length) = some 1 := by decide +kernel
theorem gg_f_X5_target_X5_mark : GoodIn w_f_X5_target w_f_X5_mark := goodIn_sub (fun w h => (List.mem_cons.mp h).elim (fun e => (List.mem_cons_of_mem _ (List.mem_append_left _ (List.mem_append_right _ (List.mem_append_right _ (List.mem_append_right _ (List.mem_append_left _ (List.mem_cons.mpr (Or.inl e))))))))) (fun h => (List.mem_append.mp h).elim (fun h => (List.mem_cons_of_mem _ (List.mem_append_left _ (List.mem_append_right _ (List.mem_append_right _ (List.mem_append_right _ (List.mem_append_left _ (List.mem_cons_of_mem _ h)))))))) (fun h => List.mem_cons_of_mem _ (List.mem_append_right _ h)))) w_f_X5_mark_good
theorem g_f_X5_target_X5_mark_V303 : GoodIn w_f_X5_target (wsV RX5 303 RX5 yX5_mark w_f_X5_mark) := goodIn_app (nb_g4 (List.mem_cons_of_mem _ (List.mem_append_left _ (List.mem_append_left _ (List.mem_of_getElem? (i := 9) rfl)))) (List.mem_cons_of_mem _ (List.mem_append_left _ (List.mem_append_left _ (List.mem_of_getElem? (i := 10) rfl)))) (List.mem_cons_of_mem _ (List.mem_append_left _ (List.mem_append_left _ (List.mem_of_getElem? (i := 11) rfl)))) (List.mem_cons_of_mem _ (List.mem_append_left _ (List.mem_append_left _ (List.mem_of_getElem? (i := 3) rfl)))) (by decide +kernel)) gg_f_X5_target_X5_mark
theorem gg_f_X5_target_X5_part : GoodIn w_f_X5_target w_f_X5_part := goodIn_sub (fun w h => (List.mem_cons.mp h).elim (fun e => (List.mem_cons_of_mem _ (List.mem_append_left _ (List.mem_append_right _ (List.mem_append_right _ (List.mem_append_right _ (List.mem_append_right _ (List.mem_append_right _ (List.mem_append_left _ (List.mem_cons.mpr (Or.inl e))))))))))) (fun h => (List.mem_append.mp h).elim (fun h => (List.mem_cons_of_mem _ (List.mem_append_left _ (List.mem_append_right _ (List.mem_append_right _ (List.mem_append_right _ (List.mem_append_right _ (List.mem_append_right _ (List.mem_append_left _ (List.mem_cons_of_mem _ h)))))))))) (fun h => List.mem_cons_of_mem _ (List.mem_append_right _ h)))) w_f_X5_part_good
theorem g_f_X5_target_X5_part_V309 : GoodIn w_f_X5_target (wsV RX5 309 RX5 yX5_part w_f_X5_part) := goodIn_app (nb_g4 (List.mem_cons_of_mem _ (List.mem_append_left _ (List.mem_append_left _ (List.mem_of_getElem? (i := 16) rfl)))) (List.mem_cons_of_mem _ (List.mem_append_left _ (List.mem_append_left _ (List.mem_of_getElem? (i := 17) rfl)))) (List.mem_cons_of_mem _ (List.mem_append_left _ (List.mem_append_left _ (List.mem_of_getElem? (i := 18) rfl)))) (List.mem_cons_of_mem _ (List.mem_append_left _ (List.mem_append_left _ (List.mem_of_getElem? (i := 3) rfl)))) (by decide +kernel)) gg_f_X5_target_X5_part
theorem gg_f_X5_target_X5_refuse : GoodIn w_f_X5_target w_f_X5_refuse := goodIn_sub (fun w h => (List.mem_cons.mp h).elim (fun e => (List.mem_cons_of_mem _ (List.mem_append_left _ (List.mem_append_right _ (List.mem_append_right _ (List.mem_append_right _ (List.mem_append_right _ (List.mem_append_left _ (List.mem_cons.mpr (Or.inl e)))))))))) (fun h => (List.mem_append.mp h).elim (fun h => (List.mem_cons_of_mem _ (List.mem_append_left _ (List.mem_append_right _ (List.mem_append_right _ (List.mem_append_right _ (List.mem_append_right _ (List.mem_append_left _ (List.mem_cons_of_mem _ h))))))))) (fun h => List.mem_cons_of_mem _ (List.mem_append_right _ h)))) w_f_X5_refuse_good
theorem g_f_X5_target_X5_refuse_V125 : GoodIn w_f_X5_target (wsV RX5 125 RX5 yX5_refuse w_f_X5_refuse) := goodIn_app (nb_g4 (List.mem_cons_of_mem _ (List.mem_append_left _ (List.mem_append_left _ (List.mem_of_getElem? (i := 12) rfl)))) (List.mem_cons_of_mem _ (List.mem_append_left _ (List.mem_append_left _ (List.mem_of_getElem? (i := 13) rfl)))) (List.mem_cons_of_mem _ (List.mem_append_left _ (List.mem_append_left _ (List.mem_of_getElem? (i := 14) rfl)))) (List.mem_cons_of_mem _ (List.mem_append_left _ (List.mem_append_left _ (List.mem_of_getElem? (i := 3) rfl)))) (by decide +kernel)) gg_f_X5_target_X5_refuse
theorem gg_f_X5_target_X5_takenName : GoodIn w_f_X5_target w_f_X5_takenName := goodIn_sub (fun w h => (List.mem_cons.mp h).elim (fun e => (List.mem_cons_of_mem _ (List.mem_append_left _ (List.mem_append_right _ (List.mem_append_right _ (List.mem_append_left _ (List.mem_cons.mpr (Or.inl e)))))))) (fun h => (List.mem_append.mp h).elim (fun h => (List.mem_cons_of_mem _ (List.mem_append_left _ (List.mem_append_right _ (List.mem_append_right _ (List.mem_append_left _ (List.mem_cons_of_mem _ h))))))) (fun h => List.mem_cons_of_mem _ (List.mem_append_right _ h)))) w_f_X5_takenName_good
theorem g_f_X5_target_X5_takenName_V268 : GoodIn w_f_X5_target (wsV RX5 268 RX5 yX5_takenName w_f_X5_takenName) := goodIn_app (nb_g4 (List.mem_cons_of_mem _ (List.mem_append_left _ (List.mem_append_left _ (List.mem_of_getElem? (i := 5) rfl)))) (List.mem_cons_of_mem _ (List.mem_append_left _ (List.mem_append_left _ (List.mem_of_getElem? (i := 6) rfl)))) (List.mem_cons_of_mem _ (List.mem_append_left _ (List.mem_append_left _ (List.mem_of_getElem? (i := 7) rfl)))) (List.mem_cons_of_mem _ (List.mem_append_left _ (List.mem_append_left _ (List.mem_of_getElem? (i := 3) rfl)))) (by decide +kernel)) gg_f_X5_target_X5_takenName
theorem gg_f_X5_target_X5_want : GoodIn w_f_X5_target w_f_X5_want := goodIn_sub (fun w h => (List.mem_cons.mp h).elim (fun e => (List.mem_cons_of_mem _ (List.mem_append_left _ (List.mem_append_right _ (List.mem_append_left _ (List.mem_cons.mpr (Or.inl e))))))) (fun h => (List.mem_append.mp h).elim (fun h => (List.mem_cons_of_mem _ (List.mem_append_left _ (List.mem_append_right _ (List.mem_append_left _ (List.mem_cons_of_mem _ h)))))) (fun h => List.mem_cons_of_mem _ (List.mem_append_right _ h)))) w_f_X5_want_good
theorem g_f_X5_target_X5_want_V61 : GoodIn w_f_X5_target (wsV RX5 61 RX5 yX5_want w_f_X5_want) := goodIn_app (nb_g4 (List.mem_cons_of_mem _ (List.mem_append_left _ (List.mem_append_left _ (List.mem_of_getElem? (i := 0) rfl)))) (List.mem_cons_of_mem _ (List.mem_append_left _ (List.mem_append_left _ (List.mem_of_getElem? (i := 1) rfl)))) (List.mem_cons_of_mem _ (List.mem_append_left _ (List.mem_append_left _ (List.mem_of_getElem? (i := 2) rfl)))) (List.mem_cons_of_mem _ (List.mem_append_left _ (List.mem_append_left _ (List.mem_of_getElem? (i := 3) rfl)))) (by decide +kernel)) gg_f_X5_target_X5_want
set_option maxHeartbeats 40000000 in
set_option maxRecDepth 100000 in
theorem c_f_X5_target (l : Launch) (hl0 : l.stackTraces = false) (dC : Nat → ClassId) (dI : Nat → Nat → Nat) (cy : Nat → ClassId) (ek a : Nat → Nat) (k0 : Nat) (L0 : LV) (σ0 : CS) (r0 : RS) (h0 : f_X5_target k0 0 L0 σ0 = some r0) (z : Nat → Nat) (sz : Nat) : vx_Met l yX5_target w_f_X5_target ({ frames := 410, cells := r0.2.2.1, slots := r0.2.2.2, locals := 13394 }) (va_Pc [.ref (a 40), .int (L0.1 1)] (nInF (dC, dI) cy ek sz (vC cy a z σ0))) (xI dC dI cy a (va_A (vC cy a z σ0) sz) [41, 43, 51] z r0) (xX dC dI cy a (va_A (vC cy a z σ0) sz) [41, 43, 51] z r0) r0.2.2.1 r0.2.2.2 (va_A (vC cy a z σ0) sz) := by
  refine vx_ofW (cc := cX5_target) (maxL := 6) (ret := (some .int)) (by decide) rfl ?_
  intro p e s m args below meth c s₁ B hml hno hv
  obtain ⟨rfl, ⟨⟨hsz, hP, hK, hD0, hG⟩, hE⟩, hT⟩ := hv
  have hx := B.exec
  have hb := B.bytes
  have hr := B.returns
  have hts := atoms_spec (ws := w_f_X5_target) B.pre
  have hown : s.vm.findClass RX5 = some m.cls := findClass_of_methodNamed B.named
  have hlocks := B.notSynchronized
  subst hsz
  have hD := hD0.self (sz := s.heap.size)
  generalize hAe : va_A (vC cy a z σ0) s.heap.size = A at hD hE hT ⊢
  have hA : ∀ q : Nat, s.heap.size ≤ q → A q := fun q h => by rw [← hAe]; exact Or.inr h
  have hS : va_S A s.heap s.heap [] := va_S.rf
  have hl := lv_entry ([.ref (a 40), .int (L0.1 1)]) (n := 6) (Nat.le_of_ble_eq_true rfl)
  rw [lg_entry_eq]
  generalize (lg_sl ([.ref (a 40), .int (L0.1 1)]) ++ List.replicate (6 - (lg_sl ([.ref (a 40), .int (L0.1 1)])).length) Slot.unset).toArray = ls at hl ⊢
  have hl : lv_has ls 6 [(0, .ref (a 40)), (1, .int (L0.1 1))] := hl
  generalize hmc : r0.2.2.1 = mc
  generalize hms : r0.2.2.2 = ms
  have blk : ∀ k : Nat, (bX p l e (headSpec w_f_X5_target ({ frames := 410, cells := mc, slots := ms, locals := 13394 })).room s m #[.ref (a 40), .int (L0.1 1)] below meth c dC dI cy a A (fun r => vx_MQ below (xI dC dI cy a A [41, 43, 51] z r) (xX dC dI cy a A [41, 43, 51] z r) #[.ref (a 40), .int (L0.1 1)] s mc ms A) [41, 43, 51] z mc ms 6 (f_X5_target k 0) (fun z L => [(0, .ref (a 40)), (1, .int (L.1 1))]) 0 (fun z L => [])) ∧ (bX p l e (headSpec w_f_X5_target ({ frames := 410, cells := mc, slots := ms, locals := 13394 })).room s m #[.ref (a 40), .int (L0.1 1)] below meth c dC dI cy a A (fun r => vx_MQ below (xI dC dI cy a A [41, 43, 51] z r) (xX dC dI cy a A [41, 43, 51] z r) #[.ref (a 40), .int (L0.1 1)] s mc ms A) [41, 43, 51] z mc ms 6 (f_X5_target k 1) (fun z L => [(0, .ref (a 40)), (2, .int (L.1 2))]) 48 (fun z L => [])) ∧ (bX p l e (headSpec w_f_X5_target ({ frames := 410, cells := mc, slots := ms, locals := 13394 })).room s m #[.ref (a 40), .int (L0.1 1)] below meth c dC dI cy a A (fun r => vx_MQ below (xI dC dI cy a A [41, 43, 51] z r) (xX dC dI cy a A [41, 43, 51] z r) #[.ref (a 40), .int (L0.1 1)] s mc ms A) [41, 43, 51] z mc ms 6 (f_X5_target k 2) (fun z L => [(0, .ref (a 40)), (2, .int (L.1 2)), (3, .int (L.1 3))]) 42 (fun z L => [])) ∧ (bX p l e (headSpec w_f_X5_target ({ frames := 410, cells := mc, slots := ms, locals := 13394 })).room s m #[.ref (a 40), .int (L0.1 1)] below meth c dC dI cy a A (fun r => vx_MQ below (xI dC dI cy a A [41, 43, 51] z r) (xX dC dI cy a A [41, 43, 51] z r) #[.ref (a 40), .int (L0.1 1)] s mc ms A) [41, 43, 51] z mc ms 6 (f_X5_target k 3) (fun z L => [(0, .ref (a 40)), (3, .int (L.1 3)), (4, .int (L.1 4))]) 91 (fun z L => [])) ∧ (bX p l e (headSpec w_f_X5_target ({ frames := 410, cells := mc, slots := ms, locals := 13394 })).room s m #[.ref (a 40), .int (L0.1 1)] below meth c dC dI cy a A (fun r => vx_MQ below (xI dC dI cy a A [41, 43, 51] z r) (xX dC dI cy a A [41, 43, 51] z r) #[.ref (a 40), .int (L0.1 1)] s mc ms A) [41, 43, 51] z mc ms 6 (f_X5_target k 4) (fun z L => [(3, .int (L.1 3))]) 176 (fun z L => [])) ∧ (bX p l e (headSpec w_f_X5_target ({ frames := 410, cells := mc, slots := ms, locals := 13394 })).room s m #[.ref (a 40), .int (L0.1 1)] below meth c dC dI cy a A (fun r => vx_MQ below (xI dC dI cy a A [41, 43, 51] z r) (xX dC dI cy a A [41, 43, 51] z r) #[.ref (a 40), .int (L0.1 1)] s mc ms A) [41, 43, 51] z mc ms 6 (f_X5_target k 5) (fun z L => [(0, .ref (a 40)), (3, .int (L.1 3)), (4, .int (L.1 4))]) 122 (fun z L => [])) ∧ (bX p l e (headSpec w_f_X5_target ({ frames := 410, cells := mc, slots := ms, locals := 13394 })).room s m #[.ref (a 40), .int (L0.1 1)] below meth c dC dI cy a A (fun r => vx_MQ below (xI dC dI cy a A [41, 43, 51] z r) (xX dC dI cy a A [41, 43, 51] z r) #[.ref (a 40), .int (L0.1 1)] s mc ms A) [41, 43, 51] z mc ms 6 (f_X5_target k 6) (fun z L => [(0, .ref (a 40)), (3, .int (L.1 3)), (4, .int (L.1 4))]) 155 (fun z L => [.int (L.1 100), .int (L.1 101), .ref (z 41)])) ∧ (bX p l e (headSpec w_f_X5_target ({ frames := 410, cells := mc, slots := ms, locals := 13394 })).room s m #[.ref (a 40), .int (L0.1 1)] below meth c dC dI cy a A (fun r => vx_MQ below (xI dC dI cy a A [41, 43, 51] z r) (xX dC dI cy a A [41, 43, 51] z r) #[.ref (a 40), .int (L0.1 1)] s mc ms A) [41, 43, 51] z mc ms 6 (f_X5_target k 7) (fun z L => [(0, .ref (a 40)), (3, .int (L.1 3)), (4, .int (L.1 4))]) 156 (fun z L => [.int (L.1 100), .int (L.1 101), .int (L.1 102), .ref (z 41)])) := by
    intro k
    induction k with
    | zero => exact ⟨fun z c1 c2 L σ r h => (by cases h), fun z c1 c2 L σ r h => (by cases h), fun z c1 c2 L σ r h => (by cases h), fun z c1 c2 L σ r h => (by cases h), fun z c1 c2 L σ r h => (by cases h), fun z c1 c2 L σ r h => (by cases h), fun z c1 c2 L σ r h => (by cases h), fun z c1 c2 L σ r h => (by cases h)⟩
    | succ k ih =>
      refine ⟨?_, ?_, ?_, ?_, ?_, ?_, ?_, ?_⟩
      · intro z cells slots L σ r h hzk hc hs H locs ls hP hD hS hl
        rw [f_X5_target] at h
        refine lv_iload_n hx hb dX5_target_0 rfl (lv_at hl 1 rfl) ?_
        refine lv_istore_n (lv' := [(2, .int (L.1 1)), (0, .ref (a 40)), (1, .int (L.1 1))]) hx hb dX5_target_1 rfl hl (by decide) rfl (fun ls hl => ?_)
        refine lv_iload_n hx hb dX5_target_2 rfl (lv_at hl 0 rfl) ?_
        refine lv_iconst (v := (-1)) hx hb dX5_target_3 (by decide) ?_
        refine lv_icmp_ne (tgt := 48) hx hb dX5_target_4 (by decide) (fun c1 => ?_) (fun c1 => ?_)
        · rw [if_neg c1] at h
          exact ih.2.1 z _ _ (lI L 2 ((L.1 1))) σ _ h hzk hc hs H locs ls hP hD hS (lv_sub hl [1, 0] rfl)
        · rw [if_pos c1] at h
          refine lv_aload_n hx hb dX5_target_7 rfl (lv_at hl 1 rfl) ?_
          refine lv_iconst (v := 2) hx hb dX5_target_8 (by decide) ?_
          obtain ⟨r2, hc2, hle2, h9⟩ := ox_ex h
          clear h
          refine kx_v (vx_runV (As := [.int 2]) (rest := []) ⟨hx, hb, hml, hown, hts⟩ (c_f_X5_want l hl0 dC dI cy ek a k (lI lZ 1 2) σ r2 hc2 z H.size) (cwV 1 hts g_f_X5_target_X5_want_V61 rfl rfl rfl hd_f_X5_want ⟨Nat.le_of_ble_eq_true rfl, Nat.le_of_ble_eq_true rfl⟩) ⟨nb_blindF, va_recv hK hP (ci := 4) (q0 := 40) rfl rfl, (kx_pre hK hG hE hT hA hP hD hS)⟩ rfl rfl hl.1 rfl (lv_room (Nat.le_of_ble_eq_true rfl)) dX5_target_9 ⟨Nat.le_trans (Nat.add_le_add_left hle2.1 _) (Nat.le_of_eq hc), Nat.le_trans (Nat.add_le_add_left hle2.2 _) (Nat.le_of_eq hs)⟩) hK hA hzk hP hD hS (by decide) hno hlocks ?_
          rcases h9 with ⟨h00, y2, hny2, hy⟩ | ⟨h00, hy⟩
          · subst hy
            have h := hny2
            refine Or.inl ⟨h00, fun u H locs hz2 hzk hP hD hS => ?_⟩
            obtain rfl := (zk_nil hz2).symm
            replace hc := (Nat.add_assoc _ _ _).trans hc
            replace hs := (Nat.add_assoc _ _ _).trans hs
            refine lv_aload_n hx hb dX5_target_12 rfl (lv_at hl 1 rfl) ?_
            refine hg_40_0 hx hb hts in_f_X5_target_X5 hown hK hP (hts _ (List.mem_cons_of_mem _ (List.mem_append_left _ (List.mem_append_left _ (List.mem_of_getElem? (i := 4) rfl))))) dX5_target_13 ?_
            refine hg_37_3n hx hb hts in_f_X5_target_X2 hown hK hP (va_Nw.use rfl (hG.1 _ (List.mem_of_getElem? (i := 54) rfl))) dX5_target_16 ?_
            refine lv_istore_n (lv' := [(3, .int (r2.2.1.1 3703)), (2, .int (L.1 1)), (0, .ref (a 40)), (1, .int (L.1 1))]) hx hb dX5_target_19 rfl hl (by decide) rfl (fun ls hl => ?_)
            refine lv_aload_n hx hb dX5_target_20 rfl (lv_at hl 2 rfl) ?_
            obtain ⟨r3, hc3, hle3, h9⟩ := ox_ex h
            clear h
            refine kx_i (r := y2) (vx_runV (As := []) (rest := []) ⟨hx, hb, hml, hown, hts⟩ (c_f_X5_takenName l hl0 dC dI cy ek a k lZ r2.2.1 r3 hc3 z H.size) (cwV 0 hts g_f_X5_target_X5_takenName_V268 rfl rfl rfl hd_f_X5_takenName ⟨Nat.le_of_ble_eq_true rfl, Nat.le_of_ble_eq_true rfl⟩) ⟨nb_blindF, va_recv hK hP (ci := 4) (q0 := 40) rfl rfl, (kx_pre hK hG hE hT hA hP hD hS)⟩ rfl rfl hl.1 rfl (lv_room (Nat.le_of_ble_eq_true rfl)) dX5_target_21 ⟨Nat.le_trans (Nat.add_le_add_left hle3.1 _) (Nat.le_of_eq hc), Nat.le_trans (Nat.add_le_add_left hle3.2 _) (Nat.le_of_eq hs)⟩) hK hA hzk hP hD hS (by decide) hno hlocks ?_
            rcases h9 with ⟨h00, y3, hny3, hy⟩ | ⟨h00, hy⟩
            · subst hy
              have h := hny3
              refine Or.inl ⟨h00, fun u H locs hz3 hzk hP hD hS => ?_⟩
              obtain rfl := (zk_nil hz3).symm
              replace hc := (Nat.add_assoc _ _ _).trans hc
              replace hs := (Nat.add_assoc _ _ _).trans hs
              refine lv_istore_n (lv' := [(2, .int r3.1.2), (3, .int (r2.2.1.1 3703)), (0, .ref (a 40)), (1, .int (L.1 1))]) hx hb dX5_target_24 rfl hl (by decide) rfl (fun ls hl => ?_)
              refine lv_iload_n hx hb dX5_target_25 rfl (lv_at hl 0 rfl) ?_
              refine lv_iconst (v := (-1)) hx hb dX5_target_26 (by decide) ?_
              refine lv_icmp_eq (tgt := 42) hx hb dX5_target_27 (by decide) (fun c4 => ?_) (fun c4 => ?_)
              · rw [if_pos c4] at h
                exact ih.2.2.1 z _ _ (lI (lI L 2 r3.1.2) 3 ((r2.2.1.1 3703))) r3.2.1 _ h hzk hc hs H locs ls hP hD hS (lv_sub hl [2, 0, 1] rfl)
              · rw [if_neg c4] at h
                refine lv_aload_n hx hb dX5_target_30 rfl (lv_at hl 2 rfl) ?_
                obtain ⟨b5, hb5, h⟩ := oP_ex h
                refine hgq_40_2 hx hb hts in_f_X5_target_X5 hown hK hP (hts _ (List.mem_cons_of_mem _ (List.mem_append_left _ (List.mem_append_left _ (List.mem_of_getElem? (i := 8) rfl))))) hb5 dX5_target_31 ?_
                refine hg_P_7n b5 hx hb hts in_f_X5_target_X7 hown hK hP (va_Nw.use rfl (hG.1 _ (List.mem_of_getElem? (i := 77) rfl))) dX5_target_34 ?_
                refine lv_iload_n hx hb dX5_target_37 rfl (lv_at hl 0 rfl) ?_
                obtain ⟨q6, h⟩ := kr_ite1 h
                refine hl_P7 b5 hx hb hK hP q6 dX5_target_38 ?_
                refine lv_if_eq (tgt := 48) hx hb dX5_target_39 (by decide) (fun c7 => ?_) (fun c7 => ?_)
                · rw [if_pos c7] at h
                  exact ih.2.1 z _ _ (lI L 2 r3.1.2) r3.2.1 _ h hzk hc hs H locs ls hP hD hS (lv_sub hl [2, 0] rfl)
                · rw [if_neg c7] at h
                  exact ih.2.2.1 z _ _ (lI (lI L 2 r3.1.2) 3 ((r2.2.1.1 3703))) r3.2.1 _ h hzk hc hs H locs ls hP hD hS (lv_sub hl [2, 0, 1] rfl)
            · subst hy
              exact Or.inr ⟨h00, rfl, hc, hs⟩
          · subst hy
            exact Or.inr ⟨h00, rfl, hc, hs⟩
      · intro z cells slots L σ r h hzk hc hs H locs ls hP hD hS hl
        rw [f_X5_target] at h
        refine lv_aload_n hx hb dX5_target_48 rfl (lv_at hl 0 rfl) ?_
        refine lv_aload_n hx hb dX5_target_49 rfl (lv_at hl 0 rfl) ?_
        obtain ⟨b1, hb1, h⟩ := oP_ex h
        refine hgq_40_2 hx hb hts in_f_X5_target_X5 hown hK hP (hts _ (List.mem_cons_of_mem _ (List.mem_append_left _ (List.mem_append_left _ (List.mem_of_getElem? (i := 8) rfl))))) hb1 dX5_target_50 ?_
        refine hg_P_9n b1 hx hb hts in_f_X5_target_X7 hown hK hP (va_Nw.use rfl (hG.1 _ (List.mem_of_getElem? (i := 80) rfl))) dX5_target_53 ?_
        refine lv_iload_n hx hb dX5_target_56 rfl (lv_at hl 1 rfl) ?_
        obtain ⟨q2, h⟩ := kr_ite1 h
        refine hl_P9 b1 hx hb hK hP q2 dX5_target_57 ?_
        obtain ⟨r3, hc3, hle3, h9⟩ := ox_ex h
        clear h
        refine kx_i (vx_runV (As := [.int (σ.2.2.1 (pR9 b1) ((L.1 2)).toNatClampNeg)]) (rest := []) ⟨hx, hb, hml, hown, hts⟩ (c_f_X5_mark l hl0 dC dI cy ek a k (lI lZ 1 ((σ.2.2.1 (pR9 b1) ((L.1 2)).toNatClampNeg))) σ r3 hc3 z H.size) (cwV 1 hts g_f_X5_target_X5_mark_V303 rfl rfl rfl hd_f_X5_mark ⟨Nat.le_of_ble_eq_true rfl, Nat.le_of_ble_eq_true rfl⟩) ⟨nb_blindF, va_recv hK hP (ci := 4) (q0 := 40) rfl rfl, (kx_pre hK hG hE hT hA hP hD hS)⟩ rfl rfl hl.1 rfl (lv_room (Nat.le_of_ble_eq_true rfl)) dX5_target_58 ⟨Nat.le_trans (Nat.add_le_add_left hle3.1 _) (Nat.le_of_eq hc), Nat.le_trans (Nat.add_le_add_left hle3.2 _) (Nat.le_of_eq hs)⟩) hK hA hzk hP hD hS (by decide) hno hlocks ?_
        rcases h9 with ⟨h00, y3, hny3, hy⟩ | ⟨h00, hy⟩
        · subst hy
          have h := hny3
          refine Or.inl ⟨h00, fun z H locs hz3 hzk hP hD hS => ?_⟩
          replace hc := (Nat.add_assoc _ _ _).trans hc
          replace hs := (Nat.add_assoc _ _ _).trans hs
          refine lv_istore_n (lv' := [(3, .int r3.1.2), (0, .ref (a 40)), (2, .int (L.1 2))]) hx hb dX5_target_61 rfl hl (by decide) rfl (fun ls hl => ?_)
          refine lv_aload_n hx hb dX5_target_62 rfl (lv_at hl 1 rfl) ?_
          refine lv_aload_n hx hb dX5_target_63 rfl (lv_at hl 1 rfl) ?_
          obtain ⟨b4, hb4, h⟩ := oP_ex h
          refine hgq_40_2 hx hb hts in_f_X5_target_X5 hown hK hP (hts _ (List.mem_cons_of_mem _ (List.mem_append_left _ (List.mem_append_left _ (List.mem_of_getElem? (i := 8) rfl))))) hb4 dX5_target_64 ?_
          refine hg_P_8n b4 hx hb hts in_f_X5_target_X7 hown hK hP (va_Nw.use rfl (hG.1 _ (List.mem_of_getElem? (i := 78) rfl))) dX5_target_67 ?_
          refine lv_iload_n hx hb dX5_target_70 rfl (lv_at hl 2 rfl) ?_
          obtain ⟨q5, h⟩ := kr_ite1 h
          refine hl_P8 b4 hx hb hK hP q5 dX5_target_71 ?_
          obtain ⟨r6, hc6, hle6, h9⟩ := ox_ex h
          clear h
          refine kx_i (r := y3) (vx_runV (As := [.int (r3.2.1.2.2.1 (pR8 b4) ((L.1 2)).toNatClampNeg)]) (rest := []) ⟨hx, hb, hml, hown, hts⟩ (c_f_X5_mark l hl0 dC dI cy ek a k (lI lZ 1 ((r3.2.1.2.2.1 (pR8 b4) ((L.1 2)).toNatClampNeg))) r3.2.1 r6 hc6 z H.size) (cwV 1 hts g_f_X5_target_X5_mark_V303 rfl rfl rfl hd_f_X5_mark ⟨Nat.le_of_ble_eq_true rfl, Nat.le_of_ble_eq_true rfl⟩) ⟨nb_blindF, va_recv hK hP (ci := 4) (q0 := 40) rfl rfl, (kx_pre hK hG hE hT hA hP hD hS)⟩ rfl rfl hl.1 rfl (lv_room (Nat.le_of_ble_eq_true rfl)) dX5_target_72 ⟨Nat.le_trans (Nat.add_le_add_left hle6.1 _) (Nat.le_of_eq hc), Nat.le_trans (Nat.add_le_add_left hle6.2 _) (Nat.le_of_eq hs)⟩) hK hA hzk hP hD hS (by decide) hno hlocks ?_
          rcases h9 with ⟨h00, y6, hny6, hy⟩ | ⟨h00, hy⟩
          · subst hy
            have h := hny6
            refine Or.inl ⟨h00, fun z H locs hz6 hzk hP hD hS => ?_⟩
            replace hc := (Nat.add_assoc _ _ _).trans hc
            replace hs := (Nat.add_assoc _ _ _).trans hs
            refine lv_pop hx hb dX5_target_75 rfl ?_
            refine lv_aload_n hx hb dX5_target_76 rfl (lv_at hl 1 rfl) ?_
            refine lv_iconst (v := 0) hx hb dX5_target_77 (by decide) ?_
            obtain ⟨r7, hc7, hle7, h9⟩ := ox_ex h
            clear h
            refine kx_i (r := y6) (vx_runV (As := [.int 0]) (rest := []) ⟨hx, hb, hml, hown, hts⟩ (c_f_X5_mark l hl0 dC dI cy ek a k (lI lZ 1 0) r6.2.1 r7 hc7 z H.size) (cwV 1 hts g_f_X5_target_X5_mark_V303 rfl rfl rfl hd_f_X5_mark ⟨Nat.le_of_ble_eq_true rfl, Nat.le_of_ble_eq_true rfl⟩) ⟨nb_blindF, va_recv hK hP (ci := 4) (q0 := 40) rfl rfl, (kx_pre hK hG hE hT hA hP hD hS)⟩ rfl rfl hl.1 rfl (lv_room (Nat.le_of_ble_eq_true rfl)) dX5_target_78 ⟨Nat.le_trans (Nat.add_le_add_left hle7.1 _) (Nat.le_of_eq hc), Nat.le_trans (Nat.add_le_add_left hle7.2 _) (Nat.le_of_eq hs)⟩) hK hA hzk hP hD hS (by decide) hno hlocks ?_
            rcases h9 with ⟨h00, y7, hny7, hy⟩ | ⟨h00, hy⟩
            · subst hy
              have h := hny7
              refine Or.inl ⟨h00, fun z H locs hz7 hzk hP hD hS => ?_⟩
              replace hc := (Nat.add_assoc _ _ _).trans hc
              replace hs := (Nat.add_assoc _ _ _).trans hs
              refine lv_pop hx hb dX5_target_81 rfl ?_
              refine lv_aload_n hx hb dX5_target_82 rfl (lv_at hl 1 rfl) ?_
              refine lv_iconst (v := 0) hx hb dX5_target_83 (by decide) ?_
              obtain ⟨r8, hc8, hle8, h9⟩ := ox_ex h
              clear h
              refine kx_i (r := y7) (vx_runV (As := [.int 0]) (rest := []) ⟨hx, hb, hml, hown, hts⟩ (c_f_X5_mark l hl0 dC dI cy ek a k (lI lZ 1 0) r7.2.1 r8 hc8 z H.size) (cwV 1 hts g_f_X5_target_X5_mark_V303 rfl rfl rfl hd_f_X5_mark ⟨Nat.le_of_ble_eq_true rfl, Nat.le_of_ble_eq_true rfl⟩) ⟨nb_blindF, va_recv hK hP (ci := 4) (q0 := 40) rfl rfl, (kx_pre hK hG hE hT hA hP hD hS)⟩ rfl rfl hl.1 rfl (lv_room (Nat.le_of_ble_eq_true rfl)) dX5_target_84 ⟨Nat.le_trans (Nat.add_le_add_left hle8.1 _) (Nat.le_of_eq hc), Nat.le_trans (Nat.add_le_add_left hle8.2 _) (Nat.le_of_eq hs)⟩) hK hA hzk hP hD hS (by decide) hno hlocks ?_
              rcases h9 with ⟨h00, y8, hny8, hy⟩ | ⟨h00, hy⟩
              · subst hy
                have h := hny8
                refine Or.inl ⟨h00, fun z H locs hz8 hzk hP hD hS => ?_⟩
                replace hc := (Nat.add_assoc _ _ _).trans hc
                replace hs := (Nat.add_assoc _ _ _).trans hs
                refine lv_pop hx hb dX5_target_87 rfl ?_
                refine lv_iconst (v := 0) hx hb dX5_target_88 (by decide) ?_
                refine lv_istore (lv' := [(4, .int 0), (3, .int r3.1.2), (0, .ref (a 40)), (2, .int (L.1 2))]) hx hb dX5_target_89 hl (by decide) rfl (fun ls hl => ?_)
                exact ih.2.2.2.1 z _ _ (lI (lI L 3 r3.1.2) 4 0) r8.2.1 _ h hzk hc hs H locs ls hP hD hS (lv_sub hl [2, 1, 0] rfl)
              · subst hy
                exact Or.inr ⟨h00, rfl, hc, hs⟩
            · subst hy
              exact Or.inr ⟨h00, rfl, hc, hs⟩
          · subst hy
            exact Or.inr ⟨h00, rfl, hc, hs⟩
        · subst hy
          exact Or.inr ⟨h00, rfl, hc, hs⟩
      · intro z cells slots L σ r h hzk hc hs H locs ls hP hD hS hl
        rw [f_X5_target] at h
        refine lv_aload_n hx hb dX5_target_42 rfl (lv_at hl 0 rfl) ?_
        refine lv_iconst (v := 5) hx hb dX5_target_43 (by decide) ?_
        refine lv_iload_n hx hb dX5_target_44 rfl (lv_at hl 2 rfl) ?_
        obtain ⟨r1, hc1, hle1, h9⟩ := ox_ex h
        clear h
        refine kx_v (vx_runV (As := [.int 5, .int (L.1 3)]) (rest := []) ⟨hx, hb, hml, hown, hts⟩ (c_f_X5_refuse l hl0 dC dI cy ek a k (lI (lI lZ 1 5) 2 ((L.1 3))) σ r1 hc1 z H.size) (cwV 2 hts g_f_X5_target_X5_refuse_V125 rfl rfl rfl hd_f_X5_refuse ⟨Nat.le_of_ble_eq_true rfl, Nat.le_of_ble_eq_true rfl⟩) ⟨nb_blindF, va_recv hK hP (ci := 4) (q0 := 40) rfl rfl, (kx_pre hK hG hE hT hA hP hD hS)⟩ rfl rfl hl.1 rfl (lv_room (Nat.le_of_ble_eq_true rfl)) dX5_target_45 ⟨Nat.le_trans (Nat.add_le_add_left hle1.1 _) (Nat.le_of_eq hc), Nat.le_trans (Nat.add_le_add_left hle1.2 _) (Nat.le_of_eq hs)⟩) hK hA hzk hP hD hS (by decide) hno hlocks ?_
        rcases h9 with ⟨h00, y1, hny1, hy⟩ | ⟨h00, hy⟩
        · subst hy
          have h := hny1
          refine Or.inl ⟨h00, fun u H locs hz1 hzk hP hD hS => ?_⟩
          obtain rfl := (zk_nil hz1).symm
          replace hc := (Nat.add_assoc _ _ _).trans hc
          replace hs := (Nat.add_assoc _ _ _).trans hs
          exact ih.2.1 z _ _ L r1.2.1 _ h hzk hc hs H locs ls hP hD hS (lv_sub hl [0, 1] rfl)
        · subst hy
          exact Or.inr ⟨h00, rfl, hc, hs⟩
      · intro z cells slots L σ r h hzk hc hs H locs ls hP hD hS hl
        rw [f_X5_target] at h
        refine lv_iload hx hb dX5_target_91 (lv_at hl 2 rfl) ?_
        refine lv_ldc (v := 32768) hx hb hown (hts _ (List.mem_cons_of_mem _ (List.mem_append_left _ (List.mem_append_left _ (List.mem_of_getElem? (i := 15) rfl))))) dX5_target_93 ?_
        refine lv_icmp_gt (tgt := 176) hx hb dX5_target_95 (by decide) (fun c1 => ?_) (fun c1 => ?_)
        · rw [if_pos c1] at h
          exact ih.2.2.2.2.1 z _ _ L σ _ h hzk hc hs H locs ls hP hD hS (lv_sub hl [1] rfl)
        · rw [if_neg c1] at h
          refine lv_aload_n hx hb dX5_target_98 rfl (lv_at hl 0 rfl) ?_
          refine hg_40_0 hx hb hts in_f_X5_target_X5 hown hK hP (hts _ (List.mem_cons_of_mem _ (List.mem_append_left _ (List.mem_append_left _ (List.mem_of_getElem? (i := 4) rfl))))) dX5_target_99 ?_
          refine hg_37_2n hx hb hts in_f_X5_target_X2 hown hK hP (va_Nw.use rfl (hG.1 _ (List.mem_of_getElem? (i := 52) rfl))) dX5_target_102 ?_
          refine lv_bipush (v := 10) hx hb dX5_target_105 (by decide) ?_
          refine lv_icmp_eq (tgt := 122) hx hb dX5_target_107 (by decide) (fun c2 => ?_) (fun c2 => ?_)
          · rw [if_pos c2] at h
            exact ih.2.2.2.2.2.1 z _ _ L σ _ h hzk hc hs H locs ls hP hD hS (lv_sub hl [0, 1, 2] rfl)
          · rw [if_neg c2] at h
            refine lv_aload_n hx hb dX5_target_110 rfl (lv_at hl 0 rfl) ?_
            refine hg_40_0 hx hb hts in_f_X5_target_X5 hown hK hP (hts _ (List.mem_cons_of_mem _ (List.mem_append_left _ (List.mem_append_left _ (List.mem_of_getElem? (i := 4) rfl))))) dX5_target_111 ?_
            refine hg_37_2n hx hb hts in_f_X5_target_X2 hown hK hP (va_Nw.use rfl (hG.1 _ (List.mem_of_getElem? (i := 52) rfl))) dX5_target_114 ?_
            refine lv_bipush (v := 12) hx hb dX5_target_117 (by decide) ?_
            refine lv_icmp_ne (tgt := 176) hx hb dX5_target_119 (by decide) (fun c3 => ?_) (fun c3 => ?_)
            · rw [if_neg c3] at h
              exact ih.2.2.2.2.1 z _ _ L σ _ h hzk hc hs H locs ls hP hD hS (lv_sub hl [1] rfl)
            · rw [if_pos c3] at h
              exact ih.2.2.2.2.2.1 z _ _ L σ _ h hzk hc hs H locs ls hP hD hS (lv_sub hl [0, 1, 2] rfl)
      · intro z cells slots L σ r h hzk hc hs H locs ls hP hD hS hl
        rw [f_X5_target] at h
        refine lv_iload_n hx hb dX5_target_176 rfl (lv_at hl 0 rfl) ?_
        obtain rfl := Option.some.inj h
        subst hc
        subst hs
        exact xr_i hx hb hr hK hzk hP hD hS hlocks dX5_target_177
      · intro z cells slots L σ r h hzk hc hs H locs ls hP hD hS hl
        rw [f_X5_target] at h
        refine lv_aload_n hx hb dX5_target_122 rfl (lv_at hl 0 rfl) ?_
        obtain ⟨r1, hc1, hle1, h9⟩ := ox_ex h
        clear h
        refine kx_i (vx_runV (As := []) (rest := []) ⟨hx, hb, hml, hown, hts⟩ (c_f_X5_part l hl0 dC dI cy ek a k lZ σ r1 hc1 z H.size) (cwV 0 hts g_f_X5_target_X5_part_V309 rfl rfl rfl hd_f_X5_part ⟨Nat.le_of_ble_eq_true rfl, Nat.le_of_ble_eq_true rfl⟩) ⟨nb_blindF, va_recv hK hP (ci := 4) (q0 := 40) rfl rfl, (kx_pre hK hG hE hT hA hP hD hS)⟩ rfl rfl hl.1 rfl (lv_room (Nat.le_of_ble_eq_true rfl)) dX5_target_123 ⟨Nat.le_trans (Nat.add_le_add_left hle1.1 _) (Nat.le_of_eq hc), Nat.le_trans (Nat.add_le_add_left hle1.2 _) (Nat.le_of_eq hs)⟩) hK hA hzk hP hD hS (by decide) hno hlocks ?_
        rcases h9 with ⟨h00, y1, hny1, hy⟩ | ⟨h00, hy⟩
        · subst hy
          have h := hny1
          refine Or.inl ⟨h00, fun z H locs hz1 hzk hP hD hS => ?_⟩
          replace hc := (Nat.add_assoc _ _ _).trans hc
          replace hs := (Nat.add_assoc _ _ _).trans hs
          refine lv_istore (lv' := [(5, .int r1.1.2), (0, .ref (a 40)), (3, .int (L.1 3)), (4, .int (L.1 4))]) hx hb dX5_target_126 hl (by decide) rfl (fun ls hl => ?_)
          refine lv_aload_n hx hb dX5_target_128 rfl (lv_at hl 1 rfl) ?_
          refine lv_iload hx hb dX5_target_129 (lv_at hl 0 rfl) ?_
          obtain ⟨r2, hc2, hle2, h9⟩ := ox_ex h
          clear h
          refine kx_i (r := y1) (vx_runV (As := [.int r1.1.2]) (rest := []) ⟨hx, hb, hml, hown, hts⟩ (c_f_X5_mark l hl0 dC dI cy ek a k (lI lZ 1 r1.1.2) r1.2.1 r2 hc2 z H.size) (cwV 1 hts g_f_X5_target_X5_mark_V303 rfl rfl rfl hd_f_X5_mark ⟨Nat.le_of_ble_eq_true rfl, Nat.le_of_ble_eq_true rfl⟩) ⟨nb_blindF, va_recv hK hP (ci := 4) (q0 := 40) rfl rfl, (kx_pre hK hG hE hT hA hP hD hS)⟩ rfl rfl hl.1 rfl (lv_room (Nat.le_of_ble_eq_true rfl)) dX5_target_131 ⟨Nat.le_trans (Nat.add_le_add_left hle2.1 _) (Nat.le_of_eq hc), Nat.le_trans (Nat.add_le_add_left hle2.2 _) (Nat.le_of_eq hs)⟩) hK hA hzk hP hD hS (by decide) hno hlocks ?_
          rcases h9 with ⟨h00, y2, hny2, hy⟩ | ⟨h00, hy⟩
          · subst hy
            have h := hny2
            refine Or.inl ⟨h00, fun z H locs hz2 hzk hP hD hS => ?_⟩
            replace hc := (Nat.add_assoc _ _ _).trans hc
            replace hs := (Nat.add_assoc _ _ _).trans hs
            refine lv_pop hx hb dX5_target_134 rfl ?_
            refine lv_aload_n hx hb dX5_target_135 rfl (lv_at hl 1 rfl) ?_
            refine hg_40_10 hx hb hts in_f_X5_target_X5 hown hK hP (hts _ (List.mem_cons_of_mem _ (List.mem_append_left _ (List.mem_append_left _ (List.mem_of_getElem? (i := 19) rfl))))) dX5_target_136 ?_
            refine lv_iload_n hx hb dX5_target_139 rfl (lv_at hl 2 rfl) ?_
            refine lv_iconst (v := 2) hx hb dX5_target_140 (by decide) ?_
            refine lv_iadd hx hb dX5_target_141 ?_
            refine lv_dup2_11 hx hb dX5_target_142 rfl rfl ?_
            obtain ⟨q3, h⟩ := kr_ite1 h
            refine hl_41 hx hb hK hP q3 dX5_target_143 ?_
            refine lv_iload hx hb dX5_target_144 (lv_at hl 0 rfl) ?_
            refine lv_bipush (v := 97) hx hb dX5_target_146 (by decide) ?_
            refine lv_icmp_ne (tgt := 155) hx hb dX5_target_148 (by decide) (fun c4 => ?_) (fun c4 => ?_)
            · rw [if_neg c4] at h
              exact ih.2.2.2.2.2.2.1 z _ _ (lI (lI L 100 ((r2.2.1.2.2.1 41 ((((L.1 3)) + 2)).toNatClampNeg))) 101 ((((L.1 3)) + 2))) r2.2.1 _ h hzk hc hs H locs ls hP hD hS (lv_sub hl [1, 2, 3] rfl)
            · rw [if_pos c4] at h
              refine lv_iconst (v := 2) hx hb dX5_target_151 (by decide) ?_
              refine lv_goto (tgt := 156) hx hb dX5_target_152 (by decide) ?_
              exact ih.2.2.2.2.2.2.2 z _ _ (lI (lI (lI L 100 2) 101 ((r2.2.1.2.2.1 41 ((((L.1 3)) + 2)).toNatClampNeg))) 102 ((((L.1 3)) + 2))) r2.2.1 _ h hzk hc hs H locs ls hP hD hS (lv_sub hl [1, 2, 3] rfl)
          · subst hy
            exact Or.inr ⟨h00, rfl, hc, hs⟩
        · subst hy
          exact Or.inr ⟨h00, rfl, hc, hs⟩
      · intro z cells slots L σ r h hzk hc hs H locs ls hP hD hS hl
        rw [f_X5_target] at h
        refine lv_iconst (v := 1) hx hb dX5_target_155 (by decide) ?_
        exact ih.2.2.2.2.2.2.2 z _ _ (lI (lI (lI L 100 1) 101 ((L.1 100))) 102 ((L.1 101))) σ _ h hzk hc hs H locs ls hP hD hS (lv_sub hl [0, 1, 2] rfl)
      · intro z cells slots L σ r h hzk hc hs H locs ls hP hD hS hl
        rw [f_X5_target] at h
        refine lv_iadd hx hb dX5_target_156 ?_
        obtain ⟨q1, h⟩ := kr_ite1 h
        refine hs_41 hx hb hK hP hD hS q1 dX5_target_157 (fun H locs hP hD hS => ?_)
        refine lv_aload_n hx hb dX5_target_158 rfl (lv_at hl 0 rfl) ?_
        refine hg_40_10 hx hb hts in_f_X5_target_X5 hown hK hP (hts _ (List.mem_cons_of_mem _ (List.mem_append_left _ (List.mem_append_left _ (List.mem_of_getElem? (i := 19) rfl))))) dX5_target_159 ?_
        refine lv_iload_n hx hb dX5_target_162 rfl (lv_at hl 1 rfl) ?_
        refine lv_iconst (v := 3) hx hb dX5_target_163 (by decide) ?_
        refine lv_iadd hx hb dX5_target_164 ?_
        refine lv_dup2_11 hx hb dX5_target_165 rfl rfl ?_
        obtain ⟨q2, h⟩ := kr_ite1 h
        refine hl_41 hx hb hK hP q2 dX5_target_166 ?_
        refine lv_iconst (v := 1) hx hb dX5_target_167 (by decide) ?_
        refine lv_iadd hx hb dX5_target_168 ?_
        obtain ⟨q3, h⟩ := kr_ite1 h
        refine hs_41 hx hb hK hP hD hS q3 dX5_target_169 (fun H locs hP hD hS => ?_)
        refine lv_iinc (v := ((L.1 4)) + 1) (lv' := [(4, .int (((L.1 4)) + 1)), (0, .ref (a 40)), (3, .int (L.1 3))]) hx hb dX5_target_170 hl (k := 2) rfl rfl (by decide) rfl (fun ls hl => ?_)
        refine lv_goto (tgt := 91) hx hb dX5_target_173 (by decide) ?_
        exact ih.2.2.2.1 z _ _ (lI L 4 ((((L.1 4)) + 1))) (uA (uA σ 41 ((L.1 102)).toNatClampNeg ((((L.1 101)) + ((L.1 100))))) 41 ((((L.1 3)) + 3)).toNatClampNeg (((((uA σ 41 ((L.1 102)).toNatClampNeg ((((L.1 101)) + ((L.1 100))))).2.2.1 41 ((((L.1 3)) + 3)).toNatClampNeg)) + 1))) _ h hzk hc hs H locs ls hP hD hS (lv_sub hl [1, 2, 0] rfl)
  exact (blk k0).1 z 0 0 L0 σ0 r0 h0 (zk_rf _ _) ((Nat.zero_add _).trans hmc) ((Nat.zero_add _).trans hms) s.heap [] ls hP hD hS hl
/-! X5_postponeTarget -/
def f_X5_postponeTarget : Nat → Nat → LV → CS → Option RS
  | 0, _, _, _ => none
  | k + 1, 0, L, σ => oP (sPp (uI σ 4013 0)) (fun b1 => oP (sPp (uI σ 4013 0)) (fun b2 => ox (f_X5_keep__A0 k 0 (lI (lI (lB lZ 1 ((sKd (uI σ 4013 0) b1))) 2 ((L.1 1))) 3 (((((uI σ 4013 0).1 (fP b2 1))) - ((L.1 1))))) (uI σ 4013 0)) (fun r3 => oP (sPp r3.2.1) (fun b4 => ox (f_X2_advance k 0 lZ (uI r3.2.1 (fP b4 1) ((L.1 1)))) (fun r5 => if ((r5.2.1.1 3702)) = 10 then (f_X5_postponeTarget k 1 L r5.2.1) else (ox (f_X5_refuse k 0 (lI (lI lZ 1 5) 2 ((σ.1 3703))) r5.2.1) (fun r7 => f_X5_postponeTarget k 1 L r7.2.1)))))))
  | k + 1, 1, L, σ => some ((0, 0), σ, (0, 0))
  | _ + 1, _ + 2, _, _ => none
def o_f_X5_postponeTarget : List Cond := [.fieldLink RX5 18 "SetHouse$Parser" "lex" "LSetHouse$Lexer;", .fieldLink RX5 115 "SetHouse$Parser" "kept" "I", .fieldLink RX5 93 "SetHouse$Parser" "p" "LSetHouse$Program;", .methodLink RX5 335 yX5_keep, .instanceMethod yX5_keep, .selects RX5 yX5_keep yX5_keep, .initialized RX5, .methodLink RX5 30 yX2_advance, .instanceMethod yX2_advance, .selects RX2 yX2_advance yX2_advance, .initialized RX2, .methodLink RX5 125 yX5_refuse, .instanceMethod yX5_refuse, .selects RX5 yX5_refuse yX5_refuse]
theorem o_f_X5_postponeTarget_good : o_f_X5_postponeTarget.all goodWord = true := by decide +kernel
def p_f_X5_postponeTarget : List Cond := o_f_X5_postponeTarget ++ ((.code yX5_keep cX5_keep 4 none :: p_f_X5_keep__A0) ++ ((.code yX2_advance cX2_advance 7 none :: p_f_X2_advance) ++ ((.code yX5_refuse cX5_refuse 3 none :: p_f_X5_refuse) ++ [])))
theorem p_f_X5_postponeTarget_good : p_f_X5_postponeTarget.all goodWord = true := nb_all2 o_f_X5_postponeTarget_good (nb_all2 (nb_allc (by decide +kernel) p_f_X5_keep__A0_good) (nb_all2 (nb_allc (by decide +kernel) p_f_X2_advance_good) (nb_all2 (nb_allc (by decide +kernel) p_f_X5_refuse_good) rfl)))
def w_f_X5_postponeTarget : List Cond := .code yX5_postponeTarget cX5_postponeTarget 3 none :: (p_f_X5_postponeTarget ++ fC)
theorem w_f_X5_postponeTarget_good : w_f_X5_postponeTarget.all goodWord = true := nb_allc (by decide +kernel) (nb_all2 p_f_X5_postponeTarget_good fC_good)
theorem in_f_X5_postponeTarget_X2 : ∀ w ∈ wsX20, w ∈ w_f_X5_postponeTarget := fun _ h => List.mem_cons_of_mem _ (List.mem_append_right _ (List.mem_append_right _ (List.mem_append_right _ (List.mem_append_left _ h))))
theorem in_f_X5_postponeTarget_X5 : ∀ w ∈ wsX50, w ∈ w_f_X5_postponeTarget := fun _ h => List.mem_cons_of_mem _ (List.mem_append_right _ (List.mem_append_right _ (List.mem_append_right _ (List.mem_append_right _ (List.mem_append_right _ (List.mem_append_left _ h))))))
theorem in_f_X5_postponeTarget_X7 : ∀ w ∈ wsX70, w ∈ w_f_X5_postponeTarget := fun _ h => List.mem_cons_of_mem _ (List.mem_append_right _ (List.mem_append_right _ (List.mem_append_right _ (List.mem_append_right _ (List.mem_append_right _ (List.mem_append_right _ (List.mem_append_right _ (List.mem_append_left _ h))))))))
theorem hd_f_X5_postponeTarget : yX5_postponeTarget.cls = RX5 ∧ yX5_postponeTarget.cls ≠ "java/lang/invoke/MethodHandle" ∧ yX5_postponeTarget.cls ≠ "java/lang/invoke/VarHandle" ∧ (parseMethodDescriptor yX5_postponeTarget.desc).map (fun d => d.parameters.length) = some 1 := by decide +kernel
theorem gg_f_X5_postponeTarget_X2_advance : GoodIn w_f_X5_postponeTarget w_f_X2_advance := goodIn_sub (fun w h => (List.mem_cons.mp h).elim (fun e => (List.mem_cons_of_mem _ (List.mem_append_left _ (List.mem_append_right _ (List.mem_append_right _ (List.mem_append_left _ (List.mem_cons.mpr (Or.inl e)))))))) (fun h => (List.mem_append.mp h).elim (fun h => (List.mem_cons_of_mem _ (List.mem_append_left _ (List.mem_append_right _ (List.mem_append_right _ (List.mem_append_left _ (List.mem_cons_of_mem _ h))))))) (fun h => List.mem_cons_of_mem _ (List.mem_append_right _ h)))) w_f_X2_advance_good
theorem g_f_X5_postponeTarget_X2_advance_V30 : GoodIn w_f_X5_postponeTarget (wsV RX5 30 RX2 yX2_advance w_f_X2_advance) := goodIn_app (nb_g4 (List.mem_cons_of_mem _ (List.mem_append_left _ (List.mem_append_left _ (List.mem_of_getElem? (i := 7) rfl)))) (List.mem_cons_of_mem _ (List.mem_append_left _ (List.mem_append_left _ (List.mem_of_getElem? (i := 8) rfl)))) (List.mem_cons_of_mem _ (List.mem_append_left _ (List.mem_append_left _ (List.mem_of_getElem? (i := 9) rfl)))) (List.mem_cons_of_mem _ (List.mem_append_left _ (List.mem_append_left _ (List.mem_of_getElem? (i := 10) rfl)))) (by decide +kernel)) gg_f_X5_postponeTarget_X2_advance
theorem gg_f_X5_postponeTarget_X5_keep__A0 : GoodIn w_f_X5_postponeTarget w_f_X5_keep__A0 := goodIn_sub (fun w h => (List.mem_cons.mp h).elim (fun e => (List.mem_cons_of_mem _ (List.mem_append_left _ (List.mem_append_right _ (List.mem_append_left _ (List.mem_cons.mpr (Or.inl e))))))) (fun h => (List.mem_append.mp h).elim (fun h => (List.mem_cons_of_mem _ (List.mem_append_left _ (List.mem_append_right _ (List.mem_append_left _ (List.mem_cons_of_mem _ h)))))) (fun h => List.mem_cons_of_mem _ (List.mem_append_right _ h)))) w_f_X5_keep__A0_good
theorem g_f_X5_postponeTarget_X5_keep__A0_V335 : GoodIn w_f_X5_postponeTarget (wsV RX5 335 RX5 yX5_keep w_f_X5_keep__A0) := goodIn_app (nb_g4 (List.mem_cons_of_mem _ (List.mem_append_left _ (List.mem_append_left _ (List.mem_of_getElem? (i := 3) rfl)))) (List.mem_cons_of_mem _ (List.mem_append_left _ (List.mem_append_left _ (List.mem_of_getElem? (i := 4) rfl)))) (List.mem_cons_of_mem _ (List.mem_append_left _ (List.mem_append_left _ (List.mem_of_getElem? (i := 5) rfl)))) (List.mem_cons_of_mem _ (List.mem_append_left _ (List.mem_append_left _ (List.mem_of_getElem? (i := 6) rfl)))) (by decide +kernel)) gg_f_X5_postponeTarget_X5_keep__A0
theorem gg_f_X5_postponeTarget_X5_refuse : GoodIn w_f_X5_postponeTarget w_f_X5_refuse := goodIn_sub (fun w h => (List.mem_cons.mp h).elim (fun e => (List.mem_cons_of_mem _ (List.mem_append_left _ (List.mem_append_right _ (List.mem_append_right _ (List.mem_append_right _ (List.mem_append_left _ (List.mem_cons.mpr (Or.inl e))))))))) (fun h => (List.mem_append.mp h).elim (fun h => (List.mem_cons_of_mem _ (List.mem_append_left _ (List.mem_append_right _ (List.mem_append_right _ (List.mem_append_right _ (List.mem_append_left _ (List.mem_cons_of_mem _ h)))))))) (fun h => List.mem_cons_of_mem _ (List.mem_append_right _ h)))) w_f_X5_refuse_good
theorem g_f_X5_postponeTarget_X5_refuse_V125 : GoodIn w_f_X5_postponeTarget (wsV RX5 125 RX5 yX5_refuse w_f_X5_refuse) := goodIn_app (nb_g4 (List.mem_cons_of_mem _ (List.mem_append_left _ (List.mem_append_left _ (List.mem_of_getElem? (i := 11) rfl)))) (List.mem_cons_of_mem _ (List.mem_append_left _ (List.mem_append_left _ (List.mem_of_getElem? (i := 12) rfl)))) (List.mem_cons_of_mem _ (List.mem_append_left _ (List.mem_append_left _ (List.mem_of_getElem? (i := 13) rfl)))) (List.mem_cons_of_mem _ (List.mem_append_left _ (List.mem_append_left _ (List.mem_of_getElem? (i := 6) rfl)))) (by decide +kernel)) gg_f_X5_postponeTarget_X5_refuse
set_option maxHeartbeats 40000000 in
set_option maxRecDepth 100000 in
theorem c_f_X5_postponeTarget (l : Launch) (hl0 : l.stackTraces = false) (dC : Nat → ClassId) (dI : Nat → Nat → Nat) (cy : Nat → ClassId) (ek a : Nat → Nat) (k0 : Nat) (L0 : LV) (σ0 : CS) (r0 : RS) (h0 : f_X5_postponeTarget k0 0 L0 σ0 = some r0) (z : Nat → Nat) (sz : Nat) : vx_Met l yX5_postponeTarget w_f_X5_postponeTarget ({ frames := 7, cells := r0.2.2.1, slots := r0.2.2.2, locals := 137 }) (va_Pc [.ref (a 40), .int (L0.1 1)] (nInF (dC, dI) cy ek sz (vC cy a z σ0))) (xV dC dI cy a (va_A (vC cy a z σ0) sz) [42] z r0) (xX dC dI cy a (va_A (vC cy a z σ0) sz) [42] z r0) r0.2.2.1 r0.2.2.2 (va_A (vC cy a z σ0) sz) := by
  refine vx_ofW (cc := cX5_postponeTarget) (maxL := 3) (ret := none) (by decide) rfl ?_
  intro p e s m args below meth c s₁ B hml hno hv
  obtain ⟨rfl, ⟨⟨hsz, hP, hK, hD0, hG⟩, hE⟩, hT⟩ := hv
  have hx := B.exec
  have hb := B.bytes
  have hr := B.returns
  have hts := atoms_spec (ws := w_f_X5_postponeTarget) B.pre
  have hown : s.vm.findClass RX5 = some m.cls := findClass_of_methodNamed B.named
  have hlocks := B.notSynchronized
  subst hsz
  have hD := hD0.self (sz := s.heap.size)
  generalize hAe : va_A (vC cy a z σ0) s.heap.size = A at hD hE hT ⊢
  have hA : ∀ q : Nat, s.heap.size ≤ q → A q := fun q h => by rw [← hAe]; exact Or.inr h
  have hS : va_S A s.heap s.heap [] := va_S.rf
  have hl := lv_entry ([.ref (a 40), .int (L0.1 1)]) (n := 3) (Nat.le_of_ble_eq_true rfl)
  rw [lg_entry_eq]
  generalize (lg_sl ([.ref (a 40), .int (L0.1 1)]) ++ List.replicate (3 - (lg_sl ([.ref (a 40), .int (L0.1 1)])).length) Slot.unset).toArray = ls at hl ⊢
  have hl : lv_has ls 3 [(0, .ref (a 40)), (1, .int (L0.1 1))] := hl
  generalize hmc : r0.2.2.1 = mc
  generalize hms : r0.2.2.2 = ms
  have blk : ∀ k : Nat, (bX p l e (headSpec w_f_X5_postponeTarget ({ frames := 7, cells := mc, slots := ms, locals := 137 })).room s m #[.ref (a 40), .int (L0.1 1)] below meth c dC dI cy a A (fun r => vx_MQ below (xV dC dI cy a A [42] z r) (xX dC dI cy a A [42] z r) #[.ref (a 40), .int (L0.1 1)] s mc ms A) [42] z mc ms 3 (f_X5_postponeTarget k 0) (fun z L => [(0, .ref (a 40)), (1, .int (L.1 1))]) 0 (fun z L => [])) ∧ (bX p l e (headSpec w_f_X5_postponeTarget ({ frames := 7, cells := mc, slots := ms, locals := 137 })).room s m #[.ref (a 40), .int (L0.1 1)] below meth c dC dI cy a A (fun r => vx_MQ below (xV dC dI cy a A [42] z r) (xX dC dI cy a A [42] z r) #[.ref (a 40), .int (L0.1 1)] s mc ms A) [42] z mc ms 3 (f_X5_postponeTarget k 1) (fun z L => []) 67 (fun z L => [])) := by
    intro k
    induction k with
    | zero => exact ⟨fun z c1 c2 L σ r h => (by cases h), fun z c1 c2 L σ r h => (by cases h)⟩
    | succ k ih =>
      refine ⟨?_, ?_⟩
      · intro z cells slots L σ r h hzk hc hs H locs ls hP hD hS hl
        rw [f_X5_postponeTarget] at h
        refine lv_aload_n hx hb dX5_postponeTarget_0 rfl (lv_at hl 0 rfl) ?_
        refine hg_40_0 hx hb hts in_f_X5_postponeTarget_X5 hown hK hP (hts _ (List.mem_cons_of_mem _ (List.mem_append_left _ (List.mem_append_left _ (List.mem_of_getElem? (i := 0) rfl))))) dX5_postponeTarget_1 ?_
        refine hg_37_3n hx hb hts in_f_X5_postponeTarget_X2 hown hK hP (va_Nw.use rfl (hG.1 _ (List.mem_of_getElem? (i := 54) rfl))) dX5_postponeTarget_4 ?_
        refine lv_istore_n (lv' := [(2, .int (σ.1 3703)), (0, .ref (a 40)), (1, .int (L.1 1))]) hx hb dX5_postponeTarget_7 rfl hl (by decide) rfl (fun ls hl => ?_)
        refine lv_aload_n hx hb dX5_postponeTarget_8 rfl (lv_at hl 1 rfl) ?_
        refine lv_iconst (v := 0) hx hb dX5_postponeTarget_9 (by decide) ?_
        refine hp_40_13 hx hb hts in_f_X5_postponeTarget_X5 hown hK hP hD hS (hts _ (List.mem_cons_of_mem _ (List.mem_append_left _ (List.mem_append_left _ (List.mem_of_getElem? (i := 1) rfl))))) dX5_postponeTarget_10 (fun H locs hP hD hS => ?_)
        refine lv_aload_n hx hb dX5_postponeTarget_13 rfl (lv_at hl 1 rfl) ?_
        refine lv_aload_n hx hb dX5_postponeTarget_14 rfl (lv_at hl 1 rfl) ?_
        obtain ⟨b1, hb1, h⟩ := oP_ex h
        refine hgq_40_2 hx hb hts in_f_X5_postponeTarget_X5 hown hK hP (hts _ (List.mem_cons_of_mem _ (List.mem_append_left _ (List.mem_append_left _ (List.mem_of_getElem? (i := 2) rfl))))) hb1 dX5_postponeTarget_15 ?_
        refine hg_P_0n b1 hx hb hts in_f_X5_postponeTarget_X7 hown hK hP (va_Nw.use rfl (hG.1 _ (List.mem_of_getElem? (i := 67) rfl))) dX5_postponeTarget_18 ?_
        refine lv_iload_n hx hb dX5_postponeTarget_21 rfl (lv_at hl 2 rfl) ?_
        refine lv_aload_n hx hb dX5_postponeTarget_22 rfl (lv_at hl 1 rfl) ?_
        obtain ⟨b2, hb2, h⟩ := oP_ex h
        refine hgq_40_2 hx hb hts in_f_X5_postponeTarget_X5 hown hK hP (hts _ (List.mem_cons_of_mem _ (List.mem_append_left _ (List.mem_append_left _ (List.mem_of_getElem? (i := 2) rfl))))) hb2 dX5_postponeTarget_23 ?_
        refine hg_P_1n b2 hx hb hts in_f_X5_postponeTarget_X7 hown hK hP (va_Nw.use rfl (hG.1 _ (List.mem_of_getElem? (i := 68) rfl))) dX5_postponeTarget_26 ?_
        refine lv_iload_n hx hb dX5_postponeTarget_29 rfl (lv_at hl 2 rfl) ?_
        refine lv_isub hx hb dX5_postponeTarget_30 ?_
        obtain ⟨r3, hc3, hle3, h9⟩ := ox_ex h
        clear h
        refine kx_v (vx_runV (As := [.ref (z (pR0 (sKd (uI σ 4013 0) b1))), .int (L.1 1), .int ((((uI σ 4013 0).1 (fP b2 1))) - ((L.1 1)))]) (rest := []) ⟨hx, hb, hml, hown, hts⟩ (c_f_X5_keep__A0 l hl0 dC dI cy ek a k (lI (lI (lB lZ 1 ((sKd (uI σ 4013 0) b1))) 2 ((L.1 1))) 3 (((((uI σ 4013 0).1 (fP b2 1))) - ((L.1 1))))) (uI σ 4013 0) r3 hc3 z H.size) (cwV 3 hts g_f_X5_postponeTarget_X5_keep__A0_V335 rfl rfl rfl hd_f_X5_keep__A0 ⟨Nat.le_of_ble_eq_true rfl, Nat.le_of_ble_eq_true rfl⟩) ⟨nb_blindF, va_recv hK hP (ci := 4) (q0 := 40) rfl rfl, (kx_pre hK hG hE hT hA hP hD hS)⟩ rfl rfl hl.1 rfl (lv_room (Nat.le_of_ble_eq_true rfl)) dX5_postponeTarget_31 ⟨Nat.le_trans (Nat.add_le_add_left hle3.1 _) (Nat.le_of_eq hc), Nat.le_trans (Nat.add_le_add_left hle3.2 _) (Nat.le_of_eq hs)⟩) hK hA hzk hP hD hS (by decide) hno hlocks ?_
        rcases h9 with ⟨h00, y3, hny3, hy⟩ | ⟨h00, hy⟩
        · subst hy
          have h := hny3
          refine Or.inl ⟨h00, fun z H locs hz3 hzk hP hD hS => ?_⟩
          replace hc := (Nat.add_assoc _ _ _).trans hc
          replace hs := (Nat.add_assoc _ _ _).trans hs
          refine lv_aload_n hx hb dX5_postponeTarget_34 rfl (lv_at hl 1 rfl) ?_
          obtain ⟨b4, hb4, h⟩ := oP_ex h
          refine hgq_40_2 hx hb hts in_f_X5_postponeTarget_X5 hown hK hP (hts _ (List.mem_cons_of_mem _ (List.mem_append_left _ (List.mem_append_left _ (List.mem_of_getElem? (i := 2) rfl))))) hb4 dX5_postponeTarget_35 ?_
          refine lv_iload_n hx hb dX5_postponeTarget_38 rfl (lv_at hl 2 rfl) ?_
          refine hp_P_1n b4 hx hb hts in_f_X5_postponeTarget_X7 hown hK hP hD hS (va_Nw.use rfl (hG.1 _ (List.mem_of_getElem? (i := 68) rfl))) dX5_postponeTarget_39 (fun H locs hP hD hS => ?_)
          refine lv_aload_n hx hb dX5_postponeTarget_42 rfl (lv_at hl 1 rfl) ?_
          refine hg_40_0 hx hb hts in_f_X5_postponeTarget_X5 hown hK hP (hts _ (List.mem_cons_of_mem _ (List.mem_append_left _ (List.mem_append_left _ (List.mem_of_getElem? (i := 0) rfl))))) dX5_postponeTarget_43 ?_
          obtain ⟨r5, hc5, hle5, h9⟩ := ox_ex h
          clear h
          refine kx_v (r := y3) (vx_runV (As := []) (rest := []) ⟨hx, hb, hml, hown, hts⟩ (c_f_X2_advance l hl0 dC dI cy ek a k lZ (uI r3.2.1 (fP b4 1) ((L.1 1))) r5 hc5 z H.size) (cwV 0 hts g_f_X5_postponeTarget_X2_advance_V30 rfl rfl rfl hd_f_X2_advance ⟨Nat.le_of_ble_eq_true rfl, Nat.le_of_ble_eq_true rfl⟩) ⟨nb_blindF, va_recv hK hP (ci := 2) (q0 := 37) rfl rfl, (kx_pre hK hG hE hT hA hP hD hS)⟩ rfl rfl hl.1 rfl (lv_room (Nat.le_of_ble_eq_true rfl)) dX5_postponeTarget_46 ⟨Nat.le_trans (Nat.add_le_add_left hle5.1 _) (Nat.le_of_eq hc), Nat.le_trans (Nat.add_le_add_left hle5.2 _) (Nat.le_of_eq hs)⟩) hK hA hzk hP hD hS (by decide) hno hlocks ?_
          rcases h9 with ⟨h00, y5, hny5, hy⟩ | ⟨h00, hy⟩
          · subst hy
            have h := hny5
            refine Or.inl ⟨h00, fun u H locs hz5 hzk hP hD hS => ?_⟩
            obtain rfl := (zk_nil hz5).symm
            replace hc := (Nat.add_assoc _ _ _).trans hc
            replace hs := (Nat.add_assoc _ _ _).trans hs
            refine lv_aload_n hx hb dX5_postponeTarget_49 rfl (lv_at hl 1 rfl) ?_
            refine hg_40_0 hx hb hts in_f_X5_postponeTarget_X5 hown hK hP (hts _ (List.mem_cons_of_mem _ (List.mem_append_left _ (List.mem_append_left _ (List.mem_of_getElem? (i := 0) rfl))))) dX5_postponeTarget_50 ?_
            refine hg_37_2n hx hb hts in_f_X5_postponeTarget_X2 hown hK hP (va_Nw.use rfl (hG.1 _ (List.mem_of_getElem? (i := 52) rfl))) dX5_postponeTarget_53 ?_
            refine lv_bipush (v := 10) hx hb dX5_postponeTarget_56 (by decide) ?_
            refine lv_icmp_eq (tgt := 67) hx hb dX5_postponeTarget_58 (by decide) (fun c6 => ?_) (fun c6 => ?_)
            · rw [if_pos c6] at h
              exact ih.2 z _ _ L r5.2.1 _ h hzk hc hs H locs ls hP hD hS (lv_sub hl [] rfl)
            · rw [if_neg c6] at h
              refine lv_aload_n hx hb dX5_postponeTarget_61 rfl (lv_at hl 1 rfl) ?_
              refine lv_iconst (v := 5) hx hb dX5_postponeTarget_62 (by decide) ?_
              refine lv_iload_n hx hb dX5_postponeTarget_63 rfl (lv_at hl 0 rfl) ?_
              obtain ⟨r7, hc7, hle7, h9⟩ := ox_ex h
              clear h
              refine kx_v (r := y5) (vx_runV (As := [.int 5, .int (σ.1 3703)]) (rest := []) ⟨hx, hb, hml, hown, hts⟩ (c_f_X5_refuse l hl0 dC dI cy ek a k (lI (lI lZ 1 5) 2 ((σ.1 3703))) r5.2.1 r7 hc7 z H.size) (cwV 2 hts g_f_X5_postponeTarget_X5_refuse_V125 rfl rfl rfl hd_f_X5_refuse ⟨Nat.le_of_ble_eq_true rfl, Nat.le_of_ble_eq_true rfl⟩) ⟨nb_blindF, va_recv hK hP (ci := 4) (q0 := 40) rfl rfl, (kx_pre hK hG hE hT hA hP hD hS)⟩ rfl rfl hl.1 rfl (lv_room (Nat.le_of_ble_eq_true rfl)) dX5_postponeTarget_64 ⟨Nat.le_trans (Nat.add_le_add_left hle7.1 _) (Nat.le_of_eq hc), Nat.le_trans (Nat.add_le_add_left hle7.2 _) (Nat.le_of_eq hs)⟩) hK hA hzk hP hD hS (by decide) hno hlocks ?_
              rcases h9 with ⟨h00, y7, hny7, hy⟩ | ⟨h00, hy⟩
              · subst hy
                have h := hny7
                refine Or.inl ⟨h00, fun u H locs hz7 hzk hP hD hS => ?_⟩
                obtain rfl := (zk_nil hz7).symm
                replace hc := (Nat.add_assoc _ _ _).trans hc
                replace hs := (Nat.add_assoc _ _ _).trans hs
                exact ih.2 z _ _ L r7.2.1 _ h hzk hc hs H locs ls hP hD hS (lv_sub hl [] rfl)
              · subst hy
                exact Or.inr ⟨h00, rfl, hc, hs⟩
          · subst hy
            exact Or.inr ⟨h00, rfl, hc, hs⟩
        · subst hy
          exact Or.inr ⟨h00, rfl, hc, hs⟩
      · intro z cells slots L σ r h hzk hc hs H locs ls hP hD hS hl
        rw [f_X5_postponeTarget] at h
        obtain rfl := Option.some.inj h
        subst hc
        subst hs
        exact xr_v hx hb hr hK hzk hP hD hS hlocks dX5_postponeTarget_67
  exact (blk k0).1 z 0 0 L0 σ0 r0 h0 (zk_rf _ _) ((Nat.zero_add _).trans hmc) ((Nat.zero_add _).trans hms) s.heap [] ls hP hD hS hl
/-! X7_words__P__z41 -/
def f_X7_words__P__z41 : Nat → Nat → LV → CS → Option RS
  | 0, _, _, _ => none
  | k + 1, 0, L, σ => ox (f_X7_widen__P k 0 (lI (lB lZ 0 ((L.2.2.1 0))) 1 ((L.1 3))) σ) (fun r1 => if ¬ ((L.1 2)) < 0 ∧ ¬ ((r1.2.1.1 (fP ((L.2.2.1 0)) 1))) < 0 ∧ ¬ ((L.1 3)) < 0 ∧ ((L.1 2)).toNatClampNeg + ((L.1 3)).toNatClampNeg ≤ (sN r1.2.1 41) ∧ ((r1.2.1.1 (fP ((L.2.2.1 0)) 1))).toNatClampNeg + ((L.1 3)).toNatClampNeg ≤ (sN r1.2.1 (pR0 ((sKd r1.2.1 ((L.2.2.1 0)))))) then (f_X7_words__P__z41 k 1 L (uF r1.2.1 (pR0 ((sKd r1.2.1 ((L.2.2.1 0))))) (va_cpy (r1.2.1.2.2.1 41) (r1.2.1.2.2.1 (pR0 ((sKd r1.2.1 ((L.2.2.1 0)))))) ((L.1 2)).toNatClampNeg ((r1.2.1.1 (fP ((L.2.2.1 0)) 1))).toNatClampNeg ((L.1 3)).toNatClampNeg))) else none)
  | k + 1, 1, L, σ => some ((0, 0), (uI σ (fP ((L.2.2.1 0)) 1) ((((σ.1 (fP ((L.2.2.1 0)) 1))) + ((L.1 3))))), (0, 0))
  | _ + 1, _ + 2, _, _ => none
def o_f_X7_words__P__z41 : List Cond := [.methodLink RX7 85 yX7_widen, .instanceMethod yX7_widen, .selects RX7 yX7_widen yX7_widen, .initialized RX7, .fieldLink RX7 9 "SetHouse$Program" "code" "[I", .fieldLink RX7 53 "SetHouse$Program" "size" "I", .methodLink RX7 76 arraycopyName, .native arraycopyName, .static arraycopyName, .initialized "java/lang/System"]
theorem o_f_X7_words__P__z41_good : o_f_X7_words__P__z41.all goodWord = true := by decide +kernel
def p_f_X7_words__P__z41 : List Cond := o_f_X7_words__P__z41 ++ ((.code yX7_widen cX7_widen 2 none :: p_f_X7_widen__P) ++ [])
theorem p_f_X7_words__P__z41_good : p_f_X7_words__P__z41.all goodWord = true := nb_all2 o_f_X7_words__P__z41_good (nb_all2 (nb_allc (by decide +kernel) p_f_X7_widen__P_good) rfl)
def w_f_X7_words__P__z41 : List Cond := .code yX7_words cX7_words 4 none :: (p_f_X7_words__P__z41 ++ fC)
theorem w_f_X7_words__P__z41_good : w_f_X7_words__P__z41.all goodWord = true := nb_allc (by decide +kernel) (nb_all2 p_f_X7_words__P__z41_good fC_good)
theorem in_f_X7_words__P__z41_X7 : ∀ w ∈ wsX70, w ∈ w_f_X7_words__P__z41 := fun _ h => List.mem_cons_of_mem _ (List.mem_append_right _ (List.mem_append_right _ (List.mem_append_right _ (List.mem_append_right _ (List.mem_append_right _ (List.mem_append_right _ (List.mem_append_right _ (List.mem_append_left _ h))))))))
theorem hd_f_X7_words__P__z41 : yX7_words.cls = RX7 ∧ yX7_words.cls ≠ "java/lang/invoke/MethodHandle" ∧ yX7_words.cls ≠ "java/lang/invoke/VarHandle" ∧ (parseMethodDescriptor yX7_words.desc).map (fun d => d.parameters.length) = some 3 := by decide +kernel
theorem gg_f_X7_words__P__z41_X7_widen__P : GoodIn w_f_X7_words__P__z41 w_f_X7_widen__P := goodIn_sub (fun w h => (List.mem_cons.mp h).elim (fun e => (List.mem_cons_of_mem _ (List.mem_append_left _ (List.mem_append_right _ (List.mem_append_left _ (List.mem_cons.mpr (Or.inl e))))))) (fun h => (List.mem_append.mp h).elim (fun h => (List.mem_cons_of_mem _ (List.mem_append_left _ (List.mem_append_right _ (List.mem_append_left _ (List.mem_cons_of_mem _ h)))))) (fun h => List.mem_cons_of_mem _ (List.mem_append_right _ h)))) w_f_X7_widen__P_good
theorem g_f_X7_words__P__z41_X7_widen__P_V85 : GoodIn w_f_X7_words__P__z41 (wsV RX7 85 RX7 yX7_widen w_f_X7_widen__P) := goodIn_app (nb_g4 (List.mem_cons_of_mem _ (List.mem_append_left _ (List.mem_append_left _ (List.mem_of_getElem? (i := 0) rfl)))) (List.mem_cons_of_mem _ (List.mem_append_left _ (List.mem_append_left _ (List.mem_of_getElem? (i := 1) rfl)))) (List.mem_cons_of_mem _ (List.mem_append_left _ (List.mem_append_left _ (List.mem_of_getElem? (i := 2) rfl)))) (List.mem_cons_of_mem _ (List.mem_append_left _ (List.mem_append_left _ (List.mem_of_getElem? (i := 3) rfl)))) (by decide +kernel)) gg_f_X7_words__P__z41_X7_widen__P
set_option maxHeartbeats 40000000 in
set_option maxRecDepth 100000 in
theorem c_f_X7_words__P__z41 (l : Launch) (hl0 : l.stackTraces = false) (dC : Nat → ClassId) (dI : Nat → Nat → Nat) (cy : Nat → ClassId) (ek a : Nat → Nat) (k0 : Nat) (L0 : LV) (σ0 : CS) (r0 : RS) (h0 : f_X7_words__P__z41 k0 0 L0 σ0 = some r0) (z : Nat → Nat) (sz : Nat) : vx_Met l yX7_words w_f_X7_words__P__z41 ({ frames := 7, cells := r0.2.2.1, slots := r0.2.2.2, locals := 121 }) (va_Pc [.ref (a (pA (L0.2.2.1 0))), .ref (z 41), .int (L0.1 2), .int (L0.1 3)] (nInF (dC, dI) cy ek sz (vC cy a z σ0))) (xV dC dI cy a (va_A (vC cy a z σ0) sz) [43, 51] z r0) (xX dC dI cy a (va_A (vC cy a z σ0) sz) [43, 51] z r0) r0.2.2.1 r0.2.2.2 (va_A (vC cy a z σ0) sz) := by
  refine vx_ofW (cc := cX7_words) (maxL := 4) (ret := none) (by decide) rfl ?_
  intro p e s m args below meth c s₁ B hml hno hv
  obtain ⟨rfl, ⟨⟨hsz, hP, hK, hD0, hG⟩, hE⟩, hT⟩ := hv
  have hx := B.exec
  have hb := B.bytes
  have hr := B.returns
  have hts := atoms_spec (ws := w_f_X7_words__P__z41) B.pre
  have hown : s.vm.findClass RX7 = some m.cls := findClass_of_methodNamed B.named
  have hlocks := B.notSynchronized
  subst hsz
  have hD := hD0.self (sz := s.heap.size)
  generalize hAe : va_A (vC cy a z σ0) s.heap.size = A at hD hE hT ⊢
  have hA : ∀ q : Nat, s.heap.size ≤ q → A q := fun q h => by rw [← hAe]; exact Or.inr h
  have hS : va_S A s.heap s.heap [] := va_S.rf
  have hl := lv_entry ([.ref (a (pA (L0.2.2.1 0))), .ref (z 41), .int (L0.1 2), .int (L0.1 3)]) (n := 4) (Nat.le_of_ble_eq_true rfl)
  rw [lg_entry_eq]
  generalize (lg_sl ([.ref (a (pA (L0.2.2.1 0))), .ref (z 41), .int (L0.1 2), .int (L0.1 3)]) ++ List.replicate (4 - (lg_sl ([.ref (a (pA (L0.2.2.1 0))), .ref (z 41), .int (L0.1 2), .int (L0.1 3)])).length) Slot.unset).toArray = ls at hl ⊢
  have hl : lv_has ls 4 [(0, .ref (a (pA (L0.2.2.1 0)))), (1, .ref (z 41)), (2, .int (L0.1 2)), (3, .int (L0.1 3))] := hl
  generalize hmc : r0.2.2.1 = mc
  generalize hms : r0.2.2.2 = ms
  have blk : ∀ k : Nat, (bX p l e (headSpec w_f_X7_words__P__z41 ({ frames := 7, cells := mc, slots := ms, locals := 121 })).room s m #[.ref (a (pA (L0.2.2.1 0))), .ref (z 41), .int (L0.1 2), .int (L0.1 3)] below meth c dC dI cy a A (fun r => vx_MQ below (xV dC dI cy a A [43, 51] z r) (xX dC dI cy a A [43, 51] z r) #[.ref (a (pA (L0.2.2.1 0))), .ref (z 41), .int (L0.1 2), .int (L0.1 3)] s mc ms A) [43, 51] z mc ms 4 (f_X7_words__P__z41 k 0) (fun z L => [(0, .ref (a (pA (L.2.2.1 0)))), (1, .ref (z 41)), (2, .int (L.1 2)), (3, .int (L.1 3))]) 0 (fun z L => [])) ∧ (bX p l e (headSpec w_f_X7_words__P__z41 ({ frames := 7, cells := mc, slots := ms, locals := 121 })).room s m #[.ref (a (pA (L0.2.2.1 0))), .ref (z 41), .int (L0.1 2), .int (L0.1 3)] below meth c dC dI cy a A (fun r => vx_MQ below (xV dC dI cy a A [43, 51] z r) (xX dC dI cy a A [43, 51] z r) #[.ref (a (pA (L0.2.2.1 0))), .ref (z 41), .int (L0.1 2), .int (L0.1 3)] s mc ms A) [43, 51] z mc ms 4 (f_X7_words__P__z41 k 1) (fun z L => [(0, .ref (a (pA (L.2.2.1 0)))), (3, .int (L.1 3))]) 19 (fun z L => [])) := by
    intro k
    induction k with
    | zero => exact ⟨fun z c1 c2 L σ r h => (by cases h), fun z c1 c2 L σ r h => (by cases h)⟩
    | succ k ih =>
      refine ⟨?_, ?_⟩
      · intro z cells slots L σ r h hzk hc hs H locs ls hP hD hS hl
        rw [f_X7_words__P__z41] at h
        refine lv_aload_n hx hb dX7_words_0 rfl (lv_at hl 0 rfl) ?_
        refine lv_iload_n hx hb dX7_words_1 rfl (lv_at hl 3 rfl) ?_
        obtain ⟨r1, hc1, hle1, h9⟩ := ox_ex h
        clear h
        refine kx_v (vx_runV (As := [.int (L.1 3)]) (rest := []) ⟨hx, hb, hml, hown, hts⟩ (c_f_X7_widen__P l hl0 dC dI cy ek a k (lI (lB lZ 0 ((L.2.2.1 0))) 1 ((L.1 3))) σ r1 hc1 z H.size) (cwV 1 hts g_f_X7_words__P__z41_X7_widen__P_V85 rfl rfl rfl hd_f_X7_widen__P ⟨Nat.le_of_ble_eq_true rfl, Nat.le_of_ble_eq_true rfl⟩) ⟨nb_blindF, recvP ((L.2.2.1 0)) hK hP, (kx_pre hK hG hE hT hA hP hD hS)⟩ rfl rfl hl.1 rfl (lv_room (Nat.le_of_ble_eq_true rfl)) dX7_words_2 ⟨Nat.le_trans (Nat.add_le_add_left hle1.1 _) (Nat.le_of_eq hc), Nat.le_trans (Nat.add_le_add_left hle1.2 _) (Nat.le_of_eq hs)⟩) hK hA hzk hP hD hS (by decide) hno hlocks ?_
        rcases h9 with ⟨h00, y1, hny1, hy⟩ | ⟨h00, hy⟩
        · subst hy
          have h := hny1
          refine Or.inl ⟨h00, fun z H locs hz1 hzk hP hD hS => ?_⟩
          try dsimp only at hl
          rw [← hz1 41 (by decide)] at hl
          replace hc := (Nat.add_assoc _ _ _).trans hc
          replace hs := (Nat.add_assoc _ _ _).trans hs
          refine lv_aload_n hx hb dX7_words_5 rfl (lv_at hl 1 rfl) ?_
          refine lv_iload_n hx hb dX7_words_6 rfl (lv_at hl 2 rfl) ?_
          refine lv_aload_n hx hb dX7_words_7 rfl (lv_at hl 0 rfl) ?_
          refine hg_P_0 ((L.2.2.1 0)) hx hb hts in_f_X7_words__P__z41_X7 hown hK hP (hts _ (List.mem_cons_of_mem _ (List.mem_append_left _ (List.mem_append_left _ (List.mem_of_getElem? (i := 4) rfl))))) dX7_words_8 ?_
          refine lv_aload_n hx hb dX7_words_11 rfl (lv_at hl 0 rfl) ?_
          refine hg_P_1 ((L.2.2.1 0)) hx hb hts in_f_X7_words__P__z41_X7 hown hK hP (hts _ (List.mem_cons_of_mem _ (List.mem_append_left _ (List.mem_append_left _ (List.mem_of_getElem? (i := 5) rfl))))) dX7_words_12 ?_
          refine lv_iload_n hx hb dX7_words_15 rfl (lv_at hl 3 rfl) ?_
          obtain ⟨q2, h⟩ := kr_ite1 h
          refine hcp_41_P0 ((sKd r1.2.1 ((L.2.2.1 0)))) hx hb (hml.trans hl.1.symm) hown (hts _ (List.mem_cons_of_mem _ (List.mem_append_left _ (List.mem_append_left _ (List.mem_of_getElem? (i := 6) rfl))))) (hts _ (List.mem_cons_of_mem _ (List.mem_append_left _ (List.mem_append_left _ (List.mem_of_getElem? (i := 7) rfl))))) (hts _ (List.mem_cons_of_mem _ (List.mem_append_left _ (List.mem_append_left _ (List.mem_of_getElem? (i := 8) rfl))))) (hts _ (List.mem_cons_of_mem _ (List.mem_append_left _ (List.mem_append_left _ (List.mem_of_getElem? (i := 9) rfl))))) hK hP hD hS q2 (Nat.le_of_ble_eq_true rfl) (Nat.le_of_ble_eq_true rfl) dX7_words_16 (fun H locs hP hD hS => ?_)
          exact ih.2 z _ _ L (uF r1.2.1 (pR0 ((sKd r1.2.1 ((L.2.2.1 0))))) (va_cpy (r1.2.1.2.2.1 41) (r1.2.1.2.2.1 (pR0 ((sKd r1.2.1 ((L.2.2.1 0)))))) ((L.1 2)).toNatClampNeg ((r1.2.1.1 (fP ((L.2.2.1 0)) 1))).toNatClampNeg ((L.1 3)).toNatClampNeg)) _ h hzk hc hs H locs ls hP hD hS (lv_sub hl [0, 3] rfl)
        · subst hy
          exact Or.inr ⟨h00, rfl, hc, hs⟩
      · intro z cells slots L σ r h hzk hc hs H locs ls hP hD hS hl
        rw [f_X7_words__P__z41] at h
        refine lv_aload_n hx hb dX7_words_19 rfl (lv_at hl 0 rfl) ?_
        refine lv_aload_n hx hb dX7_words_20 rfl (lv_at hl 0 rfl) ?_
        refine hg_P_1 ((L.2.2.1 0)) hx hb hts in_f_X7_words__P__z41_X7 hown hK hP (hts _ (List.mem_cons_of_mem _ (List.mem_append_left _ (List.mem_append_left _ (List.mem_of_getElem? (i := 5) rfl))))) dX7_words_21 ?_
        refine lv_iload_n hx hb dX7_words_24 rfl (lv_at hl 1 rfl) ?_
        refine lv_iadd hx hb dX7_words_25 ?_
        refine hp_P_1 ((L.2.2.1 0)) hx hb hts in_f_X7_words__P__z41_X7 hown hK hP hD hS (hts _ (List.mem_cons_of_mem _ (List.mem_append_left _ (List.mem_append_left _ (List.mem_of_getElem? (i := 5) rfl))))) dX7_words_26 (fun H locs hP hD hS => ?_)
        obtain rfl := Option.some.inj h
        subst hc
        subst hs
        exact xr_v hx hb hr hK hzk hP hD hS hlocks dX7_words_29
  exact (blk k0).1 z 0 0 L0 σ0 r0 h0 (zk_rf _ _) ((Nat.zero_add _).trans hmc) ((Nat.zero_add _).trans hms) s.heap [] ls hP hD hS hl
/-! X5_emitTarget -/
def f_X5_emitTarget : Nat → Nat → LV → CS → Option RS
  | 0, _, _, _ => none
  | k + 1, 0, L, σ => if ¬ (((((L.1 2)) + 1)) < 0 ∨ (sN σ 41) ≤ ((((L.1 2)) + 1)).toNatClampNeg) then (if ((σ.2.2.1 41 ((((L.1 2)) + 1)).toNatClampNeg)) = ((σ.1 4003)) then (f_X5_emitTarget k 2 (lI L 100 0) σ) else (f_X5_emitTarget k 1 L σ)) else none
  | k + 1, 1, L, σ => f_X5_emitTarget k 2 (lI L 100 1) σ
  | k + 1, 2, L, σ => oP (sPp σ) (fun b1 => if ¬ (((L.1 2)) < 0 ∨ (sN σ 41) ≤ ((L.1 2)).toNatClampNeg) then (ox (f_X7_emit__P k 0 (lI (lI (lB lZ 0 b1) 1 ((((L.1 1)) + ((L.1 100))))) 2 ((σ.2.2.1 41 ((L.1 2)).toNatClampNeg))) σ) (fun r3 => oP (sPp r3.2.1) (fun b4 => ox (f_X7_word__P k 0 (lI (lB lZ 0 b4) 1 ((L.1 3))) r3.2.1) (fun r5 => oP (sPp r5.2.1) (fun b6 => if ¬ (((((L.1 2)) + 3)) < 0 ∨ (sN r5.2.1 41) ≤ ((((L.1 2)) + 3)).toNatClampNeg) then (ox (f_X7_word__P k 0 (lI (lB lZ 0 b6) 1 ((r5.2.1.2.2.1 41 ((((L.1 2)) + 3)).toNatClampNeg))) r5.2.1) (fun r8 => oP (sPp r8.2.1) (fun b9 => if ¬ (((((L.1 2)) + 3)) < 0 ∨ (sN r8.2.1 41) ≤ ((((L.1 2)) + 3)).toNatClampNeg) then (ox (f_X7_words__P__z41 k 0 (lI (lI (lB lZ 0 b9) 2 ((((L.1 2)) + 4))) 3 ((r8.2.1.2.2.1 41 ((((L.1 2)) + 3)).toNatClampNeg))) r8.2.1) (fun r11 => some ((0, 0), r11.2.1, (0, 0)))) else none))) else none))))) else none)
  | _ + 1, _ + 3, _, _ => none
def o_f_X5_emitTarget : List Cond := [.fieldLink RX5 9 "SetHouse$Parser" "marks" "[I", .fieldLink RX5 97 "SetHouse$Parser" "unit" "I", .fieldLink RX5 93 "SetHouse$Parser" "p" "LSetHouse$Program;", .methodLink RX5 66 yX7_emit, .instanceMethod yX7_emit, .selects RX7 yX7_emit yX7_emit, .initialized RX7, .methodLink RX5 243 yX7_word, .instanceMethod yX7_word, .selects RX7 yX7_word yX7_word, .methodLink RX5 312 yX7_words, .instanceMethod yX7_words, .selects RX7 yX7_words yX7_words]
theorem o_f_X5_emitTarget_good : o_f_X5_emitTarget.all goodWord = true := by decide +kernel
def p_f_X5_emitTarget : List Cond := o_f_X5_emitTarget ++ ((.code yX7_emit cX7_emit 3 (some .int) :: p_f_X7_emit__P) ++ ((.code yX7_word cX7_word 2 (some .int) :: p_f_X7_word__P) ++ ((.code yX7_words cX7_words 4 none :: p_f_X7_words__P__z41) ++ [])))
theorem p_f_X5_emitTarget_good : p_f_X5_emitTarget.all goodWord = true := nb_all2 o_f_X5_emitTarget_good (nb_all2 (nb_allc (by decide +kernel) p_f_X7_emit__P_good) (nb_all2 (nb_allc (by decide +kernel) p_f_X7_word__P_good) (nb_all2 (nb_allc (by decide +kernel) p_f_X7_words__P__z41_good) rfl)))
def w_f_X5_emitTarget : List Cond := .code yX5_emitTarget cX5_emitTarget 5 none :: (p_f_X5_emitTarget ++ fC)
theorem w_f_X5_emitTarget_good : w_f_X5_emitTarget.all goodWord = true := nb_allc (by decide +kernel) (nb_all2 p_f_X5_emitTarget_good fC_good)
theorem in_f_X5_emitTarget_X5 : ∀ w ∈ wsX50, w ∈ w_f_X5_emitTarget := fun _ h => List.mem_cons_of_mem _ (List.mem_append_right _ (List.mem_append_right _ (List.mem_append_right _ (List.mem_append_right _ (List.mem_append_right _ (List.mem_append_left _ h))))))
theorem hd_f_X5_emitTarget : yX5_emitTarget.cls = RX5 ∧ yX5_emitTarget.cls ≠ "java/lang/invoke/MethodHandle" ∧ yX5_emitTarget.cls ≠ "java/lang/invoke/VarHandle" ∧ (parseMethodDescriptor yX5_emitTarget.desc).map (fun d => d.parameters.length) = some 3 := by decide +kernel
theorem gg_f_X5_emitTarget_X7_emit__P : GoodIn w_f_X5_emitTarget w_f_X7_emit__P := goodIn_sub (fun w h => (List.mem_cons.mp h).elim (fun e => (List.mem_cons_of_mem _ (List.mem_append_left _ (List.mem_append_right _ (List.mem_append_left _ (List.mem_cons.mpr (Or.inl e))))))) (fun h => (List.mem_append.mp h).elim (fun h => (List.mem_cons_of_mem _ (List.mem_append_left _ (List.mem_append_right _ (List.mem_append_left _ (List.mem_cons_of_mem _ h)))))) (fun h => List.mem_cons_of_mem _ (List.mem_append_right _ h)))) w_f_X7_emit__P_good
theorem g_f_X5_emitTarget_X7_emit__P_V66 : GoodIn w_f_X5_emitTarget (wsV RX5 66 RX7 yX7_emit w_f_X7_emit__P) := goodIn_app (nb_g4 (List.mem_cons_of_mem _ (List.mem_append_left _ (List.mem_append_left _ (List.mem_of_getElem? (i := 3) rfl)))) (List.mem_cons_of_mem _ (List.mem_append_left _ (List.mem_append_left _ (List.mem_of_getElem? (i := 4) rfl)))) (List.mem_cons_of_mem _ (List.mem_append_left _ (List.mem_append_left _ (List.mem_of_getElem? (i := 5) rfl)))) (List.mem_cons_of_mem _ (List.mem_append_left _ (List.mem_append_left _ (List.mem_of_getElem? (i := 6) rfl)))) (by decide +kernel)) gg_f_X5_emitTarget_X7_emit__P
theorem gg_f_X5_emitTarget_X7_word__P : GoodIn w_f_X5_emitTarget w_f_X7_word__P := goodIn_sub (fun w h => (List.mem_cons.mp h).elim (fun e => (List.mem_cons_of_mem _ (List.mem_append_left _ (List.mem_append_right _ (List.mem_append_right _ (List.mem_append_left _ (List.mem_cons.mpr (Or.inl e)))))))) (fun h => (List.mem_append.mp h).elim (fun h => (List.mem_cons_of_mem _ (List.mem_append_left _ (List.mem_append_right _ (List.mem_append_right _ (List.mem_append_left _ (List.mem_cons_of_mem _ h))))))) (fun h => List.mem_cons_of_mem _ (List.mem_append_right _ h)))) w_f_X7_word__P_good
theorem g_f_X5_emitTarget_X7_word__P_V243 : GoodIn w_f_X5_emitTarget (wsV RX5 243 RX7 yX7_word w_f_X7_word__P) := goodIn_app (nb_g4 (List.mem_cons_of_mem _ (List.mem_append_left _ (List.mem_append_left _ (List.mem_of_getElem? (i := 7) rfl)))) (List.mem_cons_of_mem _ (List.mem_append_left _ (List.mem_append_left _ (List.mem_of_getElem? (i := 8) rfl)))) (List.mem_cons_of_mem _ (List.mem_append_left _ (List.mem_append_left _ (List.mem_of_getElem? (i := 9) rfl)))) (List.mem_cons_of_mem _ (List.mem_append_left _ (List.mem_append_left _ (List.mem_of_getElem? (i := 6) rfl)))) (by decide +kernel)) gg_f_X5_emitTarget_X7_word__P
theorem gg_f_X5_emitTarget_X7_words__P__z41 : GoodIn w_f_X5_emitTarget w_f_X7_words__P__z41 := goodIn_sub (fun w h => (List.mem_cons.mp h).elim (fun e => (List.mem_cons_of_mem _ (List.mem_append_left _ (List.mem_append_right _ (List.mem_append_right _ (List.mem_append_right _ (List.mem_append_left _ (List.mem_cons.mpr (Or.inl e))))))))) (fun h => (List.mem_append.mp h).elim (fun h => (List.mem_cons_of_mem _ (List.mem_append_left _ (List.mem_append_right _ (List.mem_append_right _ (List.mem_append_right _ (List.mem_append_left _ (List.mem_cons_of_mem _ h)))))))) (fun h => List.mem_cons_of_mem _ (List.mem_append_right _ h)))) w_f_X7_words__P__z41_good
theorem g_f_X5_emitTarget_X7_words__P__z41_V312 : GoodIn w_f_X5_emitTarget (wsV RX5 312 RX7 yX7_words w_f_X7_words__P__z41) := goodIn_app (nb_g4 (List.mem_cons_of_mem _ (List.mem_append_left _ (List.mem_append_left _ (List.mem_of_getElem? (i := 10) rfl)))) (List.mem_cons_of_mem _ (List.mem_append_left _ (List.mem_append_left _ (List.mem_of_getElem? (i := 11) rfl)))) (List.mem_cons_of_mem _ (List.mem_append_left _ (List.mem_append_left _ (List.mem_of_getElem? (i := 12) rfl)))) (List.mem_cons_of_mem _ (List.mem_append_left _ (List.mem_append_left _ (List.mem_of_getElem? (i := 6) rfl)))) (by decide +kernel)) gg_f_X5_emitTarget_X7_words__P__z41
set_option maxHeartbeats 40000000 in
set_option maxRecDepth 100000 in
theorem c_f_X5_emitTarget (l : Launch) (hl0 : l.stackTraces = false) (dC : Nat → ClassId) (dI : Nat → Nat → Nat) (cy : Nat → ClassId) (ek a : Nat → Nat) (k0 : Nat) (L0 : LV) (σ0 : CS) (r0 : RS) (h0 : f_X5_emitTarget k0 0 L0 σ0 = some r0) (z : Nat → Nat) (sz : Nat) : vx_Met l yX5_emitTarget w_f_X5_emitTarget ({ frames := 8, cells := r0.2.2.1, slots := r0.2.2.2, locals := 144 }) (va_Pc [.ref (a 40), .int (L0.1 1), .int (L0.1 2), .int (L0.1 3)] (nInF (dC, dI) cy ek sz (vC cy a z σ0))) (xV dC dI cy a (va_A (vC cy a z σ0) sz) [43, 51] z r0) (xX dC dI cy a (va_A (vC cy a z σ0) sz) [43, 51] z r0) r0.2.2.1 r0.2.2.2 (va_A (vC cy a z σ0) sz) := by
  refine vx_ofW (cc := cX5_emitTarget) (maxL := 5) (ret := none) (by decide) rfl ?_
  intro p e s m args below meth c s₁ B hml hno hv
  obtain ⟨rfl, ⟨⟨hsz, hP, hK, hD0, hG⟩, hE⟩, hT⟩ := hv
  have hx := B.exec
  have hb := B.bytes
  have hr := B.returns
  have hts := atoms_spec (ws := w_f_X5_emitTarget) B.pre
  have hown : s.vm.findClass RX5 = some m.cls := findClass_of_methodNamed B.named
  have hlocks := B.notSynchronized
  subst hsz
  have hD := hD0.self (sz := s.heap.size)
  generalize hAe : va_A (vC cy a z σ0) s.heap.size = A at hD hE hT ⊢
  have hA : ∀ q : Nat, s.heap.size ≤ q → A q := fun q h => by rw [← hAe]; exact Or.inr h
  have hS : va_S A s.heap s.heap [] := va_S.rf
  have hl := lv_entry ([.ref (a 40), .int (L0.1 1), .int (L0.1 2), .int (L0.1 3)]) (n := 5) (Nat.le_of_ble_eq_true rfl)
  rw [lg_entry_eq]
  generalize (lg_sl ([.ref (a 40), .int (L0.1 1), .int (L0.1 2), .int (L0.1 3)]) ++ List.replicate (5 - (lg_sl ([.ref (a 40), .int (L0.1 1), .int (L0.1 2), .int (L0.1 3)])).length) Slot.unset).toArray = ls at hl ⊢
  have hl : lv_has ls 5 [(0, .ref (a 40)), (1, .int (L0.1 1)), (2, .int (L0.1 2)), (3, .int (L0.1 3))] := hl
  generalize hmc : r0.2.2.1 = mc
  generalize hms : r0.2.2.2 = ms
  have blk : ∀ k : Nat, (bX p l e (headSpec w_f_X5_emitTarget ({ frames := 8, cells := mc, slots := ms, locals := 144 })).room s m #[.ref (a 40), .int (L0.1 1), .int (L0.1 2), .int (L0.1 3)] below meth c dC dI cy a A (fun r => vx_MQ below (xV dC dI cy a A [43, 51] z r) (xX dC dI cy a A [43, 51] z r) #[.ref (a 40), .int (L0.1 1), .int (L0.1 2), .int (L0.1 3)] s mc ms A) [43, 51] z mc ms 5 (f_X5_emitTarget k 0) (fun z L => [(0, .ref (a 40)), (1, .int (L.1 1)), (2, .int (L.1 2)), (3, .int (L.1 3))]) 0 (fun z L => [])) ∧ (bX p l e (headSpec w_f_X5_emitTarget ({ frames := 8, cells := mc, slots := ms, locals := 144 })).room s m #[.ref (a 40), .int (L0.1 1), .int (L0.1 2), .int (L0.1 3)] below meth c dC dI cy a A (fun r => vx_MQ below (xV dC dI cy a A [43, 51] z r) (xX dC dI cy a A [43, 51] z r) #[.ref (a 40), .int (L0.1 1), .int (L0.1 2), .int (L0.1 3)] s mc ms A) [43, 51] z mc ms 5 (f_X5_emitTarget k 1) (fun z L => [(0, .ref (a 40)), (1, .int (L.1 1)), (2, .int (L.1 2)), (3, .int (L.1 3))]) 19 (fun z L => [])) ∧ (bX p l e (headSpec w_f_X5_emitTarget ({ frames := 8, cells := mc, slots := ms, locals := 144 })).room s m #[.ref (a 40), .int (L0.1 1), .int (L0.1 2), .int (L0.1 3)] below meth c dC dI cy a A (fun r => vx_MQ below (xV dC dI cy a A [43, 51] z r) (xX dC dI cy a A [43, 51] z r) #[.ref (a 40), .int (L0.1 1), .int (L0.1 2), .int (L0.1 3)] s mc ms A) [43, 51] z mc ms 5 (f_X5_emitTarget k 2) (fun z L => [(0, .ref (a 40)), (1, .int (L.1 1)), (2, .int (L.1 2)), (3, .int (L.1 3))]) 20 (fun z L => [.int (L.1 100)])) := by
    intro k
    induction k with
    | zero => exact ⟨fun z c1 c2 L σ r h => (by cases h), fun z c1 c2 L σ r h => (by cases h), fun z c1 c2 L σ r h => (by cases h)⟩
    | succ k ih =>
      refine ⟨?_, ?_, ?_⟩
      · intro z cells slots L σ r h hzk hc hs H locs ls hP hD hS hl
        rw [f_X5_emitTarget] at h
        refine lv_aload_n hx hb dX5_emitTarget_0 rfl (lv_at hl 0 rfl) ?_
        refine hg_40_10 hx hb hts in_f_X5_emitTarget_X5 hown hK hP (hts _ (List.mem_cons_of_mem _ (List.mem_append_left _ (List.mem_append_left _ (List.mem_of_getElem? (i := 0) rfl))))) dX5_emitTarget_1 ?_
        refine lv_iload_n hx hb dX5_emitTarget_4 rfl (lv_at hl 2 rfl) ?_
        refine lv_iconst (v := 1) hx hb dX5_emitTarget_5 (by decide) ?_
        refine lv_iadd hx hb dX5_emitTarget_6 ?_
        obtain ⟨q1, h⟩ := kr_ite1 h
        refine hl_41 hx hb hK hP q1 dX5_emitTarget_7 ?_
        refine lv_aload_n hx hb dX5_emitTarget_8 rfl (lv_at hl 0 rfl) ?_
        refine hg_40_3 hx hb hts in_f_X5_emitTarget_X5 hown hK hP (hts _ (List.mem_cons_of_mem _ (List.mem_append_left _ (List.mem_append_left _ (List.mem_of_getElem? (i := 1) rfl))))) dX5_emitTarget_9 ?_
        refine lv_icmp_ne (tgt := 19) hx hb dX5_emitTarget_12 (by decide) (fun c2 => ?_) (fun c2 => ?_)
        · rw [if_neg c2] at h
          exact ih.2.1 z _ _ L σ _ h hzk hc hs H locs ls hP hD hS (lv_sub hl [0, 1, 2, 3] rfl)
        · rw [if_pos c2] at h
          refine lv_iconst (v := 0) hx hb dX5_emitTarget_15 (by decide) ?_
          refine lv_goto (tgt := 20) hx hb dX5_emitTarget_16 (by decide) ?_
          exact ih.2.2 z _ _ (lI L 100 0) σ _ h hzk hc hs H locs ls hP hD hS (lv_sub hl [0, 1, 2, 3] rfl)
      · intro z cells slots L σ r h hzk hc hs H locs ls hP hD hS hl
        rw [f_X5_emitTarget] at h
        refine lv_iconst (v := 1) hx hb dX5_emitTarget_19 (by decide) ?_
        exact ih.2.2 z _ _ (lI L 100 1) σ _ h hzk hc hs H locs ls hP hD hS (lv_sub hl [0, 1, 2, 3] rfl)
      · intro z cells slots L σ r h hzk hc hs H locs ls hP hD hS hl
        rw [f_X5_emitTarget] at h
        refine lv_istore (lv' := [(4, .int (L.1 100)), (0, .ref (a 40)), (1, .int (L.1 1)), (2, .int (L.1 2)), (3, .int (L.1 3))]) hx hb dX5_emitTarget_20 hl (by decide) rfl (fun ls hl => ?_)
        refine lv_aload_n hx hb dX5_emitTarget_22 rfl (lv_at hl 1 rfl) ?_
        obtain ⟨b1, hb1, h⟩ := oP_ex h
        refine hgq_40_2 hx hb hts in_f_X5_emitTarget_X5 hown hK hP (hts _ (List.mem_cons_of_mem _ (List.mem_append_left _ (List.mem_append_left _ (List.mem_of_getElem? (i := 2) rfl))))) hb1 dX5_emitTarget_23 ?_
        refine lv_iload_n hx hb dX5_emitTarget_26 rfl (lv_at hl 2 rfl) ?_
        refine lv_iload hx hb dX5_emitTarget_27 (lv_at hl 0 rfl) ?_
        refine lv_iadd hx hb dX5_emitTarget_29 ?_
        refine lv_aload_n hx hb dX5_emitTarget_30 rfl (lv_at hl 1 rfl) ?_
        refine hg_40_10 hx hb hts in_f_X5_emitTarget_X5 hown hK hP (hts _ (List.mem_cons_of_mem _ (List.mem_append_left _ (List.mem_append_left _ (List.mem_of_getElem? (i := 0) rfl))))) dX5_emitTarget_31 ?_
        refine lv_iload_n hx hb dX5_emitTarget_34 rfl (lv_at hl 3 rfl) ?_
        obtain ⟨q2, h⟩ := kr_ite1 h
        refine hl_41 hx hb hK hP q2 dX5_emitTarget_35 ?_
        obtain ⟨r3, hc3, hle3, h9⟩ := ox_ex h
        clear h
        refine kx_i (vx_runV (As := [.int (((L.1 1)) + ((L.1 100))), .int (σ.2.2.1 41 ((L.1 2)).toNatClampNeg)]) (rest := []) ⟨hx, hb, hml, hown, hts⟩ (c_f_X7_emit__P l hl0 dC dI cy ek a k (lI (lI (lB lZ 0 b1) 1 ((((L.1 1)) + ((L.1 100))))) 2 ((σ.2.2.1 41 ((L.1 2)).toNatClampNeg))) σ r3 hc3 z H.size) (cwV 2 hts g_f_X5_emitTarget_X7_emit__P_V66 rfl rfl rfl hd_f_X7_emit__P ⟨Nat.le_of_ble_eq_true rfl, Nat.le_of_ble_eq_true rfl⟩) ⟨nb_blindF, recvP b1 hK hP, (kx_pre hK hG hE hT hA hP hD hS)⟩ rfl rfl hl.1 rfl (lv_room (Nat.le_of_ble_eq_true rfl)) dX5_emitTarget_36 ⟨Nat.le_trans (Nat.add_le_add_left hle3.1 _) (Nat.le_of_eq hc), Nat.le_trans (Nat.add_le_add_left hle3.2 _) (Nat.le_of_eq hs)⟩) hK hA hzk hP hD hS (by decide) hno hlocks ?_
        rcases h9 with ⟨h00, y3, hny3, hy⟩ | ⟨h00, hy⟩
        · subst hy
          have h := hny3
          refine Or.inl ⟨h00, fun z H locs hz3 hzk hP hD hS => ?_⟩
          replace hc := (Nat.add_assoc _ _ _).trans hc
          replace hs := (Nat.add_assoc _ _ _).trans hs
          refine lv_pop hx hb dX5_emitTarget_39 rfl ?_
          refine lv_aload_n hx hb dX5_emitTarget_40 rfl (lv_at hl 1 rfl) ?_
          obtain ⟨b4, hb4, h⟩ := oP_ex h
          refine hgq_40_2 hx hb hts in_f_X5_emitTarget_X5 hown hK hP (hts _ (List.mem_cons_of_mem _ (List.mem_append_left _ (List.mem_append_left _ (List.mem_of_getElem? (i := 2) rfl))))) hb4 dX5_emitTarget_41 ?_
          refine lv_iload_n hx hb dX5_emitTarget_44 rfl (lv_at hl 4 rfl) ?_
          obtain ⟨r5, hc5, hle5, h9⟩ := ox_ex h
          clear h
          refine kx_i (r := y3) (vx_runV (As := [.int (L.1 3)]) (rest := []) ⟨hx, hb, hml, hown, hts⟩ (c_f_X7_word__P l hl0 dC dI cy ek a k (lI (lB lZ 0 b4) 1 ((L.1 3))) r3.2.1 r5 hc5 z H.size) (cwV 1 hts g_f_X5_emitTarget_X7_word__P_V243 rfl rfl rfl hd_f_X7_word__P ⟨Nat.le_of_ble_eq_true rfl, Nat.le_of_ble_eq_true rfl⟩) ⟨nb_blindF, recvP b4 hK hP, (kx_pre hK hG hE hT hA hP hD hS)⟩ rfl rfl hl.1 rfl (lv_room (Nat.le_of_ble_eq_true rfl)) dX5_emitTarget_45 ⟨Nat.le_trans (Nat.add_le_add_left hle5.1 _) (Nat.le_of_eq hc), Nat.le_trans (Nat.add_le_add_left hle5.2 _) (Nat.le_of_eq hs)⟩) hK hA hzk hP hD hS (by decide) hno hlocks ?_
          rcases h9 with ⟨h00, y5, hny5, hy⟩ | ⟨h00, hy⟩
          · subst hy
            have h := hny5
            refine Or.inl ⟨h00, fun z H locs hz5 hzk hP hD hS => ?_⟩
            replace hc := (Nat.add_assoc _ _ _).trans hc
            replace hs := (Nat.add_assoc _ _ _).trans hs
            refine lv_pop hx hb dX5_emitTarget_48 rfl ?_
            refine lv_aload_n hx hb dX5_emitTarget_49 rfl (lv_at hl 1 rfl) ?_
            obtain ⟨b6, hb6, h⟩ := oP_ex h
            refine hgq_40_2 hx hb hts in_f_X5_emitTarget_X5 hown hK hP (hts _ (List.mem_cons_of_mem _ (List.mem_append_left _ (List.mem_append_left _ (List.mem_of_getElem? (i := 2) rfl))))) hb6 dX5_emitTarget_50 ?_
            refine lv_aload_n hx hb dX5_emitTarget_53 rfl (lv_at hl 1 rfl) ?_
            refine hg_40_10 hx hb hts in_f_X5_emitTarget_X5 hown hK hP (hts _ (List.mem_cons_of_mem _ (List.mem_append_left _ (List.mem_append_left _ (List.mem_of_getElem? (i := 0) rfl))))) dX5_emitTarget_54 ?_
            refine lv_iload_n hx hb dX5_emitTarget_57 rfl (lv_at hl 3 rfl) ?_
            refine lv_iconst (v := 3) hx hb dX5_emitTarget_58 (by decide) ?_
            refine lv_iadd hx hb dX5_emitTarget_59 ?_
            obtain ⟨q7, h⟩ := kr_ite1 h
            refine hl_41 hx hb hK hP q7 dX5_emitTarget_60 ?_
            obtain ⟨r8, hc8, hle8, h9⟩ := ox_ex h
            clear h
            refine kx_i (r := y5) (vx_runV (As := [.int (r5.2.1.2.2.1 41 ((((L.1 2)) + 3)).toNatClampNeg)]) (rest := []) ⟨hx, hb, hml, hown, hts⟩ (c_f_X7_word__P l hl0 dC dI cy ek a k (lI (lB lZ 0 b6) 1 ((r5.2.1.2.2.1 41 ((((L.1 2)) + 3)).toNatClampNeg))) r5.2.1 r8 hc8 z H.size) (cwV 1 hts g_f_X5_emitTarget_X7_word__P_V243 rfl rfl rfl hd_f_X7_word__P ⟨Nat.le_of_ble_eq_true rfl, Nat.le_of_ble_eq_true rfl⟩) ⟨nb_blindF, recvP b6 hK hP, (kx_pre hK hG hE hT hA hP hD hS)⟩ rfl rfl hl.1 rfl (lv_room (Nat.le_of_ble_eq_true rfl)) dX5_emitTarget_61 ⟨Nat.le_trans (Nat.add_le_add_left hle8.1 _) (Nat.le_of_eq hc), Nat.le_trans (Nat.add_le_add_left hle8.2 _) (Nat.le_of_eq hs)⟩) hK hA hzk hP hD hS (by decide) hno hlocks ?_
            rcases h9 with ⟨h00, y8, hny8, hy⟩ | ⟨h00, hy⟩
            · subst hy
              have h := hny8
              refine Or.inl ⟨h00, fun z H locs hz8 hzk hP hD hS => ?_⟩
              replace hc := (Nat.add_assoc _ _ _).trans hc
              replace hs := (Nat.add_assoc _ _ _).trans hs
              refine lv_pop hx hb dX5_emitTarget_64 rfl ?_
              refine lv_aload_n hx hb dX5_emitTarget_65 rfl (lv_at hl 1 rfl) ?_
              obtain ⟨b9, hb9, h⟩ := oP_ex h
              refine hgq_40_2 hx hb hts in_f_X5_emitTarget_X5 hown hK hP (hts _ (List.mem_cons_of_mem _ (List.mem_append_left _ (List.mem_append_left _ (List.mem_of_getElem? (i := 2) rfl))))) hb9 dX5_emitTarget_66 ?_
              refine lv_aload_n hx hb dX5_emitTarget_69 rfl (lv_at hl 1 rfl) ?_
              refine hg_40_10 hx hb hts in_f_X5_emitTarget_X5 hown hK hP (hts _ (List.mem_cons_of_mem _ (List.mem_append_left _ (List.mem_append_left _ (List.mem_of_getElem? (i := 0) rfl))))) dX5_emitTarget_70 ?_
              refine lv_iload_n hx hb dX5_emitTarget_73 rfl (lv_at hl 3 rfl) ?_
              refine lv_iconst (v := 4) hx hb dX5_emitTarget_74 (by decide) ?_
              refine lv_iadd hx hb dX5_emitTarget_75 ?_
              refine lv_aload_n hx hb dX5_emitTarget_76 rfl (lv_at hl 1 rfl) ?_
              refine hg_40_10 hx hb hts in_f_X5_emitTarget_X5 hown hK hP (hts _ (List.mem_cons_of_mem _ (List.mem_append_left _ (List.mem_append_left _ (List.mem_of_getElem? (i := 0) rfl))))) dX5_emitTarget_77 ?_
              refine lv_iload_n hx hb dX5_emitTarget_80 rfl (lv_at hl 3 rfl) ?_
              refine lv_iconst (v := 3) hx hb dX5_emitTarget_81 (by decide) ?_
              refine lv_iadd hx hb dX5_emitTarget_82 ?_
              obtain ⟨q10, h⟩ := kr_ite1 h
              refine hl_41 hx hb hK hP q10 dX5_emitTarget_83 ?_
              obtain ⟨r11, hc11, hle11, h9⟩ := ox_ex h
              clear h
              refine kx_v (r := y8) (vx_runV (As := [.ref (z 41), .int (((L.1 2)) + 4), .int (r8.2.1.2.2.1 41 ((((L.1 2)) + 3)).toNatClampNeg)]) (rest := []) ⟨hx, hb, hml, hown, hts⟩ (c_f_X7_words__P__z41 l hl0 dC dI cy ek a k (lI (lI (lB lZ 0 b9) 2 ((((L.1 2)) + 4))) 3 ((r8.2.1.2.2.1 41 ((((L.1 2)) + 3)).toNatClampNeg))) r8.2.1 r11 hc11 z H.size) (cwV 3 hts g_f_X5_emitTarget_X7_words__P__z41_V312 rfl rfl rfl hd_f_X7_words__P__z41 ⟨Nat.le_of_ble_eq_true rfl, Nat.le_of_ble_eq_true rfl⟩) ⟨nb_blindF, recvP b9 hK hP, (kx_pre hK hG hE hT hA hP hD hS)⟩ rfl rfl hl.1 rfl (lv_room (Nat.le_of_ble_eq_true rfl)) dX5_emitTarget_84 ⟨Nat.le_trans (Nat.add_le_add_left hle11.1 _) (Nat.le_of_eq hc), Nat.le_trans (Nat.add_le_add_left hle11.2 _) (Nat.le_of_eq hs)⟩) hK hA hzk hP hD hS (by decide) hno hlocks ?_
              rcases h9 with ⟨h00, y11, hny11, hy⟩ | ⟨h00, hy⟩
              · subst hy
                have h := hny11
                refine Or.inl ⟨h00, fun z H locs hz11 hzk hP hD hS => ?_⟩
                replace hc := (Nat.add_assoc _ _ _).trans hc
                replace hs := (Nat.add_assoc _ _ _).trans hs
                obtain rfl := Option.some.inj h
                subst hc
                subst hs
                exact xr_v hx hb hr hK hzk hP hD hS hlocks dX5_emitTarget_87
              · subst hy
                exact Or.inr ⟨h00, rfl, hc, hs⟩
            · subst hy
              exact Or.inr ⟨h00, rfl, hc, hs⟩
          · subst hy
            exact Or.inr ⟨h00, rfl, hc, hs⟩
        · subst hy
          exact Or.inr ⟨h00, rfl, hc, hs⟩
  exact (blk k0).1 z 0 0 L0 σ0 r0 h0 (zk_rf _ _) ((Nat.zero_add _).trans hmc) ((Nat.zero_add _).trans hms) s.heap [] ls hP hD hS hl
/-! X5_assignResult -/
def f_X5_assignResult : Nat → Nat → LV → CS → Option RS
  | 0, _, _, _ => none
  | k + 1, 0, L, σ => if ¬ (((((L.1 1)) + 2)) < 0 ∨ (sN σ 41) ≤ ((((L.1 1)) + 2)).toNatClampNeg) then (oP (sPp σ) (fun b2 => oP (sPp σ) (fun b3 => if ¬ (((L.1 2)) < 0 ∨ 42 ≤ ((L.1 2)).toNatClampNeg) then (ox (f_X7_emit__P k 0 (lI (lI (lB lZ 0 b2) 1 38) 2 ((((σ.2.2.1 41 ((((L.1 1)) + 2)).toNatClampNeg)) + ((σ.2.2.1 (pR14 b3) ((L.1 2)).toNatClampNeg))))) σ) (fun r5 => ox (f_X5_emitTarget k 0 (lI (lI (lI lZ 1 192) 2 ((L.1 1))) 3 ((((σ.2.2.1 41 ((((L.1 1)) + 2)).toNatClampNeg)) + 1))) r5.2.1) (fun r6 => oP (sPp r6.2.1) (fun b7 => oP (sPp r6.2.1) (fun b8 => if ¬ (((L.1 2)) < 0 ∨ 42 ≤ ((L.1 2)).toNatClampNeg) then (ox (f_X7_emit__P k 0 (lI (lI (lB lZ 0 b7) 1 37) 2 ((((((σ.2.2.1 41 ((((L.1 1)) + 2)).toNatClampNeg)) + 2)) + ((r6.2.1.2.2.1 (pR14 b8) ((L.1 2)).toNatClampNeg))))) r6.2.1) (fun r10 => some ((0, 0), r10.2.1, (0, 0)))) else none))))) else none))) else none
  | _ + 1, _ + 1, _, _ => none
def o_f_X5_assignResult : List Cond := [.fieldLink RX5 9 "SetHouse$Parser" "marks" "[I", .fieldLink RX5 93 "SetHouse$Parser" "p" "LSetHouse$Program;", .methodLink RX5 66 yX7_emit, .instanceMethod yX7_emit, .selects RX7 yX7_emit yX7_emit, .initialized RX7, .methodLink RX5 316 yX5_emitTarget, .instanceMethod yX5_emitTarget, .selects RX5 yX5_emitTarget yX5_emitTarget, .initialized RX5]
theorem o_f_X5_assignResult_good : o_f_X5_assignResult.all goodWord = true := by decide +kernel
def p_f_X5_assignResult : List Cond := o_f_X5_assignResult ++ ((.code yX7_emit cX7_emit 3 (some .int) :: p_f_X7_emit__P) ++ ((.code yX5_emitTarget cX5_emitTarget 5 none :: p_f_X5_emitTarget) ++ []))
theorem p_f_X5_assignResult_good : p_f_X5_assignResult.all goodWord = true := nb_all2 o_f_X5_assignResult_good (nb_all2 (nb_allc (by decide +kernel) p_f_X7_emit__P_good) (nb_all2 (nb_allc (by decide +kernel) p_f_X5_emitTarget_good) rfl))
def w_f_X5_assignResult : List Cond := .code yX5_assignResult cX5_assignResult 4 none :: (p_f_X5_assignResult ++ fC)
theorem w_f_X5_assignResult_good : w_f_X5_assignResult.all goodWord = true := nb_allc (by decide +kernel) (nb_all2 p_f_X5_assignResult_good fC_good)
theorem in_f_X5_assignResult_X5 : ∀ w ∈ wsX50, w ∈ w_f_X5_assignResult := fun _ h => List.mem_cons_of_mem _ (List.mem_append_right _ (List.mem_append_right _ (List.mem_append_right _ (List.mem_append_right _ (List.mem_append_right _ (List.mem_append_left _ h))))))
theorem in_f_X5_assignResult_X7 : ∀ w ∈ wsX70, w ∈ w_f_X5_assignResult := fun _ h => List.mem_cons_of_mem _ (List.mem_append_right _ (List.mem_append_right _ (List.mem_append_right _ (List.mem_append_right _ (List.mem_append_right _ (List.mem_append_right _ (List.mem_append_right _ (List.mem_append_left _ h))))))))
theorem hd_f_X5_assignResult : yX5_assignResult.cls = RX5 ∧ yX5_assignResult.cls ≠ "java/lang/invoke/MethodHandle" ∧ yX5_assignResult.cls ≠ "java/lang/invoke/VarHandle" ∧ (parseMethodDescriptor yX5_assignResult.desc).map (fun d => d.parameters.length) = some 2 := by decide +kernel
theorem gg_f_X5_assignResult_X5_emitTarget : GoodIn w_f_X5_assignResult w_f_X5_emitTarget := goodIn_sub (fun w h => (List.mem_cons.mp h).elim (fun e => (List.mem_cons_of_mem _ (List.mem_append_left _ (List.mem_append_right _ (List.mem_append_right _ (List.mem_append_left _ (List.mem_cons.mpr (Or.inl e)))))))) (fun h => (List.mem_append.mp h).elim (fun h => (List.mem_cons_of_mem _ (List.mem_append_left _ (List.mem_append_right _ (List.mem_append_right _ (List.mem_append_left _ (List.mem_cons_of_mem _ h))))))) (fun h => List.mem_cons_of_mem _ (List.mem_append_right _ h)))) w_f_X5_emitTarget_good
theorem g_f_X5_assignResult_X5_emitTarget_V316 : GoodIn w_f_X5_assignResult (wsV RX5 316 RX5 yX5_emitTarget w_f_X5_emitTarget) := goodIn_app (nb_g4 (List.mem_cons_of_mem _ (List.mem_append_left _ (List.mem_append_left _ (List.mem_of_getElem? (i := 6) rfl)))) (List.mem_cons_of_mem _ (List.mem_append_left _ (List.mem_append_left _ (List.mem_of_getElem? (i := 7) rfl)))) (List.mem_cons_of_mem _ (List.mem_append_left _ (List.mem_append_left _ (List.mem_of_getElem? (i := 8) rfl)))) (List.mem_cons_of_mem _ (List.mem_append_left _ (List.mem_append_left _ (List.mem_of_getElem? (i := 9) rfl)))) (by decide +kernel)) gg_f_X5_assignResult_X5_emitTarget
theorem gg_f_X5_assignResult_X7_emit__P : GoodIn w_f_X5_assignResult w_f_X7_emit__P := goodIn_sub (fun w h => (List.mem_cons.mp h).elim (fun e => (List.mem_cons_of_mem _ (List.mem_append_left _ (List.mem_append_right _ (List.mem_append_left _ (List.mem_cons.mpr (Or.inl e))))))) (fun h => (List.mem_append.mp h).elim (fun h => (List.mem_cons_of_mem _ (List.mem_append_left _ (List.mem_append_right _ (List.mem_append_left _ (List.mem_cons_of_mem _ h)))))) (fun h => List.mem_cons_of_mem _ (List.mem_append_right _ h)))) w_f_X7_emit__P_good
theorem g_f_X5_assignResult_X7_emit__P_V66 : GoodIn w_f_X5_assignResult (wsV RX5 66 RX7 yX7_emit w_f_X7_emit__P) := goodIn_app (nb_g4 (List.mem_cons_of_mem _ (List.mem_append_left _ (List.mem_append_left _ (List.mem_of_getElem? (i := 2) rfl)))) (List.mem_cons_of_mem _ (List.mem_append_left _ (List.mem_append_left _ (List.mem_of_getElem? (i := 3) rfl)))) (List.mem_cons_of_mem _ (List.mem_append_left _ (List.mem_append_left _ (List.mem_of_getElem? (i := 4) rfl)))) (List.mem_cons_of_mem _ (List.mem_append_left _ (List.mem_append_left _ (List.mem_of_getElem? (i := 5) rfl)))) (by decide +kernel)) gg_f_X5_assignResult_X7_emit__P
set_option maxHeartbeats 40000000 in
set_option maxRecDepth 100000 in
theorem c_f_X5_assignResult (l : Launch) (hl0 : l.stackTraces = false) (dC : Nat → ClassId) (dI : Nat → Nat → Nat) (cy : Nat → ClassId) (ek a : Nat → Nat) (k0 : Nat) (L0 : LV) (σ0 : CS) (r0 : RS) (h0 : f_X5_assignResult k0 0 L0 σ0 = some r0) (z : Nat → Nat) (sz : Nat) : vx_Met l yX5_assignResult w_f_X5_assignResult ({ frames := 9, cells := r0.2.2.1, slots := r0.2.2.2, locals := 168 }) (va_Pc [.ref (a 40), .int (L0.1 1), .int (L0.1 2)] (nInF (dC, dI) cy ek sz (vC cy a z σ0))) (xV dC dI cy a (va_A (vC cy a z σ0) sz) [43, 51] z r0) (xX dC dI cy a (va_A (vC cy a z σ0) sz) [43, 51] z r0) r0.2.2.1 r0.2.2.2 (va_A (vC cy a z σ0) sz) := by
  refine vx_ofW (cc := cX5_assignResult) (maxL := 4) (ret := none) (by decide) rfl ?_
  intro p e s m args below meth c s₁ B hml hno hv
  obtain ⟨rfl, ⟨⟨hsz, hP, hK, hD0, hG⟩, hE⟩, hT⟩ := hv
  have hx := B.exec
  have hb := B.bytes
  have hr := B.returns
  have hts := atoms_spec (ws := w_f_X5_assignResult) B.pre
  have hown : s.vm.findClass RX5 = some m.cls := findClass_of_methodNamed B.named
  have hlocks := B.notSynchronized
  subst hsz
  have hD := hD0.self (sz := s.heap.size)
  generalize hAe : va_A (vC cy a z σ0) s.heap.size = A at hD hE hT ⊢
  have hA : ∀ q : Nat, s.heap.size ≤ q → A q := fun q h => by rw [← hAe]; exact Or.inr h
  have hS : va_S A s.heap s.heap [] := va_S.rf
  have hl := lv_entry ([.ref (a 40), .int (L0.1 1), .int (L0.1 2)]) (n := 4) (Nat.le_of_ble_eq_true rfl)
  rw [lg_entry_eq]
  generalize (lg_sl ([.ref (a 40), .int (L0.1 1), .int (L0.1 2)]) ++ List.replicate (4 - (lg_sl ([.ref (a 40), .int (L0.1 1), .int (L0.1 2)])).length) Slot.unset).toArray = ls at hl ⊢
  have hl : lv_has ls 4 [(0, .ref (a 40)), (1, .int (L0.1 1)), (2, .int (L0.1 2))] := hl
  generalize hmc : r0.2.2.1 = mc
  generalize hms : r0.2.2.2 = ms
  have blk : ∀ k : Nat, (bX p l e (headSpec w_f_X5_assignResult ({ frames := 9, cells := mc, slots := ms, locals := 168 })).room s m #[.ref (a 40), .int (L0.1 1), .int (L0.1 2)] below meth c dC dI cy a A (fun r => vx_MQ below (xV dC dI cy a A [43, 51] z r) (xX dC dI cy a A [43, 51] z r) #[.ref (a 40), .int (L0.1 1), .int (L0.1 2)] s mc ms A) [43, 51] z mc ms 4 (f_X5_assignResult k 0) (fun z L => [(0, .ref (a 40)), (1, .int (L.1 1)), (2, .int (L.1 2))]) 0 (fun z L => [])) := by
    intro k
    induction k with
    | zero => exact fun z c1 c2 L σ r h => (by cases h)
    | succ k ih =>
      skip
      · intro z cells slots L σ r h hzk hc hs H locs ls hP hD hS hl
        rw [f_X5_assignResult] at h
        refine lv_aload_n hx hb dX5_assignResult_0 rfl (lv_at hl 0 rfl) ?_
        refine hg_40_10 hx hb hts in_f_X5_assignResult_X5 hown hK hP (hts _ (List.mem_cons_of_mem _ (List.mem_append_left _ (List.mem_append_left _ (List.mem_of_getElem? (i := 0) rfl))))) dX5_assignResult_1 ?_
        refine lv_iload_n hx hb dX5_assignResult_4 rfl (lv_at hl 1 rfl) ?_
        refine lv_iconst (v := 2) hx hb dX5_assignResult_5 (by decide) ?_
        refine lv_iadd hx hb dX5_assignResult_6 ?_
        obtain ⟨q1, h⟩ := kr_ite1 h
        refine hl_41 hx hb hK hP q1 dX5_assignResult_7 ?_
        refine lv_istore_n (lv' := [(3, .int (σ.2.2.1 41 ((((L.1 1)) + 2)).toNatClampNeg)), (0, .ref (a 40)), (1, .int (L.1 1)), (2, .int (L.1 2))]) hx hb dX5_assignResult_8 rfl hl (by decide) rfl (fun ls hl => ?_)
        refine lv_aload_n hx hb dX5_assignResult_9 rfl (lv_at hl 1 rfl) ?_
        obtain ⟨b2, hb2, h⟩ := oP_ex h
        refine hgq_40_2 hx hb hts in_f_X5_assignResult_X5 hown hK hP (hts _ (List.mem_cons_of_mem _ (List.mem_append_left _ (List.mem_append_left _ (List.mem_of_getElem? (i := 1) rfl))))) hb2 dX5_assignResult_10 ?_
        refine lv_bipush (v := 38) hx hb dX5_assignResult_13 (by decide) ?_
        refine lv_iload_n hx hb dX5_assignResult_15 rfl (lv_at hl 0 rfl) ?_
        refine lv_aload_n hx hb dX5_assignResult_16 rfl (lv_at hl 1 rfl) ?_
        obtain ⟨b3, hb3, h⟩ := oP_ex h
        refine hgq_40_2 hx hb hts in_f_X5_assignResult_X5 hown hK hP (hts _ (List.mem_cons_of_mem _ (List.mem_append_left _ (List.mem_append_left _ (List.mem_of_getElem? (i := 1) rfl))))) hb3 dX5_assignResult_17 ?_
        refine hg_P_14n b3 hx hb hts in_f_X5_assignResult_X7 hown hK hP (va_Nw.use rfl (hG.1 _ (List.mem_of_getElem? (i := 85) rfl))) dX5_assignResult_20 ?_
        refine lv_iload_n hx hb dX5_assignResult_23 rfl (lv_at hl 3 rfl) ?_
        obtain ⟨q4, h⟩ := kr_ite1 h
        refine hl_P14 b3 hx hb hK hP q4 dX5_assignResult_24 ?_
        refine lv_iadd hx hb dX5_assignResult_25 ?_
        obtain ⟨r5, hc5, hle5, h9⟩ := ox_ex h
        clear h
        refine kx_i (vx_runV (As := [.int 38, .int (((σ.2.2.1 41 ((((L.1 1)) + 2)).toNatClampNeg)) + ((σ.2.2.1 (pR14 b3) ((L.1 2)).toNatClampNeg)))]) (rest := []) ⟨hx, hb, hml, hown, hts⟩ (c_f_X7_emit__P l hl0 dC dI cy ek a k (lI (lI (lB lZ 0 b2) 1 38) 2 ((((σ.2.2.1 41 ((((L.1 1)) + 2)).toNatClampNeg)) + ((σ.2.2.1 (pR14 b3) ((L.1 2)).toNatClampNeg))))) σ r5 hc5 z H.size) (cwV 2 hts g_f_X5_assignResult_X7_emit__P_V66 rfl rfl rfl hd_f_X7_emit__P ⟨Nat.le_of_ble_eq_true rfl, Nat.le_of_ble_eq_true rfl⟩) ⟨nb_blindF, recvP b2 hK hP, (kx_pre hK hG hE hT hA hP hD hS)⟩ rfl rfl hl.1 rfl (lv_room (Nat.le_of_ble_eq_true rfl)) dX5_assignResult_26 ⟨Nat.le_trans (Nat.add_le_add_left hle5.1 _) (Nat.le_of_eq hc), Nat.le_trans (Nat.add_le_add_left hle5.2 _) (Nat.le_of_eq hs)⟩) hK hA hzk hP hD hS (by decide) hno hlocks ?_
        rcases h9 with ⟨h00, y5, hny5, hy⟩ | ⟨h00, hy⟩
        · subst hy
          have h := hny5
          refine Or.inl ⟨h00, fun z H locs hz5 hzk hP hD hS => ?_⟩
          replace hc := (Nat.add_assoc _ _ _).trans hc
          replace hs := (Nat.add_assoc _ _ _).trans hs
          refine lv_pop hx hb dX5_assignResult_29 rfl ?_
          refine lv_aload_n hx hb dX5_assignResult_30 rfl (lv_at hl 1 rfl) ?_
          refine lv_sipush (v := 192) hx hb dX5_assignResult_31 (by decide) ?_
          refine lv_iload_n hx hb dX5_assignResult_34 rfl (lv_at hl 2 rfl) ?_
          refine lv_iload_n hx hb dX5_assignResult_35 rfl (lv_at hl 0 rfl) ?_
          refine lv_iconst (v := 1) hx hb dX5_assignResult_36 (by decide) ?_
          refine lv_iadd hx hb dX5_assignResult_37 ?_
          obtain ⟨r6, hc6, hle6, h9⟩ := ox_ex h
          clear h
          refine kx_v (r := y5) (vx_runV (As := [.int 192, .int (L.1 1), .int (((σ.2.2.1 41 ((((L.1 1)) + 2)).toNatClampNeg)) + 1)]) (rest := []) ⟨hx, hb, hml, hown, hts⟩ (c_f_X5_emitTarget l hl0 dC dI cy ek a k (lI (lI (lI lZ 1 192) 2 ((L.1 1))) 3 ((((σ.2.2.1 41 ((((L.1 1)) + 2)).toNatClampNeg)) + 1))) r5.2.1 r6 hc6 z H.size) (cwV 3 hts g_f_X5_assignResult_X5_emitTarget_V316 rfl rfl rfl hd_f_X5_emitTarget ⟨Nat.le_of_ble_eq_true rfl, Nat.le_of_ble_eq_true rfl⟩) ⟨nb_blindF, va_recv hK hP (ci := 4) (q0 := 40) rfl rfl, (kx_pre hK hG hE hT hA hP hD hS)⟩ rfl rfl hl.1 rfl (lv_room (Nat.le_of_ble_eq_true rfl)) dX5_assignResult_38 ⟨Nat.le_trans (Nat.add_le_add_left hle6.1 _) (Nat.le_of_eq hc), Nat.le_trans (Nat.add_le_add_left hle6.2 _) (Nat.le_of_eq hs)⟩) hK hA hzk hP hD hS (by decide) hno hlocks ?_
          rcases h9 with ⟨h00, y6, hny6, hy⟩ | ⟨h00, hy⟩
          · subst hy
            have h := hny6
            refine Or.inl ⟨h00, fun z H locs hz6 hzk hP hD hS => ?_⟩
            replace hc := (Nat.add_assoc _ _ _).trans hc
            replace hs := (Nat.add_assoc _ _ _).trans hs
            refine lv_aload_n hx hb dX5_assignResult_41 rfl (lv_at hl 1 rfl) ?_
            obtain ⟨b7, hb7, h⟩ := oP_ex h
            refine hgq_40_2 hx hb hts in_f_X5_assignResult_X5 hown hK hP (hts _ (List.mem_cons_of_mem _ (List.mem_append_left _ (List.mem_append_left _ (List.mem_of_getElem? (i := 1) rfl))))) hb7 dX5_assignResult_42 ?_
            refine lv_bipush (v := 37) hx hb dX5_assignResult_45 (by decide) ?_
            refine lv_iload_n hx hb dX5_assignResult_47 rfl (lv_at hl 0 rfl) ?_
            refine lv_iconst (v := 2) hx hb dX5_assignResult_48 (by decide) ?_
            refine lv_iadd hx hb dX5_assignResult_49 ?_
            refine lv_aload_n hx hb dX5_assignResult_50 rfl (lv_at hl 1 rfl) ?_
            obtain ⟨b8, hb8, h⟩ := oP_ex h
            refine hgq_40_2 hx hb hts in_f_X5_assignResult_X5 hown hK hP (hts _ (List.mem_cons_of_mem _ (List.mem_append_left _ (List.mem_append_left _ (List.mem_of_getElem? (i := 1) rfl))))) hb8 dX5_assignResult_51 ?_
            refine hg_P_14n b8 hx hb hts in_f_X5_assignResult_X7 hown hK hP (va_Nw.use rfl (hG.1 _ (List.mem_of_getElem? (i := 85) rfl))) dX5_assignResult_54 ?_
            refine lv_iload_n hx hb dX5_assignResult_57 rfl (lv_at hl 3 rfl) ?_
            obtain ⟨q9, h⟩ := kr_ite1 h
            refine hl_P14 b8 hx hb hK hP q9 dX5_assignResult_58 ?_
            refine lv_iadd hx hb dX5_assignResult_59 ?_
            obtain ⟨r10, hc10, hle10, h9⟩ := ox_ex h
            clear h
            refine kx_i (r := y6) (vx_runV (As := [.int 37, .int (((((σ.2.2.1 41 ((((L.1 1)) + 2)).toNatClampNeg)) + 2)) + ((r6.2.1.2.2.1 (pR14 b8) ((L.1 2)).toNatClampNeg)))]) (rest := []) ⟨hx, hb, hml, hown, hts⟩ (c_f_X7_emit__P l hl0 dC dI cy ek a k (lI (lI (lB lZ 0 b7) 1 37) 2 ((((((σ.2.2.1 41 ((((L.1 1)) + 2)).toNatClampNeg)) + 2)) + ((r6.2.1.2.2.1 (pR14 b8) ((L.1 2)).toNatClampNeg))))) r6.2.1 r10 hc10 z H.size) (cwV 2 hts g_f_X5_assignResult_X7_emit__P_V66 rfl rfl rfl hd_f_X7_emit__P ⟨Nat.le_of_ble_eq_true rfl, Nat.le_of_ble_eq_true rfl⟩) ⟨nb_blindF, recvP b7 hK hP, (kx_pre hK hG hE hT hA hP hD hS)⟩ rfl rfl hl.1 rfl (lv_room (Nat.le_of_ble_eq_true rfl)) dX5_assignResult_60 ⟨Nat.le_trans (Nat.add_le_add_left hle10.1 _) (Nat.le_of_eq hc), Nat.le_trans (Nat.add_le_add_left hle10.2 _) (Nat.le_of_eq hs)⟩) hK hA hzk hP hD hS (by decide) hno hlocks ?_
            rcases h9 with ⟨h00, y10, hny10, hy⟩ | ⟨h00, hy⟩
            · subst hy
              have h := hny10
              refine Or.inl ⟨h00, fun z H locs hz10 hzk hP hD hS => ?_⟩
              replace hc := (Nat.add_assoc _ _ _).trans hc
              replace hs := (Nat.add_assoc _ _ _).trans hs
              refine lv_pop hx hb dX5_assignResult_63 rfl ?_
              obtain rfl := Option.some.inj h
              subst hc
              subst hs
              exact xr_v hx hb hr hK hzk hP hD hS hlocks dX5_assignResult_64
            · subst hy
              exact Or.inr ⟨h00, rfl, hc, hs⟩
          · subst hy
            exact Or.inr ⟨h00, rfl, hc, hs⟩
        · subst hy
          exact Or.inr ⟨h00, rfl, hc, hs⟩
  exact (blk k0) z 0 0 L0 σ0 r0 h0 (zk_rf _ _) ((Nat.zero_add _).trans hmc) ((Nat.zero_add _).trans hms) s.heap [] ls hP hD hS hl
/-! X5_assignment -/
def f_X5_assignment : Nat → Nat → LV → CS → Option RS
  | 0, _, _, _ => none
  | k + 1, 0, L, σ => if ((σ.1 3702)) = 63 then (if ¬ (((((L.1 1)) + 3)) < 0 ∨ (sN σ 41) ≤ ((((L.1 1)) + 3)).toNatClampNeg) then (if ((σ.2.2.1 41 ((((L.1 1)) + 3)).toNatClampNeg)) = 0 then (ox (f_X2_advance k 0 lZ σ) (fun r4 => oP (sPp r4.2.1) (fun b5 => ox (f_X7_emit__P k 0 (lI (lI (lB lZ 0 b5) 1 21) 2 0) r4.2.1) (fun r6 => f_X5_assignment k 2 L r6.2.1)))) else (f_X5_assignment k 1 L σ)) else none) else (f_X5_assignment k 1 L σ)
  | k + 1, 1, L, σ => ox (f_X5_exp k 0 (lI lZ 1 0) σ) (fun r1 => f_X5_assignment k 2 L r1.2.1)
  | k + 1, 2, L, σ => if ¬ (((((L.1 1)) + 2)) < 0 ∨ (sN σ 41) ≤ ((((L.1 1)) + 2)).toNatClampNeg) then (ox (f_X5_emitTarget k 0 (lI (lI (lI lZ 1 192) 2 ((L.1 1))) 3 ((((σ.2.2.1 41 ((((L.1 1)) + 2)).toNatClampNeg)) + 1))) σ) (fun r2 => oP (sPp r2.2.1) (fun b3 => if ¬ (((((L.1 1)) + 2)) < 0 ∨ (sN r2.2.1 41) ≤ ((((L.1 1)) + 2)).toNatClampNeg) then (ox (f_X7_emit__P k 0 (lI (lI (lB lZ 0 b3) 1 37) 2 ((((r2.2.1.2.2.1 41 ((((L.1 1)) + 2)).toNatClampNeg)) + 1))) r2.2.1) (fun r5 => some ((0, 0), r5.2.1, (0, 0)))) else none))) else none
  | _ + 1, _ + 3, _, _ => none
def o_f_X5_assignment : List Cond := [.fieldLink RX5 18 "SetHouse$Parser" "lex" "LSetHouse$Lexer;", .fieldLink RX5 9 "SetHouse$Parser" "marks" "[I", .methodLink RX5 30 yX2_advance, .instanceMethod yX2_advance, .selects RX2 yX2_advance yX2_advance, .initialized RX2, .fieldLink RX5 93 "SetHouse$Parser" "p" "LSetHouse$Program;", .methodLink RX5 66 yX7_emit, .instanceMethod yX7_emit, .selects RX7 yX7_emit yX7_emit, .initialized RX7, .methodLink RX5 90 yX5_exp, .instanceMethod yX5_exp, .selects RX5 yX5_exp yX5_exp, .initialized RX5, .methodLink RX5 316 yX5_emitTarget, .instanceMethod yX5_emitTarget, .selects RX5 yX5_emitTarget yX5_emitTarget]
theorem o_f_X5_assignment_good : o_f_X5_assignment.all goodWord = true := by decide +kernel
def p_f_X5_assignment : List Cond := o_f_X5_assignment ++ ((.code yX2_advance cX2_advance 7 none :: p_f_X2_advance) ++ ((.code yX7_emit cX7_emit 3 (some .int) :: p_f_X7_emit__P) ++ ((.code yX5_exp cX5_exp 8 none :: p_f_F2) ++ ((.code yX5_emitTarget cX5_emitTarget 5 none :: p_f_X5_emitTarget) ++ []))))
theorem p_f_X5_assignment_good : p_f_X5_assignment.all goodWord = true := nb_all2 o_f_X5_assignment_good (nb_all2 (nb_allc (by decide +kernel) p_f_X2_advance_good) (nb_all2 (nb_allc (by decide +kernel) p_f_X7_emit__P_good) (nb_all2 (nb_allc (by decide +kernel) p_f_F2_good) (nb_all2 (nb_allc (by decide +kernel) p_f_X5_emitTarget_good) rfl))))
def w_f_X5_assignment : List Cond := .code yX5_assignment cX5_assignment 2 none :: (p_f_X5_assignment ++ fC)
theorem w_f_X5_assignment_good : w_f_X5_assignment.all goodWord = true := nb_allc (by decide +kernel) (nb_all2 p_f_X5_assignment_good fC_good)
theorem in_f_X5_assignment_X2 : ∀ w ∈ wsX20, w ∈ w_f_X5_assignment := fun _ h => List.mem_cons_of_mem _ (List.mem_append_right _ (List.mem_append_right _ (List.mem_append_right _ (List.mem_append_left _ h))))
theorem in_f_X5_assignment_X5 : ∀ w ∈ wsX50, w ∈ w_f_X5_assignment := fun _ h => List.mem_cons_of_mem _ (List.mem_append_right _ (List.mem_append_right _ (List.mem_append_right _ (List.mem_append_right _ (List.mem_append_right _ (List.mem_append_left _ h))))))
theorem hd_f_X5_assignment : yX5_assignment.cls = RX5 ∧ yX5_assignment.cls ≠ "java/lang/invoke/MethodHandle" ∧ yX5_assignment.cls ≠ "java/lang/invoke/VarHandle" ∧ (parseMethodDescriptor yX5_assignment.desc).map (fun d => d.parameters.length) = some 1 := by decide +kernel
theorem gg_f_X5_assignment_X2_advance : GoodIn w_f_X5_assignment w_f_X2_advance := goodIn_sub (fun w h => (List.mem_cons.mp h).elim (fun e => (List.mem_cons_of_mem _ (List.mem_append_left _ (List.mem_append_right _ (List.mem_append_left _ (List.mem_cons.mpr (Or.inl e))))))) (fun h => (List.mem_append.mp h).elim (fun h => (List.mem_cons_of_mem _ (List.mem_append_left _ (List.mem_append_right _ (List.mem_append_left _ (List.mem_cons_of_mem _ h)))))) (fun h => List.mem_cons_of_mem _ (List.mem_append_right _ h)))) w_f_X2_advance_good
theorem g_f_X5_assignment_X2_advance_V30 : GoodIn w_f_X5_assignment (wsV RX5 30 RX2 yX2_advance w_f_X2_advance) := goodIn_app (nb_g4 (List.mem_cons_of_mem _ (List.mem_append_left _ (List.mem_append_left _ (List.mem_of_getElem? (i := 2) rfl)))) (List.mem_cons_of_mem _ (List.mem_append_left _ (List.mem_append_left _ (List.mem_of_getElem? (i := 3) rfl)))) (List.mem_cons_of_mem _ (List.mem_append_left _ (List.mem_append_left _ (List.mem_of_getElem? (i := 4) rfl)))) (List.mem_cons_of_mem _ (List.mem_append_left _ (List.mem_append_left _ (List.mem_of_getElem? (i := 5) rfl)))) (by decide +kernel)) gg_f_X5_assignment_X2_advance
theorem gg_f_X5_assignment_X5_emitTarget : GoodIn w_f_X5_assignment w_f_X5_emitTarget := goodIn_sub (fun w h => (List.mem_cons.mp h).elim (fun e => (List.mem_cons_of_mem _ (List.mem_append_left _ (List.mem_append_right _ (List.mem_append_right _ (List.mem_append_right _ (List.mem_append_right _ (List.mem_append_left _ (List.mem_cons.mpr (Or.inl e)))))))))) (fun h => (List.mem_append.mp h).elim (fun h => (List.mem_cons_of_mem _ (List.mem_append_left _ (List.mem_append_right _ (List.mem_append_right _ (List.mem_append_right _ (List.mem_append_right _ (List.mem_append_left _ (List.mem_cons_of_mem _ h))))))))) (fun h => List.mem_cons_of_mem _ (List.mem_append_right _ h)))) w_f_X5_emitTarget_good
theorem g_f_X5_assignment_X5_emitTarget_V316 : GoodIn w_f_X5_assignment (wsV RX5 316 RX5 yX5_emitTarget w_f_X5_emitTarget) := goodIn_app (nb_g4 (List.mem_cons_of_mem _ (List.mem_append_left _ (List.mem_append_left _ (List.mem_of_getElem? (i := 15) rfl)))) (List.mem_cons_of_mem _ (List.mem_append_left _ (List.mem_append_left _ (List.mem_of_getElem? (i := 16) rfl)))) (List.mem_cons_of_mem _ (List.mem_append_left _ (List.mem_append_left _ (List.mem_of_getElem? (i := 17) rfl)))) (List.mem_cons_of_mem _ (List.mem_append_left _ (List.mem_append_left _ (List.mem_of_getElem? (i := 14) rfl)))) (by decide +kernel)) gg_f_X5_assignment_X5_emitTarget
theorem gg_f_X5_assignment_X5_exp : GoodIn w_f_X5_assignment w_f_X5_exp := goodIn_sub (fun w h => (List.mem_cons.mp h).elim (fun e => (List.mem_cons_of_mem _ (List.mem_append_left _ (List.mem_append_right _ (List.mem_append_right _ (List.mem_append_right _ (List.mem_append_left _ (List.mem_cons.mpr (Or.inl e))))))))) (fun h => (List.mem_append.mp h).elim (fun h => (List.mem_cons_of_mem _ (List.mem_append_left _ (List.mem_append_right _ (List.mem_append_right _ (List.mem_append_right _ (List.mem_append_left _ (List.mem_cons_of_mem _ h)))))))) (fun h => List.mem_cons_of_mem _ (List.mem_append_right _ h)))) w_f_X5_exp_good
theorem g_f_X5_assignment_X5_exp_V90 : GoodIn w_f_X5_assignment (wsV RX5 90 RX5 yX5_exp w_f_X5_exp) := goodIn_app (nb_g4 (List.mem_cons_of_mem _ (List.mem_append_left _ (List.mem_append_left _ (List.mem_of_getElem? (i := 11) rfl)))) (List.mem_cons_of_mem _ (List.mem_append_left _ (List.mem_append_left _ (List.mem_of_getElem? (i := 12) rfl)))) (List.mem_cons_of_mem _ (List.mem_append_left _ (List.mem_append_left _ (List.mem_of_getElem? (i := 13) rfl)))) (List.mem_cons_of_mem _ (List.mem_append_left _ (List.mem_append_left _ (List.mem_of_getElem? (i := 14) rfl)))) (by decide +kernel)) gg_f_X5_assignment_X5_exp
theorem gg_f_X5_assignment_X7_emit__P : GoodIn w_f_X5_assignment w_f_X7_emit__P := goodIn_sub (fun w h => (List.mem_cons.mp h).elim (fun e => (List.mem_cons_of_mem _ (List.mem_append_left _ (List.mem_append_right _ (List.mem_append_right _ (List.mem_append_left _ (List.mem_cons.mpr (Or.inl e)))))))) (fun h => (List.mem_append.mp h).elim (fun h => (List.mem_cons_of_mem _ (List.mem_append_left _ (List.mem_append_right _ (List.mem_append_right _ (List.mem_append_left _ (List.mem_cons_of_mem _ h))))))) (fun h => List.mem_cons_of_mem _ (List.mem_append_right _ h)))) w_f_X7_emit__P_good
theorem g_f_X5_assignment_X7_emit__P_V66 : GoodIn w_f_X5_assignment (wsV RX5 66 RX7 yX7_emit w_f_X7_emit__P) := goodIn_app (nb_g4 (List.mem_cons_of_mem _ (List.mem_append_left _ (List.mem_append_left _ (List.mem_of_getElem? (i := 7) rfl)))) (List.mem_cons_of_mem _ (List.mem_append_left _ (List.mem_append_left _ (List.mem_of_getElem? (i := 8) rfl)))) (List.mem_cons_of_mem _ (List.mem_append_left _ (List.mem_append_left _ (List.mem_of_getElem? (i := 9) rfl)))) (List.mem_cons_of_mem _ (List.mem_append_left _ (List.mem_append_left _ (List.mem_of_getElem? (i := 10) rfl)))) (by decide +kernel)) gg_f_X5_assignment_X7_emit__P
set_option maxHeartbeats 40000000 in
set_option maxRecDepth 100000 in
theorem c_f_X5_assignment (l : Launch) (hl0 : l.stackTraces = false) (dC : Nat → ClassId) (dI : Nat → Nat → Nat) (cy : Nat → ClassId) (ek a : Nat → Nat) (k0 : Nat) (L0 : LV) (σ0 : CS) (r0 : RS) (h0 : f_X5_assignment k0 0 L0 σ0 = some r0) (z : Nat → Nat) (sz : Nat) : vx_Met l yX5_assignment w_f_X5_assignment ({ frames := 410, cells := r0.2.2.1, slots := r0.2.2.2, locals := 13400 }) (va_Pc [.ref (a 40), .int (L0.1 1)] (nInF (dC, dI) cy ek sz (vC cy a z σ0))) (xV dC dI cy a (va_A (vC cy a z σ0) sz) [41, 43, 51] z r0) (xX dC dI cy a (va_A (vC cy a z σ0) sz) [41, 43, 51] z r0) r0.2.2.1 r0.2.2.2 (va_A (vC cy a z σ0) sz) := by
  refine vx_ofW (cc := cX5_assignment) (maxL := 2) (ret := none) (by decide) rfl ?_
  intro p e s m args below meth c s₁ B hml hno hv
  obtain ⟨rfl, ⟨⟨hsz, hP, hK, hD0, hG⟩, hE⟩, hT⟩ := hv
  have hx := B.exec
  have hb := B.bytes
  have hr := B.returns
  have hts := atoms_spec (ws := w_f_X5_assignment) B.pre
  have hown : s.vm.findClass RX5 = some m.cls := findClass_of_methodNamed B.named
  have hlocks := B.notSynchronized
  subst hsz
  have hD := hD0.self (sz := s.heap.size)
  generalize hAe : va_A (vC cy a z σ0) s.heap.size = A at hD hE hT ⊢
  have hA : ∀ q : Nat, s.heap.size ≤ q → A q := fun q h => by rw [← hAe]; exact Or.inr h
  have hS : va_S A s.heap s.heap [] := va_S.rf
  have hl := lv_entry ([.ref (a 40), .int (L0.1 1)]) (n := 2) (Nat.le_of_ble_eq_true rfl)
  rw [lg_entry_eq]
  generalize (lg_sl ([.ref (a 40), .int (L0.1 1)]) ++ List.replicate (2 - (lg_sl ([.ref (a 40), .int (L0.1 1)])).length) Slot.unset).toArray = ls at hl ⊢
  have hl : lv_has ls 2 [(0, .ref (a 40)), (1, .int (L0.1 1))] := hl
  generalize hmc : r0.2.2.1 = mc
  generalize hms : r0.2.2.2 = ms
  have blk : ∀ k : Nat, (bX p l e (headSpec w_f_X5_assignment ({ frames := 410, cells := mc, slots := ms, locals := 13400 })).room s m #[.ref (a 40), .int (L0.1 1)] below meth c dC dI cy a A (fun r => vx_MQ below (xV dC dI cy a A [41, 43, 51] z r) (xX dC dI cy a A [41, 43, 51] z r) #[.ref (a 40), .int (L0.1 1)] s mc ms A) [41, 43, 51] z mc ms 2 (f_X5_assignment k 0) (fun z L => [(0, .ref (a 40)), (1, .int (L.1 1))]) 0 (fun z L => [])) ∧ (bX p l e (headSpec w_f_X5_assignment ({ frames := 410, cells := mc, slots := ms, locals := 13400 })).room s m #[.ref (a 40), .int (L0.1 1)] below meth c dC dI cy a A (fun r => vx_MQ below (xV dC dI cy a A [41, 43, 51] z r) (xX dC dI cy a A [41, 43, 51] z r) #[.ref (a 40), .int (L0.1 1)] s mc ms A) [41, 43, 51] z mc ms 2 (f_X5_assignment k 1) (fun z L => [(0, .ref (a 40)), (1, .int (L.1 1))]) 44 (fun z L => [])) ∧ (bX p l e (headSpec w_f_X5_assignment ({ frames := 410, cells := mc, slots := ms, locals := 13400 })).room s m #[.ref (a 40), .int (L0.1 1)] below meth c dC dI cy a A (fun r => vx_MQ below (xV dC dI cy a A [41, 43, 51] z r) (xX dC dI cy a A [41, 43, 51] z r) #[.ref (a 40), .int (L0.1 1)] s mc ms A) [41, 43, 51] z mc ms 2 (f_X5_assignment k 2) (fun z L => [(0, .ref (a 40)), (1, .int (L.1 1))]) 49 (fun z L => [])) := by
    intro k
    induction k with
    | zero => exact ⟨fun z c1 c2 L σ r h => (by cases h), fun z c1 c2 L σ r h => (by cases h), fun z c1 c2 L σ r h => (by cases h)⟩
    | succ k ih =>
      refine ⟨?_, ?_, ?_⟩
      · intro z cells slots L σ r h hzk hc hs H locs ls hP hD hS hl
        rw [f_X5_assignment] at h
        refine lv_aload_n hx hb dX5_assignment_0 rfl (lv_at hl 0 rfl) ?_
        refine hg_40_0 hx hb hts in_f_X5_assignment_X5 hown hK hP (hts _ (List.mem_cons_of_mem _ (List.mem_append_left _ (List.mem_append_left _ (List.mem_of_getElem? (i := 0) rfl))))) dX5_assignment_1 ?_
        refine hg_37_2n hx hb hts in_f_X5_assignment_X2 hown hK hP (va_Nw.use rfl (hG.1 _ (List.mem_of_getElem? (i := 52) rfl))) dX5_assignment_4 ?_
        refine lv_bipush (v := 63) hx hb dX5_assignment_7 (by decide) ?_
        refine lv_icmp_ne (tgt := 44) hx hb dX5_assignment_9 (by decide) (fun c1 => ?_) (fun c1 => ?_)
        · rw [if_neg c1] at h
          exact ih.2.1 z _ _ L σ _ h hzk hc hs H locs ls hP hD hS (lv_sub hl [0, 1] rfl)
        · rw [if_pos c1] at h
          refine lv_aload_n hx hb dX5_assignment_12 rfl (lv_at hl 0 rfl) ?_
          refine hg_40_10 hx hb hts in_f_X5_assignment_X5 hown hK hP (hts _ (List.mem_cons_of_mem _ (List.mem_append_left _ (List.mem_append_left _ (List.mem_of_getElem? (i := 1) rfl))))) dX5_assignment_13 ?_
          refine lv_iload_n hx hb dX5_assignment_16 rfl (lv_at hl 1 rfl) ?_
          refine lv_iconst (v := 3) hx hb dX5_assignment_17 (by decide) ?_
          refine lv_iadd hx hb dX5_assignment_18 ?_
          obtain ⟨q2, h⟩ := kr_ite1 h
          refine hl_41 hx hb hK hP q2 dX5_assignment_19 ?_
          refine lv_if_ne (tgt := 44) hx hb dX5_assignment_20 (by decide) (fun c3 => ?_) (fun c3 => ?_)
          · rw [if_neg c3] at h
            exact ih.2.1 z _ _ L σ _ h hzk hc hs H locs ls hP hD hS (lv_sub hl [0, 1] rfl)
          · rw [if_pos c3] at h
            refine lv_aload_n hx hb dX5_assignment_23 rfl (lv_at hl 0 rfl) ?_
            refine hg_40_0 hx hb hts in_f_X5_assignment_X5 hown hK hP (hts _ (List.mem_cons_of_mem _ (List.mem_append_left _ (List.mem_append_left _ (List.mem_of_getElem? (i := 0) rfl))))) dX5_assignment_24 ?_
            obtain ⟨r4, hc4, hle4, h9⟩ := ox_ex h
            clear h
            refine kx_v (vx_runV (As := []) (rest := []) ⟨hx, hb, hml, hown, hts⟩ (c_f_X2_advance l hl0 dC dI cy ek a k lZ σ r4 hc4 z H.size) (cwV 0 hts g_f_X5_assignment_X2_advance_V30 rfl rfl rfl hd_f_X2_advance ⟨Nat.le_of_ble_eq_true rfl, Nat.le_of_ble_eq_true rfl⟩) ⟨nb_blindF, va_recv hK hP (ci := 2) (q0 := 37) rfl rfl, (kx_pre hK hG hE hT hA hP hD hS)⟩ rfl rfl hl.1 rfl (lv_room (Nat.le_of_ble_eq_true rfl)) dX5_assignment_27 ⟨Nat.le_trans (Nat.add_le_add_left hle4.1 _) (Nat.le_of_eq hc), Nat.le_trans (Nat.add_le_add_left hle4.2 _) (Nat.le_of_eq hs)⟩) hK hA hzk hP hD hS (by decide) hno hlocks ?_
            rcases h9 with ⟨h00, y4, hny4, hy⟩ | ⟨h00, hy⟩
            · subst hy
              have h := hny4
              refine Or.inl ⟨h00, fun u H locs hz4 hzk hP hD hS => ?_⟩
              obtain rfl := (zk_nil hz4).symm
              replace hc := (Nat.add_assoc _ _ _).trans hc
              replace hs := (Nat.add_assoc _ _ _).trans hs
              refine lv_aload_n hx hb dX5_assignment_30 rfl (lv_at hl 0 rfl) ?_
              obtain ⟨b5, hb5, h⟩ := oP_ex h
              refine hgq_40_2 hx hb hts in_f_X5_assignment_X5 hown hK hP (hts _ (List.mem_cons_of_mem _ (List.mem_append_left _ (List.mem_append_left _ (List.mem_of_getElem? (i := 6) rfl))))) hb5 dX5_assignment_31 ?_
              refine lv_bipush (v := 21) hx hb dX5_assignment_34 (by decide) ?_
              refine lv_iconst (v := 0) hx hb dX5_assignment_36 (by decide) ?_
              obtain ⟨r6, hc6, hle6, h9⟩ := ox_ex h
              clear h
              refine kx_i (r := y4) (vx_runV (As := [.int 21, .int 0]) (rest := []) ⟨hx, hb, hml, hown, hts⟩ (c_f_X7_emit__P l hl0 dC dI cy ek a k (lI (lI (lB lZ 0 b5) 1 21) 2 0) r4.2.1 r6 hc6 z H.size) (cwV 2 hts g_f_X5_assignment_X7_emit__P_V66 rfl rfl rfl hd_f_X7_emit__P ⟨Nat.le_of_ble_eq_true rfl, Nat.le_of_ble_eq_true rfl⟩) ⟨nb_blindF, recvP b5 hK hP, (kx_pre hK hG hE hT hA hP hD hS)⟩ rfl rfl hl.1 rfl (lv_room (Nat.le_of_ble_eq_true rfl)) dX5_assignment_37 ⟨Nat.le_trans (Nat.add_le_add_left hle6.1 _) (Nat.le_of_eq hc), Nat.le_trans (Nat.add_le_add_left hle6.2 _) (Nat.le_of_eq hs)⟩) hK hA hzk hP hD hS (by decide) hno hlocks ?_
              rcases h9 with ⟨h00, y6, hny6, hy⟩ | ⟨h00, hy⟩
              · subst hy
                have h := hny6
                refine Or.inl ⟨h00, fun z H locs hz6 hzk hP hD hS => ?_⟩
                replace hc := (Nat.add_assoc _ _ _).trans hc
                replace hs := (Nat.add_assoc _ _ _).trans hs
                refine lv_pop hx hb dX5_assignment_40 rfl ?_
                refine lv_goto (tgt := 49) hx hb dX5_assignment_41 (by decide) ?_
                exact ih.2.2 z _ _ L r6.2.1 _ h hzk hc hs H locs ls hP hD hS (lv_sub hl [0, 1] rfl)
              · subst hy
                exact Or.inr ⟨h00, rfl, hc, hs⟩
            · subst hy
              exact Or.inr ⟨h00, rfl, hc, hs⟩
      · intro z cells slots L σ r h hzk hc hs H locs ls hP hD hS hl
        rw [f_X5_assignment] at h
        refine lv_aload_n hx hb dX5_assignment_44 rfl (lv_at hl 0 rfl) ?_
        refine lv_iconst (v := 0) hx hb dX5_assignment_45 (by decide) ?_
        obtain ⟨r1, hc1, hle1, h9⟩ := ox_ex h
        clear h
        refine kx_v (vx_runV (As := [.int 0]) (rest := []) ⟨hx, hb, hml, hown, hts⟩ (c_f_X5_exp l hl0 dC dI cy ek a k (lI lZ 1 0) σ r1 hc1 z H.size) (cwV 1 hts g_f_X5_assignment_X5_exp_V90 rfl rfl rfl hd_f_X5_exp ⟨Nat.le_of_ble_eq_true rfl, Nat.le_of_ble_eq_true rfl⟩) ⟨nb_blindF, va_recv hK hP (ci := 4) (q0 := 40) rfl rfl, (kx_pre hK hG hE hT hA hP hD hS)⟩ rfl rfl hl.1 rfl (lv_room (Nat.le_of_ble_eq_true rfl)) dX5_assignment_46 ⟨Nat.le_trans (Nat.add_le_add_left hle1.1 _) (Nat.le_of_eq hc), Nat.le_trans (Nat.add_le_add_left hle1.2 _) (Nat.le_of_eq hs)⟩) hK hA hzk hP hD hS (by decide) hno hlocks ?_
        rcases h9 with ⟨h00, y1, hny1, hy⟩ | ⟨h00, hy⟩
        · subst hy
          have h := hny1
          refine Or.inl ⟨h00, fun z H locs hz1 hzk hP hD hS => ?_⟩
          replace hc := (Nat.add_assoc _ _ _).trans hc
          replace hs := (Nat.add_assoc _ _ _).trans hs
          exact ih.2.2 z _ _ L r1.2.1 _ h hzk hc hs H locs ls hP hD hS (lv_sub hl [0, 1] rfl)
        · subst hy
          exact Or.inr ⟨h00, rfl, hc, hs⟩
      · intro z cells slots L σ r h hzk hc hs H locs ls hP hD hS hl
        rw [f_X5_assignment] at h
        refine lv_aload_n hx hb dX5_assignment_49 rfl (lv_at hl 0 rfl) ?_
        refine lv_sipush (v := 192) hx hb dX5_assignment_50 (by decide) ?_
        refine lv_iload_n hx hb dX5_assignment_53 rfl (lv_at hl 1 rfl) ?_
        refine lv_aload_n hx hb dX5_assignment_54 rfl (lv_at hl 0 rfl) ?_
        refine hg_40_10 hx hb hts in_f_X5_assignment_X5 hown hK hP (hts _ (List.mem_cons_of_mem _ (List.mem_append_left _ (List.mem_append_left _ (List.mem_of_getElem? (i := 1) rfl))))) dX5_assignment_55 ?_
        refine lv_iload_n hx hb dX5_assignment_58 rfl (lv_at hl 1 rfl) ?_
        refine lv_iconst (v := 2) hx hb dX5_assignment_59 (by decide) ?_
        refine lv_iadd hx hb dX5_assignment_60 ?_
        obtain ⟨q1, h⟩ := kr_ite1 h
        refine hl_41 hx hb hK hP q1 dX5_assignment_61 ?_
        refine lv_iconst (v := 1) hx hb dX5_assignment_62 (by decide) ?_
        refine lv_iadd hx hb dX5_assignment_63 ?_
        obtain ⟨r2, hc2, hle2, h9⟩ := ox_ex h
        clear h
        refine kx_v (vx_runV (As := [.int 192, .int (L.1 1), .int (((σ.2.2.1 41 ((((L.1 1)) + 2)).toNatClampNeg)) + 1)]) (rest := []) ⟨hx, hb, hml, hown, hts⟩ (c_f_X5_emitTarget l hl0 dC dI cy ek a k (lI (lI (lI lZ 1 192) 2 ((L.1 1))) 3 ((((σ.2.2.1 41 ((((L.1 1)) + 2)).toNatClampNeg)) + 1))) σ r2 hc2 z H.size) (cwV 3 hts g_f_X5_assignment_X5_emitTarget_V316 rfl rfl rfl hd_f_X5_emitTarget ⟨Nat.le_of_ble_eq_true rfl, Nat.le_of_ble_eq_true rfl⟩) ⟨nb_blindF, va_recv hK hP (ci := 4) (q0 := 40) rfl rfl, (kx_pre hK hG hE hT hA hP hD hS)⟩ rfl rfl hl.1 rfl (lv_room (Nat.le_of_ble_eq_true rfl)) dX5_assignment_64 ⟨Nat.le_trans (Nat.add_le_add_left hle2.1 _) (Nat.le_of_eq hc), Nat.le_trans (Nat.add_le_add_left hle2.2 _) (Nat.le_of_eq hs)⟩) hK hA hzk hP hD hS (by decide) hno hlocks ?_
        rcases h9 with ⟨h00, y2, hny2, hy⟩ | ⟨h00, hy⟩
        · subst hy
          have h := hny2
          refine Or.inl ⟨h00, fun z H locs hz2 hzk hP hD hS => ?_⟩
          replace hc := (Nat.add_assoc _ _ _).trans hc
          replace hs := (Nat.add_assoc _ _ _).trans hs
          refine lv_aload_n hx hb dX5_assignment_67 rfl (lv_at hl 0 rfl) ?_
          obtain ⟨b3, hb3, h⟩ := oP_ex h
          refine hgq_40_2 hx hb hts in_f_X5_assignment_X5 hown hK hP (hts _ (List.mem_cons_of_mem _ (List.mem_append_left _ (List.mem_append_left _ (List.mem_of_getElem? (i := 6) rfl))))) hb3 dX5_assignment_68 ?_
          refine lv_bipush (v := 37) hx hb dX5_assignment_71 (by decide) ?_
          refine lv_aload_n hx hb dX5_assignment_73 rfl (lv_at hl 0 rfl) ?_
          refine hg_40_10 hx hb hts in_f_X5_assignment_X5 hown hK hP (hts _ (List.mem_cons_of_mem _ (List.mem_append_left _ (List.mem_append_left _ (List.mem_of_getElem? (i := 1) rfl))))) dX5_assignment_74 ?_
          refine lv_iload_n hx hb dX5_assignment_77 rfl (lv_at hl 1 rfl) ?_
          refine lv_iconst (v := 2) hx hb dX5_assignment_78 (by decide) ?_
          refine lv_iadd hx hb dX5_assignment_79 ?_
          obtain ⟨q4, h⟩ := kr_ite1 h
          refine hl_41 hx hb hK hP q4 dX5_assignment_80 ?_
          refine lv_iconst (v := 1) hx hb dX5_assignment_81 (by decide) ?_
          refine lv_iadd hx hb dX5_assignment_82 ?_
          obtain ⟨r5, hc5, hle5, h9⟩ := ox_ex h
          clear h
          refine kx_i (r := y2) (vx_runV (As := [.int 37, .int (((r2.2.1.2.2.1 41 ((((L.1 1)) + 2)).toNatClampNeg)) + 1)]) (rest := []) ⟨hx, hb, hml, hown, hts⟩ (c_f_X7_emit__P l hl0 dC dI cy ek a k (lI (lI (lB lZ 0 b3) 1 37) 2 ((((r2.2.1.2.2.1 41 ((((L.1 1)) + 2)).toNatClampNeg)) + 1))) r2.2.1 r5 hc5 z H.size) (cwV 2 hts g_f_X5_assignment_X7_emit__P_V66 rfl rfl rfl hd_f_X7_emit__P ⟨Nat.le_of_ble_eq_true rfl, Nat.le_of_ble_eq_true rfl⟩) ⟨nb_blindF, recvP b3 hK hP, (kx_pre hK hG hE hT hA hP hD hS)⟩ rfl rfl hl.1 rfl (lv_room (Nat.le_of_ble_eq_true rfl)) dX5_assignment_83 ⟨Nat.le_trans (Nat.add_le_add_left hle5.1 _) (Nat.le_of_eq hc), Nat.le_trans (Nat.add_le_add_left hle5.2 _) (Nat.le_of_eq hs)⟩) hK hA hzk hP hD hS (by decide) hno hlocks ?_
          rcases h9 with ⟨h00, y5, hny5, hy⟩ | ⟨h00, hy⟩
          · subst hy
            have h := hny5
            refine Or.inl ⟨h00, fun z H locs hz5 hzk hP hD hS => ?_⟩
            replace hc := (Nat.add_assoc _ _ _).trans hc
            replace hs := (Nat.add_assoc _ _ _).trans hs
            refine lv_pop hx hb dX5_assignment_86 rfl ?_
            obtain rfl := Option.some.inj h
            subst hc
            subst hs
            exact xr_v hx hb hr hK hzk hP hD hS hlocks dX5_assignment_87
          · subst hy
            exact Or.inr ⟨h00, rfl, hc, hs⟩
        · subst hy
          exact Or.inr ⟨h00, rfl, hc, hs⟩
  exact (blk k0).1 z 0 0 L0 σ0 r0 h0 (zk_rf _ _) ((Nat.zero_add _).trans hmc) ((Nat.zero_add _).trans hms) s.heap [] ls hP hD hS hl
/-! X5_operation -/
def f_X5_operation : Nat → Nat → LV → CS → Option RS
  | 0, _, _, _ => none
  | k + 1, 0, L, σ => ox (f_X2_advance k 0 lZ σ) (fun r1 => ox (f_X5_expect k 0 (lI lZ 1 5) r1.2.1) (fun r2 => ox (f_X5_exp k 0 (lI lZ 1 0) r2.2.1) (fun r3 => if ¬ (((((L.1 1)) + 2)) < 0 ∨ (sN r3.2.1 41) ≤ ((((L.1 1)) + 2)).toNatClampNeg) then (ox (f_X5_emitTarget k 0 (lI (lI (lI lZ 1 176) 2 ((L.1 1))) 3 ((((r3.2.1.2.2.1 41 ((((L.1 1)) + 2)).toNatClampNeg)) + 1))) r3.2.1) (fun r5 => oP (sPp r5.2.1) (fun b6 => ox (f_X7_emit__P k 0 (lI (lI (lB lZ 0 b6) 1 39) 2 0) r5.2.1) (fun r7 => oP (sPp r7.2.1) (fun b8 => if ((L.1 2)) = 6 then (f_X5_operation k 2 (lB (lI L 100 128) 101 b8) r7.2.1) else (f_X5_operation k 1 (lB L 100 b8) r7.2.1)))))) else none)))
  | k + 1, 1, L, σ => if ((L.1 2)) = 7 then (f_X5_operation k 2 (lB (lI L 100 129) 101 ((L.2.2.1 100))) σ) else (f_X5_operation k 3 (lB L 100 ((L.2.2.1 100))) σ)
  | k + 1, 2, L, σ => ox (f_X7_emit__P k 0 (lI (lI (lB lZ 0 ((L.2.2.1 101))) 1 ((L.1 100))) 2 0) σ) (fun r1 => if ¬ (((((L.1 1)) + 2)) < 0 ∨ (sN r1.2.1 41) ≤ ((((L.1 1)) + 2)).toNatClampNeg) then (ox (f_X5_emitTarget k 0 (lI (lI (lI lZ 1 192) 2 ((L.1 1))) 3 ((((r1.2.1.2.2.1 41 ((((L.1 1)) + 2)).toNatClampNeg)) + 1))) r1.2.1) (fun r3 => oP (sPp r3.2.1) (fun b4 => if ¬ (((((L.1 1)) + 2)) < 0 ∨ (sN r3.2.1 41) ≤ ((((L.1 1)) + 2)).toNatClampNeg) then (ox (f_X7_emit__P k 0 (lI (lI (lB lZ 0 b4) 1 37) 2 ((((r3.2.1.2.2.1 41 ((((L.1 1)) + 2)).toNatClampNeg)) + 1))) r3.2.1) (fun r6 => some ((0, 0), r6.2.1, (0, 0)))) else none))) else none)
  | k + 1, 3, L, σ => f_X5_operation k 2 (lB (lI L 100 130) 101 ((L.2.2.1 100))) σ
  | _ + 1, _ + 4, _, _ => none
def o_f_X5_operation : List Cond := [.fieldLink RX5 18 "SetHouse$Parser" "lex" "LSetHouse$Lexer;", .methodLink RX5 30 yX2_advance, .instanceMethod yX2_advance, .selects RX2 yX2_advance yX2_advance, .initialized RX2, .methodLink RX5 141 yX5_expect, .instanceMethod yX5_expect, .selects RX5 yX5_expect yX5_expect, .initialized RX5, .methodLink RX5 90 yX5_exp, .instanceMethod yX5_exp, .selects RX5 yX5_exp yX5_exp, .fieldLink RX5 9 "SetHouse$Parser" "marks" "[I", .methodLink RX5 316 yX5_emitTarget, .instanceMethod yX5_emitTarget, .selects RX5 yX5_emitTarget yX5_emitTarget, .fieldLink RX5 93 "SetHouse$Parser" "p" "LSetHouse$Program;", .methodLink RX5 66 yX7_emit, .instanceMethod yX7_emit, .selects RX7 yX7_emit yX7_emit, .initialized RX7]
theorem o_f_X5_operation_good : o_f_X5_operation.all goodWord = true := by decide +kernel
def p_f_X5_operation : List Cond := o_f_X5_operation ++ ((.code yX2_advance cX2_advance 7 none :: p_f_X2_advance) ++ ((.code yX5_expect cX5_expect 2 none :: p_f_X5_expect) ++ ((.code yX5_exp cX5_exp 8 none :: p_f_F2) ++ ((.code yX5_emitTarget cX5_emitTarget 5 none :: p_f_X5_emitTarget) ++ ((.code yX7_emit cX7_emit 3 (some .int) :: p_f_X7_emit__P) ++ [])))))
theorem p_f_X5_operation_good : p_f_X5_operation.all goodWord = true := nb_all2 o_f_X5_operation_good (nb_all2 (nb_allc (by decide +kernel) p_f_X2_advance_good) (nb_all2 (nb_allc (by decide +kernel) p_f_X5_expect_good) (nb_all2 (nb_allc (by decide +kernel) p_f_F2_good) (nb_all2 (nb_allc (by decide +kernel) p_f_X5_emitTarget_good) (nb_all2 (nb_allc (by decide +kernel) p_f_X7_emit__P_good) rfl)))))
def w_f_X5_operation : List Cond := .code yX5_operation cX5_operation 3 none :: (p_f_X5_operation ++ fC)
theorem w_f_X5_operation_good : w_f_X5_operation.all goodWord = true := nb_allc (by decide +kernel) (nb_all2 p_f_X5_operation_good fC_good)
theorem in_f_X5_operation_X5 : ∀ w ∈ wsX50, w ∈ w_f_X5_operation := fun _ h => List.mem_cons_of_mem _ (List.mem_append_right _ (List.mem_append_right _ (List.mem_append_right _ (List.mem_append_right _ (List.mem_append_right _ (List.mem_append_left _ h))))))
theorem hd_f_X5_operation : yX5_operation.cls = RX5 ∧ yX5_operation.cls ≠ "java/lang/invoke/MethodHandle" ∧ yX5_operation.cls ≠ "java/lang/invoke/VarHandle" ∧ (parseMethodDescriptor yX5_operation.desc).map (fun d => d.parameters.length) = some 2 := by decide +kernel
theorem gg_f_X5_operation_X2_advance : GoodIn w_f_X5_operation w_f_X2_advance := goodIn_sub (fun w h => (List.mem_cons.mp h).elim (fun e => (List.mem_cons_of_mem _ (List.mem_append_left _ (List.mem_append_right _ (List.mem_append_left _ (List.mem_cons.mpr (Or.inl e))))))) (fun h => (List.mem_append.mp h).elim (fun h => (List.mem_cons_of_mem _ (List.mem_append_left _ (List.mem_append_right _ (List.mem_append_left _ (List.mem_cons_of_mem _ h)))))) (fun h => List.mem_cons_of_mem _ (List.mem_append_right _ h)))) w_f_X2_advance_good
theorem g_f_X5_operation_X2_advance_V30 : GoodIn w_f_X5_operation (wsV RX5 30 RX2 yX2_advance w_f_X2_advance) := goodIn_app (nb_g4 (List.mem_cons_of_mem _ (List.mem_append_left _ (List.mem_append_left _ (List.mem_of_getElem? (i := 1) rfl)))) (List.mem_cons_of_mem _ (List.mem_append_left _ (List.mem_append_left _ (List.mem_of_getElem? (i := 2) rfl)))) (List.mem_cons_of_mem _ (List.mem_append_left _ (List.mem_append_left _ (List.mem_of_getElem? (i := 3) rfl)))) (List.mem_cons_of_mem _ (List.mem_append_left _ (List.mem_append_left _ (List.mem_of_getElem? (i := 4) rfl)))) (by decide +kernel)) gg_f_X5_operation_X2_advance
theorem gg_f_X5_operation_X5_emitTarget : GoodIn w_f_X5_operation w_f_X5_emitTarget := goodIn_sub (fun w h => (List.mem_cons.mp h).elim (fun e => (List.mem_cons_of_mem _ (List.mem_append_left _ (List.mem_append_right _ (List.mem_append_right _ (List.mem_append_right _ (List.mem_append_right _ (List.mem_append_left _ (List.mem_cons.mpr (Or.inl e)))))))))) (fun h => (List.mem_append.mp h).elim (fun h => (List.mem_cons_of_mem _ (List.mem_append_left _ (List.mem_append_right _ (List.mem_append_right _ (List.mem_append_right _ (List.mem_append_right _ (List.mem_append_left _ (List.mem_cons_of_mem _ h))))))))) (fun h => List.mem_cons_of_mem _ (List.mem_append_right _ h)))) w_f_X5_emitTarget_good
theorem g_f_X5_operation_X5_emitTarget_V316 : GoodIn w_f_X5_operation (wsV RX5 316 RX5 yX5_emitTarget w_f_X5_emitTarget) := goodIn_app (nb_g4 (List.mem_cons_of_mem _ (List.mem_append_left _ (List.mem_append_left _ (List.mem_of_getElem? (i := 13) rfl)))) (List.mem_cons_of_mem _ (List.mem_append_left _ (List.mem_append_left _ (List.mem_of_getElem? (i := 14) rfl)))) (List.mem_cons_of_mem _ (List.mem_append_left _ (List.mem_append_left _ (List.mem_of_getElem? (i := 15) rfl)))) (List.mem_cons_of_mem _ (List.mem_append_left _ (List.mem_append_left _ (List.mem_of_getElem? (i := 8) rfl)))) (by decide +kernel)) gg_f_X5_operation_X5_emitTarget
theorem gg_f_X5_operation_X5_exp : GoodIn w_f_X5_operation w_f_X5_exp := goodIn_sub (fun w h => (List.mem_cons.mp h).elim (fun e => (List.mem_cons_of_mem _ (List.mem_append_left _ (List.mem_append_right _ (List.mem_append_right _ (List.mem_append_right _ (List.mem_append_left _ (List.mem_cons.mpr (Or.inl e))))))))) (fun h => (List.mem_append.mp h).elim (fun h => (List.mem_cons_of_mem _ (List.mem_append_left _ (List.mem_append_right _ (List.mem_append_right _ (List.mem_append_right _ (List.mem_append_left _ (List.mem_cons_of_mem _ h)))))))) (fun h => List.mem_cons_of_mem _ (List.mem_append_right _ h)))) w_f_X5_exp_good
theorem g_f_X5_operation_X5_exp_V90 : GoodIn w_f_X5_operation (wsV RX5 90 RX5 yX5_exp w_f_X5_exp) := goodIn_app (nb_g4 (List.mem_cons_of_mem _ (List.mem_append_left _ (List.mem_append_left _ (List.mem_of_getElem? (i := 9) rfl)))) (List.mem_cons_of_mem _ (List.mem_append_left _ (List.mem_append_left _ (List.mem_of_getElem? (i := 10) rfl)))) (List.mem_cons_of_mem _ (List.mem_append_left _ (List.mem_append_left _ (List.mem_of_getElem? (i := 11) rfl)))) (List.mem_cons_of_mem _ (List.mem_append_left _ (List.mem_append_left _ (List.mem_of_getElem? (i := 8) rfl)))) (by decide +kernel)) gg_f_X5_operation_X5_exp
theorem gg_f_X5_operation_X5_expect : GoodIn w_f_X5_operation w_f_X5_expect := goodIn_sub (fun w h => (List.mem_cons.mp h).elim (fun e => (List.mem_cons_of_mem _ (List.mem_append_left _ (List.mem_append_right _ (List.mem_append_right _ (List.mem_append_left _ (List.mem_cons.mpr (Or.inl e)))))))) (fun h => (List.mem_append.mp h).elim (fun h => (List.mem_cons_of_mem _ (List.mem_append_left _ (List.mem_append_right _ (List.mem_append_right _ (List.mem_append_left _ (List.mem_cons_of_mem _ h))))))) (fun h => List.mem_cons_of_mem _ (List.mem_append_right _ h)))) w_f_X5_expect_good
theorem g_f_X5_operation_X5_expect_V141 : GoodIn w_f_X5_operation (wsV RX5 141 RX5 yX5_expect w_f_X5_expect) := goodIn_app (nb_g4 (List.mem_cons_of_mem _ (List.mem_append_left _ (List.mem_append_left _ (List.mem_of_getElem? (i := 5) rfl)))) (List.mem_cons_of_mem _ (List.mem_append_left _ (List.mem_append_left _ (List.mem_of_getElem? (i := 6) rfl)))) (List.mem_cons_of_mem _ (List.mem_append_left _ (List.mem_append_left _ (List.mem_of_getElem? (i := 7) rfl)))) (List.mem_cons_of_mem _ (List.mem_append_left _ (List.mem_append_left _ (List.mem_of_getElem? (i := 8) rfl)))) (by decide +kernel)) gg_f_X5_operation_X5_expect
theorem gg_f_X5_operation_X7_emit__P : GoodIn w_f_X5_operation w_f_X7_emit__P := goodIn_sub (fun w h => (List.mem_cons.mp h).elim (fun e => (List.mem_cons_of_mem _ (List.mem_append_left _ (List.mem_append_right _ (List.mem_append_right _ (List.mem_append_right _ (List.mem_append_right _ (List.mem_append_right _ (List.mem_append_left _ (List.mem_cons.mpr (Or.inl e))))))))))) (fun h => (List.mem_append.mp h).elim (fun h => (List.mem_cons_of_mem _ (List.mem_append_left _ (List.mem_append_right _ (List.mem_append_right _ (List.mem_append_right _ (List.mem_append_right _ (List.mem_append_right _ (List.mem_append_left _ (List.mem_cons_of_mem _ h)))))))))) (fun h => List.mem_cons_of_mem _ (List.mem_append_right _ h)))) w_f_X7_emit__P_good
theorem g_f_X5_operation_X7_emit__P_V66 : GoodIn w_f_X5_operation (wsV RX5 66 RX7 yX7_emit w_f_X7_emit__P) := goodIn_app (nb_g4 (List.mem_cons_of_mem _ (List.mem_append_left _ (List.mem_append_left _ (List.mem_of_getElem? (i := 17) rfl)))) (List.mem_cons_of_mem _ (List.mem_append_left _ (List.mem_append_left _ (List.mem_of_getElem? (i := 18) rfl)))) (List.mem_cons_of_mem _ (List.mem_append_left _ (List.mem_append_left _ (List.mem_of_getElem? (i := 19) rfl)))) (List.mem_cons_of_mem _ (List.mem_append_left _ (List.mem_append_left _ (List.mem_of_getElem? (i := 20) rfl)))) (by decide +kernel)) gg_f_X5_operation_X7_emit__P
set_option maxHeartbeats 40000000 in
set_option maxRecDepth 100000 in
theorem c_f_X5_operation (l : Launch) (hl0 : l.stackTraces = false) (dC : Nat → ClassId) (dI : Nat → Nat → Nat) (cy : Nat → ClassId) (ek a : Nat → Nat) (k0 : Nat) (L0 : LV) (σ0 : CS) (r0 : RS) (h0 : f_X5_operation k0 0 L0 σ0 = some r0) (z : Nat → Nat) (sz : Nat) : vx_Met l yX5_operation w_f_X5_operation ({ frames := 410, cells := r0.2.2.1, slots := r0.2.2.2, locals := 13400 }) (va_Pc [.ref (a 40), .int (L0.1 1), .int (L0.1 2)] (nInF (dC, dI) cy ek sz (vC cy a z σ0))) (xV dC dI cy a (va_A (vC cy a z σ0) sz) [41, 43, 51] z r0) (xX dC dI cy a (va_A (vC cy a z σ0) sz) [41, 43, 51] z r0) r0.2.2.1 r0.2.2.2 (va_A (vC cy a z σ0) sz) := by
  refine vx_ofW (cc := cX5_operation) (maxL := 3) (ret := none) (by decide) rfl ?_
  intro p e s m args below meth c s₁ B hml hno hv
  obtain ⟨rfl, ⟨⟨hsz, hP, hK, hD0, hG⟩, hE⟩, hT⟩ := hv
  have hx := B.exec
  have hb := B.bytes
  have hr := B.returns
  have hts := atoms_spec (ws := w_f_X5_operation) B.pre
  have hown : s.vm.findClass RX5 = some m.cls := findClass_of_methodNamed B.named
  have hlocks := B.notSynchronized
  subst hsz
  have hD := hD0.self (sz := s.heap.size)
  generalize hAe : va_A (vC cy a z σ0) s.heap.size = A at hD hE hT ⊢
  have hA : ∀ q : Nat, s.heap.size ≤ q → A q := fun q h => by rw [← hAe]; exact Or.inr h
  have hS : va_S A s.heap s.heap [] := va_S.rf
  have hl := lv_entry ([.ref (a 40), .int (L0.1 1), .int (L0.1 2)]) (n := 3) (Nat.le_of_ble_eq_true rfl)
  rw [lg_entry_eq]
  generalize (lg_sl ([.ref (a 40), .int (L0.1 1), .int (L0.1 2)]) ++ List.replicate (3 - (lg_sl ([.ref (a 40), .int (L0.1 1), .int (L0.1 2)])).length) Slot.unset).toArray = ls at hl ⊢
  have hl : lv_has ls 3 [(0, .ref (a 40)), (1, .int (L0.1 1)), (2, .int (L0.1 2))] := hl
  generalize hmc : r0.2.2.1 = mc
  generalize hms : r0.2.2.2 = ms
  have blk : ∀ k : Nat, (bX p l e (headSpec w_f_X5_operation ({ frames := 410, cells := mc, slots := ms, locals := 13400 })).room s m #[.ref (a 40), .int (L0.1 1), .int (L0.1 2)] below meth c dC dI cy a A (fun r => vx_MQ below (xV dC dI cy a A [41, 43, 51] z r) (xX dC dI cy a A [41, 43, 51] z r) #[.ref (a 40), .int (L0.1 1), .int (L0.1 2)] s mc ms A) [41, 43, 51] z mc ms 3 (f_X5_operation k 0) (fun z L => [(0, .ref (a 40)), (1, .int (L.1 1)), (2, .int (L.1 2))]) 0 (fun z L => [])) ∧ (bX p l e (headSpec w_f_X5_operation ({ frames := 410, cells := mc, slots := ms, locals := 13400 })).room s m #[.ref (a 40), .int (L0.1 1), .int (L0.1 2)] below meth c dC dI cy a A (fun r => vx_MQ below (xV dC dI cy a A [41, 43, 51] z r) (xX dC dI cy a A [41, 43, 51] z r) #[.ref (a 40), .int (L0.1 1), .int (L0.1 2)] s mc ms A) [41, 43, 51] z mc ms 3 (f_X5_operation k 1) (fun z L => [(0, .ref (a 40)), (1, .int (L.1 1)), (2, .int (L.1 2))]) 62 (fun z L => [.ref (a (pA (L.2.2.1 100)))])) ∧ (bX p l e (headSpec w_f_X5_operation ({ frames := 410, cells := mc, slots := ms, locals := 13400 })).room s m #[.ref (a 40), .int (L0.1 1), .int (L0.1 2)] below meth c dC dI cy a A (fun r => vx_MQ below (xV dC dI cy a A [41, 43, 51] z r) (xX dC dI cy a A [41, 43, 51] z r) #[.ref (a 40), .int (L0.1 1), .int (L0.1 2)] s mc ms A) [41, 43, 51] z mc ms 3 (f_X5_operation k 2) (fun z L => [(0, .ref (a 40)), (1, .int (L.1 1))]) 77 (fun z L => [.int (L.1 100), .ref (a (pA (L.2.2.1 101)))])) ∧ (bX p l e (headSpec w_f_X5_operation ({ frames := 410, cells := mc, slots := ms, locals := 13400 })).room s m #[.ref (a 40), .int (L0.1 1), .int (L0.1 2)] below meth c dC dI cy a A (fun r => vx_MQ below (xV dC dI cy a A [41, 43, 51] z r) (xX dC dI cy a A [41, 43, 51] z r) #[.ref (a 40), .int (L0.1 1), .int (L0.1 2)] s mc ms A) [41, 43, 51] z mc ms 3 (f_X5_operation k 3) (fun z L => [(0, .ref (a 40)), (1, .int (L.1 1))]) 74 (fun z L => [.ref (a (pA (L.2.2.1 100)))])) := by
    intro k
    induction k with
    | zero => exact ⟨fun z c1 c2 L σ r h => (by cases h), fun z c1 c2 L σ r h => (by cases h), fun z c1 c2 L σ r h => (by cases h), fun z c1 c2 L σ r h => (by cases h)⟩
    | succ k ih =>
      refine ⟨?_, ?_, ?_, ?_⟩
      · intro z cells slots L σ r h hzk hc hs H locs ls hP hD hS hl
        rw [f_X5_operation] at h
        refine lv_aload_n hx hb dX5_operation_0 rfl (lv_at hl 0 rfl) ?_
        refine hg_40_0 hx hb hts in_f_X5_operation_X5 hown hK hP (hts _ (List.mem_cons_of_mem _ (List.mem_append_left _ (List.mem_append_left _ (List.mem_of_getElem? (i := 0) rfl))))) dX5_operation_1 ?_
        obtain ⟨r1, hc1, hle1, h9⟩ := ox_ex h
        clear h
        refine kx_v (vx_runV (As := []) (rest := []) ⟨hx, hb, hml, hown, hts⟩ (c_f_X2_advance l hl0 dC dI cy ek a k lZ σ r1 hc1 z H.size) (cwV 0 hts g_f_X5_operation_X2_advance_V30 rfl rfl rfl hd_f_X2_advance ⟨Nat.le_of_ble_eq_true rfl, Nat.le_of_ble_eq_true rfl⟩) ⟨nb_blindF, va_recv hK hP (ci := 2) (q0 := 37) rfl rfl, (kx_pre hK hG hE hT hA hP hD hS)⟩ rfl rfl hl.1 rfl (lv_room (Nat.le_of_ble_eq_true rfl)) dX5_operation_4 ⟨Nat.le_trans (Nat.add_le_add_left hle1.1 _) (Nat.le_of_eq hc), Nat.le_trans (Nat.add_le_add_left hle1.2 _) (Nat.le_of_eq hs)⟩) hK hA hzk hP hD hS (by decide) hno hlocks ?_
        rcases h9 with ⟨h00, y1, hny1, hy⟩ | ⟨h00, hy⟩
        · subst hy
          have h := hny1
          refine Or.inl ⟨h00, fun u H locs hz1 hzk hP hD hS => ?_⟩
          obtain rfl := (zk_nil hz1).symm
          replace hc := (Nat.add_assoc _ _ _).trans hc
          replace hs := (Nat.add_assoc _ _ _).trans hs
          refine lv_aload_n hx hb dX5_operation_7 rfl (lv_at hl 0 rfl) ?_
          refine lv_iconst (v := 5) hx hb dX5_operation_8 (by decide) ?_
          obtain ⟨r2, hc2, hle2, h9⟩ := ox_ex h
          clear h
          refine kx_v (r := y1) (vx_runV (As := [.int 5]) (rest := []) ⟨hx, hb, hml, hown, hts⟩ (c_f_X5_expect l hl0 dC dI cy ek a k (lI lZ 1 5) r1.2.1 r2 hc2 z H.size) (cwV 1 hts g_f_X5_operation_X5_expect_V141 rfl rfl rfl hd_f_X5_expect ⟨Nat.le_of_ble_eq_true rfl, Nat.le_of_ble_eq_true rfl⟩) ⟨nb_blindF, va_recv hK hP (ci := 4) (q0 := 40) rfl rfl, (kx_pre hK hG hE hT hA hP hD hS)⟩ rfl rfl hl.1 rfl (lv_room (Nat.le_of_ble_eq_true rfl)) dX5_operation_9 ⟨Nat.le_trans (Nat.add_le_add_left hle2.1 _) (Nat.le_of_eq hc), Nat.le_trans (Nat.add_le_add_left hle2.2 _) (Nat.le_of_eq hs)⟩) hK hA hzk hP hD hS (by decide) hno hlocks ?_
          rcases h9 with ⟨h00, y2, hny2, hy⟩ | ⟨h00, hy⟩
          · subst hy
            have h := hny2
            refine Or.inl ⟨h00, fun u H locs hz2 hzk hP hD hS => ?_⟩
            obtain rfl := (zk_nil hz2).symm
            replace hc := (Nat.add_assoc _ _ _).trans hc
            replace hs := (Nat.add_assoc _ _ _).trans hs
            refine lv_aload_n hx hb dX5_operation_12 rfl (lv_at hl 0 rfl) ?_
            refine lv_iconst (v := 0) hx hb dX5_operation_13 (by decide) ?_
            obtain ⟨r3, hc3, hle3, h9⟩ := ox_ex h
            clear h
            refine kx_v (r := y2) (vx_runV (As := [.int 0]) (rest := []) ⟨hx, hb, hml, hown, hts⟩ (c_f_X5_exp l hl0 dC dI cy ek a k (lI lZ 1 0) r2.2.1 r3 hc3 z H.size) (cwV 1 hts g_f_X5_operation_X5_exp_V90 rfl rfl rfl hd_f_X5_exp ⟨Nat.le_of_ble_eq_true rfl, Nat.le_of_ble_eq_true rfl⟩) ⟨nb_blindF, va_recv hK hP (ci := 4) (q0 := 40) rfl rfl, (kx_pre hK hG hE hT hA hP hD hS)⟩ rfl rfl hl.1 rfl (lv_room (Nat.le_of_ble_eq_true rfl)) dX5_operation_14 ⟨Nat.le_trans (Nat.add_le_add_left hle3.1 _) (Nat.le_of_eq hc), Nat.le_trans (Nat.add_le_add_left hle3.2 _) (Nat.le_of_eq hs)⟩) hK hA hzk hP hD hS (by decide) hno hlocks ?_
            rcases h9 with ⟨h00, y3, hny3, hy⟩ | ⟨h00, hy⟩
            · subst hy
              have h := hny3
              refine Or.inl ⟨h00, fun z H locs hz3 hzk hP hD hS => ?_⟩
              replace hc := (Nat.add_assoc _ _ _).trans hc
              replace hs := (Nat.add_assoc _ _ _).trans hs
              refine lv_aload_n hx hb dX5_operation_17 rfl (lv_at hl 0 rfl) ?_
              refine lv_sipush (v := 176) hx hb dX5_operation_18 (by decide) ?_
              refine lv_iload_n hx hb dX5_operation_21 rfl (lv_at hl 1 rfl) ?_
              refine lv_aload_n hx hb dX5_operation_22 rfl (lv_at hl 0 rfl) ?_
              refine hg_40_10 hx hb hts in_f_X5_operation_X5 hown hK hP (hts _ (List.mem_cons_of_mem _ (List.mem_append_left _ (List.mem_append_left _ (List.mem_of_getElem? (i := 12) rfl))))) dX5_operation_23 ?_
              refine lv_iload_n hx hb dX5_operation_26 rfl (lv_at hl 1 rfl) ?_
              refine lv_iconst (v := 2) hx hb dX5_operation_27 (by decide) ?_
              refine lv_iadd hx hb dX5_operation_28 ?_
              obtain ⟨q4, h⟩ := kr_ite1 h
              refine hl_41 hx hb hK hP q4 dX5_operation_29 ?_
              refine lv_iconst (v := 1) hx hb dX5_operation_30 (by decide) ?_
              refine lv_iadd hx hb dX5_operation_31 ?_
              obtain ⟨r5, hc5, hle5, h9⟩ := ox_ex h
              clear h
              refine kx_v (r := y3) (vx_runV (As := [.int 176, .int (L.1 1), .int (((r3.2.1.2.2.1 41 ((((L.1 1)) + 2)).toNatClampNeg)) + 1)]) (rest := []) ⟨hx, hb, hml, hown, hts⟩ (c_f_X5_emitTarget l hl0 dC dI cy ek a k (lI (lI (lI lZ 1 176) 2 ((L.1 1))) 3 ((((r3.2.1.2.2.1 41 ((((L.1 1)) + 2)).toNatClampNeg)) + 1))) r3.2.1 r5 hc5 z H.size) (cwV 3 hts g_f_X5_operation_X5_emitTarget_V316 rfl rfl rfl hd_f_X5_emitTarget ⟨Nat.le_of_ble_eq_true rfl, Nat.le_of_ble_eq_true rfl⟩) ⟨nb_blindF, va_recv hK hP (ci := 4) (q0 := 40) rfl rfl, (kx_pre hK hG hE hT hA hP hD hS)⟩ rfl rfl hl.1 rfl (lv_room (Nat.le_of_ble_eq_true rfl)) dX5_operation_32 ⟨Nat.le_trans (Nat.add_le_add_left hle5.1 _) (Nat.le_of_eq hc), Nat.le_trans (Nat.add_le_add_left hle5.2 _) (Nat.le_of_eq hs)⟩) hK hA hzk hP hD hS (by decide) hno hlocks ?_
              rcases h9 with ⟨h00, y5, hny5, hy⟩ | ⟨h00, hy⟩
              · subst hy
                have h := hny5
                refine Or.inl ⟨h00, fun z H locs hz5 hzk hP hD hS => ?_⟩
                replace hc := (Nat.add_assoc _ _ _).trans hc
                replace hs := (Nat.add_assoc _ _ _).trans hs
                refine lv_aload_n hx hb dX5_operation_35 rfl (lv_at hl 0 rfl) ?_
                obtain ⟨b6, hb6, h⟩ := oP_ex h
                refine hgq_40_2 hx hb hts in_f_X5_operation_X5 hown hK hP (hts _ (List.mem_cons_of_mem _ (List.mem_append_left _ (List.mem_append_left _ (List.mem_of_getElem? (i := 16) rfl))))) hb6 dX5_operation_36 ?_
                refine lv_bipush (v := 39) hx hb dX5_operation_39 (by decide) ?_
                refine lv_iconst (v := 0) hx hb dX5_operation_41 (by decide) ?_
                obtain ⟨r7, hc7, hle7, h9⟩ := ox_ex h
                clear h
                refine kx_i (r := y5) (vx_runV (As := [.int 39, .int 0]) (rest := []) ⟨hx, hb, hml, hown, hts⟩ (c_f_X7_emit__P l hl0 dC dI cy ek a k (lI (lI (lB lZ 0 b6) 1 39) 2 0) r5.2.1 r7 hc7 z H.size) (cwV 2 hts g_f_X5_operation_X7_emit__P_V66 rfl rfl rfl hd_f_X7_emit__P ⟨Nat.le_of_ble_eq_true rfl, Nat.le_of_ble_eq_true rfl⟩) ⟨nb_blindF, recvP b6 hK hP, (kx_pre hK hG hE hT hA hP hD hS)⟩ rfl rfl hl.1 rfl (lv_room (Nat.le_of_ble_eq_true rfl)) dX5_operation_42 ⟨Nat.le_trans (Nat.add_le_add_left hle7.1 _) (Nat.le_of_eq hc), Nat.le_trans (Nat.add_le_add_left hle7.2 _) (Nat.le_of_eq hs)⟩) hK hA hzk hP hD hS (by decide) hno hlocks ?_
                rcases h9 with ⟨h00, y7, hny7, hy⟩ | ⟨h00, hy⟩
                · subst hy
                  have h := hny7
                  refine Or.inl ⟨h00, fun z H locs hz7 hzk hP hD hS => ?_⟩
                  replace hc := (Nat.add_assoc _ _ _).trans hc
                  replace hs := (Nat.add_assoc _ _ _).trans hs
                  refine lv_pop hx hb dX5_operation_45 rfl ?_
                  refine lv_aload_n hx hb dX5_operation_46 rfl (lv_at hl 0 rfl) ?_
                  obtain ⟨b8, hb8, h⟩ := oP_ex h
                  refine hgq_40_2 hx hb hts in_f_X5_operation_X5 hown hK hP (hts _ (List.mem_cons_of_mem _ (List.mem_append_left _ (List.mem_append_left _ (List.mem_of_getElem? (i := 16) rfl))))) hb8 dX5_operation_47 ?_
                  refine lv_iload_n hx hb dX5_operation_50 rfl (lv_at hl 2 rfl) ?_
                  refine lv_bipush (v := 6) hx hb dX5_operation_51 (by decide) ?_
                  refine lv_icmp_ne (tgt := 62) hx hb dX5_operation_53 (by decide) (fun c9 => ?_) (fun c9 => ?_)
                  · rw [if_neg c9] at h
                    exact ih.2.1 z _ _ (lB L 100 b8) r7.2.1 _ h hzk hc hs H locs ls hP hD hS (lv_sub hl [0, 1, 2] rfl)
                  · rw [if_pos c9] at h
                    refine lv_sipush (v := 128) hx hb dX5_operation_56 (by decide) ?_
                    refine lv_goto (tgt := 77) hx hb dX5_operation_59 (by decide) ?_
                    exact ih.2.2.1 z _ _ (lB (lI L 100 128) 101 b8) r7.2.1 _ h hzk hc hs H locs ls hP hD hS (lv_sub hl [0, 1] rfl)
                · subst hy
                  exact Or.inr ⟨h00, rfl, hc, hs⟩
              · subst hy
                exact Or.inr ⟨h00, rfl, hc, hs⟩
            · subst hy
              exact Or.inr ⟨h00, rfl, hc, hs⟩
          · subst hy
            exact Or.inr ⟨h00, rfl, hc, hs⟩
        · subst hy
          exact Or.inr ⟨h00, rfl, hc, hs⟩
      · intro z cells slots L σ r h hzk hc hs H locs ls hP hD hS hl
        rw [f_X5_operation] at h
        refine lv_iload_n hx hb dX5_operation_62 rfl (lv_at hl 2 rfl) ?_
        refine lv_bipush (v := 7) hx hb dX5_operation_63 (by decide) ?_
        refine lv_icmp_ne (tgt := 74) hx hb dX5_operation_65 (by decide) (fun c1 => ?_) (fun c1 => ?_)
        · rw [if_neg c1] at h
          exact ih.2.2.2 z _ _ (lB L 100 ((L.2.2.1 100))) σ _ h hzk hc hs H locs ls hP hD hS (lv_sub hl [0, 1] rfl)
        · rw [if_pos c1] at h
          refine lv_sipush (v := 129) hx hb dX5_operation_68 (by decide) ?_
          refine lv_goto (tgt := 77) hx hb dX5_operation_71 (by decide) ?_
          exact ih.2.2.1 z _ _ (lB (lI L 100 129) 101 ((L.2.2.1 100))) σ _ h hzk hc hs H locs ls hP hD hS (lv_sub hl [0, 1] rfl)
      · intro z cells slots L σ r h hzk hc hs H locs ls hP hD hS hl
        rw [f_X5_operation] at h
        refine lv_iconst (v := 0) hx hb dX5_operation_77 (by decide) ?_
        obtain ⟨r1, hc1, hle1, h9⟩ := ox_ex h
        clear h
        refine kx_i (vx_runV (As := [.int (L.1 100), .int 0]) (rest := []) ⟨hx, hb, hml, hown, hts⟩ (c_f_X7_emit__P l hl0 dC dI cy ek a k (lI (lI (lB lZ 0 ((L.2.2.1 101))) 1 ((L.1 100))) 2 0) σ r1 hc1 z H.size) (cwV 2 hts g_f_X5_operation_X7_emit__P_V66 rfl rfl rfl hd_f_X7_emit__P ⟨Nat.le_of_ble_eq_true rfl, Nat.le_of_ble_eq_true rfl⟩) ⟨nb_blindF, recvP ((L.2.2.1 101)) hK hP, (kx_pre hK hG hE hT hA hP hD hS)⟩ rfl rfl hl.1 rfl (lv_room (Nat.le_of_ble_eq_true rfl)) dX5_operation_78 ⟨Nat.le_trans (Nat.add_le_add_left hle1.1 _) (Nat.le_of_eq hc), Nat.le_trans (Nat.add_le_add_left hle1.2 _) (Nat.le_of_eq hs)⟩) hK hA hzk hP hD hS (by decide) hno hlocks ?_
        rcases h9 with ⟨h00, y1, hny1, hy⟩ | ⟨h00, hy⟩
        · subst hy
          have h := hny1
          refine Or.inl ⟨h00, fun z H locs hz1 hzk hP hD hS => ?_⟩
          replace hc := (Nat.add_assoc _ _ _).trans hc
          replace hs := (Nat.add_assoc _ _ _).trans hs
          refine lv_pop hx hb dX5_operation_81 rfl ?_
          refine lv_aload_n hx hb dX5_operation_82 rfl (lv_at hl 0 rfl) ?_
          refine lv_sipush (v := 192) hx hb dX5_operation_83 (by decide) ?_
          refine lv_iload_n hx hb dX5_operation_86 rfl (lv_at hl 1 rfl) ?_
          refine lv_aload_n hx hb dX5_operation_87 rfl (lv_at hl 0 rfl) ?_
          refine hg_40_10 hx hb hts in_f_X5_operation_X5 hown hK hP (hts _ (List.mem_cons_of_mem _ (List.mem_append_left _ (List.mem_append_left _ (List.mem_of_getElem? (i := 12) rfl))))) dX5_operation_88 ?_
          refine lv_iload_n hx hb dX5_operation_91 rfl (lv_at hl 1 rfl) ?_
          refine lv_iconst (v := 2) hx hb dX5_operation_92 (by decide) ?_
          refine lv_iadd hx hb dX5_operation_93 ?_
          obtain ⟨q2, h⟩ := kr_ite1 h
          refine hl_41 hx hb hK hP q2 dX5_operation_94 ?_
          refine lv_iconst (v := 1) hx hb dX5_operation_95 (by decide) ?_
          refine lv_iadd hx hb dX5_operation_96 ?_
          obtain ⟨r3, hc3, hle3, h9⟩ := ox_ex h
          clear h
          refine kx_v (r := y1) (vx_runV (As := [.int 192, .int (L.1 1), .int (((r1.2.1.2.2.1 41 ((((L.1 1)) + 2)).toNatClampNeg)) + 1)]) (rest := []) ⟨hx, hb, hml, hown, hts⟩ (c_f_X5_emitTarget l hl0 dC dI cy ek a k (lI (lI (lI lZ 1 192) 2 ((L.1 1))) 3 ((((r1.2.1.2.2.1 41 ((((L.1 1)) + 2)).toNatClampNeg)) + 1))) r1.2.1 r3 hc3 z H.size) (cwV 3 hts g_f_X5_operation_X5_emitTarget_V316 rfl rfl rfl hd_f_X5_emitTarget ⟨Nat.le_of_ble_eq_true rfl, Nat.le_of_ble_eq_true rfl⟩) ⟨nb_blindF, va_recv hK hP (ci := 4) (q0 := 40) rfl rfl, (kx_pre hK hG hE hT hA hP hD hS)⟩ rfl rfl hl.1 rfl (lv_room (Nat.le_of_ble_eq_true rfl)) dX5_operation_97 ⟨Nat.le_trans (Nat.add_le_add_left hle3.1 _) (Nat.le_of_eq hc), Nat.le_trans (Nat.add_le_add_left hle3.2 _) (Nat.le_of_eq hs)⟩) hK hA hzk hP hD hS (by decide) hno hlocks ?_
          rcases h9 with ⟨h00, y3, hny3, hy⟩ | ⟨h00, hy⟩
          · subst hy
            have h := hny3
            refine Or.inl ⟨h00, fun z H locs hz3 hzk hP hD hS => ?_⟩
            replace hc := (Nat.add_assoc _ _ _).trans hc
            replace hs := (Nat.add_assoc _ _ _).trans hs
            refine lv_aload_n hx hb dX5_operation_100 rfl (lv_at hl 0 rfl) ?_
            obtain ⟨b4, hb4, h⟩ := oP_ex h
            refine hgq_40_2 hx hb hts in_f_X5_operation_X5 hown hK hP (hts _ (List.mem_cons_of_mem _ (List.mem_append_left _ (List.mem_append_left _ (List.mem_of_getElem? (i := 16) rfl))))) hb4 dX5_operation_101 ?_
            refine lv_bipush (v := 37) hx hb dX5_operation_104 (by decide) ?_
            refine lv_aload_n hx hb dX5_operation_106 rfl (lv_at hl 0 rfl) ?_
            refine hg_40_10 hx hb hts in_f_X5_operation_X5 hown hK hP (hts _ (List.mem_cons_of_mem _ (List.mem_append_left _ (List.mem_append_left _ (List.mem_of_getElem? (i := 12) rfl))))) dX5_operation_107 ?_
            refine lv_iload_n hx hb dX5_operation_110 rfl (lv_at hl 1 rfl) ?_
            refine lv_iconst (v := 2) hx hb dX5_operation_111 (by decide) ?_
            refine lv_iadd hx hb dX5_operation_112 ?_
            obtain ⟨q5, h⟩ := kr_ite1 h
            refine hl_41 hx hb hK hP q5 dX5_operation_113 ?_
            refine lv_iconst (v := 1) hx hb dX5_operation_114 (by decide) ?_
            refine lv_iadd hx hb dX5_operation_115 ?_
            obtain ⟨r6, hc6, hle6, h9⟩ := ox_ex h
            clear h
            refine kx_i (r := y3) (vx_runV (As := [.int 37, .int (((r3.2.1.2.2.1 41 ((((L.1 1)) + 2)).toNatClampNeg)) + 1)]) (rest := []) ⟨hx, hb, hml, hown, hts⟩ (c_f_X7_emit__P l hl0 dC dI cy ek a k (lI (lI (lB lZ 0 b4) 1 37) 2 ((((r3.2.1.2.2.1 41 ((((L.1 1)) + 2)).toNatClampNeg)) + 1))) r3.2.1 r6 hc6 z H.size) (cwV 2 hts g_f_X5_operation_X7_emit__P_V66 rfl rfl rfl hd_f_X7_emit__P ⟨Nat.le_of_ble_eq_true rfl, Nat.le_of_ble_eq_true rfl⟩) ⟨nb_blindF, recvP b4 hK hP, (kx_pre hK hG hE hT hA hP hD hS)⟩ rfl rfl hl.1 rfl (lv_room (Nat.le_of_ble_eq_true rfl)) dX5_operation_116 ⟨Nat.le_trans (Nat.add_le_add_left hle6.1 _) (Nat.le_of_eq hc), Nat.le_trans (Nat.add_le_add_left hle6.2 _) (Nat.le_of_eq hs)⟩) hK hA hzk hP hD hS (by decide) hno hlocks ?_
            rcases h9 with ⟨h00, y6, hny6, hy⟩ | ⟨h00, hy⟩
            · subst hy
              have h := hny6
              refine Or.inl ⟨h00, fun z H locs hz6 hzk hP hD hS => ?_⟩
              replace hc := (Nat.add_assoc _ _ _).trans hc
              replace hs := (Nat.add_assoc _ _ _).trans hs
              refine lv_pop hx hb dX5_operation_119 rfl ?_
              obtain rfl := Option.some.inj h
              subst hc
              subst hs
              exact xr_v hx hb hr hK hzk hP hD hS hlocks dX5_operation_120
            · subst hy
              exact Or.inr ⟨h00, rfl, hc, hs⟩
          · subst hy
            exact Or.inr ⟨h00, rfl, hc, hs⟩
        · subst hy
          exact Or.inr ⟨h00, rfl, hc, hs⟩
      · intro z cells slots L σ r h hzk hc hs H locs ls hP hD hS hl
        rw [f_X5_operation] at h
        refine lv_sipush (v := 130) hx hb dX5_operation_74 (by decide) ?_
        exact ih.2.2.1 z _ _ (lB (lI L 100 130) 101 ((L.2.2.1 100))) σ _ h hzk hc hs H locs ls hP hD hS (lv_sub hl [0, 1] rfl)
  exact (blk k0).1 z 0 0 L0 σ0 r0 h0 (zk_rf _ _) ((Nat.zero_add _).trans hmc) ((Nat.zero_add _).trans hms) s.heap [] ls hP hD hS hl

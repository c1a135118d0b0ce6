/-! X0_subsets -/
def y_X0_subsets : Nat → Nat → LV → CS → Option (Int32 × CS)
  | 0, _, _, _ => none
  | k + 1, 0, L, σ => oc (y_X1_length k 0 (lI lZ 1 ((L.1 1))) σ) (fun r1 => if 8 < r1.1 then (y_X0_subsets k 1 L r1.2) else (oc (y_X1_size k 0 (lI lZ 1 ((L.1 1))) r1.2) (fun r3 => if ((((1 + (((1 : Int32) <<< (r1.1 &&& 31))))) + (((((((1 : Int32) <<< (r1.1 &&& 31))) >>> ((1 : Int32) &&& 31))) * ((r3.1 - 1)))))) ≤ 1000 then (y_X0_subsets k 2 (lI L 2 r1.1) r3.2) else (y_X0_subsets k 1 L r3.2))))
  | k + 1, 1, L, σ => some ((-268435451), σ)
  | k + 1, 2, L, σ => if ¬ ((0 : Int32) < 0 ∨ 2048 ≤ (0 : Int32).toNatClampNeg) then (y_X0_subsets k 3 (lI (lI (lI (lI (lI L 3 1) 4 0) 5 ((-1))) 6 0) 7 1) (uA σ 16 (0 : Int32).toNatClampNeg 2)) else none
  | k + 1, 3, L, σ => if (((1 : Int32) <<< (((L.1 2)) &&& 31))) ≤ ((L.1 7)) then (y_X0_subsets k 4 L σ) else (if ((L.1 5)) = ((((L.1 2)) - 1)) then (oc (y_X0_highest k 0 (lI lZ 0 ((((L.1 6)) &&& (((((1 : Int32) <<< (((L.1 5)) &&& 31))) ^^^ ((-1))))))) σ) (fun r3 => y_X0_subsets k 5 (lI (lI (lI L 4 ((((((L.1 4)) + (-1))) + (-1)))) 5 r3.1) 6 ((((((L.1 6)) &&& (((((1 : Int32) <<< (((L.1 5)) &&& 31))) ^^^ ((-1)))))) &&& (((((1 : Int32) <<< (r3.1 &&& 31))) ^^^ ((-1))))))) r3.2)) else (y_X0_subsets k 5 L σ))
  | k + 1, 4, L, σ => oc (y_X1_makeRow__a16 k 0 (lI (lI (lI lZ 1 6) 3 0) 4 ((L.1 3))) σ) (fun r1 => some (r1.1, r1.2))
  | k + 1, 5, L, σ => oc (y_X1_member k 0 (lI (lI lZ 1 ((L.1 1))) 2 ((((L.1 5)) + 1))) σ) (fun r1 => if ¬ (((L.1 4)) < 0 ∨ 8 ≤ ((L.1 4)).toNatClampNeg) then (oc (y_X1_makeRow__a17 k 0 (lI (lI (lI lZ 1 6) 3 0) 4 ((((L.1 4)) + 1))) (uA r1.2 17 ((L.1 4)).toNatClampNeg r1.1)) (fun r3 => if ¬ (((L.1 3)) < 0 ∨ 2048 ≤ ((L.1 3)).toNatClampNeg) then (if ¬ (((L.1 3)) < 0 ∨ 2048 ≤ ((L.1 3)).toNatClampNeg) then (oc (y_X11_isError k 0 (lI lZ 0 (((uA r3.2 16 ((L.1 3)).toNatClampNeg r3.1).2.2.1 16 ((L.1 3)).toNatClampNeg))) (uA r3.2 16 ((L.1 3)).toNatClampNeg r3.1)) (fun r6 => y_X0_subsets k 6 (lI (lI (lI (lI L 4 ((((L.1 4)) + 1))) 5 ((((L.1 5)) + 1))) 6 ((((L.1 6)) ||| (((1 : Int32) <<< (((((L.1 5)) + 1)) &&& 31)))))) 100 r6.1) r6.2)) else none) else none)) else none)
  | k + 1, 6, L, σ => if ((L.1 100)) = 0 then (y_X0_subsets k 7 L σ) else (if ¬ (((L.1 3)) < 0 ∨ 2048 ≤ ((L.1 3)).toNatClampNeg) then (some ((σ.2.2.1 16 ((L.1 3)).toNatClampNeg), σ)) else none)
  | k + 1, 7, L, σ => y_X0_subsets k 3 (lI (lI L 3 ((((L.1 3)) + 1))) 7 ((((L.1 7)) + 1))) σ
  | _ + 1, _ + 8, _, _ => none
def o_y_X0_subsets : List Cond := [.fieldLink RX0 22 "SetHouse$Algebra" "heap" "LSetHouse$Heap;", .methodLink RX0 100 yX1_length, .instanceMethod yX1_length, .selects RX1 yX1_length yX1_length, .initialized RX1, .methodLink RX0 179 yX1_size, .instanceMethod yX1_size, .selects RX1 yX1_size yX1_size, .constant RX0 139 (-268435451), .fieldLink RX0 15 "SetHouse$Algebra" "row" "[I", .methodLink RX0 244 yX0_highest, .static yX0_highest, .initialized RX0, .methodLink RX0 160 yX1_makeRow, .instanceMethod yX1_makeRow, .selects RX1 yX1_makeRow yX1_makeRow, .fieldLink RX0 19 "SetHouse$Algebra" "few" "[I", .methodLink RX0 154 yX1_member, .instanceMethod yX1_member, .selects RX1 yX1_member yX1_member, .initialized RX11, .static yX11_isError]
theorem o_y_X0_subsets_good : o_y_X0_subsets.all goodWord = true := by decide +kernel
def p_y_X0_subsets : List Cond := o_y_X0_subsets ++ ((.code yX1_length cX1_length 2 (some .int) :: p_y_X1_length) ++ ((.code yX1_size cX1_size 3 (some .int) :: p_y_X1_size) ++ ((.code yX0_highest cX0_highest 3 (some .int) :: p_y_X0_highest) ++ ((.code yX1_makeRow cX1_makeRow 11 (some .int) :: p_y_X1_makeRow__a16) ++ ((.code yX1_member cX1_member 3 (some .int) :: p_y_X1_member) ++ ((.code yX1_makeRow cX1_makeRow 11 (some .int) :: p_y_X1_makeRow__a17) ++ ((.code yX11_isError cX11_isError 1 (some .boolean) :: p_y_X11_isError) ++ [])))))))
theorem p_y_X0_subsets_good : p_y_X0_subsets.all goodWord = true := nb_all2 o_y_X0_subsets_good (nb_all2 (nb_allc (by decide +kernel) p_y_X1_length_good) (nb_all2 (nb_allc (by decide +kernel) p_y_X1_size_good) (nb_all2 (nb_allc (by decide +kernel) p_y_X0_highest_good) (nb_all2 (nb_allc (by decide +kernel) p_y_X1_makeRow__a16_good) (nb_all2 (nb_allc (by decide +kernel) p_y_X1_member_good) (nb_all2 (nb_allc (by decide +kernel) p_y_X1_makeRow__a17_good) (nb_all2 (nb_allc (by decide +kernel) p_y_X11_isError_good) rfl)))))))
def w_y_X0_subsets : List Cond := .code yX0_subsets cX0_subsets 8 (some .int) :: (p_y_X0_subsets ++ fC)
theorem w_y_X0_subsets_good : w_y_X0_subsets.all goodWord = true := nb_allc (by decide +kernel) (nb_all2 p_y_X0_subsets_good fC_good)
theorem in_y_X0_subsets_X0 : ∀ w ∈ wsX00, w ∈ w_y_X0_subsets := fun _ h => List.mem_cons_of_mem _ (List.mem_append_right _ (List.mem_append_left _ h))
theorem hd_y_X0_subsets : yX0_subsets.cls = RX0 ∧ yX0_subsets.cls ≠ "java/lang/invoke/MethodHandle" ∧ yX0_subsets.cls ≠ "java/lang/invoke/VarHandle" ∧ (parseMethodDescriptor yX0_subsets.desc).map (fun d => d.parameters.length) = some 1 := by decide +kernel
theorem gg_y_X0_subsets_X0_highest : GoodIn w_y_X0_subsets w_y_X0_highest := goodIn_sub (fun w h => (List.mem_cons.mp h).elim (fun e => (List.mem_cons_of_mem _ (List.mem_append_left _ (List.mem_append_right _ (List.mem_append_right _ (List.mem_append_right _ (List.mem_append_left _ (List.mem_cons.mpr (Or.inl e))))))))) (fun h => (List.mem_append.mp h).elim (fun h => (List.mem_cons_of_mem _ (List.mem_append_left _ (List.mem_append_right _ (List.mem_append_right _ (List.mem_append_right _ (List.mem_append_left _ (List.mem_cons_of_mem _ h)))))))) (fun h => List.mem_cons_of_mem _ (List.mem_append_right _ h)))) w_y_X0_highest_good
theorem g_y_X0_subsets_X0_highest_S244 : GoodIn w_y_X0_subsets (va_wsS RX0 244 yX0_highest w_y_X0_highest) := goodIn_app (nb_g3 (List.mem_cons_of_mem _ (List.mem_append_left _ (List.mem_append_left _ (List.mem_of_getElem? (i := 10) rfl)))) (List.mem_cons_of_mem _ (List.mem_append_left _ (List.mem_append_left _ (List.mem_of_getElem? (i := 11) rfl)))) (List.mem_cons_of_mem _ (List.mem_append_left _ (List.mem_append_left _ (List.mem_of_getElem? (i := 12) rfl)))) (by decide +kernel)) gg_y_X0_subsets_X0_highest
theorem gg_y_X0_subsets_X11_isError : GoodIn w_y_X0_subsets w_y_X11_isError := goodIn_sub (fun w h => (List.mem_cons.mp h).elim (fun e => (List.mem_cons_of_mem _ (List.mem_append_left _ (List.mem_append_right _ (List.mem_append_right _ (List.mem_append_right _ (List.mem_append_right _ (List.mem_append_right _ (List.mem_append_right _ (List.mem_append_right _ (List.mem_append_left _ (List.mem_cons.mpr (Or.inl e))))))))))))) (fun h => (List.mem_append.mp h).elim (fun h => (List.mem_cons_of_mem _ (List.mem_append_left _ (List.mem_append_right _ (List.mem_append_right _ (List.mem_append_right _ (List.mem_append_right _ (List.mem_append_right _ (List.mem_append_right _ (List.mem_append_right _ (List.mem_append_left _ (List.mem_cons_of_mem _ h)))))))))))) (fun h => List.mem_cons_of_mem _ (List.mem_append_right _ h)))) w_y_X11_isError_good
theorem g_y_X0_subsets_X11_isError_SN72 : GoodIn w_y_X0_subsets w_y_X11_isError := gg_y_X0_subsets_X11_isError
theorem gg_y_X0_subsets_X1_length : GoodIn w_y_X0_subsets w_y_X1_length := goodIn_sub (fun w h => (List.mem_cons.mp h).elim (fun e => (List.mem_cons_of_mem _ (List.mem_append_left _ (List.mem_append_right _ (List.mem_append_left _ (List.mem_cons.mpr (Or.inl e))))))) (fun h => (List.mem_append.mp h).elim (fun h => (List.mem_cons_of_mem _ (List.mem_append_left _ (List.mem_append_right _ (List.mem_append_left _ (List.mem_cons_of_mem _ h)))))) (fun h => List.mem_cons_of_mem _ (List.mem_append_right _ h)))) w_y_X1_length_good
theorem g_y_X0_subsets_X1_length_V100 : GoodIn w_y_X0_subsets (wsV RX0 100 RX1 yX1_length w_y_X1_length) := goodIn_app (nb_g4 (List.mem_cons_of_mem _ (List.mem_append_left _ (List.mem_append_left _ (List.mem_of_getElem? (i := 1) rfl)))) (List.mem_cons_of_mem _ (List.mem_append_left _ (List.mem_append_left _ (List.mem_of_getElem? (i := 2) rfl)))) (List.mem_cons_of_mem _ (List.mem_append_left _ (List.mem_append_left _ (List.mem_of_getElem? (i := 3) rfl)))) (List.mem_cons_of_mem _ (List.mem_append_left _ (List.mem_append_left _ (List.mem_of_getElem? (i := 4) rfl)))) (by decide +kernel)) gg_y_X0_subsets_X1_length
theorem gg_y_X0_subsets_X1_makeRow__a16 : GoodIn w_y_X0_subsets w_y_X1_makeRow__a16 := goodIn_sub (fun w h => (List.mem_cons.mp h).elim (fun e => (List.mem_cons_of_mem _ (List.mem_append_left _ (List.mem_append_right _ (List.mem_append_right _ (List.mem_append_right _ (List.mem_append_right _ (List.mem_append_left _ (List.mem_cons.mpr (Or.inl e)))))))))) (fun h => (List.mem_append.mp h).elim (fun h => (List.mem_cons_of_mem _ (List.mem_append_left _ (List.mem_append_right _ (List.mem_append_right _ (List.mem_append_right _ (List.mem_append_right _ (List.mem_append_left _ (List.mem_cons_of_mem _ h))))))))) (fun h => List.mem_cons_of_mem _ (List.mem_append_right _ h)))) w_y_X1_makeRow__a16_good
theorem g_y_X0_subsets_X1_makeRow__a16_V160 : GoodIn w_y_X0_subsets (wsV RX0 160 RX1 yX1_makeRow w_y_X1_makeRow__a16) := goodIn_app (nb_g4 (List.mem_cons_of_mem _ (List.mem_append_left _ (List.mem_append_left _ (List.mem_of_getElem? (i := 13) rfl)))) (List.mem_cons_of_mem _ (List.mem_append_left _ (List.mem_append_left _ (List.mem_of_getElem? (i := 14) rfl)))) (List.mem_cons_of_mem _ (List.mem_append_left _ (List.mem_append_left _ (List.mem_of_getElem? (i := 15) rfl)))) (List.mem_cons_of_mem _ (List.mem_append_left _ (List.mem_append_left _ (List.mem_of_getElem? (i := 4) rfl)))) (by decide +kernel)) gg_y_X0_subsets_X1_makeRow__a16
theorem gg_y_X0_subsets_X1_makeRow__a17 : GoodIn w_y_X0_subsets w_y_X1_makeRow__a17 := goodIn_sub (fun w h => (List.mem_cons.mp h).elim (fun e => (List.mem_cons_of_mem _ (List.mem_append_left _ (List.mem_append_right _ (List.mem_append_right _ (List.mem_append_right _ (List.mem_append_right _ (List.mem_append_right _ (List.mem_append_right _ (List.mem_append_left _ (List.mem_cons.mpr (Or.inl e)))))))))))) (fun h => (List.mem_append.mp h).elim (fun h => (List.mem_cons_of_mem _ (List.mem_append_left _ (List.mem_append_right _ (List.mem_append_right _ (List.mem_append_right _ (List.mem_append_right _ (List.mem_append_right _ (List.mem_append_right _ (List.mem_append_left _ (List.mem_cons_of_mem _ h))))))))))) (fun h => List.mem_cons_of_mem _ (List.mem_append_right _ h)))) w_y_X1_makeRow__a17_good
theorem g_y_X0_subsets_X1_makeRow__a17_V160 : GoodIn w_y_X0_subsets (wsV RX0 160 RX1 yX1_makeRow w_y_X1_makeRow__a17) := goodIn_app (nb_g4 (List.mem_cons_of_mem _ (List.mem_append_left _ (List.mem_append_left _ (List.mem_of_getElem? (i := 13) rfl)))) (List.mem_cons_of_mem _ (List.mem_append_left _ (List.mem_append_left _ (List.mem_of_getElem? (i := 14) rfl)))) (List.mem_cons_of_mem _ (List.mem_append_left _ (List.mem_append_left _ (List.mem_of_getElem? (i := 15) rfl)))) (List.mem_cons_of_mem _ (List.mem_append_left _ (List.mem_append_left _ (List.mem_of_getElem? (i := 4) rfl)))) (by decide +kernel)) gg_y_X0_subsets_X1_makeRow__a17
theorem gg_y_X0_subsets_X1_member : GoodIn w_y_X0_subsets w_y_X1_member := goodIn_sub (fun w h => (List.mem_cons.mp h).elim (fun e => (List.mem_cons_of_mem _ (List.mem_append_left _ (List.mem_append_right _ (List.mem_append_right _ (List.mem_append_right _ (List.mem_append_right _ (List.mem_append_right _ (List.mem_append_left _ (List.mem_cons.mpr (Or.inl e))))))))))) (fun h => (List.mem_append.mp h).elim (fun h => (List.mem_cons_of_mem _ (List.mem_append_left _ (List.mem_append_right _ (List.mem_append_right _ (List.mem_append_right _ (List.mem_append_right _ (List.mem_append_right _ (List.mem_append_left _ (List.mem_cons_of_mem _ h)))))))))) (fun h => List.mem_cons_of_mem _ (List.mem_append_right _ h)))) w_y_X1_member_good
theorem g_y_X0_subsets_X1_member_V154 : GoodIn w_y_X0_subsets (wsV RX0 154 RX1 yX1_member w_y_X1_member) := goodIn_app (nb_g4 (List.mem_cons_of_mem _ (List.mem_append_left _ (List.mem_append_left _ (List.mem_of_getElem? (i := 17) rfl)))) (List.mem_cons_of_mem _ (List.mem_append_left _ (List.mem_append_left _ (List.mem_of_getElem? (i := 18) rfl)))) (List.mem_cons_of_mem _ (List.mem_append_left _ (List.mem_append_left _ (List.mem_of_getElem? (i := 19) rfl)))) (List.mem_cons_of_mem _ (List.mem_append_left _ (List.mem_append_left _ (List.mem_of_getElem? (i := 4) rfl)))) (by decide +kernel)) gg_y_X0_subsets_X1_member
theorem gg_y_X0_subsets_X1_size : GoodIn w_y_X0_subsets w_y_X1_size := goodIn_sub (fun w h => (List.mem_cons.mp h).elim (fun e => (List.mem_cons_of_mem _ (List.mem_append_left _ (List.mem_append_right _ (List.mem_append_right _ (List.mem_append_left _ (List.mem_cons.mpr (Or.inl e)))))))) (fun h => (List.mem_append.mp h).elim (fun h => (List.mem_cons_of_mem _ (List.mem_append_left _ (List.mem_append_right _ (List.mem_append_right _ (List.mem_append_left _ (List.mem_cons_of_mem _ h))))))) (fun h => List.mem_cons_of_mem _ (List.mem_append_right _ h)))) w_y_X1_size_good
theorem g_y_X0_subsets_X1_size_V179 : GoodIn w_y_X0_subsets (wsV RX0 179 RX1 yX1_size w_y_X1_size) := goodIn_app (nb_g4 (List.mem_cons_of_mem _ (List.mem_append_left _ (List.mem_append_left _ (List.mem_of_getElem? (i := 5) rfl)))) (List.mem_cons_of_mem _ (List.mem_append_left _ (List.mem_append_left _ (List.mem_of_getElem? (i := 6) rfl)))) (List.mem_cons_of_mem _ (List.mem_append_left _ (List.mem_append_left _ (List.mem_of_getElem? (i := 7) rfl)))) (List.mem_cons_of_mem _ (List.mem_append_left _ (List.mem_append_left _ (List.mem_of_getElem? (i := 4) rfl)))) (by decide +kernel)) gg_y_X0_subsets_X1_size
set_option maxHeartbeats 40000000 in
set_option maxRecDepth 100000 in
theorem c_y_X0_subsets (l : Launch) (dC : Nat → ClassId) (dI : Nat → Nat → Nat) (cy : Nat → ClassId) (a z : Nat → Nat) (k0 : Nat) (L0 : LV) (σ0 : CS) (r0 : Int32 × CS) (h0 : y_X0_subsets k0 0 L0 σ0 = some r0) (sz : Nat) : Met l yX0_subsets w_y_X0_subsets ({ frames := 2, cells := 0, slots := 0, locals := 90 }) (va_Pc [.ref (a 14), .int (L0.1 1)] (nIn (dC, dI) cy sz (vC cy a z σ0))) (va_Qi (fun (x : Int32) (_ : Unit) => x = r0.1) (fun _ t => nOut (dC, dI) cy (va_A (vC cy a z σ0) sz) (vC cy a z r0.2) t) (va_A (vC cy a z σ0) sz)) 0 0 (va_A (vC cy a z σ0) sz) := by
  refine Met.ofW (cc := cX0_subsets) (maxL := 8) (ret := (some .int)) (by decide) rfl ?_
  intro p e s m args below meth c s₁ B hml hv
  obtain ⟨rfl, hsz, hP, hK, hD0, hG⟩ := hv
  have hx := B.exec
  have hb := B.bytes
  have hr := B.returns
  have hts := atoms_spec (ws := w_y_X0_subsets) B.pre
  have hown : s.vm.findClass RX0 = some m.cls := findClass_of_methodNamed B.named
  have hlocks := B.notSynchronized
  subst hsz
  have hD := hD0.self (sz := s.heap.size)
  generalize hAe : va_A (vC cy a z σ0) s.heap.size = A at hD ⊢
  have hA : ∀ q : Nat, s.heap.size ≤ q → A q := fun q h => by rw [← hAe]; exact Or.inr h
  have hS : va_S A s.heap s.heap [] := va_S.rf
  have hl := lv_entry ([.ref (a 14), .int (L0.1 1)]) (n := 8) (Nat.le_of_ble_eq_true rfl)
  rw [lg_entry_eq]
  generalize (lg_sl ([.ref (a 14), .int (L0.1 1)]) ++ List.replicate (8 - (lg_sl ([.ref (a 14), .int (L0.1 1)])).length) Slot.unset).toArray = ls at hl ⊢
  have hl : lv_has ls 8 [(0, .ref (a 14)), (1, .int (L0.1 1))] := hl
  have blk : ∀ k : Nat, (bC p l e (headSpec w_y_X0_subsets ({ frames := 2, cells := 0, slots := 0, locals := 90 })).room s m #[.ref (a 14), .int (L0.1 1)] below meth c dC dI cy a z A (kI dC dI cy a z A below #[.ref (a 14), .int (L0.1 1)] s) 8 (y_X0_subsets k 0) (fun L => [(0, .ref (a 14)), (1, .int (L.1 1))]) 0 (fun L => [])) ∧ (bC p l e (headSpec w_y_X0_subsets ({ frames := 2, cells := 0, slots := 0, locals := 90 })).room s m #[.ref (a 14), .int (L0.1 1)] below meth c dC dI cy a z A (kI dC dI cy a z A below #[.ref (a 14), .int (L0.1 1)] s) 8 (y_X0_subsets k 1) (fun L => []) 43 (fun L => [])) ∧ (bC p l e (headSpec w_y_X0_subsets ({ frames := 2, cells := 0, slots := 0, locals := 90 })).room s m #[.ref (a 14), .int (L0.1 1)] below meth c dC dI cy a z A (kI dC dI cy a z A below #[.ref (a 14), .int (L0.1 1)] s) 8 (y_X0_subsets k 2) (fun L => [(0, .ref (a 14)), (1, .int (L.1 1)), (2, .int (L.1 2))]) 46 (fun L => [])) ∧ (bC p l e (headSpec w_y_X0_subsets ({ frames := 2, cells := 0, slots := 0, locals := 90 })).room s m #[.ref (a 14), .int (L0.1 1)] below meth c dC dI cy a z A (kI dC dI cy a z A below #[.ref (a 14), .int (L0.1 1)] s) 8 (y_X0_subsets k 3) (fun L => [(0, .ref (a 14)), (1, .int (L.1 1)), (2, .int (L.1 2)), (3, .int (L.1 3)), (4, .int (L.1 4)), (5, .int (L.1 5)), (6, .int (L.1 6)), (7, .int (L.1 7))]) 67 (fun L => [])) ∧ (bC p l e (headSpec w_y_X0_subsets ({ frames := 2, cells := 0, slots := 0, locals := 90 })).room s m #[.ref (a 14), .int (L0.1 1)] below meth c dC dI cy a z A (kI dC dI cy a z A below #[.ref (a 14), .int (L0.1 1)] s) 8 (y_X0_subsets k 4) (fun L => [(0, .ref (a 14)), (3, .int (L.1 3))]) 200 (fun L => [])) ∧ (bC p l e (headSpec w_y_X0_subsets ({ frames := 2, cells := 0, slots := 0, locals := 90 })).room s m #[.ref (a 14), .int (L0.1 1)] below meth c dC dI cy a z A (kI dC dI cy a z A below #[.ref (a 14), .int (L0.1 1)] s) 8 (y_X0_subsets k 5) (fun L => [(0, .ref (a 14)), (1, .int (L.1 1)), (2, .int (L.1 2)), (3, .int (L.1 3)), (4, .int (L.1 4)), (5, .int (L.1 5)), (6, .int (L.1 6)), (7, .int (L.1 7))]) 118 (fun L => [])) ∧ (bC p l e (headSpec w_y_X0_subsets ({ frames := 2, cells := 0, slots := 0, locals := 90 })).room s m #[.ref (a 14), .int (L0.1 1)] below meth c dC dI cy a z A (kI dC dI cy a z A below #[.ref (a 14), .int (L0.1 1)] s) 8 (y_X0_subsets k 6) (fun L => [(0, .ref (a 14)), (1, .int (L.1 1)), (2, .int (L.1 2)), (3, .int (L.1 3)), (4, .int (L.1 4)), (5, .int (L.1 5)), (6, .int (L.1 6)), (7, .int (L.1 7))]) 181 (fun L => [.int (L.1 100)])) ∧ (bC p l e (headSpec w_y_X0_subsets ({ frames := 2, cells := 0, slots := 0, locals := 90 })).room s m #[.ref (a 14), .int (L0.1 1)] below meth c dC dI cy a z A (kI dC dI cy a z A below #[.ref (a 14), .int (L0.1 1)] s) 8 (y_X0_subsets k 7) (fun L => [(0, .ref (a 14)), (1, .int (L.1 1)), (2, .int (L.1 2)), (3, .int (L.1 3)), (4, .int (L.1 4)), (5, .int (L.1 5)), (6, .int (L.1 6)), (7, .int (L.1 7))]) 191 (fun L => [])) := by
    intro k
    induction k with
    | zero => exact ⟨fun L σ r h => (by cases h), fun L σ r h => (by cases h), fun L σ r h => (by cases h), fun L σ r h => (by cases h), fun L σ r h => (by cases h), fun L σ r h => (by cases h), fun L σ r h => (by cases h), fun L σ r h => (by cases h)⟩
    | succ k ih =>
      refine ⟨?_, ?_, ?_, ?_, ?_, ?_, ?_, ?_⟩
      · intro L σ r h H locs ls hP hD hS hl
        rw [y_X0_subsets] at h
        refine lv_aload_n hx hb dX0_subsets_0 rfl (lv_at hl 0 rfl) ?_
        refine hg_14_0 hx hb hts in_y_X0_subsets_X0 hown hK hP (hts _ (List.mem_cons_of_mem _ (List.mem_append_left _ (List.mem_append_left _ (List.mem_of_getElem? (i := 0) rfl))))) dX0_subsets_1 ?_
        refine lv_iload_n hx hb dX0_subsets_4 rfl (lv_at hl 1 rfl) ?_
        obtain ⟨r1, hc1, h⟩ := oc_ex h
        refine kc_i (va_runV (As := [.int (L.1 1)]) (rest := []) ⟨hx, hb, hml, hown, hts⟩ (c_y_X1_length l dC dI cy a z k (lI lZ 1 ((L.1 1))) σ r1 hc1 H.size) (cwV 1 hts g_y_X0_subsets_X1_length_V100 rfl rfl rfl hd_y_X1_length ⟨Nat.le_of_ble_eq_true rfl, Nat.le_of_ble_eq_true rfl⟩) ⟨nb_blind, va_recv hK hP (ci := 1) (q0 := 0) rfl rfl, (kb_pre hK hG hP hD)⟩ rfl rfl hl.1 rfl (lv_room (Nat.le_of_ble_eq_true rfl)) dX0_subsets_5 ⟨Nat.le_refl _, Nat.le_refl _⟩) hA hP hD hS (fun H locs hP hD hS => ?_)
        refine lv_istore_n (lv' := [(2, .int r1.1), (0, .ref (a 14)), (1, .int (L.1 1))]) hx hb dX0_subsets_8 rfl hl (by decide) rfl (fun ls hl => ?_)
        refine lv_iload_n hx hb dX0_subsets_9 rfl (lv_at hl 0 rfl) ?_
        refine lv_bipush (v := 8) hx hb dX0_subsets_10 (by decide) ?_
        refine lv_icmp_gt (tgt := 43) hx hb dX0_subsets_12 (by decide) (fun c2 => ?_) (fun c2 => ?_)
        · rw [if_pos c2] at h
          exact ih.2.1 L r1.2 r h H locs ls hP hD hS (lv_sub hl [] rfl)
        · rw [if_neg c2] at h
          refine lv_iconst (v := 1) hx hb dX0_subsets_15 (by decide) ?_
          refine lv_iconst (v := 1) hx hb dX0_subsets_16 (by decide) ?_
          refine lv_iload_n hx hb dX0_subsets_17 rfl (lv_at hl 0 rfl) ?_
          refine lv_ishl hx hb dX0_subsets_18 ?_
          refine lv_iadd hx hb dX0_subsets_19 ?_
          refine lv_iconst (v := 1) hx hb dX0_subsets_20 (by decide) ?_
          refine lv_iload_n hx hb dX0_subsets_21 rfl (lv_at hl 0 rfl) ?_
          refine lv_ishl hx hb dX0_subsets_22 ?_
          refine lv_iconst (v := 1) hx hb dX0_subsets_23 (by decide) ?_
          refine lv_ishr hx hb dX0_subsets_24 ?_
          refine lv_aload_n hx hb dX0_subsets_25 rfl (lv_at hl 1 rfl) ?_
          refine hg_14_0 hx hb hts in_y_X0_subsets_X0 hown hK hP (hts _ (List.mem_cons_of_mem _ (List.mem_append_left _ (List.mem_append_left _ (List.mem_of_getElem? (i := 0) rfl))))) dX0_subsets_26 ?_
          refine lv_iload_n hx hb dX0_subsets_29 rfl (lv_at hl 2 rfl) ?_
          obtain ⟨r3, hc3, h⟩ := oc_ex h
          refine kc_i (va_runV (As := [.int (L.1 1)]) (rest := [.int ((((1 : Int32) <<< (r1.1 &&& 31))) >>> ((1 : Int32) &&& 31)), .int (1 + (((1 : Int32) <<< (r1.1 &&& 31))))]) ⟨hx, hb, hml, hown, hts⟩ (c_y_X1_size l dC dI cy a z k (lI lZ 1 ((L.1 1))) r1.2 r3 hc3 H.size) (cwV 1 hts g_y_X0_subsets_X1_size_V179 rfl rfl rfl hd_y_X1_size ⟨Nat.le_of_ble_eq_true rfl, Nat.le_of_ble_eq_true rfl⟩) ⟨nb_blind, va_recv hK hP (ci := 1) (q0 := 0) rfl rfl, (kb_pre hK hG hP hD)⟩ rfl rfl hl.1 rfl (lv_room (Nat.le_of_ble_eq_true rfl)) dX0_subsets_30 ⟨Nat.le_refl _, Nat.le_refl _⟩) hA hP hD hS (fun H locs hP hD hS => ?_)
          refine lv_iconst (v := 1) hx hb dX0_subsets_33 (by decide) ?_
          refine lv_isub hx hb dX0_subsets_34 ?_
          refine lv_imul hx hb dX0_subsets_35 ?_
          refine lv_iadd hx hb dX0_subsets_36 ?_
          refine lv_sipush (v := 1000) hx hb dX0_subsets_37 (by decide) ?_
          refine lv_icmp_le (tgt := 46) hx hb dX0_subsets_40 (by decide) (fun c4 => ?_) (fun c4 => ?_)
          · rw [if_pos c4] at h
            exact ih.2.2.1 (lI L 2 r1.1) r3.2 r h H locs ls hP hD hS (lv_sub hl [1, 2, 0] rfl)
          · rw [if_neg c4] at h
            exact ih.2.1 L r3.2 r h H locs ls hP hD hS (lv_sub hl [] rfl)
      · intro L σ r h H locs ls hP hD hS hl
        rw [y_X0_subsets] at h
        refine lv_ldc (v := (-268435451)) hx hb hown (hts _ (List.mem_cons_of_mem _ (List.mem_append_left _ (List.mem_append_left _ (List.mem_of_getElem? (i := 8) rfl))))) dX0_subsets_43 ?_
        obtain rfl := Option.some.inj h
        exact W.iret (v := (-268435451)) hx hb hr (fun t ht hW => ⟨⟨(-268435451), (), rfl, rfl, by rw [ht]; exact hP, va_K.moved hW.alike hK, hD⟩, hS.F ht⟩) hS.2.2 dX0_subsets_45
      · intro L σ r h H locs ls hP hD hS hl
        rw [y_X0_subsets] at h
        refine lv_aload_n hx hb dX0_subsets_46 rfl (lv_at hl 0 rfl) ?_
        refine hg_14_4 hx hb hts in_y_X0_subsets_X0 hown hK hP (hts _ (List.mem_cons_of_mem _ (List.mem_append_left _ (List.mem_append_left _ (List.mem_of_getElem? (i := 9) rfl))))) dX0_subsets_47 ?_
        refine lv_iconst (v := 0) hx hb dX0_subsets_50 (by decide) ?_
        refine lv_iconst (v := 2) hx hb dX0_subsets_51 (by decide) ?_
        obtain ⟨q1, h⟩ := kb_ite1 h
        refine hs_16 hx hb hK hP hD hS q1 dX0_subsets_52 (fun H locs hP hD hS => ?_)
        refine lv_iconst (v := 1) hx hb dX0_subsets_53 (by decide) ?_
        refine lv_istore_n (lv' := [(3, .int 1), (0, .ref (a 14)), (1, .int (L.1 1)), (2, .int (L.1 2))]) hx hb dX0_subsets_54 rfl hl (by decide) rfl (fun ls hl => ?_)
        refine lv_iconst (v := 0) hx hb dX0_subsets_55 (by decide) ?_
        refine lv_istore (lv' := [(4, .int 0), (3, .int 1), (0, .ref (a 14)), (1, .int (L.1 1)), (2, .int (L.1 2))]) hx hb dX0_subsets_56 hl (by decide) rfl (fun ls hl => ?_)
        refine lv_iconst (v := (-1)) hx hb dX0_subsets_58 (by decide) ?_
        refine lv_istore (lv' := [(5, .int (-1)), (4, .int 0), (3, .int 1), (0, .ref (a 14)), (1, .int (L.1 1)), (2, .int (L.1 2))]) hx hb dX0_subsets_59 hl (by decide) rfl (fun ls hl => ?_)
        refine lv_iconst (v := 0) hx hb dX0_subsets_61 (by decide) ?_
        refine lv_istore (lv' := [(6, .int 0), (5, .int (-1)), (4, .int 0), (3, .int 1), (0, .ref (a 14)), (1, .int (L.1 1)), (2, .int (L.1 2))]) hx hb dX0_subsets_62 hl (by decide) rfl (fun ls hl => ?_)
        refine lv_iconst (v := 1) hx hb dX0_subsets_64 (by decide) ?_
        refine lv_istore (lv' := [(7, .int 1), (6, .int 0), (5, .int (-1)), (4, .int 0), (3, .int 1), (0, .ref (a 14)), (1, .int (L.1 1)), (2, .int (L.1 2))]) hx hb dX0_subsets_65 hl (by decide) rfl (fun ls hl => ?_)
        exact ih.2.2.2.1 (lI (lI (lI (lI (lI L 3 1) 4 0) 5 ((-1))) 6 0) 7 1) (uA σ 16 (0 : Int32).toNatClampNeg 2) r h H locs ls hP hD hS (lv_sub hl [5, 6, 7, 4, 3, 2, 1, 0] rfl)
      · intro L σ r h H locs ls hP hD hS hl
        rw [y_X0_subsets] at h
        refine lv_iload hx hb dX0_subsets_67 (lv_at hl 7 rfl) ?_
        refine lv_iconst (v := 1) hx hb dX0_subsets_69 (by decide) ?_
        refine lv_iload_n hx hb dX0_subsets_70 rfl (lv_at hl 2 rfl) ?_
        refine lv_ishl hx hb dX0_subsets_71 ?_
        refine lv_icmp_ge (tgt := 200) hx hb dX0_subsets_72 (by decide) (fun c1 => ?_) (fun c1 => ?_)
        · rw [if_pos c1] at h
          exact ih.2.2.2.2.1 L σ r h H locs ls hP hD hS (lv_sub hl [0, 3] rfl)
        · rw [if_neg c1] at h
          refine lv_iload hx hb dX0_subsets_75 (lv_at hl 5 rfl) ?_
          refine lv_iload_n hx hb dX0_subsets_77 rfl (lv_at hl 2 rfl) ?_
          refine lv_iconst (v := 1) hx hb dX0_subsets_78 (by decide) ?_
          refine lv_isub hx hb dX0_subsets_79 ?_
          refine lv_icmp_ne (tgt := 118) hx hb dX0_subsets_80 (by decide) (fun c2 => ?_) (fun c2 => ?_)
          · rw [if_neg c2] at h
            exact ih.2.2.2.2.2.1 L σ r h H locs ls hP hD hS (lv_sub hl [0, 1, 2, 3, 4, 5, 6, 7] rfl)
          · rw [if_pos c2] at h
            refine lv_iinc (v := ((L.1 4)) + (-1)) (lv' := [(4, .int (((L.1 4)) + (-1))), (0, .ref (a 14)), (1, .int (L.1 1)), (2, .int (L.1 2)), (3, .int (L.1 3)), (5, .int (L.1 5)), (6, .int (L.1 6)), (7, .int (L.1 7))]) hx hb dX0_subsets_83 hl (k := 4) rfl rfl (by decide) rfl (fun ls hl => ?_)
            refine lv_iload hx hb dX0_subsets_86 (lv_at hl 6 rfl) ?_
            refine lv_iconst (v := 1) hx hb dX0_subsets_88 (by decide) ?_
            refine lv_iload hx hb dX0_subsets_89 (lv_at hl 5 rfl) ?_
            refine lv_ishl hx hb dX0_subsets_91 ?_
            refine lv_iconst (v := (-1)) hx hb dX0_subsets_92 (by decide) ?_
            refine lv_ixor hx hb dX0_subsets_93 ?_
            refine lv_iand hx hb dX0_subsets_94 ?_
            refine lv_istore (lv' := [(6, .int (((L.1 6)) &&& (((((1 : Int32) <<< (((L.1 5)) &&& 31))) ^^^ ((-1)))))), (4, .int (((L.1 4)) + (-1))), (0, .ref (a 14)), (1, .int (L.1 1)), (2, .int (L.1 2)), (3, .int (L.1 3)), (5, .int (L.1 5)), (7, .int (L.1 7))]) hx hb dX0_subsets_95 hl (by decide) rfl (fun ls hl => ?_)
            refine lv_iload hx hb dX0_subsets_97 (lv_at hl 0 rfl) ?_
            obtain ⟨r3, hc3, h⟩ := oc_ex h
            refine kc_i (va_runS (As := [.int (((L.1 6)) &&& (((((1 : Int32) <<< (((L.1 5)) &&& 31))) ^^^ ((-1)))))]) (rest := []) ⟨hx, hb, hml, hown, hts⟩ (c_y_X0_highest l dC dI cy a z k (lI lZ 0 ((((L.1 6)) &&& (((((1 : Int32) <<< (((L.1 5)) &&& 31))) ^^^ ((-1))))))) σ r3 hc3 H.size) (va_cwS 1 hts g_y_X0_subsets_X0_highest_S244 rfl rfl rfl hd_y_X0_highest ⟨Nat.le_of_ble_eq_true rfl, Nat.le_of_ble_eq_true rfl⟩) ⟨nb_blind, (kb_pre hK hG hP hD)⟩ rfl rfl hl.1 rfl (lv_room (Nat.le_of_ble_eq_true rfl)) dX0_subsets_99 ⟨Nat.le_refl _, Nat.le_refl _⟩) hA hP hD hS (fun H locs hP hD hS => ?_)
            refine lv_istore (lv' := [(5, .int r3.1), (6, .int (((L.1 6)) &&& (((((1 : Int32) <<< (((L.1 5)) &&& 31))) ^^^ ((-1)))))), (4, .int (((L.1 4)) + (-1))), (0, .ref (a 14)), (1, .int (L.1 1)), (2, .int (L.1 2)), (3, .int (L.1 3)), (7, .int (L.1 7))]) hx hb dX0_subsets_102 hl (by decide) rfl (fun ls hl => ?_)
            refine lv_iinc (v := ((((L.1 4)) + (-1))) + (-1)) (lv' := [(4, .int (((((L.1 4)) + (-1))) + (-1))), (5, .int r3.1), (6, .int (((L.1 6)) &&& (((((1 : Int32) <<< (((L.1 5)) &&& 31))) ^^^ ((-1)))))), (0, .ref (a 14)), (1, .int (L.1 1)), (2, .int (L.1 2)), (3, .int (L.1 3)), (7, .int (L.1 7))]) hx hb dX0_subsets_104 hl (k := 2) rfl rfl (by decide) rfl (fun ls hl => ?_)
            refine lv_iload hx hb dX0_subsets_107 (lv_at hl 2 rfl) ?_
            refine lv_iconst (v := 1) hx hb dX0_subsets_109 (by decide) ?_
            refine lv_iload hx hb dX0_subsets_110 (lv_at hl 1 rfl) ?_
            refine lv_ishl hx hb dX0_subsets_112 ?_
            refine lv_iconst (v := (-1)) hx hb dX0_subsets_113 (by decide) ?_
            refine lv_ixor hx hb dX0_subsets_114 ?_
            refine lv_iand hx hb dX0_subsets_115 ?_
            refine lv_istore (lv' := [(6, .int (((((L.1 6)) &&& (((((1 : Int32) <<< (((L.1 5)) &&& 31))) ^^^ ((-1)))))) &&& (((((1 : Int32) <<< (r3.1 &&& 31))) ^^^ ((-1)))))), (4, .int (((((L.1 4)) + (-1))) + (-1))), (5, .int r3.1), (0, .ref (a 14)), (1, .int (L.1 1)), (2, .int (L.1 2)), (3, .int (L.1 3)), (7, .int (L.1 7))]) hx hb dX0_subsets_116 hl (by decide) rfl (fun ls hl => ?_)
            exact ih.2.2.2.2.2.1 (lI (lI (lI L 4 ((((((L.1 4)) + (-1))) + (-1)))) 5 r3.1) 6 ((((((L.1 6)) &&& (((((1 : Int32) <<< (((L.1 5)) &&& 31))) ^^^ ((-1)))))) &&& (((((1 : Int32) <<< (r3.1 &&& 31))) ^^^ ((-1))))))) r3.2 r h H locs ls hP hD hS (lv_sub hl [3, 4, 5, 6, 1, 2, 0, 7] rfl)
      · intro L σ r h H locs ls hP hD hS hl
        rw [y_X0_subsets] at h
        refine lv_aload_n hx hb dX0_subsets_200 rfl (lv_at hl 0 rfl) ?_
        refine hg_14_0 hx hb hts in_y_X0_subsets_X0 hown hK hP (hts _ (List.mem_cons_of_mem _ (List.mem_append_left _ (List.mem_append_left _ (List.mem_of_getElem? (i := 0) rfl))))) dX0_subsets_201 ?_
        refine lv_bipush (v := 6) hx hb dX0_subsets_204 (by decide) ?_
        refine lv_aload_n hx hb dX0_subsets_206 rfl (lv_at hl 0 rfl) ?_
        refine hg_14_4 hx hb hts in_y_X0_subsets_X0 hown hK hP (hts _ (List.mem_cons_of_mem _ (List.mem_append_left _ (List.mem_append_left _ (List.mem_of_getElem? (i := 9) rfl))))) dX0_subsets_207 ?_
        refine lv_iconst (v := 0) hx hb dX0_subsets_210 (by decide) ?_
        refine lv_iload_n hx hb dX0_subsets_211 rfl (lv_at hl 1 rfl) ?_
        obtain ⟨r1, hc1, h⟩ := oc_ex h
        refine kc_i (va_runV (As := [.int 6, .ref (a 16), .int 0, .int (L.1 3)]) (rest := []) ⟨hx, hb, hml, hown, hts⟩ (c_y_X1_makeRow__a16 l dC dI cy a z k (lI (lI (lI lZ 1 6) 3 0) 4 ((L.1 3))) σ r1 hc1 H.size) (cwV 4 hts g_y_X0_subsets_X1_makeRow__a16_V160 rfl rfl rfl hd_y_X1_makeRow__a16 ⟨Nat.le_of_ble_eq_true rfl, Nat.le_of_ble_eq_true rfl⟩) ⟨nb_blind, va_recv hK hP (ci := 1) (q0 := 0) rfl rfl, (kb_pre hK hG hP hD)⟩ rfl rfl hl.1 rfl (lv_room (Nat.le_of_ble_eq_true rfl)) dX0_subsets_212 ⟨Nat.le_refl _, Nat.le_refl _⟩) hA hP hD hS (fun H locs hP hD hS => ?_)
        obtain rfl := Option.some.inj h
        exact W.iret (v := r1.1) hx hb hr (fun t ht hW => ⟨⟨r1.1, (), rfl, rfl, by rw [ht]; exact hP, va_K.moved hW.alike hK, hD⟩, hS.F ht⟩) hS.2.2 dX0_subsets_215
      · intro L σ r h H locs ls hP hD hS hl
        rw [y_X0_subsets] at h
        refine lv_iinc (v := ((L.1 5)) + 1) (lv' := [(5, .int (((L.1 5)) + 1)), (0, .ref (a 14)), (1, .int (L.1 1)), (2, .int (L.1 2)), (3, .int (L.1 3)), (4, .int (L.1 4)), (6, .int (L.1 6)), (7, .int (L.1 7))]) hx hb dX0_subsets_118 hl (k := 5) rfl rfl (by decide) rfl (fun ls hl => ?_)
        refine lv_iload hx hb dX0_subsets_121 (lv_at hl 6 rfl) ?_
        refine lv_iconst (v := 1) hx hb dX0_subsets_123 (by decide) ?_
        refine lv_iload hx hb dX0_subsets_124 (lv_at hl 0 rfl) ?_
        refine lv_ishl hx hb dX0_subsets_126 ?_
        refine lv_ior hx hb dX0_subsets_127 ?_
        refine lv_istore (lv' := [(6, .int (((L.1 6)) ||| (((1 : Int32) <<< (((((L.1 5)) + 1)) &&& 31))))), (5, .int (((L.1 5)) + 1)), (0, .ref (a 14)), (1, .int (L.1 1)), (2, .int (L.1 2)), (3, .int (L.1 3)), (4, .int (L.1 4)), (7, .int (L.1 7))]) hx hb dX0_subsets_128 hl (by decide) rfl (fun ls hl => ?_)
        refine lv_aload_n hx hb dX0_subsets_130 rfl (lv_at hl 2 rfl) ?_
        refine hg_14_5 hx hb hts in_y_X0_subsets_X0 hown hK hP (hts _ (List.mem_cons_of_mem _ (List.mem_append_left _ (List.mem_append_left _ (List.mem_of_getElem? (i := 16) rfl))))) dX0_subsets_131 ?_
        refine lv_iload hx hb dX0_subsets_134 (lv_at hl 6 rfl) ?_
        refine lv_aload_n hx hb dX0_subsets_136 rfl (lv_at hl 2 rfl) ?_
        refine hg_14_0 hx hb hts in_y_X0_subsets_X0 hown hK hP (hts _ (List.mem_cons_of_mem _ (List.mem_append_left _ (List.mem_append_left _ (List.mem_of_getElem? (i := 0) rfl))))) dX0_subsets_137 ?_
        refine lv_iload_n hx hb dX0_subsets_140 rfl (lv_at hl 3 rfl) ?_
        refine lv_iload hx hb dX0_subsets_141 (lv_at hl 1 rfl) ?_
        obtain ⟨r1, hc1, h⟩ := oc_ex h
        refine kc_i (va_runV (As := [.int (L.1 1), .int (((L.1 5)) + 1)]) (rest := [.int (L.1 4), .ref (a 17)]) ⟨hx, hb, hml, hown, hts⟩ (c_y_X1_member l dC dI cy a z k (lI (lI lZ 1 ((L.1 1))) 2 ((((L.1 5)) + 1))) σ r1 hc1 H.size) (cwV 2 hts g_y_X0_subsets_X1_member_V154 rfl rfl rfl hd_y_X1_member ⟨Nat.le_of_ble_eq_true rfl, Nat.le_of_ble_eq_true rfl⟩) ⟨nb_blind, va_recv hK hP (ci := 1) (q0 := 0) rfl rfl, (kb_pre hK hG hP hD)⟩ rfl rfl hl.1 rfl (lv_room (Nat.le_of_ble_eq_true rfl)) dX0_subsets_143 ⟨Nat.le_refl _, Nat.le_refl _⟩) hA hP hD hS (fun H locs hP hD hS => ?_)
        obtain ⟨q2, h⟩ := kb_ite1 h
        refine hs_17 hx hb hK hP hD hS q2 dX0_subsets_146 (fun H locs hP hD hS => ?_)
        refine lv_iinc (v := ((L.1 4)) + 1) (lv' := [(4, .int (((L.1 4)) + 1)), (6, .int (((L.1 6)) ||| (((1 : Int32) <<< (((((L.1 5)) + 1)) &&& 31))))), (5, .int (((L.1 5)) + 1)), (0, .ref (a 14)), (1, .int (L.1 1)), (2, .int (L.1 2)), (3, .int (L.1 3)), (7, .int (L.1 7))]) hx hb dX0_subsets_147 hl (k := 6) rfl rfl (by decide) rfl (fun ls hl => ?_)
        refine lv_aload_n hx hb dX0_subsets_150 rfl (lv_at hl 3 rfl) ?_
        refine hg_14_4 hx hb hts in_y_X0_subsets_X0 hown hK hP (hts _ (List.mem_cons_of_mem _ (List.mem_append_left _ (List.mem_append_left _ (List.mem_of_getElem? (i := 9) rfl))))) dX0_subsets_151 ?_
        refine lv_iload_n hx hb dX0_subsets_154 rfl (lv_at hl 6 rfl) ?_
        refine lv_aload_n hx hb dX0_subsets_155 rfl (lv_at hl 3 rfl) ?_
        refine hg_14_0 hx hb hts in_y_X0_subsets_X0 hown hK hP (hts _ (List.mem_cons_of_mem _ (List.mem_append_left _ (List.mem_append_left _ (List.mem_of_getElem? (i := 0) rfl))))) dX0_subsets_156 ?_
        refine lv_bipush (v := 6) hx hb dX0_subsets_159 (by decide) ?_
        refine lv_aload_n hx hb dX0_subsets_161 rfl (lv_at hl 3 rfl) ?_
        refine hg_14_5 hx hb hts in_y_X0_subsets_X0 hown hK hP (hts _ (List.mem_cons_of_mem _ (List.mem_append_left _ (List.mem_append_left _ (List.mem_of_getElem? (i := 16) rfl))))) dX0_subsets_162 ?_
        refine lv_iconst (v := 0) hx hb dX0_subsets_165 (by decide) ?_
        refine lv_iload hx hb dX0_subsets_166 (lv_at hl 0 rfl) ?_
        obtain ⟨r3, hc3, h⟩ := oc_ex h
        refine kc_i (va_runV (As := [.int 6, .ref (a 17), .int 0, .int (((L.1 4)) + 1)]) (rest := [.int (L.1 3), .ref (a 16)]) ⟨hx, hb, hml, hown, hts⟩ (c_y_X1_makeRow__a17 l dC dI cy a z k (lI (lI (lI lZ 1 6) 3 0) 4 ((((L.1 4)) + 1))) (uA r1.2 17 ((L.1 4)).toNatClampNeg r1.1) r3 hc3 H.size) (cwV 4 hts g_y_X0_subsets_X1_makeRow__a17_V160 rfl rfl rfl hd_y_X1_makeRow__a17 ⟨Nat.le_of_ble_eq_true rfl, Nat.le_of_ble_eq_true rfl⟩) ⟨nb_blind, va_recv hK hP (ci := 1) (q0 := 0) rfl rfl, (kb_pre hK hG hP hD)⟩ rfl rfl hl.1 rfl (lv_room (Nat.le_of_ble_eq_true rfl)) dX0_subsets_168 ⟨Nat.le_refl _, Nat.le_refl _⟩) hA hP hD hS (fun H locs hP hD hS => ?_)
        obtain ⟨q4, h⟩ := kb_ite1 h
        refine hs_16 hx hb hK hP hD hS q4 dX0_subsets_171 (fun H locs hP hD hS => ?_)
        refine lv_aload_n hx hb dX0_subsets_172 rfl (lv_at hl 3 rfl) ?_
        refine hg_14_4 hx hb hts in_y_X0_subsets_X0 hown hK hP (hts _ (List.mem_cons_of_mem _ (List.mem_append_left _ (List.mem_append_left _ (List.mem_of_getElem? (i := 9) rfl))))) dX0_subsets_173 ?_
        refine lv_iload_n hx hb dX0_subsets_176 rfl (lv_at hl 6 rfl) ?_
        obtain ⟨q5, h⟩ := kb_ite1 h
        refine hl_16 hx hb hK hP q5 dX0_subsets_177 ?_
        obtain ⟨r6, hc6, h⟩ := oc_ex h
        refine kc_i (va_runSN (As := [.int ((uA r3.2 16 ((L.1 3)).toNatClampNeg r3.1).2.2.1 16 ((L.1 3)).toNatClampNeg)]) (rest := []) ⟨hx, hb, hml, hown, hts⟩ (c_y_X11_isError l dC dI cy a z k (lI lZ 0 (((uA r3.2 16 ((L.1 3)).toNatClampNeg r3.1).2.2.1 16 ((L.1 3)).toNatClampNeg))) (uA r3.2 16 ((L.1 3)).toNatClampNeg r3.1) r6 hc6 H.size) ⟨va_cnB 1 hts g_y_X0_subsets_X11_isError_SN72 rfl rfl rfl (hG.1 _ (List.mem_of_getElem? (i := 105) rfl)) (hts _ (List.mem_cons_of_mem _ (List.mem_append_left _ (List.mem_append_left _ (List.mem_of_getElem? (i := 20) rfl))))) hd_y_X11_isError ⟨Nat.le_of_ble_eq_true rfl, Nat.le_of_ble_eq_true rfl⟩, (hts _ (List.mem_cons_of_mem _ (List.mem_append_left _ (List.mem_append_left _ (List.mem_of_getElem? (i := 21) rfl))))), trivial⟩ ⟨nb_blind, (kb_pre hK hG hP hD)⟩ rfl rfl hl.1 rfl (lv_room (Nat.le_of_ble_eq_true rfl)) dX0_subsets_178 ⟨Nat.le_refl _, Nat.le_refl _⟩) hA hP hD hS (fun H locs hP hD hS => ?_)
        exact ih.2.2.2.2.2.2.1 (lI (lI (lI (lI L 4 ((((L.1 4)) + 1))) 5 ((((L.1 5)) + 1))) 6 ((((L.1 6)) ||| (((1 : Int32) <<< (((((L.1 5)) + 1)) &&& 31)))))) 100 r6.1) r6.2 r h H locs ls hP hD hS (lv_sub hl [3, 4, 5, 6, 0, 2, 1, 7] rfl)
      · intro L σ r h H locs ls hP hD hS hl
        rw [y_X0_subsets] at h
        refine lv_if_eq (tgt := 191) hx hb dX0_subsets_181 (by decide) (fun c1 => ?_) (fun c1 => ?_)
        · rw [if_pos c1] at h
          exact ih.2.2.2.2.2.2.2 L σ r h H locs ls hP hD hS (lv_sub hl [0, 1, 2, 3, 4, 5, 6, 7] rfl)
        · rw [if_neg c1] at h
          refine lv_aload_n hx hb dX0_subsets_184 rfl (lv_at hl 0 rfl) ?_
          refine hg_14_4 hx hb hts in_y_X0_subsets_X0 hown hK hP (hts _ (List.mem_cons_of_mem _ (List.mem_append_left _ (List.mem_append_left _ (List.mem_of_getElem? (i := 9) rfl))))) dX0_subsets_185 ?_
          refine lv_iload_n hx hb dX0_subsets_188 rfl (lv_at hl 3 rfl) ?_
          obtain ⟨q2, h⟩ := kb_ite1 h
          refine hl_16 hx hb hK hP q2 dX0_subsets_189 ?_
          obtain rfl := Option.some.inj h
          exact W.iret (v := (σ.2.2.1 16 ((L.1 3)).toNatClampNeg)) hx hb hr (fun t ht hW => ⟨⟨(σ.2.2.1 16 ((L.1 3)).toNatClampNeg), (), rfl, rfl, by rw [ht]; exact hP, va_K.moved hW.alike hK, hD⟩, hS.F ht⟩) hS.2.2 dX0_subsets_190
      · intro L σ r h H locs ls hP hD hS hl
        rw [y_X0_subsets] at h
        refine lv_iinc (v := ((L.1 3)) + 1) (lv' := [(3, .int (((L.1 3)) + 1)), (0, .ref (a 14)), (1, .int (L.1 1)), (2, .int (L.1 2)), (4, .int (L.1 4)), (5, .int (L.1 5)), (6, .int (L.1 6)), (7, .int (L.1 7))]) hx hb dX0_subsets_191 hl (k := 3) rfl rfl (by decide) rfl (fun ls hl => ?_)
        refine lv_iinc (v := ((L.1 7)) + 1) (lv' := [(7, .int (((L.1 7)) + 1)), (3, .int (((L.1 3)) + 1)), (0, .ref (a 14)), (1, .int (L.1 1)), (2, .int (L.1 2)), (4, .int (L.1 4)), (5, .int (L.1 5)), (6, .int (L.1 6))]) hx hb dX0_subsets_194 hl (k := 7) rfl rfl (by decide) rfl (fun ls hl => ?_)
        refine lv_goto (tgt := 67) hx hb dX0_subsets_197 (by decide) ?_
        exact ih.2.2.2.1 (lI (lI L 3 ((((L.1 3)) + 1))) 7 ((((L.1 7)) + 1))) σ r h H locs ls hP hD hS (lv_sub hl [2, 3, 4, 1, 5, 6, 7, 0] rfl)
  exact (blk k0).1 L0 σ0 r0 h0 s.heap [] ls hP hD hS hl
/-! X0_larger -/
def y_X0_larger : Nat → Nat → LV → CS → Option (Int32 × CS)
  | 0, _, _, _ => none
  | k + 1, 0, L, σ => oc (y_X0_compared k 0 (lI (lI (lI lZ 1 136) 2 ((L.1 1))) 3 ((L.1 2))) σ) (fun r1 => oc (y_X11_isError k 0 (lI lZ 0 r1.1) r1.2) (fun r2 => if r2.1 = 0 then (y_X0_larger k 1 (lI L 4 r1.1) r2.2) else (some (r1.1, r2.2))))
  | k + 1, 1, L, σ => if ((L.1 4)) = ((-1879048191)) then (y_X0_larger k 3 (lI L 100 1) σ) else (y_X0_larger k 2 L σ)
  | k + 1, 2, L, σ => y_X0_larger k 3 (lI L 100 0) σ
  | k + 1, 3, L, σ => if ((L.1 100)) = ((L.1 3)) then (y_X0_larger k 5 (lI L 100 ((L.1 1))) σ) else (y_X0_larger k 4 L σ)
  | k + 1, 4, L, σ => y_X0_larger k 5 (lI L 100 ((L.1 2))) σ
  | k + 1, 5, L, σ => some ((L.1 100), σ)
  | _ + 1, _ + 6, _, _ => none
def o_y_X0_larger : List Cond := [.methodLink RX0 83 yX0_compared, .instanceMethod yX0_compared, .selects RX0 yX0_compared yX0_compared, .initialized RX0, .initialized RX11, .static yX11_isError, .constant RX0 247 (-1879048191)]
theorem o_y_X0_larger_good : o_y_X0_larger.all goodWord = true := by decide +kernel
def p_y_X0_larger : List Cond := o_y_X0_larger ++ ((.code yX0_compared cX0_compared 6 (some .int) :: p_y_X0_compared) ++ ((.code yX11_isError cX11_isError 1 (some .boolean) :: p_y_X11_isError) ++ []))
theorem p_y_X0_larger_good : p_y_X0_larger.all goodWord = true := nb_all2 o_y_X0_larger_good (nb_all2 (nb_allc (by decide +kernel) p_y_X0_compared_good) (nb_all2 (nb_allc (by decide +kernel) p_y_X11_isError_good) rfl))
def w_y_X0_larger : List Cond := .code yX0_larger cX0_larger 5 (some .int) :: (p_y_X0_larger ++ fC)
theorem w_y_X0_larger_good : w_y_X0_larger.all goodWord = true := nb_allc (by decide +kernel) (nb_all2 p_y_X0_larger_good fC_good)
theorem hd_y_X0_larger : yX0_larger.cls = RX0 ∧ yX0_larger.cls ≠ "java/lang/invoke/MethodHandle" ∧ yX0_larger.cls ≠ "java/lang/invoke/VarHandle" ∧ (parseMethodDescriptor yX0_larger.desc).map (fun d => d.parameters.length) = some 3 := by decide +kernel
theorem gg_y_X0_larger_X0_compared : GoodIn w_y_X0_larger w_y_X0_compared := goodIn_sub (fun w h => (List.mem_cons.mp h).elim (fun e => (List.mem_cons_of_mem _ (List.mem_append_left _ (List.mem_append_right _ (List.mem_append_left _ (List.mem_cons.mpr (Or.inl e))))))) (fun h => (List.mem_append.mp h).elim (fun h => (List.mem_cons_of_mem _ (List.mem_append_left _ (List.mem_append_right _ (List.mem_append_left _ (List.mem_cons_of_mem _ h)))))) (fun h => List.mem_cons_of_mem _ (List.mem_append_right _ h)))) w_y_X0_compared_good
theorem g_y_X0_larger_X0_compared_V83 : GoodIn w_y_X0_larger (wsV RX0 83 RX0 yX0_compared w_y_X0_compared) := goodIn_app (nb_g4 (List.mem_cons_of_mem _ (List.mem_append_left _ (List.mem_append_left _ (List.mem_of_getElem? (i := 0) rfl)))) (List.mem_cons_of_mem _ (List.mem_append_left _ (List.mem_append_left _ (List.mem_of_getElem? (i := 1) rfl)))) (List.mem_cons_of_mem _ (List.mem_append_left _ (List.mem_append_left _ (List.mem_of_getElem? (i := 2) rfl)))) (List.mem_cons_of_mem _ (List.mem_append_left _ (List.mem_append_left _ (List.mem_of_getElem? (i := 3) rfl)))) (by decide +kernel)) gg_y_X0_larger_X0_compared
theorem gg_y_X0_larger_X11_isError : GoodIn w_y_X0_larger w_y_X11_isError := goodIn_sub (fun w h => (List.mem_cons.mp h).elim (fun e => (List.mem_cons_of_mem _ (List.mem_append_left _ (List.mem_append_right _ (List.mem_append_right _ (List.mem_append_left _ (List.mem_cons.mpr (Or.inl e)))))))) (fun h => (List.mem_append.mp h).elim (fun h => (List.mem_cons_of_mem _ (List.mem_append_left _ (List.mem_append_right _ (List.mem_append_right _ (List.mem_append_left _ (List.mem_cons_of_mem _ h))))))) (fun h => List.mem_cons_of_mem _ (List.mem_append_right _ h)))) w_y_X11_isError_good
theorem g_y_X0_larger_X11_isError_SN72 : GoodIn w_y_X0_larger w_y_X11_isError := gg_y_X0_larger_X11_isError
set_option maxHeartbeats 40000000 in
set_option maxRecDepth 100000 in
theorem c_y_X0_larger (l : Launch) (dC : Nat → ClassId) (dI : Nat → Nat → Nat) (cy : Nat → ClassId) (a z : Nat → Nat) (k0 : Nat) (L0 : LV) (σ0 : CS) (r0 : Int32 × CS) (h0 : y_X0_larger k0 0 L0 σ0 = some r0) (sz : Nat) : Met l yX0_larger w_y_X0_larger ({ frames := 63, cells := 0, slots := 0, locals := 1763 }) (va_Pc [.ref (a 14), .int (L0.1 1), .int (L0.1 2), .int (L0.1 3)] (nIn (dC, dI) cy sz (vC cy a z σ0))) (va_Qi (fun (x : Int32) (_ : Unit) => x = r0.1) (fun _ t => nOut (dC, dI) cy (va_A (vC cy a z σ0) sz) (vC cy a z r0.2) t) (va_A (vC cy a z σ0) sz)) 0 0 (va_A (vC cy a z σ0) sz) := by
  refine Met.ofW (cc := cX0_larger) (maxL := 5) (ret := (some .int)) (by decide) rfl ?_
  intro p e s m args below meth c s₁ B hml hv
  obtain ⟨rfl, hsz, hP, hK, hD0, hG⟩ := hv
  have hx := B.exec
  have hb := B.bytes
  have hr := B.returns
  have hts := atoms_spec (ws := w_y_X0_larger) B.pre
  have hown : s.vm.findClass RX0 = some m.cls := findClass_of_methodNamed B.named
  have hlocks := B.notSynchronized
  subst hsz
  have hD := hD0.self (sz := s.heap.size)
  generalize hAe : va_A (vC cy a z σ0) s.heap.size = A at hD ⊢
  have hA : ∀ q : Nat, s.heap.size ≤ q → A q := fun q h => by rw [← hAe]; exact Or.inr h
  have hS : va_S A s.heap s.heap [] := va_S.rf
  have hl := lv_entry ([.ref (a 14), .int (L0.1 1), .int (L0.1 2), .int (L0.1 3)]) (n := 5) (Nat.le_of_ble_eq_true rfl)
  rw [lg_entry_eq]
  generalize (lg_sl ([.ref (a 14), .int (L0.1 1), .int (L0.1 2), .int (L0.1 3)]) ++ List.replicate (5 - (lg_sl ([.ref (a 14), .int (L0.1 1), .int (L0.1 2), .int (L0.1 3)])).length) Slot.unset).toArray = ls at hl ⊢
  have hl : lv_has ls 5 [(0, .ref (a 14)), (1, .int (L0.1 1)), (2, .int (L0.1 2)), (3, .int (L0.1 3))] := hl
  have blk : ∀ k : Nat, (bC p l e (headSpec w_y_X0_larger ({ frames := 63, cells := 0, slots := 0, locals := 1763 })).room s m #[.ref (a 14), .int (L0.1 1), .int (L0.1 2), .int (L0.1 3)] below meth c dC dI cy a z A (kI dC dI cy a z A below #[.ref (a 14), .int (L0.1 1), .int (L0.1 2), .int (L0.1 3)] s) 5 (y_X0_larger k 0) (fun L => [(0, .ref (a 14)), (1, .int (L.1 1)), (2, .int (L.1 2)), (3, .int (L.1 3))]) 0 (fun L => [])) ∧ (bC p l e (headSpec w_y_X0_larger ({ frames := 63, cells := 0, slots := 0, locals := 1763 })).room s m #[.ref (a 14), .int (L0.1 1), .int (L0.1 2), .int (L0.1 3)] below meth c dC dI cy a z A (kI dC dI cy a z A below #[.ref (a 14), .int (L0.1 1), .int (L0.1 2), .int (L0.1 3)] s) 5 (y_X0_larger k 1) (fun L => [(1, .int (L.1 1)), (2, .int (L.1 2)), (3, .int (L.1 3)), (4, .int (L.1 4))]) 22 (fun L => [])) ∧ (bC p l e (headSpec w_y_X0_larger ({ frames := 63, cells := 0, slots := 0, locals := 1763 })).room s m #[.ref (a 14), .int (L0.1 1), .int (L0.1 2), .int (L0.1 3)] below meth c dC dI cy a z A (kI dC dI cy a z A below #[.ref (a 14), .int (L0.1 1), .int (L0.1 2), .int (L0.1 3)] s) 5 (y_X0_larger k 2) (fun L => [(1, .int (L.1 1)), (2, .int (L.1 2)), (3, .int (L.1 3))]) 33 (fun L => [])) ∧ (bC p l e (headSpec w_y_X0_larger ({ frames := 63, cells := 0, slots := 0, locals := 1763 })).room s m #[.ref (a 14), .int (L0.1 1), .int (L0.1 2), .int (L0.1 3)] below meth c dC dI cy a z A (kI dC dI cy a z A below #[.ref (a 14), .int (L0.1 1), .int (L0.1 2), .int (L0.1 3)] s) 5 (y_X0_larger k 3) (fun L => [(1, .int (L.1 1)), (2, .int (L.1 2)), (3, .int (L.1 3))]) 34 (fun L => [.int (L.1 100)])) ∧ (bC p l e (headSpec w_y_X0_larger ({ frames := 63, cells := 0, slots := 0, locals := 1763 })).room s m #[.ref (a 14), .int (L0.1 1), .int (L0.1 2), .int (L0.1 3)] below meth c dC dI cy a z A (kI dC dI cy a z A below #[.ref (a 14), .int (L0.1 1), .int (L0.1 2), .int (L0.1 3)] s) 5 (y_X0_larger k 4) (fun L => [(2, .int (L.1 2))]) 42 (fun L => [])) ∧ (bC p l e (headSpec w_y_X0_larger ({ frames := 63, cells := 0, slots := 0, locals := 1763 })).room s m #[.ref (a 14), .int (L0.1 1), .int (L0.1 2), .int (L0.1 3)] below meth c dC dI cy a z A (kI dC dI cy a z A below #[.ref (a 14), .int (L0.1 1), .int (L0.1 2), .int (L0.1 3)] s) 5 (y_X0_larger k 5) (fun L => []) 43 (fun L => [.int (L.1 100)])) := by
    intro k
    induction k with
    | zero => exact ⟨fun L σ r h => (by cases h), fun L σ r h => (by cases h), fun L σ r h => (by cases h), fun L σ r h => (by cases h), fun L σ r h => (by cases h), fun L σ r h => (by cases h)⟩
    | succ k ih =>
      refine ⟨?_, ?_, ?_, ?_, ?_, ?_⟩
      · intro L σ r h H locs ls hP hD hS hl
        rw [y_X0_larger] at h
        refine lv_aload_n hx hb dX0_larger_0 rfl (lv_at hl 0 rfl) ?_
        refine lv_sipush (v := 136) hx hb dX0_larger_1 (by decide) ?_
        refine lv_iload_n hx hb dX0_larger_4 rfl (lv_at hl 1 rfl) ?_
        refine lv_iload_n hx hb dX0_larger_5 rfl (lv_at hl 2 rfl) ?_
        obtain ⟨r1, hc1, h⟩ := oc_ex h
        refine kc_i (va_runV (As := [.int 136, .int (L.1 1), .int (L.1 2)]) (rest := []) ⟨hx, hb, hml, hown, hts⟩ (c_y_X0_compared l dC dI cy a z k (lI (lI (lI lZ 1 136) 2 ((L.1 1))) 3 ((L.1 2))) σ r1 hc1 H.size) (cwV 3 hts g_y_X0_larger_X0_compared_V83 rfl rfl rfl hd_y_X0_compared ⟨Nat.le_of_ble_eq_true rfl, Nat.le_of_ble_eq_true rfl⟩) ⟨nb_blind, va_recv hK hP (ci := 0) (q0 := 14) rfl rfl, (kb_pre hK hG hP hD)⟩ rfl rfl hl.1 rfl (lv_room (Nat.le_of_ble_eq_true rfl)) dX0_larger_6 ⟨Nat.le_refl _, Nat.le_refl _⟩) hA hP hD hS (fun H locs hP hD hS => ?_)
        refine lv_istore (lv' := [(4, .int r1.1), (0, .ref (a 14)), (1, .int (L.1 1)), (2, .int (L.1 2)), (3, .int (L.1 3))]) hx hb dX0_larger_9 hl (by decide) rfl (fun ls hl => ?_)
        refine lv_iload hx hb dX0_larger_11 (lv_at hl 0 rfl) ?_
        obtain ⟨r2, hc2, h⟩ := oc_ex h
        refine kc_i (va_runSN (As := [.int r1.1]) (rest := []) ⟨hx, hb, hml, hown, hts⟩ (c_y_X11_isError l dC dI cy a z k (lI lZ 0 r1.1) r1.2 r2 hc2 H.size) ⟨va_cnB 1 hts g_y_X0_larger_X11_isError_SN72 rfl rfl rfl (hG.1 _ (List.mem_of_getElem? (i := 105) rfl)) (hts _ (List.mem_cons_of_mem _ (List.mem_append_left _ (List.mem_append_left _ (List.mem_of_getElem? (i := 4) rfl))))) hd_y_X11_isError ⟨Nat.le_of_ble_eq_true rfl, Nat.le_of_ble_eq_true rfl⟩, (hts _ (List.mem_cons_of_mem _ (List.mem_append_left _ (List.mem_append_left _ (List.mem_of_getElem? (i := 5) rfl))))), trivial⟩ ⟨nb_blind, (kb_pre hK hG hP hD)⟩ rfl rfl hl.1 rfl (lv_room (Nat.le_of_ble_eq_true rfl)) dX0_larger_13 ⟨Nat.le_refl _, Nat.le_refl _⟩) hA hP hD hS (fun H locs hP hD hS => ?_)
        refine lv_if_eq (tgt := 22) hx hb dX0_larger_16 (by decide) (fun c3 => ?_) (fun c3 => ?_)
        · rw [if_pos c3] at h
          exact ih.2.1 (lI L 4 r1.1) r2.2 r h H locs ls hP hD hS (lv_sub hl [2, 3, 4, 0] rfl)
        · rw [if_neg c3] at h
          refine lv_iload hx hb dX0_larger_19 (lv_at hl 0 rfl) ?_
          obtain rfl := Option.some.inj h
          exact W.iret (v := r1.1) hx hb hr (fun t ht hW => ⟨⟨r1.1, (), rfl, rfl, by rw [ht]; exact hP, va_K.moved hW.alike hK, hD⟩, hS.F ht⟩) hS.2.2 dX0_larger_21
      · intro L σ r h H locs ls hP hD hS hl
        rw [y_X0_larger] at h
        refine lv_iload hx hb dX0_larger_22 (lv_at hl 3 rfl) ?_
        refine lv_ldc (v := (-1879048191)) hx hb hown (hts _ (List.mem_cons_of_mem _ (List.mem_append_left _ (List.mem_append_left _ (List.mem_of_getElem? (i := 6) rfl))))) dX0_larger_24 ?_
        refine lv_icmp_ne (tgt := 33) hx hb dX0_larger_26 (by decide) (fun c1 => ?_) (fun c1 => ?_)
        · rw [if_neg c1] at h
          exact ih.2.2.1 L σ r h H locs ls hP hD hS (lv_sub hl [0, 1, 2] rfl)
        · rw [if_pos c1] at h
          refine lv_iconst (v := 1) hx hb dX0_larger_29 (by decide) ?_
          refine lv_goto (tgt := 34) hx hb dX0_larger_30 (by decide) ?_
          exact ih.2.2.2.1 (lI L 100 1) σ r h H locs ls hP hD hS (lv_sub hl [0, 1, 2] rfl)
      · intro L σ r h H locs ls hP hD hS hl
        rw [y_X0_larger] at h
        refine lv_iconst (v := 0) hx hb dX0_larger_33 (by decide) ?_
        exact ih.2.2.2.1 (lI L 100 0) σ r h H locs ls hP hD hS (lv_sub hl [0, 1, 2] rfl)
      · intro L σ r h H locs ls hP hD hS hl
        rw [y_X0_larger] at h
        refine lv_iload_n hx hb dX0_larger_34 rfl (lv_at hl 2 rfl) ?_
        refine lv_icmp_ne (tgt := 42) hx hb dX0_larger_35 (by decide) (fun c1 => ?_) (fun c1 => ?_)
        · rw [if_neg c1] at h
          exact ih.2.2.2.2.1 L σ r h H locs ls hP hD hS (lv_sub hl [1] rfl)
        · rw [if_pos c1] at h
          refine lv_iload_n hx hb dX0_larger_38 rfl (lv_at hl 0 rfl) ?_
          refine lv_goto (tgt := 43) hx hb dX0_larger_39 (by decide) ?_
          exact ih.2.2.2.2.2 (lI L 100 ((L.1 1))) σ r h H locs ls hP hD hS (lv_sub hl [] rfl)
      · intro L σ r h H locs ls hP hD hS hl
        rw [y_X0_larger] at h
        refine lv_iload_n hx hb dX0_larger_42 rfl (lv_at hl 0 rfl) ?_
        exact ih.2.2.2.2.2 (lI L 100 ((L.1 2))) σ r h H locs ls hP hD hS (lv_sub hl [] rfl)
      · intro L σ r h H locs ls hP hD hS hl
        rw [y_X0_larger] at h
        obtain rfl := Option.some.inj h
        exact W.iret (v := (L.1 100)) hx hb hr (fun t ht hW => ⟨⟨(L.1 100), (), rfl, rfl, by rw [ht]; exact hP, va_K.moved hW.alike hK, hD⟩, hS.F ht⟩) hS.2.2 dX0_larger_43
  exact (blk k0).1 L0 σ0 r0 h0 s.heap [] ls hP hD hS hl
/-! X0_smallSteps -/
def y_X0_smallSteps : Nat → Nat → LV → CS → Option (Int32 × CS)
  | 0, _, _, _ => none
  | k + 1, 0, L, σ => y_X0_smallSteps k 1 (lI (lI (lI L 4 0) 5 ((L.1 1))) 6 0) σ
  | k + 1, 1, L, σ => if 1000 < ((L.1 6)) then (y_X0_smallSteps k 2 L σ) else (if ((L.1 2)) = ((L.1 1)) then (y_X0_smallSteps k 2 L σ) else (if ((L.1 2)) ≤ ((L.1 1)) then (y_X0_smallSteps k 3 L σ) else (if ((L.1 3)) < ((L.1 5)) then (y_X0_smallSteps k 2 L σ) else (y_X0_smallSteps k 4 L σ))))
  | k + 1, 2, L, σ => some ((L.1 4), σ)
  | k + 1, 3, L, σ => if ((L.1 5)) < ((L.1 3)) then (y_X0_smallSteps k 2 L σ) else (y_X0_smallSteps k 4 L σ)
  | k + 1, 4, L, σ => oc (y_X10_small k 0 (lI lZ 0 ((L.1 5))) σ) (fun r1 => if ¬ (((L.1 4)) < 0 ∨ 2048 ≤ ((L.1 4)).toNatClampNeg) then (y_X0_smallSteps k 1 (lI (lI (lI L 4 ((((L.1 4)) + 1))) 5 ((((((L.1 5)) + ((L.1 2)))) - ((L.1 1))))) 6 ((((L.1 6)) + 1))) (uA r1.2 16 ((L.1 4)).toNatClampNeg r1.1)) else none)
  | _ + 1, _ + 5, _, _ => none
def o_y_X0_smallSteps : List Cond := [.fieldLink RX0 15 "SetHouse$Algebra" "row" "[I", .methodLink RX0 188 yX10_small, .static yX10_small, .initialized RX10]
theorem o_y_X0_smallSteps_good : o_y_X0_smallSteps.all goodWord = true := by decide +kernel
def p_y_X0_smallSteps : List Cond := o_y_X0_smallSteps ++ ((.code yX10_small cX10_small 1 (some .int) :: p_y_X10_small) ++ [])
theorem p_y_X0_smallSteps_good : p_y_X0_smallSteps.all goodWord = true := nb_all2 o_y_X0_smallSteps_good (nb_all2 (nb_allc (by decide +kernel) p_y_X10_small_good) rfl)
def w_y_X0_smallSteps : List Cond := .code yX0_smallSteps cX0_smallSteps 7 (some .int) :: (p_y_X0_smallSteps ++ fC)
theorem w_y_X0_smallSteps_good : w_y_X0_smallSteps.all goodWord = true := nb_allc (by decide +kernel) (nb_all2 p_y_X0_smallSteps_good fC_good)
theorem in_y_X0_smallSteps_X0 : ∀ w ∈ wsX00, w ∈ w_y_X0_smallSteps := fun _ h => List.mem_cons_of_mem _ (List.mem_append_right _ (List.mem_append_left _ h))
theorem hd_y_X0_smallSteps : yX0_smallSteps.cls = RX0 ∧ yX0_smallSteps.cls ≠ "java/lang/invoke/MethodHandle" ∧ yX0_smallSteps.cls ≠ "java/lang/invoke/VarHandle" ∧ (parseMethodDescriptor yX0_smallSteps.desc).map (fun d => d.parameters.length) = some 3 := by decide +kernel
theorem gg_y_X0_smallSteps_X10_small : GoodIn w_y_X0_smallSteps w_y_X10_small := goodIn_sub (fun w h => (List.mem_cons.mp h).elim (fun e => (List.mem_cons_of_mem _ (List.mem_append_left _ (List.mem_append_right _ (List.mem_append_left _ (List.mem_cons.mpr (Or.inl e))))))) (fun h => (List.mem_append.mp h).elim (fun h => (List.mem_cons_of_mem _ (List.mem_append_left _ (List.mem_append_right _ (List.mem_append_left _ (List.mem_cons_of_mem _ h)))))) (fun h => List.mem_cons_of_mem _ (List.mem_append_right _ h)))) w_y_X10_small_good
theorem g_y_X0_smallSteps_X10_small_S188 : GoodIn w_y_X0_smallSteps (va_wsS RX0 188 yX10_small w_y_X10_small) := goodIn_app (nb_g3 (List.mem_cons_of_mem _ (List.mem_append_left _ (List.mem_append_left _ (List.mem_of_getElem? (i := 1) rfl)))) (List.mem_cons_of_mem _ (List.mem_append_left _ (List.mem_append_left _ (List.mem_of_getElem? (i := 2) rfl)))) (List.mem_cons_of_mem _ (List.mem_append_left _ (List.mem_append_left _ (List.mem_of_getElem? (i := 3) rfl)))) (by decide +kernel)) gg_y_X0_smallSteps_X10_small
set_option maxHeartbeats 40000000 in
set_option maxRecDepth 100000 in
theorem c_y_X0_smallSteps (l : Launch) (dC : Nat → ClassId) (dI : Nat → Nat → Nat) (cy : Nat → ClassId) (a z : Nat → Nat) (k0 : Nat) (L0 : LV) (σ0 : CS) (r0 : Int32 × CS) (h0 : y_X0_smallSteps k0 0 L0 σ0 = some r0) (sz : Nat) : Met l yX0_smallSteps w_y_X0_smallSteps ({ frames := 1, cells := 0, slots := 0, locals := 20 }) (va_Pc [.ref (a 14), .int (L0.1 1), .int (L0.1 2), .int (L0.1 3)] (nIn (dC, dI) cy sz (vC cy a z σ0))) (va_Qi (fun (x : Int32) (_ : Unit) => x = r0.1) (fun _ t => nOut (dC, dI) cy (va_A (vC cy a z σ0) sz) (vC cy a z r0.2) t) (va_A (vC cy a z σ0) sz)) 0 0 (va_A (vC cy a z σ0) sz) := by
  refine Met.ofW (cc := cX0_smallSteps) (maxL := 7) (ret := (some .int)) (by decide) rfl ?_
  intro p e s m args below meth c s₁ B hml hv
  obtain ⟨rfl, hsz, hP, hK, hD0, hG⟩ := hv
  have hx := B.exec
  have hb := B.bytes
  have hr := B.returns
  have hts := atoms_spec (ws := w_y_X0_smallSteps) B.pre
  have hown : s.vm.findClass RX0 = some m.cls := findClass_of_methodNamed B.named
  have hlocks := B.notSynchronized
  subst hsz
  have hD := hD0.self (sz := s.heap.size)
  generalize hAe : va_A (vC cy a z σ0) s.heap.size = A at hD ⊢
  have hA : ∀ q : Nat, s.heap.size ≤ q → A q := fun q h => by rw [← hAe]; exact Or.inr h
  have hS : va_S A s.heap s.heap [] := va_S.rf
  have hl := lv_entry ([.ref (a 14), .int (L0.1 1), .int (L0.1 2), .int (L0.1 3)]) (n := 7) (Nat.le_of_ble_eq_true rfl)
  rw [lg_entry_eq]
  generalize (lg_sl ([.ref (a 14), .int (L0.1 1), .int (L0.1 2), .int (L0.1 3)]) ++ List.replicate (7 - (lg_sl ([.ref (a 14), .int (L0.1 1), .int (L0.1 2), .int (L0.1 3)])).length) Slot.unset).toArray = ls at hl ⊢
  have hl : lv_has ls 7 [(0, .ref (a 14)), (1, .int (L0.1 1)), (2, .int (L0.1 2)), (3, .int (L0.1 3))] := hl
  have blk : ∀ k : Nat, (bC p l e (headSpec w_y_X0_smallSteps ({ frames := 1, cells := 0, slots := 0, locals := 20 })).room s m #[.ref (a 14), .int (L0.1 1), .int (L0.1 2), .int (L0.1 3)] below meth c dC dI cy a z A (kI dC dI cy a z A below #[.ref (a 14), .int (L0.1 1), .int (L0.1 2), .int (L0.1 3)] s) 7 (y_X0_smallSteps k 0) (fun L => [(0, .ref (a 14)), (1, .int (L.1 1)), (2, .int (L.1 2)), (3, .int (L.1 3))]) 0 (fun L => [])) ∧ (bC p l e (headSpec w_y_X0_smallSteps ({ frames := 1, cells := 0, slots := 0, locals := 20 })).room s m #[.ref (a 14), .int (L0.1 1), .int (L0.1 2), .int (L0.1 3)] below meth c dC dI cy a z A (kI dC dI cy a z A below #[.ref (a 14), .int (L0.1 1), .int (L0.1 2), .int (L0.1 3)] s) 7 (y_X0_smallSteps k 1) (fun L => [(0, .ref (a 14)), (1, .int (L.1 1)), (2, .int (L.1 2)), (3, .int (L.1 3)), (4, .int (L.1 4)), (5, .int (L.1 5)), (6, .int (L.1 6))]) 9 (fun L => [])) ∧ (bC p l e (headSpec w_y_X0_smallSteps ({ frames := 1, cells := 0, slots := 0, locals := 20 })).room s m #[.ref (a 14), .int (L0.1 1), .int (L0.1 2), .int (L0.1 3)] below meth c dC dI cy a z A (kI dC dI cy a z A below #[.ref (a 14), .int (L0.1 1), .int (L0.1 2), .int (L0.1 3)] s) 7 (y_X0_smallSteps k 2) (fun L => [(4, .int (L.1 4))]) 71 (fun L => [])) ∧ (bC p l e (headSpec w_y_X0_smallSteps ({ frames := 1, cells := 0, slots := 0, locals := 20 })).room s m #[.ref (a 14), .int (L0.1 1), .int (L0.1 2), .int (L0.1 3)] below meth c dC dI cy a z A (kI dC dI cy a z A below #[.ref (a 14), .int (L0.1 1), .int (L0.1 2), .int (L0.1 3)] s) 7 (y_X0_smallSteps k 3) (fun L => [(0, .ref (a 14)), (1, .int (L.1 1)), (2, .int (L.1 2)), (3, .int (L.1 3)), (4, .int (L.1 4)), (5, .int (L.1 5)), (6, .int (L.1 6))]) 36 (fun L => [])) ∧ (bC p l e (headSpec w_y_X0_smallSteps ({ frames := 1, cells := 0, slots := 0, locals := 20 })).room s m #[.ref (a 14), .int (L0.1 1), .int (L0.1 2), .int (L0.1 3)] below meth c dC dI cy a z A (kI dC dI cy a z A below #[.ref (a 14), .int (L0.1 1), .int (L0.1 2), .int (L0.1 3)] s) 7 (y_X0_smallSteps k 4) (fun L => [(0, .ref (a 14)), (1, .int (L.1 1)), (2, .int (L.1 2)), (3, .int (L.1 3)), (4, .int (L.1 4)), (5, .int (L.1 5)), (6, .int (L.1 6))]) 42 (fun L => [])) := by
    intro k
    induction k with
    | zero => exact ⟨fun L σ r h => (by cases h), fun L σ r h => (by cases h), fun L σ r h => (by cases h), fun L σ r h => (by cases h), fun L σ r h => (by cases h)⟩
    | succ k ih =>
      refine ⟨?_, ?_, ?_, ?_, ?_⟩
      · intro L σ r h H locs ls hP hD hS hl
        rw [y_X0_smallSteps] at h
        refine lv_iconst (v := 0) hx hb dX0_smallSteps_0 (by decide) ?_
        refine lv_istore (lv' := [(4, .int 0), (0, .ref (a 14)), (1, .int (L.1 1)), (2, .int (L.1 2)), (3, .int (L.1 3))]) hx hb dX0_smallSteps_1 hl (by decide) rfl (fun ls hl => ?_)
        refine lv_iload_n hx hb dX0_smallSteps_3 rfl (lv_at hl 2 rfl) ?_
        refine lv_istore (lv' := [(5, .int (L.1 1)), (4, .int 0), (0, .ref (a 14)), (1, .int (L.1 1)), (2, .int (L.1 2)), (3, .int (L.1 3))]) hx hb dX0_smallSteps_4 hl (by decide) rfl (fun ls hl => ?_)
        refine lv_iconst (v := 0) hx hb dX0_smallSteps_6 (by decide) ?_
        refine lv_istore (lv' := [(6, .int 0), (5, .int (L.1 1)), (4, .int 0), (0, .ref (a 14)), (1, .int (L.1 1)), (2, .int (L.1 2)), (3, .int (L.1 3))]) hx hb dX0_smallSteps_7 hl (by decide) rfl (fun ls hl => ?_)
        exact ih.2.1 (lI (lI (lI L 4 0) 5 ((L.1 1))) 6 0) σ r h H locs ls hP hD hS (lv_sub hl [3, 4, 5, 6, 2, 1, 0] rfl)
      · intro L σ r h H locs ls hP hD hS hl
        rw [y_X0_smallSteps] at h
        refine lv_iload hx hb dX0_smallSteps_9 (lv_at hl 6 rfl) ?_
        refine lv_sipush (v := 1000) hx hb dX0_smallSteps_11 (by decide) ?_
        refine lv_icmp_gt (tgt := 71) hx hb dX0_smallSteps_14 (by decide) (fun c1 => ?_) (fun c1 => ?_)
        · rw [if_pos c1] at h
          exact ih.2.2.1 L σ r h H locs ls hP hD hS (lv_sub hl [4] rfl)
        · rw [if_neg c1] at h
          refine lv_iload_n hx hb dX0_smallSteps_17 rfl (lv_at hl 2 rfl) ?_
          refine lv_iload_n hx hb dX0_smallSteps_18 rfl (lv_at hl 1 rfl) ?_
          refine lv_icmp_eq (tgt := 71) hx hb dX0_smallSteps_19 (by decide) (fun c2 => ?_) (fun c2 => ?_)
          · rw [if_pos c2] at h
            exact ih.2.2.1 L σ r h H locs ls hP hD hS (lv_sub hl [4] rfl)
          · rw [if_neg c2] at h
            refine lv_iload_n hx hb dX0_smallSteps_22 rfl (lv_at hl 2 rfl) ?_
            refine lv_iload_n hx hb dX0_smallSteps_23 rfl (lv_at hl 1 rfl) ?_
            refine lv_icmp_le (tgt := 36) hx hb dX0_smallSteps_24 (by decide) (fun c3 => ?_) (fun c3 => ?_)
            · rw [if_pos c3] at h
              exact ih.2.2.2.1 L σ r h H locs ls hP hD hS (lv_sub hl [0, 1, 2, 3, 4, 5, 6] rfl)
            · rw [if_neg c3] at h
              refine lv_iload hx hb dX0_smallSteps_27 (lv_at hl 5 rfl) ?_
              refine lv_iload_n hx hb dX0_smallSteps_29 rfl (lv_at hl 3 rfl) ?_
              refine lv_icmp_gt (tgt := 71) hx hb dX0_smallSteps_30 (by decide) (fun c4 => ?_) (fun c4 => ?_)
              · rw [if_pos c4] at h
                exact ih.2.2.1 L σ r h H locs ls hP hD hS (lv_sub hl [4] rfl)
              · rw [if_neg c4] at h
                refine lv_goto (tgt := 42) hx hb dX0_smallSteps_33 (by decide) ?_
                exact ih.2.2.2.2 L σ r h H locs ls hP hD hS (lv_sub hl [0, 1, 2, 3, 4, 5, 6] rfl)
      · intro L σ r h H locs ls hP hD hS hl
        rw [y_X0_smallSteps] at h
        refine lv_iload hx hb dX0_smallSteps_71 (lv_at hl 0 rfl) ?_
        obtain rfl := Option.some.inj h
        exact W.iret (v := (L.1 4)) hx hb hr (fun t ht hW => ⟨⟨(L.1 4), (), rfl, rfl, by rw [ht]; exact hP, va_K.moved hW.alike hK, hD⟩, hS.F ht⟩) hS.2.2 dX0_smallSteps_73
      · intro L σ r h H locs ls hP hD hS hl
        rw [y_X0_smallSteps] at h
        refine lv_iload hx hb dX0_smallSteps_36 (lv_at hl 5 rfl) ?_
        refine lv_iload_n hx hb dX0_smallSteps_38 rfl (lv_at hl 3 rfl) ?_
        refine lv_icmp_lt (tgt := 71) hx hb dX0_smallSteps_39 (by decide) (fun c1 => ?_) (fun c1 => ?_)
        · rw [if_pos c1] at h
          exact ih.2.2.1 L σ r h H locs ls hP hD hS (lv_sub hl [4] rfl)
        · rw [if_neg c1] at h
          exact ih.2.2.2.2 L σ r h H locs ls hP hD hS (lv_sub hl [0, 1, 2, 3, 4, 5, 6] rfl)
      · intro L σ r h H locs ls hP hD hS hl
        rw [y_X0_smallSteps] at h
        refine lv_aload_n hx hb dX0_smallSteps_42 rfl (lv_at hl 0 rfl) ?_
        refine hg_14_4 hx hb hts in_y_X0_smallSteps_X0 hown hK hP (hts _ (List.mem_cons_of_mem _ (List.mem_append_left _ (List.mem_append_left _ (List.mem_of_getElem? (i := 0) rfl))))) dX0_smallSteps_43 ?_
        refine lv_iload hx hb dX0_smallSteps_46 (lv_at hl 4 rfl) ?_
        refine lv_iload hx hb dX0_smallSteps_48 (lv_at hl 5 rfl) ?_
        obtain ⟨r1, hc1, h⟩ := oc_ex h
        refine kc_i (va_runS (As := [.int (L.1 5)]) (rest := [.int (L.1 4), .ref (a 16)]) ⟨hx, hb, hml, hown, hts⟩ (c_y_X10_small l dC dI cy a z k (lI lZ 0 ((L.1 5))) σ r1 hc1 H.size) (va_cwS 1 hts g_y_X0_smallSteps_X10_small_S188 rfl rfl rfl hd_y_X10_small ⟨Nat.le_of_ble_eq_true rfl, Nat.le_of_ble_eq_true rfl⟩) ⟨nb_blind, (kb_pre hK hG hP hD)⟩ rfl rfl hl.1 rfl (lv_room (Nat.le_of_ble_eq_true rfl)) dX0_smallSteps_50 ⟨Nat.le_refl _, Nat.le_refl _⟩) hA hP hD hS (fun H locs hP hD hS => ?_)
        obtain ⟨q2, h⟩ := kb_ite1 h
        refine hs_16 hx hb hK hP hD hS q2 dX0_smallSteps_53 (fun H locs hP hD hS => ?_)
        refine lv_iinc (v := ((L.1 4)) + 1) (lv' := [(4, .int (((L.1 4)) + 1)), (0, .ref (a 14)), (1, .int (L.1 1)), (2, .int (L.1 2)), (3, .int (L.1 3)), (5, .int (L.1 5)), (6, .int (L.1 6))]) hx hb dX0_smallSteps_54 hl (k := 4) rfl rfl (by decide) rfl (fun ls hl => ?_)
        refine lv_iload hx hb dX0_smallSteps_57 (lv_at hl 5 rfl) ?_
        refine lv_iload_n hx hb dX0_smallSteps_59 rfl (lv_at hl 3 rfl) ?_
        refine lv_iadd hx hb dX0_smallSteps_60 ?_
        refine lv_iload_n hx hb dX0_smallSteps_61 rfl (lv_at hl 2 rfl) ?_
        refine lv_isub hx hb dX0_smallSteps_62 ?_
        refine lv_istore (lv' := [(5, .int (((((L.1 5)) + ((L.1 2)))) - ((L.1 1)))), (4, .int (((L.1 4)) + 1)), (0, .ref (a 14)), (1, .int (L.1 1)), (2, .int (L.1 2)), (3, .int (L.1 3)), (6, .int (L.1 6))]) hx hb dX0_smallSteps_63 hl (by decide) rfl (fun ls hl => ?_)
        refine lv_iinc (v := ((L.1 6)) + 1) (lv' := [(6, .int (((L.1 6)) + 1)), (5, .int (((((L.1 5)) + ((L.1 2)))) - ((L.1 1)))), (4, .int (((L.1 4)) + 1)), (0, .ref (a 14)), (1, .int (L.1 1)), (2, .int (L.1 2)), (3, .int (L.1 3))]) hx hb dX0_smallSteps_65 hl (k := 6) rfl rfl (by decide) rfl (fun ls hl => ?_)
        refine lv_goto (tgt := 9) hx hb dX0_smallSteps_68 (by decide) ?_
        exact ih.2.1 (lI (lI (lI L 4 ((((L.1 4)) + 1))) 5 ((((((L.1 5)) + ((L.1 2)))) - ((L.1 1))))) 6 ((((L.1 6)) + 1))) (uA r1.2 16 ((L.1 4)).toNatClampNeg r1.1) r h H locs ls hP hD hS (lv_sub hl [3, 4, 5, 6, 2, 1, 0] rfl)
  exact (blk k0).1 L0 σ0 r0 h0 s.heap [] ls hP hD hS hl
/-! X0_progression -/
def y_X0_progression : Nat → Nat → LV → CS → Option (Int32 × CS)
  | 0, _, _, _ => none
  | k + 1, 0, L, σ => oc (y_X0_areWholes k 0 (lI (lI lZ 1 ((L.1 1))) 2 ((L.1 3))) σ) (fun r1 => if r1.1 = 0 then (y_X0_progression k 1 L r1.2) else (if ((L.1 2)) = ((-2147483648)) then (y_X0_progression k 2 L r1.2) else (oc (y_X1_kind k 0 (lI lZ 1 ((L.1 2))) r1.2) (fun r4 => if r4.1 = 2 then (y_X0_progression k 2 L r4.2) else (y_X0_progression k 1 L r4.2)))))
  | k + 1, 1, L, σ => some ((-268435455), σ)
  | k + 1, 2, L, σ => if ((L.1 2)) = ((-2147483648)) then (oc (y_X10_added k 0 (lI (lI (lI lZ 1 ((L.1 1))) 2 ((-1610612735))) 3 0) σ) (fun r2 => y_X0_progression k 4 (lI L 100 r2.1) r2.2)) else (y_X0_progression k 3 L σ)
  | k + 1, 3, L, σ => y_X0_progression k 4 (lI L 100 ((L.1 2))) σ
  | k + 1, 4, L, σ => oc (y_X11_isError k 0 (lI lZ 0 ((L.1 100))) σ) (fun r1 => if r1.1 = 0 then (y_X0_progression k 5 (lI L 5 ((L.1 100))) r1.2) else (y_X0_progression k 6 (lI (lI L 5 ((L.1 100))) 100 1) r1.2))
  | k + 1, 5, L, σ => oc (y_X1_compare k 0 (lI (lI lZ 1 ((L.1 5))) 2 ((L.1 1))) σ) (fun r1 => y_X0_progression k 6 (lI L 100 r1.1) r1.2)
  | k + 1, 6, L, σ => oc (y_X11_isError k 0 (lI lZ 0 ((L.1 5))) σ) (fun r1 => if r1.1 = 0 then (y_X0_progression k 7 (lI L 6 ((L.1 100))) r1.2) else (y_X0_progression k 8 (lI (lI L 6 ((L.1 100))) 100 ((L.1 5))) r1.2))
  | k + 1, 7, L, σ => oc (y_X10_added k 0 (lI (lI (lI lZ 1 ((L.1 5))) 2 ((L.1 1))) 3 1) σ) (fun r1 => y_X0_progression k 8 (lI L 100 r1.1) r1.2)
  | k + 1, 8, L, σ => if 0 ≤ ((L.1 1)) then (y_X0_progression k 9 (lI (lI (lI L 7 ((L.1 100))) 8 0) 9 1) σ) else (if 0 ≤ ((L.1 3)) then (y_X0_progression k 9 (lI (lI (lI L 7 ((L.1 100))) 8 0) 9 1) σ) else (if 0 ≤ ((L.1 5)) then (y_X0_progression k 9 (lI (lI (lI L 7 ((L.1 100))) 8 0) 9 1) σ) else (oc (y_X11_isError k 0 (lI lZ 0 ((L.1 5))) σ) (fun r4 => if r4.1 = 0 then (oc (y_X10_number k 0 (lI lZ 0 ((L.1 1))) r4.2) (fun r6 => oc (y_X10_number k 0 (lI lZ 0 ((L.1 5))) r6.2) (fun r7 => y_X0_progression k 10 (lI (lI (lI L 9 1) 100 r7.1) 101 r6.1) r7.2))) else (y_X0_progression k 9 (lI (lI (lI L 7 ((L.1 100))) 8 0) 9 1) r4.2)))))
  | k + 1, 9, L, σ => y_X0_progression k 11 (lI (lI L 10 ((L.1 1))) 11 0) σ
  | k + 1, 10, L, σ => oc (y_X10_number k 0 (lI lZ 0 ((L.1 3))) σ) (fun r1 => oc (y_X0_smallSteps k 0 (lI (lI (lI lZ 1 ((L.1 101))) 2 ((L.1 100))) 3 r1.1) r1.2) (fun r2 => y_X0_progression k 12 (lI L 8 r2.1) r2.2))
  | k + 1, 11, L, σ => if 1000 < ((L.1 11)) then (y_X0_progression k 12 L σ) else (if 1000 < ((L.1 9)) then (y_X0_progression k 12 L σ) else (if ((L.1 6)) = 0 then (y_X0_progression k 12 L σ) else (oc (y_X11_isError k 0 (lI lZ 0 ((L.1 10))) σ) (fun r4 => if r4.1 = 0 then (oc (y_X1_compare k 0 (lI (lI lZ 1 ((L.1 10))) 2 ((L.1 3))) r4.2) (fun r6 => if 0 < ((r6.1 * ((L.1 6)))) then (y_X0_progression k 12 L r6.2) else (oc (y_X1_size k 0 (lI lZ 1 ((L.1 10))) r6.2) (fun r8 => if ¬ (((L.1 8)) < 0 ∨ 2048 ≤ ((L.1 8)).toNatClampNeg) then (if ((L.1 11)) = 0 then (y_X0_progression k 14 (lI (lI (lI L 8 ((((L.1 8)) + 1))) 9 ((((L.1 9)) + r8.1))) 100 ((L.1 5))) (uA r8.2 16 ((L.1 8)).toNatClampNeg ((L.1 10)))) else (y_X0_progression k 13 (lI (lI L 8 ((((L.1 8)) + 1))) 9 ((((L.1 9)) + r8.1))) (uA r8.2 16 ((L.1 8)).toNatClampNeg ((L.1 10))))) else none)))) else (y_X0_progression k 12 L r4.2)))))
  | k + 1, 12, L, σ => if ((L.1 9)) ≤ 1000 then (y_X0_progression k 15 L σ) else (some ((-268435451), σ))
  | k + 1, 13, L, σ => oc (y_X11_isError k 0 (lI lZ 0 ((L.1 7))) σ) (fun r1 => if r1.1 = 0 then (y_X0_progression k 16 L r1.2) else (y_X0_progression k 14 (lI L 100 ((L.1 7))) r1.2))
  | k + 1, 14, L, σ => y_X0_progression k 11 (lI (lI L 10 ((L.1 100))) 11 ((((L.1 11)) + 1))) σ
  | k + 1, 15, L, σ => if ((L.1 4)) = 0 then (oc (y_X1_makeTuple__a16 k 0 (lI (lI lZ 2 0) 3 ((L.1 8))) σ) (fun r2 => some (r2.1, r2.2))) else (y_X0_progression k 17 L σ)
  | k + 1, 16, L, σ => oc (y_X10_added k 0 (lI (lI (lI lZ 1 ((L.1 10))) 2 ((L.1 7))) 3 0) σ) (fun r1 => y_X0_progression k 14 (lI L 100 r1.1) r1.2)
  | k + 1, 17, L, σ => y_X0_progression k 18 (lI L 10 0) σ
  | k + 1, 18, L, σ => if 0 ≤ ((L.1 6)) then (y_X0_progression k 19 L σ) else (if (2 : Int32) = 0 then none else (if ((((L.1 8)) / 2)) ≤ ((L.1 10)) then (y_X0_progression k 19 L σ) else (if ¬ (((L.1 10)) < 0 ∨ 2048 ≤ ((L.1 10)).toNatClampNeg) then (if ¬ (((((((L.1 8)) - 1)) - ((L.1 10)))) < 0 ∨ 2048 ≤ ((((((L.1 8)) - 1)) - ((L.1 10)))).toNatClampNeg) then (if ¬ (((L.1 10)) < 0 ∨ 2048 ≤ ((L.1 10)).toNatClampNeg) then (if ¬ (((((((L.1 8)) - 1)) - ((L.1 10)))) < 0 ∨ 2048 ≤ ((((((L.1 8)) - 1)) - ((L.1 10)))).toNatClampNeg) then (y_X0_progression k 18 (lI L 10 ((((L.1 10)) + 1))) (uA (uA σ 16 ((L.1 10)).toNatClampNeg ((σ.2.2.1 16 ((((((L.1 8)) - 1)) - ((L.1 10)))).toNatClampNeg))) 16 ((((((L.1 8)) - 1)) - ((L.1 10)))).toNatClampNeg ((σ.2.2.1 16 ((L.1 10)).toNatClampNeg)))) else none) else none) else none) else none)))
  | k + 1, 19, L, σ => oc (y_X1_makeRow__a16 k 0 (lI (lI (lI lZ 1 6) 3 0) 4 ((L.1 8))) σ) (fun r1 => some (r1.1, r1.2))
  | _ + 1, _ + 20, _, _ => none
def o_y_X0_progression : List Cond := [.methodLink RX0 44 yX0_areWholes, .instanceMethod yX0_areWholes, .selects RX0 yX0_areWholes yX0_areWholes, .initialized RX0, .constant RX0 167 (-2147483648), .fieldLink RX0 22 "SetHouse$Algebra" "heap" "LSetHouse$Heap;", .methodLink RX0 87 yX1_kind, .instanceMethod yX1_kind, .selects RX1 yX1_kind yX1_kind, .initialized RX1, .constant RX0 56 (-268435455), .fieldLink RX0 26 "SetHouse$Algebra" "wholes" "LSetHouse$Wholes;", .constant RX0 248 (-1610612735), .methodLink RX0 94 yX10_added, .instanceMethod yX10_added, .selects RX10 yX10_added yX10_added, .initialized RX10, .initialized RX11, .static yX11_isError, .methodLink RX0 91 yX1_compare, .instanceMethod yX1_compare, .selects RX1 yX1_compare yX1_compare, .methodLink RX0 249 yX10_number, .static yX10_number, .methodLink RX0 252 yX0_smallSteps, .instanceMethod yX0_smallSteps, .selects RX0 yX0_smallSteps yX0_smallSteps, .methodLink RX0 179 yX1_size, .instanceMethod yX1_size, .selects RX1 yX1_size yX1_size, .fieldLink RX0 15 "SetHouse$Algebra" "row" "[I", .constant RX0 139 (-268435451), .methodLink RX0 107 yX1_makeTuple, .instanceMethod yX1_makeTuple, .selects RX1 yX1_makeTuple yX1_makeTuple, .methodLink RX0 160 yX1_makeRow, .instanceMethod yX1_makeRow, .selects RX1 yX1_makeRow yX1_makeRow]
theorem o_y_X0_progression_good : o_y_X0_progression.all goodWord = true := by decide +kernel
def p_y_X0_progression : List Cond := o_y_X0_progression ++ ((.code yX0_areWholes cX0_areWholes 3 (some .boolean) :: p_y_X0_areWholes) ++ ((.code yX1_kind cX1_kind 2 (some .int) :: p_y_X1_kind) ++ ((.code yX10_added cX10_added 9 (some .int) :: p_y_X10_added) ++ ((.code yX11_isError cX11_isError 1 (some .boolean) :: p_y_X11_isError) ++ ((.code yX1_compare cX1_compare 9 (some .int) :: p_y_H1) ++ ((.code yX10_number cX10_number 1 (some .int) :: p_y_X10_number) ++ ((.code yX0_smallSteps cX0_smallSteps 7 (some .int) :: p_y_X0_smallSteps) ++ ((.code yX1_size cX1_size 3 (some .int) :: p_y_X1_size) ++ ((.code yX1_makeTuple cX1_makeTuple 6 (some .int) :: p_y_X1_makeTuple__a16) ++ ((.code yX1_makeRow cX1_makeRow 11 (some .int) :: p_y_X1_makeRow__a16) ++ []))))))))))
theorem p_y_X0_progression_good : p_y_X0_progression.all goodWord = true := nb_all2 o_y_X0_progression_good (nb_all2 (nb_allc (by decide +kernel) p_y_X0_areWholes_good) (nb_all2 (nb_allc (by decide +kernel) p_y_X1_kind_good) (nb_all2 (nb_allc (by decide +kernel) p_y_X10_added_good) (nb_all2 (nb_allc (by decide +kernel) p_y_X11_isError_good) (nb_all2 (nb_allc (by decide +kernel) p_y_H1_good) (nb_all2 (nb_allc (by decide +kernel) p_y_X10_number_good) (nb_all2 (nb_allc (by decide +kernel) p_y_X0_smallSteps_good) (nb_all2 (nb_allc (by decide +kernel) p_y_X1_size_good) (nb_all2 (nb_allc (by decide +kernel) p_y_X1_makeTuple__a16_good) (nb_all2 (nb_allc (by decide +kernel) p_y_X1_makeRow__a16_good) rfl))))))))))
def w_y_X0_progression : List Cond := .code yX0_progression cX0_progression 12 (some .int) :: (p_y_X0_progression ++ fC)
theorem w_y_X0_progression_good : w_y_X0_progression.all goodWord = true := nb_allc (by decide +kernel) (nb_all2 p_y_X0_progression_good fC_good)
theorem in_y_X0_progression_X0 : ∀ w ∈ wsX00, w ∈ w_y_X0_progression := fun _ h => List.mem_cons_of_mem _ (List.mem_append_right _ (List.mem_append_left _ h))
theorem hd_y_X0_progression : yX0_progression.cls = RX0 ∧ yX0_progression.cls ≠ "java/lang/invoke/MethodHandle" ∧ yX0_progression.cls ≠ "java/lang/invoke/VarHandle" ∧ (parseMethodDescriptor yX0_progression.desc).map (fun d => d.parameters.length) = some 4 := by decide +kernel
theorem gg_y_X0_progression_X0_areWholes : GoodIn w_y_X0_progression w_y_X0_areWholes := goodIn_sub (fun w h => (List.mem_cons.mp h).elim (fun e => (List.mem_cons_of_mem _ (List.mem_append_left _ (List.mem_append_right _ (List.mem_append_left _ (List.mem_cons.mpr (Or.inl e))))))) (fun h => (List.mem_append.mp h).elim (fun h => (List.mem_cons_of_mem _ (List.mem_append_left _ (List.mem_append_right _ (List.mem_append_left _ (List.mem_cons_of_mem _ h)))))) (fun h => List.mem_cons_of_mem _ (List.mem_append_right _ h)))) w_y_X0_areWholes_good
theorem g_y_X0_progression_X0_areWholes_V44 : GoodIn w_y_X0_progression (wsV RX0 44 RX0 yX0_areWholes w_y_X0_areWholes) := goodIn_app (nb_g4 (List.mem_cons_of_mem _ (List.mem_append_left _ (List.mem_append_left _ (List.mem_of_getElem? (i := 0) rfl)))) (List.mem_cons_of_mem _ (List.mem_append_left _ (List.mem_append_left _ (List.mem_of_getElem? (i := 1) rfl)))) (List.mem_cons_of_mem _ (List.mem_append_left _ (List.mem_append_left _ (List.mem_of_getElem? (i := 2) rfl)))) (List.mem_cons_of_mem _ (List.mem_append_left _ (List.mem_append_left _ (List.mem_of_getElem? (i := 3) rfl)))) (by decide +kernel)) gg_y_X0_progression_X0_areWholes
theorem gg_y_X0_progression_X0_smallSteps : GoodIn w_y_X0_progression w_y_X0_smallSteps := goodIn_sub (fun w h => (List.mem_cons.mp h).elim (fun e => (List.mem_cons_of_mem _ (List.mem_append_left _ (List.mem_append_right _ (List.mem_append_right _ (List.mem_append_right _ (List.mem_append_right _ (List.mem_append_right _ (List.mem_append_right _ (List.mem_append_right _ (List.mem_append_left _ (List.mem_cons.mpr (Or.inl e))))))))))))) (fun h => (List.mem_append.mp h).elim (fun h => (List.mem_cons_of_mem _ (List.mem_append_left _ (List.mem_append_right _ (List.mem_append_right _ (List.mem_append_right _ (List.mem_append_right _ (List.mem_append_right _ (List.mem_append_right _ (List.mem_append_right _ (List.mem_append_left _ (List.mem_cons_of_mem _ h)))))))))))) (fun h => List.mem_cons_of_mem _ (List.mem_append_right _ h)))) w_y_X0_smallSteps_good
theorem g_y_X0_progression_X0_smallSteps_V252 : GoodIn w_y_X0_progression (wsV RX0 252 RX0 yX0_smallSteps w_y_X0_smallSteps) := goodIn_app (nb_g4 (List.mem_cons_of_mem _ (List.mem_append_left _ (List.mem_append_left _ (List.mem_of_getElem? (i := 24) rfl)))) (List.mem_cons_of_mem _ (List.mem_append_left _ (List.mem_append_left _ (List.mem_of_getElem? (i := 25) rfl)))) (List.mem_cons_of_mem _ (List.mem_append_left _ (List.mem_append_left _ (List.mem_of_getElem? (i := 26) rfl)))) (List.mem_cons_of_mem _ (List.mem_append_left _ (List.mem_append_left _ (List.mem_of_getElem? (i := 3) rfl)))) (by decide +kernel)) gg_y_X0_progression_X0_smallSteps
theorem gg_y_X0_progression_X10_added : GoodIn w_y_X0_progression w_y_X10_added := goodIn_sub (fun w h => (List.mem_cons.mp h).elim (fun e => (List.mem_cons_of_mem _ (List.mem_append_left _ (List.mem_append_right _ (List.mem_append_right _ (List.mem_append_right _ (List.mem_append_left _ (List.mem_cons.mpr (Or.inl e))))))))) (fun h => (List.mem_append.mp h).elim (fun h => (List.mem_cons_of_mem _ (List.mem_append_left _ (List.mem_append_right _ (List.mem_append_right _ (List.mem_append_right _ (List.mem_append_left _ (List.mem_cons_of_mem _ h)))))))) (fun h => List.mem_cons_of_mem _ (List.mem_append_right _ h)))) w_y_X10_added_good
theorem g_y_X0_progression_X10_added_V94 : GoodIn w_y_X0_progression (wsV RX0 94 RX10 yX10_added w_y_X10_added) := goodIn_app (nb_g4 (List.mem_cons_of_mem _ (List.mem_append_left _ (List.mem_append_left _ (List.mem_of_getElem? (i := 13) rfl)))) (List.mem_cons_of_mem _ (List.mem_append_left _ (List.mem_append_left _ (List.mem_of_getElem? (i := 14) rfl)))) (List.mem_cons_of_mem _ (List.mem_append_left _ (List.mem_append_left _ (List.mem_of_getElem? (i := 15) rfl)))) (List.mem_cons_of_mem _ (List.mem_append_left _ (List.mem_append_left _ (List.mem_of_getElem? (i := 16) rfl)))) (by decide +kernel)) gg_y_X0_progression_X10_added
theorem gg_y_X0_progression_X10_number : GoodIn w_y_X0_progression w_y_X10_number := goodIn_sub (fun w h => (List.mem_cons.mp h).elim (fun e => (List.mem_cons_of_mem _ (List.mem_append_left _ (List.mem_append_right _ (List.mem_append_right _ (List.mem_append_right _ (List.mem_append_right _ (List.mem_append_right _ (List.mem_append_right _ (List.mem_append_left _ (List.mem_cons.mpr (Or.inl e)))))))))))) (fun h => (List.mem_append.mp h).elim (fun h => (List.mem_cons_of_mem _ (List.mem_append_left _ (List.mem_append_right _ (List.mem_append_right _ (List.mem_append_right _ (List.mem_append_right _ (List.mem_append_right _ (List.mem_append_right _ (List.mem_append_left _ (List.mem_cons_of_mem _ h))))))))))) (fun h => List.mem_cons_of_mem _ (List.mem_append_right _ h)))) w_y_X10_number_good
theorem g_y_X0_progression_X10_number_S249 : GoodIn w_y_X0_progression (va_wsS RX0 249 yX10_number w_y_X10_number) := goodIn_app (nb_g3 (List.mem_cons_of_mem _ (List.mem_append_left _ (List.mem_append_left _ (List.mem_of_getElem? (i := 22) rfl)))) (List.mem_cons_of_mem _ (List.mem_append_left _ (List.mem_append_left _ (List.mem_of_getElem? (i := 23) rfl)))) (List.mem_cons_of_mem _ (List.mem_append_left _ (List.mem_append_left _ (List.mem_of_getElem? (i := 16) rfl)))) (by decide +kernel)) gg_y_X0_progression_X10_number
theorem gg_y_X0_progression_X11_isError : GoodIn w_y_X0_progression w_y_X11_isError := goodIn_sub (fun w h => (List.mem_cons.mp h).elim (fun e => (List.mem_cons_of_mem _ (List.mem_append_left _ (List.mem_append_right _ (List.mem_append_right _ (List.mem_append_right _ (List.mem_append_right _ (List.mem_append_left _ (List.mem_cons.mpr (Or.inl e)))))))))) (fun h => (List.mem_append.mp h).elim (fun h => (List.mem_cons_of_mem _ (List.mem_append_left _ (List.mem_append_right _ (List.mem_append_right _ (List.mem_append_right _ (List.mem_append_right _ (List.mem_append_left _ (List.mem_cons_of_mem _ h))))))))) (fun h => List.mem_cons_of_mem _ (List.mem_append_right _ h)))) w_y_X11_isError_good
theorem g_y_X0_progression_X11_isError_SN72 : GoodIn w_y_X0_progression w_y_X11_isError := gg_y_X0_progression_X11_isError
theorem gg_y_X0_progression_X1_compare : GoodIn w_y_X0_progression w_y_X1_compare := goodIn_sub (fun w h => (List.mem_cons.mp h).elim (fun e => (List.mem_cons_of_mem _ (List.mem_append_left _ (List.mem_append_right _ (List.mem_append_right _ (List.mem_append_right _ (List.mem_append_right _ (List.mem_append_right _ (List.mem_append_left _ (List.mem_cons.mpr (Or.inl e))))))))))) (fun h => (List.mem_append.mp h).elim (fun h => (List.mem_cons_of_mem _ (List.mem_append_left _ (List.mem_append_right _ (List.mem_append_right _ (List.mem_append_right _ (List.mem_append_right _ (List.mem_append_right _ (List.mem_append_left _ (List.mem_cons_of_mem _ h)))))))))) (fun h => List.mem_cons_of_mem _ (List.mem_append_right _ h)))) w_y_X1_compare_good
theorem g_y_X0_progression_X1_compare_V91 : GoodIn w_y_X0_progression (wsV RX0 91 RX1 yX1_compare w_y_X1_compare) := goodIn_app (nb_g4 (List.mem_cons_of_mem _ (List.mem_append_left _ (List.mem_append_left _ (List.mem_of_getElem? (i := 19) rfl)))) (List.mem_cons_of_mem _ (List.mem_append_left _ (List.mem_append_left _ (List.mem_of_getElem? (i := 20) rfl)))) (List.mem_cons_of_mem _ (List.mem_append_left _ (List.mem_append_left _ (List.mem_of_getElem? (i := 21) rfl)))) (List.mem_cons_of_mem _ (List.mem_append_left _ (List.mem_append_left _ (List.mem_of_getElem? (i := 9) rfl)))) (by decide +kernel)) gg_y_X0_progression_X1_compare
theorem gg_y_X0_progression_X1_kind : GoodIn w_y_X0_progression w_y_X1_kind := goodIn_sub (fun w h => (List.mem_cons.mp h).elim (fun e => (List.mem_cons_of_mem _ (List.mem_append_left _ (List.mem_append_right _ (List.mem_append_right _ (List.mem_append_left _ (List.mem_cons.mpr (Or.inl e)))))))) (fun h => (List.mem_append.mp h).elim (fun h => (List.mem_cons_of_mem _ (List.mem_append_left _ (List.mem_append_right _ (List.mem_append_right _ (List.mem_append_left _ (List.mem_cons_of_mem _ h))))))) (fun h => List.mem_cons_of_mem _ (List.mem_append_right _ h)))) w_y_X1_kind_good
theorem g_y_X0_progression_X1_kind_V87 : GoodIn w_y_X0_progression (wsV RX0 87 RX1 yX1_kind w_y_X1_kind) := goodIn_app (nb_g4 (List.mem_cons_of_mem _ (List.mem_append_left _ (List.mem_append_left _ (List.mem_of_getElem? (i := 6) rfl)))) (List.mem_cons_of_mem _ (List.mem_append_left _ (List.mem_append_left _ (List.mem_of_getElem? (i := 7) rfl)))) (List.mem_cons_of_mem _ (List.mem_append_left _ (List.mem_append_left _ (List.mem_of_getElem? (i := 8) rfl)))) (List.mem_cons_of_mem _ (List.mem_append_left _ (List.mem_append_left _ (List.mem_of_getElem? (i := 9) rfl)))) (by decide +kernel)) gg_y_X0_progression_X1_kind
theorem gg_y_X0_progression_X1_makeRow__a16 : GoodIn w_y_X0_progression w_y_X1_makeRow__a16 := goodIn_sub (fun w h => (List.mem_cons.mp h).elim (fun e => (List.mem_cons_of_mem _ (List.mem_append_left _ (List.mem_append_right _ (List.mem_append_right _ (List.mem_append_right _ (List.mem_append_right _ (List.mem_append_right _ (List.mem_append_right _ (List.mem_append_right _ (List.mem_append_right _ (List.mem_append_right _ (List.mem_append_right _ (List.mem_append_left _ (List.mem_cons.mpr (Or.inl e)))))))))))))))) (fun h => (List.mem_append.mp h).elim (fun h => (List.mem_cons_of_mem _ (List.mem_append_left _ (List.mem_append_right _ (List.mem_append_right _ (List.mem_append_right _ (List.mem_append_right _ (List.mem_append_right _ (List.mem_append_right _ (List.mem_append_right _ (List.mem_append_right _ (List.mem_append_right _ (List.mem_append_right _ (List.mem_append_left _ (List.mem_cons_of_mem _ h))))))))))))))) (fun h => List.mem_cons_of_mem _ (List.mem_append_right _ h)))) w_y_X1_makeRow__a16_good
theorem g_y_X0_progression_X1_makeRow__a16_V160 : GoodIn w_y_X0_progression (wsV RX0 160 RX1 yX1_makeRow w_y_X1_makeRow__a16) := goodIn_app (nb_g4 (List.mem_cons_of_mem _ (List.mem_append_left _ (List.mem_append_left _ (List.mem_of_getElem? (i := 35) rfl)))) (List.mem_cons_of_mem _ (List.mem_append_left _ (List.mem_append_left _ (List.mem_of_getElem? (i := 36) rfl)))) (List.mem_cons_of_mem _ (List.mem_append_left _ (List.mem_append_left _ (List.mem_of_getElem? (i := 37) rfl)))) (List.mem_cons_of_mem _ (List.mem_append_left _ (List.mem_append_left _ (List.mem_of_getElem? (i := 9) rfl)))) (by decide +kernel)) gg_y_X0_progression_X1_makeRow__a16
theorem gg_y_X0_progression_X1_makeTuple__a16 : GoodIn w_y_X0_progression w_y_X1_makeTuple__a16 := goodIn_sub (fun w h => (List.mem_cons.mp h).elim (fun e => (List.mem_cons_of_mem _ (List.mem_append_left _ (List.mem_append_right _ (List.mem_append_right _ (List.mem_append_right _ (List.mem_append_right _ (List.mem_append_right _ (List.mem_append_right _ (List.mem_append_right _ (List.mem_append_right _ (List.mem_append_right _ (List.mem_append_left _ (List.mem_cons.mpr (Or.inl e))))))))))))))) (fun h => (List.mem_append.mp h).elim (fun h => (List.mem_cons_of_mem _ (List.mem_append_left _ (List.mem_append_right _ (List.mem_append_right _ (List.mem_append_right _ (List.mem_append_right _ (List.mem_append_right _ (List.mem_append_right _ (List.mem_append_right _ (List.mem_append_right _ (List.mem_append_right _ (List.mem_append_left _ (List.mem_cons_of_mem _ h)))))))))))))) (fun h => List.mem_cons_of_mem _ (List.mem_append_right _ h)))) w_y_X1_makeTuple__a16_good
theorem g_y_X0_progression_X1_makeTuple__a16_V107 : GoodIn w_y_X0_progression (wsV RX0 107 RX1 yX1_makeTuple w_y_X1_makeTuple__a16) := goodIn_app (nb_g4 (List.mem_cons_of_mem _ (List.mem_append_left _ (List.mem_append_left _ (List.mem_of_getElem? (i := 32) rfl)))) (List.mem_cons_of_mem _ (List.mem_append_left _ (List.mem_append_left _ (List.mem_of_getElem? (i := 33) rfl)))) (List.mem_cons_of_mem _ (List.mem_append_left _ (List.mem_append_left _ (List.mem_of_getElem? (i := 34) rfl)))) (List.mem_cons_of_mem _ (List.mem_append_left _ (List.mem_append_left _ (List.mem_of_getElem? (i := 9) rfl)))) (by decide +kernel)) gg_y_X0_progression_X1_makeTuple__a16
theorem gg_y_X0_progression_X1_size : GoodIn w_y_X0_progression w_y_X1_size := goodIn_sub (fun w h => (List.mem_cons.mp h).elim (fun e => (List.mem_cons_of_mem _ (List.mem_append_left _ (List.mem_append_right _ (List.mem_append_right _ (List.mem_append_right _ (List.mem_append_right _ (List.mem_append_right _ (List.mem_append_right _ (List.mem_append_right _ (List.mem_append_right _ (List.mem_append_left _ (List.mem_cons.mpr (Or.inl e)))))))))))))) (fun h => (List.mem_append.mp h).elim (fun h => (List.mem_cons_of_mem _ (List.mem_append_left _ (List.mem_append_right _ (List.mem_append_right _ (List.mem_append_right _ (List.mem_append_right _ (List.mem_append_right _ (List.mem_append_right _ (List.mem_append_right _ (List.mem_append_right _ (List.mem_append_left _ (List.mem_cons_of_mem _ h))))))))))))) (fun h => List.mem_cons_of_mem _ (List.mem_append_right _ h)))) w_y_X1_size_good
theorem g_y_X0_progression_X1_size_V179 : GoodIn w_y_X0_progression (wsV RX0 179 RX1 yX1_size w_y_X1_size) := goodIn_app (nb_g4 (List.mem_cons_of_mem _ (List.mem_append_left _ (List.mem_append_left _ (List.mem_of_getElem? (i := 27) rfl)))) (List.mem_cons_of_mem _ (List.mem_append_left _ (List.mem_append_left _ (List.mem_of_getElem? (i := 28) rfl)))) (List.mem_cons_of_mem _ (List.mem_append_left _ (List.mem_append_left _ (List.mem_of_getElem? (i := 29) rfl)))) (List.mem_cons_of_mem _ (List.mem_append_left _ (List.mem_append_left _ (List.mem_of_getElem? (i := 9) rfl)))) (by decide +kernel)) gg_y_X0_progression_X1_size
set_option maxHeartbeats 40000000 in
set_option maxRecDepth 100000 in
theorem c_y_X0_progression (l : Launch) (dC : Nat → ClassId) (dI : Nat → Nat → Nat) (cy : Nat → ClassId) (a z : Nat → Nat) (k0 : Nat) (L0 : LV) (σ0 : CS) (r0 : Int32 × CS) (h0 : y_X0_progression k0 0 L0 σ0 = some r0) (sz : Nat) : Met l yX0_progression w_y_X0_progression ({ frames := 62, cells := 0, slots := 0, locals := 1738 }) (va_Pc [.ref (a 14), .int (L0.1 1), .int (L0.1 2), .int (L0.1 3), .int (L0.1 4)] (nIn (dC, dI) cy sz (vC cy a z σ0))) (va_Qi (fun (x : Int32) (_ : Unit) => x = r0.1) (fun _ t => nOut (dC, dI) cy (va_A (vC cy a z σ0) sz) (vC cy a z r0.2) t) (va_A (vC cy a z σ0) sz)) 0 0 (va_A (vC cy a z σ0) sz) := by
  refine Met.ofW (cc := cX0_progression) (maxL := 12) (ret := (some .int)) (by decide) rfl ?_
  intro p e s m args below meth c s₁ B hml hv
  obtain ⟨rfl, hsz, hP, hK, hD0, hG⟩ := hv
  have hx := B.exec
  have hb := B.bytes
  have hr := B.returns
  have hts := atoms_spec (ws := w_y_X0_progression) B.pre
  have hown : s.vm.findClass RX0 = some m.cls := findClass_of_methodNamed B.named
  have hlocks := B.notSynchronized
  subst hsz
  have hD := hD0.self (sz := s.heap.size)
  generalize hAe : va_A (vC cy a z σ0) s.heap.size = A at hD ⊢
  have hA : ∀ q : Nat, s.heap.size ≤ q → A q := fun q h => by rw [← hAe]; exact Or.inr h
  have hS : va_S A s.heap s.heap [] := va_S.rf
  have hl := lv_entry ([.ref (a 14), .int (L0.1 1), .int (L0.1 2), .int (L0.1 3), .int (L0.1 4)]) (n := 12) (Nat.le_of_ble_eq_true rfl)
  rw [lg_entry_eq]
  generalize (lg_sl ([.ref (a 14), .int (L0.1 1), .int (L0.1 2), .int (L0.1 3), .int (L0.1 4)]) ++ List.replicate (12 - (lg_sl ([.ref (a 14), .int (L0.1 1), .int (L0.1 2), .int (L0.1 3), .int (L0.1 4)])).length) Slot.unset).toArray = ls at hl ⊢
  have hl : lv_has ls 12 [(0, .ref (a 14)), (1, .int (L0.1 1)), (2, .int (L0.1 2)), (3, .int (L0.1 3)), (4, .int (L0.1 4))] := hl
  have blk : ∀ k : Nat, (bC p l e (headSpec w_y_X0_progression ({ frames := 62, cells := 0, slots := 0, locals := 1738 })).room s m #[.ref (a 14), .int (L0.1 1), .int (L0.1 2), .int (L0.1 3), .int (L0.1 4)] below meth c dC dI cy a z A (kI dC dI cy a z A below #[.ref (a 14), .int (L0.1 1), .int (L0.1 2), .int (L0.1 3), .int (L0.1 4)] s) 12 (y_X0_progression k 0) (fun L => [(0, .ref (a 14)), (1, .int (L.1 1)), (2, .int (L.1 2)), (3, .int (L.1 3)), (4, .int (L.1 4))]) 0 (fun L => [])) ∧ (bC p l e (headSpec w_y_X0_progression ({ frames := 62, cells := 0, slots := 0, locals := 1738 })).room s m #[.ref (a 14), .int (L0.1 1), .int (L0.1 2), .int (L0.1 3), .int (L0.1 4)] below meth c dC dI cy a z A (kI dC dI cy a z A below #[.ref (a 14), .int (L0.1 1), .int (L0.1 2), .int (L0.1 3), .int (L0.1 4)] s) 12 (y_X0_progression k 1) (fun L => []) 27 (fun L => [])) ∧ (bC p l e (headSpec w_y_X0_progression ({ frames := 62, cells := 0, slots := 0, locals := 1738 })).room s m #[.ref (a 14), .int (L0.1 1), .int (L0.1 2), .int (L0.1 3), .int (L0.1 4)] below meth c dC dI cy a z A (kI dC dI cy a z A below #[.ref (a 14), .int (L0.1 1), .int (L0.1 2), .int (L0.1 3), .int (L0.1 4)] s) 12 (y_X0_progression k 2) (fun L => [(0, .ref (a 14)), (1, .int (L.1 1)), (2, .int (L.1 2)), (3, .int (L.1 3)), (4, .int (L.1 4))]) 30 (fun L => [])) ∧ (bC p l e (headSpec w_y_X0_progression ({ frames := 62, cells := 0, slots := 0, locals := 1738 })).room s m #[.ref (a 14), .int (L0.1 1), .int (L0.1 2), .int (L0.1 3), .int (L0.1 4)] below meth c dC dI cy a z A (kI dC dI cy a z A below #[.ref (a 14), .int (L0.1 1), .int (L0.1 2), .int (L0.1 3), .int (L0.1 4)] s) 12 (y_X0_progression k 3) (fun L => [(0, .ref (a 14)), (1, .int (L.1 1)), (2, .int (L.1 2)), (3, .int (L.1 3)), (4, .int (L.1 4))]) 50 (fun L => [])) ∧ (bC p l e (headSpec w_y_X0_progression ({ frames := 62, cells := 0, slots := 0, locals := 1738 })).room s m #[.ref (a 14), .int (L0.1 1), .int (L0.1 2), .int (L0.1 3), .int (L0.1 4)] below meth c dC dI cy a z A (kI dC dI cy a z A below #[.ref (a 14), .int (L0.1 1), .int (L0.1 2), .int (L0.1 3), .int (L0.1 4)] s) 12 (y_X0_progression k 4) (fun L => [(0, .ref (a 14)), (1, .int (L.1 1)), (3, .int (L.1 3)), (4, .int (L.1 4))]) 51 (fun L => [.int (L.1 100)])) ∧ (bC p l e (headSpec w_y_X0_progression ({ frames := 62, cells := 0, slots := 0, locals := 1738 })).room s m #[.ref (a 14), .int (L0.1 1), .int (L0.1 2), .int (L0.1 3), .int (L0.1 4)] below meth c dC dI cy a z A (kI dC dI cy a z A below #[.ref (a 14), .int (L0.1 1), .int (L0.1 2), .int (L0.1 3), .int (L0.1 4)] s) 12 (y_X0_progression k 5) (fun L => [(0, .ref (a 14)), (1, .int (L.1 1)), (3, .int (L.1 3)), (4, .int (L.1 4)), (5, .int (L.1 5))]) 65 (fun L => [])) ∧ (bC p l e (headSpec w_y_X0_progression ({ frames := 62, cells := 0, slots := 0, locals := 1738 })).room s m #[.ref (a 14), .int (L0.1 1), .int (L0.1 2), .int (L0.1 3), .int (L0.1 4)] below meth c dC dI cy a z A (kI dC dI cy a z A below #[.ref (a 14), .int (L0.1 1), .int (L0.1 2), .int (L0.1 3), .int (L0.1 4)] s) 12 (y_X0_progression k 6) (fun L => [(0, .ref (a 14)), (1, .int (L.1 1)), (3, .int (L.1 3)), (4, .int (L.1 4)), (5, .int (L.1 5))]) 75 (fun L => [.int (L.1 100)])) ∧ (bC p l e (headSpec w_y_X0_progression ({ frames := 62, cells := 0, slots := 0, locals := 1738 })).room s m #[.ref (a 14), .int (L0.1 1), .int (L0.1 2), .int (L0.1 3), .int (L0.1 4)] below meth c dC dI cy a z A (kI dC dI cy a z A below #[.ref (a 14), .int (L0.1 1), .int (L0.1 2), .int (L0.1 3), .int (L0.1 4)] s) 12 (y_X0_progression k 7) (fun L => [(0, .ref (a 14)), (1, .int (L.1 1)), (3, .int (L.1 3)), (4, .int (L.1 4)), (5, .int (L.1 5)), (6, .int (L.1 6))]) 90 (fun L => [])) ∧ (bC p l e (headSpec w_y_X0_progression ({ frames := 62, cells := 0, slots := 0, locals := 1738 })).room s m #[.ref (a 14), .int (L0.1 1), .int (L0.1 2), .int (L0.1 3), .int (L0.1 4)] below meth c dC dI cy a z A (kI dC dI cy a z A below #[.ref (a 14), .int (L0.1 1), .int (L0.1 2), .int (L0.1 3), .int (L0.1 4)] s) 12 (y_X0_progression k 8) (fun L => [(0, .ref (a 14)), (1, .int (L.1 1)), (3, .int (L.1 3)), (4, .int (L.1 4)), (5, .int (L.1 5)), (6, .int (L.1 6))]) 101 (fun L => [.int (L.1 100)])) ∧ (bC p l e (headSpec w_y_X0_progression ({ frames := 62, cells := 0, slots := 0, locals := 1738 })).room s m #[.ref (a 14), .int (L0.1 1), .int (L0.1 2), .int (L0.1 3), .int (L0.1 4)] below meth c dC dI cy a z A (kI dC dI cy a z A below #[.ref (a 14), .int (L0.1 1), .int (L0.1 2), .int (L0.1 3), .int (L0.1 4)] s) 12 (y_X0_progression k 9) (fun L => [(0, .ref (a 14)), (1, .int (L.1 1)), (3, .int (L.1 3)), (4, .int (L.1 4)), (5, .int (L.1 5)), (6, .int (L.1 6)), (7, .int (L.1 7)), (8, .int (L.1 8)), (9, .int (L.1 9))]) 152 (fun L => [])) ∧ (bC p l e (headSpec w_y_X0_progression ({ frames := 62, cells := 0, slots := 0, locals := 1738 })).room s m #[.ref (a 14), .int (L0.1 1), .int (L0.1 2), .int (L0.1 3), .int (L0.1 4)] below meth c dC dI cy a z A (kI dC dI cy a z A below #[.ref (a 14), .int (L0.1 1), .int (L0.1 2), .int (L0.1 3), .int (L0.1 4)] s) 12 (y_X0_progression k 10) (fun L => [(0, .ref (a 14)), (3, .int (L.1 3)), (4, .int (L.1 4)), (6, .int (L.1 6)), (9, .int (L.1 9))]) 140 (fun L => [.int (L.1 100), .int (L.1 101), .ref (a 14)])) ∧ (bC p l e (headSpec w_y_X0_progression ({ frames := 62, cells := 0, slots := 0, locals := 1738 })).room s m #[.ref (a 14), .int (L0.1 1), .int (L0.1 2), .int (L0.1 3), .int (L0.1 4)] below meth c dC dI cy a z A (kI dC dI cy a z A below #[.ref (a 14), .int (L0.1 1), .int (L0.1 2), .int (L0.1 3), .int (L0.1 4)] s) 12 (y_X0_progression k 11) (fun L => [(0, .ref (a 14)), (3, .int (L.1 3)), (4, .int (L.1 4)), (5, .int (L.1 5)), (6, .int (L.1 6)), (7, .int (L.1 7)), (8, .int (L.1 8)), (9, .int (L.1 9)), (10, .int (L.1 10)), (11, .int (L.1 11))]) 158 (fun L => [])) ∧ (bC p l e (headSpec w_y_X0_progression ({ frames := 62, cells := 0, slots := 0, locals := 1738 })).room s m #[.ref (a 14), .int (L0.1 1), .int (L0.1 2), .int (L0.1 3), .int (L0.1 4)] below meth c dC dI cy a z A (kI dC dI cy a z A below #[.ref (a 14), .int (L0.1 1), .int (L0.1 2), .int (L0.1 3), .int (L0.1 4)] s) 12 (y_X0_progression k 12) (fun L => [(0, .ref (a 14)), (4, .int (L.1 4)), (6, .int (L.1 6)), (8, .int (L.1 8)), (9, .int (L.1 9))]) 272 (fun L => [])) ∧ (bC p l e (headSpec w_y_X0_progression ({ frames := 62, cells := 0, slots := 0, locals := 1738 })).room s m #[.ref (a 14), .int (L0.1 1), .int (L0.1 2), .int (L0.1 3), .int (L0.1 4)] below meth c dC dI cy a z A (kI dC dI cy a z A below #[.ref (a 14), .int (L0.1 1), .int (L0.1 2), .int (L0.1 3), .int (L0.1 4)] s) 12 (y_X0_progression k 13) (fun L => [(0, .ref (a 14)), (3, .int (L.1 3)), (4, .int (L.1 4)), (5, .int (L.1 5)), (6, .int (L.1 6)), (7, .int (L.1 7)), (8, .int (L.1 8)), (9, .int (L.1 9)), (10, .int (L.1 10)), (11, .int (L.1 11))]) 239 (fun L => [])) ∧ (bC p l e (headSpec w_y_X0_progression ({ frames := 62, cells := 0, slots := 0, locals := 1738 })).room s m #[.ref (a 14), .int (L0.1 1), .int (L0.1 2), .int (L0.1 3), .int (L0.1 4)] below meth c dC dI cy a z A (kI dC dI cy a z A below #[.ref (a 14), .int (L0.1 1), .int (L0.1 2), .int (L0.1 3), .int (L0.1 4)] s) 12 (y_X0_progression k 14) (fun L => [(0, .ref (a 14)), (3, .int (L.1 3)), (4, .int (L.1 4)), (5, .int (L.1 5)), (6, .int (L.1 6)), (7, .int (L.1 7)), (8, .int (L.1 8)), (9, .int (L.1 9)), (11, .int (L.1 11))]) 264 (fun L => [.int (L.1 100)])) ∧ (bC p l e (headSpec w_y_X0_progression ({ frames := 62, cells := 0, slots := 0, locals := 1738 })).room s m #[.ref (a 14), .int (L0.1 1), .int (L0.1 2), .int (L0.1 3), .int (L0.1 4)] below meth c dC dI cy a z A (kI dC dI cy a z A below #[.ref (a 14), .int (L0.1 1), .int (L0.1 2), .int (L0.1 3), .int (L0.1 4)] s) 12 (y_X0_progression k 15) (fun L => [(0, .ref (a 14)), (4, .int (L.1 4)), (6, .int (L.1 6)), (8, .int (L.1 8))]) 283 (fun L => [])) ∧ (bC p l e (headSpec w_y_X0_progression ({ frames := 62, cells := 0, slots := 0, locals := 1738 })).room s m #[.ref (a 14), .int (L0.1 1), .int (L0.1 2), .int (L0.1 3), .int (L0.1 4)] below meth c dC dI cy a z A (kI dC dI cy a z A below #[.ref (a 14), .int (L0.1 1), .int (L0.1 2), .int (L0.1 3), .int (L0.1 4)] s) 12 (y_X0_progression k 16) (fun L => [(0, .ref (a 14)), (3, .int (L.1 3)), (4, .int (L.1 4)), (5, .int (L.1 5)), (6, .int (L.1 6)), (7, .int (L.1 7)), (8, .int (L.1 8)), (9, .int (L.1 9)), (10, .int (L.1 10)), (11, .int (L.1 11))]) 252 (fun L => [])) ∧ (bC p l e (headSpec w_y_X0_progression ({ frames := 62, cells := 0, slots := 0, locals := 1738 })).room s m #[.ref (a 14), .int (L0.1 1), .int (L0.1 2), .int (L0.1 3), .int (L0.1 4)] below meth c dC dI cy a z A (kI dC dI cy a z A below #[.ref (a 14), .int (L0.1 1), .int (L0.1 2), .int (L0.1 3), .int (L0.1 4)] s) 12 (y_X0_progression k 17) (fun L => [(0, .ref (a 14)), (6, .int (L.1 6)), (8, .int (L.1 8))]) 303 (fun L => [])) ∧ (bC p l e (headSpec w_y_X0_progression ({ frames := 62, cells := 0, slots := 0, locals := 1738 })).room s m #[.ref (a 14), .int (L0.1 1), .int (L0.1 2), .int (L0.1 3), .int (L0.1 4)] below meth c dC dI cy a z A (kI dC dI cy a z A below #[.ref (a 14), .int (L0.1 1), .int (L0.1 2), .int (L0.1 3), .int (L0.1 4)] s) 12 (y_X0_progression k 18) (fun L => [(0, .ref (a 14)), (6, .int (L.1 6)), (8, .int (L.1 8)), (10, .int (L.1 10))]) 306 (fun L => [])) ∧ (bC p l e (headSpec w_y_X0_progression ({ frames := 62, cells := 0, slots := 0, locals := 1738 })).room s m #[.ref (a 14), .int (L0.1 1), .int (L0.1 2), .int (L0.1 3), .int (L0.1 4)] below meth c dC dI cy a z A (kI dC dI cy a z A below #[.ref (a 14), .int (L0.1 1), .int (L0.1 2), .int (L0.1 3), .int (L0.1 4)] s) 12 (y_X0_progression k 19) (fun L => [(0, .ref (a 14)), (8, .int (L.1 8))]) 368 (fun L => [])) := by
    intro k
    induction k with
    | zero => exact ⟨fun L σ r h => (by cases h), fun L σ r h => (by cases h), fun L σ r h => (by cases h), fun L σ r h => (by cases h), fun L σ r h => (by cases h), fun L σ r h => (by cases h), fun L σ r h => (by cases h), fun L σ r h => (by cases h), fun L σ r h => (by cases h), fun L σ r h => (by cases h), fun L σ r h => (by cases h), fun L σ r h => (by cases h), fun L σ r h => (by cases h), fun L σ r h => (by cases h), fun L σ r h => (by cases h), fun L σ r h => (by cases h), fun L σ r h => (by cases h), fun L σ r h => (by cases h), fun L σ r h => (by cases h), fun L σ r h => (by cases h)⟩
    | succ k ih =>
      refine ⟨?_, ?_, ?_, ?_, ?_, ?_, ?_, ?_, ?_, ?_, ?_, ?_, ?_, ?_, ?_, ?_, ?_, ?_, ?_, ?_⟩
      · intro L σ r h H locs ls hP hD hS hl
        rw [y_X0_progression] at h
        refine lv_aload_n hx hb dX0_progression_0 rfl (lv_at hl 0 rfl) ?_
        refine lv_iload_n hx hb dX0_progression_1 rfl (lv_at hl 1 rfl) ?_
        refine lv_iload_n hx hb dX0_progression_2 rfl (lv_at hl 3 rfl) ?_
        obtain ⟨r1, hc1, h⟩ := oc_ex h
        refine kc_i (va_runV (As := [.int (L.1 1), .int (L.1 3)]) (rest := []) ⟨hx, hb, hml, hown, hts⟩ (c_y_X0_areWholes l dC dI cy a z k (lI (lI lZ 1 ((L.1 1))) 2 ((L.1 3))) σ r1 hc1 H.size) (cwV 2 hts g_y_X0_progression_X0_areWholes_V44 rfl rfl rfl hd_y_X0_areWholes ⟨Nat.le_of_ble_eq_true rfl, Nat.le_of_ble_eq_true rfl⟩) ⟨nb_blind, va_recv hK hP (ci := 0) (q0 := 14) rfl rfl, (kb_pre hK hG hP hD)⟩ rfl rfl hl.1 rfl (lv_room (Nat.le_of_ble_eq_true rfl)) dX0_progression_3 ⟨Nat.le_refl _, Nat.le_refl _⟩) hA hP hD hS (fun H locs hP hD hS => ?_)
        refine lv_if_eq (tgt := 27) hx hb dX0_progression_6 (by decide) (fun c2 => ?_) (fun c2 => ?_)
        · rw [if_pos c2] at h
          exact ih.2.1 L r1.2 r h H locs ls hP hD hS (lv_sub hl [] rfl)
        · rw [if_neg c2] at h
          refine lv_iload_n hx hb dX0_progression_9 rfl (lv_at hl 2 rfl) ?_
          refine lv_ldc (v := (-2147483648)) hx hb hown (hts _ (List.mem_cons_of_mem _ (List.mem_append_left _ (List.mem_append_left _ (List.mem_of_getElem? (i := 4) rfl))))) dX0_progression_10 ?_
          refine lv_icmp_eq (tgt := 30) hx hb dX0_progression_12 (by decide) (fun c3 => ?_) (fun c3 => ?_)
          · rw [if_pos c3] at h
            exact ih.2.2.1 L r1.2 r h H locs ls hP hD hS (lv_sub hl [0, 1, 2, 3, 4] rfl)
          · rw [if_neg c3] at h
            refine lv_aload_n hx hb dX0_progression_15 rfl (lv_at hl 0 rfl) ?_
            refine hg_14_0 hx hb hts in_y_X0_progression_X0 hown hK hP (hts _ (List.mem_cons_of_mem _ (List.mem_append_left _ (List.mem_append_left _ (List.mem_of_getElem? (i := 5) rfl))))) dX0_progression_16 ?_
            refine lv_iload_n hx hb dX0_progression_19 rfl (lv_at hl 2 rfl) ?_
            obtain ⟨r4, hc4, h⟩ := oc_ex h
            refine kc_i (va_runV (As := [.int (L.1 2)]) (rest := []) ⟨hx, hb, hml, hown, hts⟩ (c_y_X1_kind l dC dI cy a z k (lI lZ 1 ((L.1 2))) r1.2 r4 hc4 H.size) (cwV 1 hts g_y_X0_progression_X1_kind_V87 rfl rfl rfl hd_y_X1_kind ⟨Nat.le_of_ble_eq_true rfl, Nat.le_of_ble_eq_true rfl⟩) ⟨nb_blind, va_recv hK hP (ci := 1) (q0 := 0) rfl rfl, (kb_pre hK hG hP hD)⟩ rfl rfl hl.1 rfl (lv_room (Nat.le_of_ble_eq_true rfl)) dX0_progression_20 ⟨Nat.le_refl _, Nat.le_refl _⟩) hA hP hD hS (fun H locs hP hD hS => ?_)
            refine lv_iconst (v := 2) hx hb dX0_progression_23 (by decide) ?_
            refine lv_icmp_eq (tgt := 30) hx hb dX0_progression_24 (by decide) (fun c5 => ?_) (fun c5 => ?_)
            · rw [if_pos c5] at h
              exact ih.2.2.1 L r4.2 r h H locs ls hP hD hS (lv_sub hl [0, 1, 2, 3, 4] rfl)
            · rw [if_neg c5] at h
              exact ih.2.1 L r4.2 r h H locs ls hP hD hS (lv_sub hl [] rfl)
      · intro L σ r h H locs ls hP hD hS hl
        rw [y_X0_progression] at h
        refine lv_ldc (v := (-268435455)) hx hb hown (hts _ (List.mem_cons_of_mem _ (List.mem_append_left _ (List.mem_append_left _ (List.mem_of_getElem? (i := 10) rfl))))) dX0_progression_27 ?_
        obtain rfl := Option.some.inj h
        exact W.iret (v := (-268435455)) hx hb hr (fun t ht hW => ⟨⟨(-268435455), (), rfl, rfl, by rw [ht]; exact hP, va_K.moved hW.alike hK, hD⟩, hS.F ht⟩) hS.2.2 dX0_progression_29
      · intro L σ r h H locs ls hP hD hS hl
        rw [y_X0_progression] at h
        refine lv_iload_n hx hb dX0_progression_30 rfl (lv_at hl 2 rfl) ?_
        refine lv_ldc (v := (-2147483648)) hx hb hown (hts _ (List.mem_cons_of_mem _ (List.mem_append_left _ (List.mem_append_left _ (List.mem_of_getElem? (i := 4) rfl))))) dX0_progression_31 ?_
        refine lv_icmp_ne (tgt := 50) hx hb dX0_progression_33 (by decide) (fun c1 => ?_) (fun c1 => ?_)
        · rw [if_neg c1] at h
          exact ih.2.2.2.1 L σ r h H locs ls hP hD hS (lv_sub hl [0, 1, 2, 3, 4] rfl)
        · rw [if_pos c1] at h
          refine lv_aload_n hx hb dX0_progression_36 rfl (lv_at hl 0 rfl) ?_
          refine hg_14_1 hx hb hts in_y_X0_progression_X0 hown hK hP (hts _ (List.mem_cons_of_mem _ (List.mem_append_left _ (List.mem_append_left _ (List.mem_of_getElem? (i := 11) rfl))))) dX0_progression_37 ?_
          refine lv_iload_n hx hb dX0_progression_40 rfl (lv_at hl 1 rfl) ?_
          refine lv_ldc (v := (-1610612735)) hx hb hown (hts _ (List.mem_cons_of_mem _ (List.mem_append_left _ (List.mem_append_left _ (List.mem_of_getElem? (i := 12) rfl))))) dX0_progression_41 ?_
          refine lv_iconst (v := 0) hx hb dX0_progression_43 (by decide) ?_
          obtain ⟨r2, hc2, h⟩ := oc_ex h
          refine kc_i (va_runV (As := [.int (L.1 1), .int (-1610612735), .int 0]) (rest := []) ⟨hx, hb, hml, hown, hts⟩ (c_y_X10_added l dC dI cy a z k (lI (lI (lI lZ 1 ((L.1 1))) 2 ((-1610612735))) 3 0) σ r2 hc2 H.size) (cwV 3 hts g_y_X0_progression_X10_added_V94 rfl rfl rfl hd_y_X10_added ⟨Nat.le_of_ble_eq_true rfl, Nat.le_of_ble_eq_true rfl⟩) ⟨nb_blind, va_recv hK hP (ci := 9) (q0 := 4) rfl rfl, (kb_pre hK hG hP hD)⟩ rfl rfl hl.1 rfl (lv_room (Nat.le_of_ble_eq_true rfl)) dX0_progression_44 ⟨Nat.le_refl _, Nat.le_refl _⟩) hA hP hD hS (fun H locs hP hD hS => ?_)
          refine lv_goto (tgt := 51) hx hb dX0_progression_47 (by decide) ?_
          exact ih.2.2.2.2.1 (lI L 100 r2.1) r2.2 r h H locs ls hP hD hS (lv_sub hl [0, 1, 3, 4] rfl)
      · intro L σ r h H locs ls hP hD hS hl
        rw [y_X0_progression] at h
        refine lv_iload_n hx hb dX0_progression_50 rfl (lv_at hl 2 rfl) ?_
        exact ih.2.2.2.2.1 (lI L 100 ((L.1 2))) σ r h H locs ls hP hD hS (lv_sub hl [0, 1, 3, 4] rfl)
      · intro L σ r h H locs ls hP hD hS hl
        rw [y_X0_progression] at h
        refine lv_istore (lv' := [(5, .int (L.1 100)), (0, .ref (a 14)), (1, .int (L.1 1)), (3, .int (L.1 3)), (4, .int (L.1 4))]) hx hb dX0_progression_51 hl (by decide) rfl (fun ls hl => ?_)
        refine lv_iload hx hb dX0_progression_53 (lv_at hl 0 rfl) ?_
        obtain ⟨r1, hc1, h⟩ := oc_ex h
        refine kc_i (va_runSN (As := [.int (L.1 100)]) (rest := []) ⟨hx, hb, hml, hown, hts⟩ (c_y_X11_isError l dC dI cy a z k (lI lZ 0 ((L.1 100))) σ r1 hc1 H.size) ⟨va_cnB 1 hts g_y_X0_progression_X11_isError_SN72 rfl rfl rfl (hG.1 _ (List.mem_of_getElem? (i := 105) rfl)) (hts _ (List.mem_cons_of_mem _ (List.mem_append_left _ (List.mem_append_left _ (List.mem_of_getElem? (i := 17) rfl))))) hd_y_X11_isError ⟨Nat.le_of_ble_eq_true rfl, Nat.le_of_ble_eq_true rfl⟩, (hts _ (List.mem_cons_of_mem _ (List.mem_append_left _ (List.mem_append_left _ (List.mem_of_getElem? (i := 18) rfl))))), trivial⟩ ⟨nb_blind, (kb_pre hK hG hP hD)⟩ rfl rfl hl.1 rfl (lv_room (Nat.le_of_ble_eq_true rfl)) dX0_progression_55 ⟨Nat.le_refl _, Nat.le_refl _⟩) hA hP hD hS (fun H locs hP hD hS => ?_)
        refine lv_if_eq (tgt := 65) hx hb dX0_progression_58 (by decide) (fun c2 => ?_) (fun c2 => ?_)
        · rw [if_pos c2] at h
          exact ih.2.2.2.2.2.1 (lI L 5 ((L.1 100))) r1.2 r h H locs ls hP hD hS (lv_sub hl [1, 2, 3, 4, 0] rfl)
        · rw [if_neg c2] at h
          refine lv_iconst (v := 1) hx hb dX0_progression_61 (by decide) ?_
          refine lv_goto (tgt := 75) hx hb dX0_progression_62 (by decide) ?_
          exact ih.2.2.2.2.2.2.1 (lI (lI L 5 ((L.1 100))) 100 1) r1.2 r h H locs ls hP hD hS (lv_sub hl [1, 2, 3, 4, 0] rfl)
      · intro L σ r h H locs ls hP hD hS hl
        rw [y_X0_progression] at h
        refine lv_aload_n hx hb dX0_progression_65 rfl (lv_at hl 0 rfl) ?_
        refine hg_14_0 hx hb hts in_y_X0_progression_X0 hown hK hP (hts _ (List.mem_cons_of_mem _ (List.mem_append_left _ (List.mem_append_left _ (List.mem_of_getElem? (i := 5) rfl))))) dX0_progression_66 ?_
        refine lv_iload hx hb dX0_progression_69 (lv_at hl 4 rfl) ?_
        refine lv_iload_n hx hb dX0_progression_71 rfl (lv_at hl 1 rfl) ?_
        obtain ⟨r1, hc1, h⟩ := oc_ex h
        refine kc_i (va_runV (As := [.int (L.1 5), .int (L.1 1)]) (rest := []) ⟨hx, hb, hml, hown, hts⟩ (c_y_X1_compare l dC dI cy a z k (lI (lI lZ 1 ((L.1 5))) 2 ((L.1 1))) σ r1 hc1 H.size) (cwV 2 hts g_y_X0_progression_X1_compare_V91 rfl rfl rfl hd_y_X1_compare ⟨Nat.le_of_ble_eq_true rfl, Nat.le_of_ble_eq_true rfl⟩) ⟨nb_blind, va_recv hK hP (ci := 1) (q0 := 0) rfl rfl, (kb_pre hK hG hP hD)⟩ rfl rfl hl.1 rfl (lv_room (Nat.le_of_ble_eq_true rfl)) dX0_progression_72 ⟨Nat.le_refl _, Nat.le_refl _⟩) hA hP hD hS (fun H locs hP hD hS => ?_)
        exact ih.2.2.2.2.2.2.1 (lI L 100 r1.1) r1.2 r h H locs ls hP hD hS (lv_sub hl [0, 1, 2, 3, 4] rfl)
      · intro L σ r h H locs ls hP hD hS hl
        rw [y_X0_progression] at h
        refine lv_istore (lv' := [(6, .int (L.1 100)), (0, .ref (a 14)), (1, .int (L.1 1)), (3, .int (L.1 3)), (4, .int (L.1 4)), (5, .int (L.1 5))]) hx hb dX0_progression_75 hl (by decide) rfl (fun ls hl => ?_)
        refine lv_iload hx hb dX0_progression_77 (lv_at hl 5 rfl) ?_
        obtain ⟨r1, hc1, h⟩ := oc_ex h
        refine kc_i (va_runSN (As := [.int (L.1 5)]) (rest := []) ⟨hx, hb, hml, hown, hts⟩ (c_y_X11_isError l dC dI cy a z k (lI lZ 0 ((L.1 5))) σ r1 hc1 H.size) ⟨va_cnB 1 hts g_y_X0_progression_X11_isError_SN72 rfl rfl rfl (hG.1 _ (List.mem_of_getElem? (i := 105) rfl)) (hts _ (List.mem_cons_of_mem _ (List.mem_append_left _ (List.mem_append_left _ (List.mem_of_getElem? (i := 17) rfl))))) hd_y_X11_isError ⟨Nat.le_of_ble_eq_true rfl, Nat.le_of_ble_eq_true rfl⟩, (hts _ (List.mem_cons_of_mem _ (List.mem_append_left _ (List.mem_append_left _ (List.mem_of_getElem? (i := 18) rfl))))), trivial⟩ ⟨nb_blind, (kb_pre hK hG hP hD)⟩ rfl rfl hl.1 rfl (lv_room (Nat.le_of_ble_eq_true rfl)) dX0_progression_79 ⟨Nat.le_refl _, Nat.le_refl _⟩) hA hP hD hS (fun H locs hP hD hS => ?_)
        refine lv_if_eq (tgt := 90) hx hb dX0_progression_82 (by decide) (fun c2 => ?_) (fun c2 => ?_)
        · rw [if_pos c2] at h
          exact ih.2.2.2.2.2.2.2.1 (lI L 6 ((L.1 100))) r1.2 r h H locs ls hP hD hS (lv_sub hl [1, 2, 3, 4, 5, 0] rfl)
        · rw [if_neg c2] at h
          refine lv_iload hx hb dX0_progression_85 (lv_at hl 5 rfl) ?_
          refine lv_goto (tgt := 101) hx hb dX0_progression_87 (by decide) ?_
          exact ih.2.2.2.2.2.2.2.2.1 (lI (lI L 6 ((L.1 100))) 100 ((L.1 5))) r1.2 r h H locs ls hP hD hS (lv_sub hl [1, 2, 3, 4, 5, 0] rfl)
      · intro L σ r h H locs ls hP hD hS hl
        rw [y_X0_progression] at h
        refine lv_aload_n hx hb dX0_progression_90 rfl (lv_at hl 0 rfl) ?_
        refine hg_14_1 hx hb hts in_y_X0_progression_X0 hown hK hP (hts _ (List.mem_cons_of_mem _ (List.mem_append_left _ (List.mem_append_left _ (List.mem_of_getElem? (i := 11) rfl))))) dX0_progression_91 ?_
        refine lv_iload hx hb dX0_progression_94 (lv_at hl 4 rfl) ?_
        refine lv_iload_n hx hb dX0_progression_96 rfl (lv_at hl 1 rfl) ?_
        refine lv_iconst (v := 1) hx hb dX0_progression_97 (by decide) ?_
        obtain ⟨r1, hc1, h⟩ := oc_ex h
        refine kc_i (va_runV (As := [.int (L.1 5), .int (L.1 1), .int 1]) (rest := []) ⟨hx, hb, hml, hown, hts⟩ (c_y_X10_added l dC dI cy a z k (lI (lI (lI lZ 1 ((L.1 5))) 2 ((L.1 1))) 3 1) σ r1 hc1 H.size) (cwV 3 hts g_y_X0_progression_X10_added_V94 rfl rfl rfl hd_y_X10_added ⟨Nat.le_of_ble_eq_true rfl, Nat.le_of_ble_eq_true rfl⟩) ⟨nb_blind, va_recv hK hP (ci := 9) (q0 := 4) rfl rfl, (kb_pre hK hG hP hD)⟩ rfl rfl hl.1 rfl (lv_room (Nat.le_of_ble_eq_true rfl)) dX0_progression_98 ⟨Nat.le_refl _, Nat.le_refl _⟩) hA hP hD hS (fun H locs hP hD hS => ?_)
        exact ih.2.2.2.2.2.2.2.2.1 (lI L 100 r1.1) r1.2 r h H locs ls hP hD hS (lv_sub hl [0, 1, 2, 3, 4, 5] rfl)
      · intro L σ r h H locs ls hP hD hS hl
        rw [y_X0_progression] at h
        refine lv_istore (lv' := [(7, .int (L.1 100)), (0, .ref (a 14)), (1, .int (L.1 1)), (3, .int (L.1 3)), (4, .int (L.1 4)), (5, .int (L.1 5)), (6, .int (L.1 6))]) hx hb dX0_progression_101 hl (by decide) rfl (fun ls hl => ?_)
        refine lv_iconst (v := 0) hx hb dX0_progression_103 (by decide) ?_
        refine lv_istore (lv' := [(8, .int 0), (7, .int (L.1 100)), (0, .ref (a 14)), (1, .int (L.1 1)), (3, .int (L.1 3)), (4, .int (L.1 4)), (5, .int (L.1 5)), (6, .int (L.1 6))]) hx hb dX0_progression_104 hl (by decide) rfl (fun ls hl => ?_)
        refine lv_iconst (v := 1) hx hb dX0_progression_106 (by decide) ?_
        refine lv_istore (lv' := [(9, .int 1), (8, .int 0), (7, .int (L.1 100)), (0, .ref (a 14)), (1, .int (L.1 1)), (3, .int (L.1 3)), (4, .int (L.1 4)), (5, .int (L.1 5)), (6, .int (L.1 6))]) hx hb dX0_progression_107 hl (by decide) rfl (fun ls hl => ?_)
        refine lv_iload_n hx hb dX0_progression_109 rfl (lv_at hl 4 rfl) ?_
        refine lv_if_ge (tgt := 152) hx hb dX0_progression_110 (by decide) (fun c1 => ?_) (fun c1 => ?_)
        · rw [if_pos c1] at h
          exact ih.2.2.2.2.2.2.2.2.2.1 (lI (lI (lI L 7 ((L.1 100))) 8 0) 9 1) σ r h H locs ls hP hD hS (lv_sub hl [3, 4, 5, 6, 7, 8, 2, 1, 0] rfl)
        · rw [if_neg c1] at h
          refine lv_iload_n hx hb dX0_progression_113 rfl (lv_at hl 5 rfl) ?_
          refine lv_if_ge (tgt := 152) hx hb dX0_progression_114 (by decide) (fun c2 => ?_) (fun c2 => ?_)
          · rw [if_pos c2] at h
            exact ih.2.2.2.2.2.2.2.2.2.1 (lI (lI (lI L 7 ((L.1 100))) 8 0) 9 1) σ r h H locs ls hP hD hS (lv_sub hl [3, 4, 5, 6, 7, 8, 2, 1, 0] rfl)
          · rw [if_neg c2] at h
            refine lv_iload hx hb dX0_progression_117 (lv_at hl 7 rfl) ?_
            refine lv_if_ge (tgt := 152) hx hb dX0_progression_119 (by decide) (fun c3 => ?_) (fun c3 => ?_)
            · rw [if_pos c3] at h
              exact ih.2.2.2.2.2.2.2.2.2.1 (lI (lI (lI L 7 ((L.1 100))) 8 0) 9 1) σ r h H locs ls hP hD hS (lv_sub hl [3, 4, 5, 6, 7, 8, 2, 1, 0] rfl)
            · rw [if_neg c3] at h
              refine lv_iload hx hb dX0_progression_122 (lv_at hl 7 rfl) ?_
              obtain ⟨r4, hc4, h⟩ := oc_ex h
              refine kc_i (va_runSN (As := [.int (L.1 5)]) (rest := []) ⟨hx, hb, hml, hown, hts⟩ (c_y_X11_isError l dC dI cy a z k (lI lZ 0 ((L.1 5))) σ r4 hc4 H.size) ⟨va_cnB 1 hts g_y_X0_progression_X11_isError_SN72 rfl rfl rfl (hG.1 _ (List.mem_of_getElem? (i := 105) rfl)) (hts _ (List.mem_cons_of_mem _ (List.mem_append_left _ (List.mem_append_left _ (List.mem_of_getElem? (i := 17) rfl))))) hd_y_X11_isError ⟨Nat.le_of_ble_eq_true rfl, Nat.le_of_ble_eq_true rfl⟩, (hts _ (List.mem_cons_of_mem _ (List.mem_append_left _ (List.mem_append_left _ (List.mem_of_getElem? (i := 18) rfl))))), trivial⟩ ⟨nb_blind, (kb_pre hK hG hP hD)⟩ rfl rfl hl.1 rfl (lv_room (Nat.le_of_ble_eq_true rfl)) dX0_progression_124 ⟨Nat.le_refl _, Nat.le_refl _⟩) hA hP hD hS (fun H locs hP hD hS => ?_)
              refine lv_if_ne (tgt := 152) hx hb dX0_progression_127 (by decide) (fun c5 => ?_) (fun c5 => ?_)
              · rw [if_neg c5] at h
                exact ih.2.2.2.2.2.2.2.2.2.1 (lI (lI (lI L 7 ((L.1 100))) 8 0) 9 1) r4.2 r h H locs ls hP hD hS (lv_sub hl [3, 4, 5, 6, 7, 8, 2, 1, 0] rfl)
              · rw [if_pos c5] at h
                refine lv_aload_n hx hb dX0_progression_130 rfl (lv_at hl 3 rfl) ?_
                refine lv_iload_n hx hb dX0_progression_131 rfl (lv_at hl 4 rfl) ?_
                obtain ⟨r6, hc6, h⟩ := oc_ex h
                refine kc_i (va_runS (As := [.int (L.1 1)]) (rest := [.ref (a 14)]) ⟨hx, hb, hml, hown, hts⟩ (c_y_X10_number l dC dI cy a z k (lI lZ 0 ((L.1 1))) r4.2 r6 hc6 H.size) (va_cwS 1 hts g_y_X0_progression_X10_number_S249 rfl rfl rfl hd_y_X10_number ⟨Nat.le_of_ble_eq_true rfl, Nat.le_of_ble_eq_true rfl⟩) ⟨nb_blind, (kb_pre hK hG hP hD)⟩ rfl rfl hl.1 rfl (lv_room (Nat.le_of_ble_eq_true rfl)) dX0_progression_132 ⟨Nat.le_refl _, Nat.le_refl _⟩) hA hP hD hS (fun H locs hP hD hS => ?_)
                refine lv_iload hx hb dX0_progression_135 (lv_at hl 7 rfl) ?_
                obtain ⟨r7, hc7, h⟩ := oc_ex h
                refine kc_i (va_runS (As := [.int (L.1 5)]) (rest := [.int r6.1, .ref (a 14)]) ⟨hx, hb, hml, hown, hts⟩ (c_y_X10_number l dC dI cy a z k (lI lZ 0 ((L.1 5))) r6.2 r7 hc7 H.size) (va_cwS 1 hts g_y_X0_progression_X10_number_S249 rfl rfl rfl hd_y_X10_number ⟨Nat.le_of_ble_eq_true rfl, Nat.le_of_ble_eq_true rfl⟩) ⟨nb_blind, (kb_pre hK hG hP hD)⟩ rfl rfl hl.1 rfl (lv_room (Nat.le_of_ble_eq_true rfl)) dX0_progression_137 ⟨Nat.le_refl _, Nat.le_refl _⟩) hA hP hD hS (fun H locs hP hD hS => ?_)
                exact ih.2.2.2.2.2.2.2.2.2.2.1 (lI (lI (lI L 9 1) 100 r7.1) 101 r6.1) r7.2 r h H locs ls hP hD hS (lv_sub hl [3, 5, 6, 8, 0] rfl)
      · intro L σ r h H locs ls hP hD hS hl
        rw [y_X0_progression] at h
        refine lv_iload_n hx hb dX0_progression_152 rfl (lv_at hl 1 rfl) ?_
        refine lv_istore (lv' := [(10, .int (L.1 1)), (0, .ref (a 14)), (1, .int (L.1 1)), (3, .int (L.1 3)), (4, .int (L.1 4)), (5, .int (L.1 5)), (6, .int (L.1 6)), (7, .int (L.1 7)), (8, .int (L.1 8)), (9, .int (L.1 9))]) hx hb dX0_progression_153 hl (by decide) rfl (fun ls hl => ?_)
        refine lv_iconst (v := 0) hx hb dX0_progression_155 (by decide) ?_
        refine lv_istore (lv' := [(11, .int 0), (10, .int (L.1 1)), (0, .ref (a 14)), (1, .int (L.1 1)), (3, .int (L.1 3)), (4, .int (L.1 4)), (5, .int (L.1 5)), (6, .int (L.1 6)), (7, .int (L.1 7)), (8, .int (L.1 8)), (9, .int (L.1 9))]) hx hb dX0_progression_156 hl (by decide) rfl (fun ls hl => ?_)
        exact ih.2.2.2.2.2.2.2.2.2.2.2.1 (lI (lI L 10 ((L.1 1))) 11 0) σ r h H locs ls hP hD hS (lv_sub hl [2, 4, 5, 6, 7, 8, 9, 10, 1, 0] rfl)
      · intro L σ r h H locs ls hP hD hS hl
        rw [y_X0_progression] at h
        refine lv_iload_n hx hb dX0_progression_140 rfl (lv_at hl 1 rfl) ?_
        obtain ⟨r1, hc1, h⟩ := oc_ex h
        refine kc_i (va_runS (As := [.int (L.1 3)]) (rest := [.int (L.1 100), .int (L.1 101), .ref (a 14)]) ⟨hx, hb, hml, hown, hts⟩ (c_y_X10_number l dC dI cy a z k (lI lZ 0 ((L.1 3))) σ r1 hc1 H.size) (va_cwS 1 hts g_y_X0_progression_X10_number_S249 rfl rfl rfl hd_y_X10_number ⟨Nat.le_of_ble_eq_true rfl, Nat.le_of_ble_eq_true rfl⟩) ⟨nb_blind, (kb_pre hK hG hP hD)⟩ rfl rfl hl.1 rfl (lv_room (Nat.le_of_ble_eq_true rfl)) dX0_progression_141 ⟨Nat.le_refl _, Nat.le_refl _⟩) hA hP hD hS (fun H locs hP hD hS => ?_)
        obtain ⟨r2, hc2, h⟩ := oc_ex h
        refine kc_i (va_runV (As := [.int (L.1 101), .int (L.1 100), .int r1.1]) (rest := []) ⟨hx, hb, hml, hown, hts⟩ (c_y_X0_smallSteps l dC dI cy a z k (lI (lI (lI lZ 1 ((L.1 101))) 2 ((L.1 100))) 3 r1.1) r1.2 r2 hc2 H.size) (cwV 3 hts g_y_X0_progression_X0_smallSteps_V252 rfl rfl rfl hd_y_X0_smallSteps ⟨Nat.le_of_ble_eq_true rfl, Nat.le_of_ble_eq_true rfl⟩) ⟨nb_blind, va_recv hK hP (ci := 0) (q0 := 14) rfl rfl, (kb_pre hK hG hP hD)⟩ rfl rfl hl.1 rfl (lv_room (Nat.le_of_ble_eq_true rfl)) dX0_progression_144 ⟨Nat.le_refl _, Nat.le_refl _⟩) hA hP hD hS (fun H locs hP hD hS => ?_)
        refine lv_istore (lv' := [(8, .int r2.1), (0, .ref (a 14)), (3, .int (L.1 3)), (4, .int (L.1 4)), (6, .int (L.1 6)), (9, .int (L.1 9))]) hx hb dX0_progression_147 hl (by decide) rfl (fun ls hl => ?_)
        refine lv_goto (tgt := 272) hx hb dX0_progression_149 (by decide) ?_
        exact ih.2.2.2.2.2.2.2.2.2.2.2.2.1 (lI L 8 r2.1) r2.2 r h H locs ls hP hD hS (lv_sub hl [1, 3, 4, 0, 5] rfl)
      · intro L σ r h H locs ls hP hD hS hl
        rw [y_X0_progression] at h
        refine lv_iload hx hb dX0_progression_158 (lv_at hl 9 rfl) ?_
        refine lv_sipush (v := 1000) hx hb dX0_progression_160 (by decide) ?_
        refine lv_icmp_gt (tgt := 272) hx hb dX0_progression_163 (by decide) (fun c1 => ?_) (fun c1 => ?_)
        · rw [if_pos c1] at h
          exact ih.2.2.2.2.2.2.2.2.2.2.2.2.1 L σ r h H locs ls hP hD hS (lv_sub hl [0, 2, 4, 6, 7] rfl)
        · rw [if_neg c1] at h
          refine lv_iload hx hb dX0_progression_166 (lv_at hl 7 rfl) ?_
          refine lv_sipush (v := 1000) hx hb dX0_progression_168 (by decide) ?_
          refine lv_icmp_gt (tgt := 272) hx hb dX0_progression_171 (by decide) (fun c2 => ?_) (fun c2 => ?_)
          · rw [if_pos c2] at h
            exact ih.2.2.2.2.2.2.2.2.2.2.2.2.1 L σ r h H locs ls hP hD hS (lv_sub hl [0, 2, 4, 6, 7] rfl)
          · rw [if_neg c2] at h
            refine lv_iload hx hb dX0_progression_174 (lv_at hl 4 rfl) ?_
            refine lv_if_eq (tgt := 272) hx hb dX0_progression_176 (by decide) (fun c3 => ?_) (fun c3 => ?_)
            · rw [if_pos c3] at h
              exact ih.2.2.2.2.2.2.2.2.2.2.2.2.1 L σ r h H locs ls hP hD hS (lv_sub hl [0, 2, 4, 6, 7] rfl)
            · rw [if_neg c3] at h
              refine lv_iload hx hb dX0_progression_179 (lv_at hl 8 rfl) ?_
              obtain ⟨r4, hc4, h⟩ := oc_ex h
              refine kc_i (va_runSN (As := [.int (L.1 10)]) (rest := []) ⟨hx, hb, hml, hown, hts⟩ (c_y_X11_isError l dC dI cy a z k (lI lZ 0 ((L.1 10))) σ r4 hc4 H.size) ⟨va_cnB 1 hts g_y_X0_progression_X11_isError_SN72 rfl rfl rfl (hG.1 _ (List.mem_of_getElem? (i := 105) rfl)) (hts _ (List.mem_cons_of_mem _ (List.mem_append_left _ (List.mem_append_left _ (List.mem_of_getElem? (i := 17) rfl))))) hd_y_X11_isError ⟨Nat.le_of_ble_eq_true rfl, Nat.le_of_ble_eq_true rfl⟩, (hts _ (List.mem_cons_of_mem _ (List.mem_append_left _ (List.mem_append_left _ (List.mem_of_getElem? (i := 18) rfl))))), trivial⟩ ⟨nb_blind, (kb_pre hK hG hP hD)⟩ rfl rfl hl.1 rfl (lv_room (Nat.le_of_ble_eq_true rfl)) dX0_progression_181 ⟨Nat.le_refl _, Nat.le_refl _⟩) hA hP hD hS (fun H locs hP hD hS => ?_)
              refine lv_if_ne (tgt := 272) hx hb dX0_progression_184 (by decide) (fun c5 => ?_) (fun c5 => ?_)
              · rw [if_neg c5] at h
                exact ih.2.2.2.2.2.2.2.2.2.2.2.2.1 L r4.2 r h H locs ls hP hD hS (lv_sub hl [0, 2, 4, 6, 7] rfl)
              · rw [if_pos c5] at h
                refine lv_aload_n hx hb dX0_progression_187 rfl (lv_at hl 0 rfl) ?_
                refine hg_14_0 hx hb hts in_y_X0_progression_X0 hown hK hP (hts _ (List.mem_cons_of_mem _ (List.mem_append_left _ (List.mem_append_left _ (List.mem_of_getElem? (i := 5) rfl))))) dX0_progression_188 ?_
                refine lv_iload hx hb dX0_progression_191 (lv_at hl 8 rfl) ?_
                refine lv_iload_n hx hb dX0_progression_193 rfl (lv_at hl 1 rfl) ?_
                obtain ⟨r6, hc6, h⟩ := oc_ex h
                refine kc_i (va_runV (As := [.int (L.1 10), .int (L.1 3)]) (rest := []) ⟨hx, hb, hml, hown, hts⟩ (c_y_X1_compare l dC dI cy a z k (lI (lI lZ 1 ((L.1 10))) 2 ((L.1 3))) r4.2 r6 hc6 H.size) (cwV 2 hts g_y_X0_progression_X1_compare_V91 rfl rfl rfl hd_y_X1_compare ⟨Nat.le_of_ble_eq_true rfl, Nat.le_of_ble_eq_true rfl⟩) ⟨nb_blind, va_recv hK hP (ci := 1) (q0 := 0) rfl rfl, (kb_pre hK hG hP hD)⟩ rfl rfl hl.1 rfl (lv_room (Nat.le_of_ble_eq_true rfl)) dX0_progression_194 ⟨Nat.le_refl _, Nat.le_refl _⟩) hA hP hD hS (fun H locs hP hD hS => ?_)
                refine lv_iload hx hb dX0_progression_197 (lv_at hl 4 rfl) ?_
                refine lv_imul hx hb dX0_progression_199 ?_
                refine lv_if_gt (tgt := 272) hx hb dX0_progression_200 (by decide) (fun c7 => ?_) (fun c7 => ?_)
                · rw [if_pos c7] at h
                  exact ih.2.2.2.2.2.2.2.2.2.2.2.2.1 L r6.2 r h H locs ls hP hD hS (lv_sub hl [0, 2, 4, 6, 7] rfl)
                · rw [if_neg c7] at h
                  refine lv_iload hx hb dX0_progression_203 (lv_at hl 7 rfl) ?_
                  refine lv_aload_n hx hb dX0_progression_205 rfl (lv_at hl 0 rfl) ?_
                  refine hg_14_0 hx hb hts in_y_X0_progression_X0 hown hK hP (hts _ (List.mem_cons_of_mem _ (List.mem_append_left _ (List.mem_append_left _ (List.mem_of_getElem? (i := 5) rfl))))) dX0_progression_206 ?_
                  refine lv_iload hx hb dX0_progression_209 (lv_at hl 8 rfl) ?_
                  obtain ⟨r8, hc8, h⟩ := oc_ex h
                  refine kc_i (va_runV (As := [.int (L.1 10)]) (rest := [.int (L.1 9)]) ⟨hx, hb, hml, hown, hts⟩ (c_y_X1_size l dC dI cy a z k (lI lZ 1 ((L.1 10))) r6.2 r8 hc8 H.size) (cwV 1 hts g_y_X0_progression_X1_size_V179 rfl rfl rfl hd_y_X1_size ⟨Nat.le_of_ble_eq_true rfl, Nat.le_of_ble_eq_true rfl⟩) ⟨nb_blind, va_recv hK hP (ci := 1) (q0 := 0) rfl rfl, (kb_pre hK hG hP hD)⟩ rfl rfl hl.1 rfl (lv_room (Nat.le_of_ble_eq_true rfl)) dX0_progression_211 ⟨Nat.le_refl _, Nat.le_refl _⟩) hA hP hD hS (fun H locs hP hD hS => ?_)
                  refine lv_iadd hx hb dX0_progression_214 ?_
                  refine lv_istore (lv' := [(9, .int (((L.1 9)) + r8.1)), (0, .ref (a 14)), (3, .int (L.1 3)), (4, .int (L.1 4)), (5, .int (L.1 5)), (6, .int (L.1 6)), (7, .int (L.1 7)), (8, .int (L.1 8)), (10, .int (L.1 10)), (11, .int (L.1 11))]) hx hb dX0_progression_215 hl (by decide) rfl (fun ls hl => ?_)
                  refine lv_aload_n hx hb dX0_progression_217 rfl (lv_at hl 1 rfl) ?_
                  refine hg_14_4 hx hb hts in_y_X0_progression_X0 hown hK hP (hts _ (List.mem_cons_of_mem _ (List.mem_append_left _ (List.mem_append_left _ (List.mem_of_getElem? (i := 30) rfl))))) dX0_progression_218 ?_
                  refine lv_iload hx hb dX0_progression_221 (lv_at hl 7 rfl) ?_
                  refine lv_iload hx hb dX0_progression_223 (lv_at hl 8 rfl) ?_
                  obtain ⟨q9, h⟩ := kb_ite1 h
                  refine hs_16 hx hb hK hP hD hS q9 dX0_progression_225 (fun H locs hP hD hS => ?_)
                  refine lv_iinc (v := ((L.1 8)) + 1) (lv' := [(8, .int (((L.1 8)) + 1)), (9, .int (((L.1 9)) + r8.1)), (0, .ref (a 14)), (3, .int (L.1 3)), (4, .int (L.1 4)), (5, .int (L.1 5)), (6, .int (L.1 6)), (7, .int (L.1 7)), (10, .int (L.1 10)), (11, .int (L.1 11))]) hx hb dX0_progression_226 hl (k := 7) rfl rfl (by decide) rfl (fun ls hl => ?_)
                  refine lv_iload hx hb dX0_progression_229 (lv_at hl 9 rfl) ?_
                  refine lv_if_ne (tgt := 239) hx hb dX0_progression_231 (by decide) (fun c10 => ?_) (fun c10 => ?_)
                  · rw [if_neg c10] at h
                    exact ih.2.2.2.2.2.2.2.2.2.2.2.2.2.1 (lI (lI L 8 ((((L.1 8)) + 1))) 9 ((((L.1 9)) + r8.1))) (uA r8.2 16 ((L.1 8)).toNatClampNeg ((L.1 10))) r h H locs ls hP hD hS (lv_sub hl [2, 3, 4, 5, 6, 7, 0, 1, 8, 9] rfl)
                  · rw [if_pos c10] at h
                    refine lv_iload hx hb dX0_progression_234 (lv_at hl 5 rfl) ?_
                    refine lv_goto (tgt := 264) hx hb dX0_progression_236 (by decide) ?_
                    exact ih.2.2.2.2.2.2.2.2.2.2.2.2.2.2.1 (lI (lI (lI L 8 ((((L.1 8)) + 1))) 9 ((((L.1 9)) + r8.1))) 100 ((L.1 5))) (uA r8.2 16 ((L.1 8)).toNatClampNeg ((L.1 10))) r h H locs ls hP hD hS (lv_sub hl [2, 3, 4, 5, 6, 7, 0, 1, 9] rfl)
      · intro L σ r h H locs ls hP hD hS hl
        rw [y_X0_progression] at h
        refine lv_iload hx hb dX0_progression_272 (lv_at hl 4 rfl) ?_
        refine lv_sipush (v := 1000) hx hb dX0_progression_274 (by decide) ?_
        refine lv_icmp_le (tgt := 283) hx hb dX0_progression_277 (by decide) (fun c1 => ?_) (fun c1 => ?_)
        · rw [if_pos c1] at h
          exact ih.2.2.2.2.2.2.2.2.2.2.2.2.2.2.2.1 L σ r h H locs ls hP hD hS (lv_sub hl [0, 1, 2, 3] rfl)
        · rw [if_neg c1] at h
          refine lv_ldc (v := (-268435451)) hx hb hown (hts _ (List.mem_cons_of_mem _ (List.mem_append_left _ (List.mem_append_left _ (List.mem_of_getElem? (i := 31) rfl))))) dX0_progression_280 ?_
          obtain rfl := Option.some.inj h
          exact W.iret (v := (-268435451)) hx hb hr (fun t ht hW => ⟨⟨(-268435451), (), rfl, rfl, by rw [ht]; exact hP, va_K.moved hW.alike hK, hD⟩, hS.F ht⟩) hS.2.2 dX0_progression_282
      · intro L σ r h H locs ls hP hD hS hl
        rw [y_X0_progression] at h
        refine lv_iload hx hb dX0_progression_239 (lv_at hl 5 rfl) ?_
        obtain ⟨r1, hc1, h⟩ := oc_ex h
        refine kc_i (va_runSN (As := [.int (L.1 7)]) (rest := []) ⟨hx, hb, hml, hown, hts⟩ (c_y_X11_isError l dC dI cy a z k (lI lZ 0 ((L.1 7))) σ r1 hc1 H.size) ⟨va_cnB 1 hts g_y_X0_progression_X11_isError_SN72 rfl rfl rfl (hG.1 _ (List.mem_of_getElem? (i := 105) rfl)) (hts _ (List.mem_cons_of_mem _ (List.mem_append_left _ (List.mem_append_left _ (List.mem_of_getElem? (i := 17) rfl))))) hd_y_X11_isError ⟨Nat.le_of_ble_eq_true rfl, Nat.le_of_ble_eq_true rfl⟩, (hts _ (List.mem_cons_of_mem _ (List.mem_append_left _ (List.mem_append_left _ (List.mem_of_getElem? (i := 18) rfl))))), trivial⟩ ⟨nb_blind, (kb_pre hK hG hP hD)⟩ rfl rfl hl.1 rfl (lv_room (Nat.le_of_ble_eq_true rfl)) dX0_progression_241 ⟨Nat.le_refl _, Nat.le_refl _⟩) hA hP hD hS (fun H locs hP hD hS => ?_)
        refine lv_if_eq (tgt := 252) hx hb dX0_progression_244 (by decide) (fun c2 => ?_) (fun c2 => ?_)
        · rw [if_pos c2] at h
          exact ih.2.2.2.2.2.2.2.2.2.2.2.2.2.2.2.2.1 L r1.2 r h H locs ls hP hD hS (lv_sub hl [0, 1, 2, 3, 4, 5, 6, 7, 8, 9] rfl)
        · rw [if_neg c2] at h
          refine lv_iload hx hb dX0_progression_247 (lv_at hl 5 rfl) ?_
          refine lv_goto (tgt := 264) hx hb dX0_progression_249 (by decide) ?_
          exact ih.2.2.2.2.2.2.2.2.2.2.2.2.2.2.1 (lI L 100 ((L.1 7))) r1.2 r h H locs ls hP hD hS (lv_sub hl [0, 1, 2, 3, 4, 5, 6, 7, 9] rfl)
      · intro L σ r h H locs ls hP hD hS hl
        rw [y_X0_progression] at h
        refine lv_istore (lv' := [(10, .int (L.1 100)), (0, .ref (a 14)), (3, .int (L.1 3)), (4, .int (L.1 4)), (5, .int (L.1 5)), (6, .int (L.1 6)), (7, .int (L.1 7)), (8, .int (L.1 8)), (9, .int (L.1 9)), (11, .int (L.1 11))]) hx hb dX0_progression_264 hl (by decide) rfl (fun ls hl => ?_)
        refine lv_iinc (v := ((L.1 11)) + 1) (lv' := [(11, .int (((L.1 11)) + 1)), (10, .int (L.1 100)), (0, .ref (a 14)), (3, .int (L.1 3)), (4, .int (L.1 4)), (5, .int (L.1 5)), (6, .int (L.1 6)), (7, .int (L.1 7)), (8, .int (L.1 8)), (9, .int (L.1 9))]) hx hb dX0_progression_266 hl (k := 9) rfl rfl (by decide) rfl (fun ls hl => ?_)
        refine lv_goto (tgt := 158) hx hb dX0_progression_269 (by decide) ?_
        exact ih.2.2.2.2.2.2.2.2.2.2.2.1 (lI (lI L 10 ((L.1 100))) 11 ((((L.1 11)) + 1))) σ r h H locs ls hP hD hS (lv_sub hl [2, 3, 4, 5, 6, 7, 8, 9, 1, 0] rfl)
      · intro L σ r h H locs ls hP hD hS hl
        rw [y_X0_progression] at h
        refine lv_iload hx hb dX0_progression_283 (lv_at hl 1 rfl) ?_
        refine lv_if_ne (tgt := 303) hx hb dX0_progression_285 (by decide) (fun c1 => ?_) (fun c1 => ?_)
        · rw [if_neg c1] at h
          exact ih.2.2.2.2.2.2.2.2.2.2.2.2.2.2.2.2.2.1 L σ r h H locs ls hP hD hS (lv_sub hl [0, 2, 3] rfl)
        · rw [if_pos c1] at h
          refine lv_aload_n hx hb dX0_progression_288 rfl (lv_at hl 0 rfl) ?_
          refine hg_14_0 hx hb hts in_y_X0_progression_X0 hown hK hP (hts _ (List.mem_cons_of_mem _ (List.mem_append_left _ (List.mem_append_left _ (List.mem_of_getElem? (i := 5) rfl))))) dX0_progression_289 ?_
          refine lv_aload_n hx hb dX0_progression_292 rfl (lv_at hl 0 rfl) ?_
          refine hg_14_4 hx hb hts in_y_X0_progression_X0 hown hK hP (hts _ (List.mem_cons_of_mem _ (List.mem_append_left _ (List.mem_append_left _ (List.mem_of_getElem? (i := 30) rfl))))) dX0_progression_293 ?_
          refine lv_iconst (v := 0) hx hb dX0_progression_296 (by decide) ?_
          refine lv_iload hx hb dX0_progression_297 (lv_at hl 3 rfl) ?_
          obtain ⟨r2, hc2, h⟩ := oc_ex h
          refine kc_i (va_runV (As := [.ref (a 16), .int 0, .int (L.1 8)]) (rest := []) ⟨hx, hb, hml, hown, hts⟩ (c_y_X1_makeTuple__a16 l dC dI cy a z k (lI (lI lZ 2 0) 3 ((L.1 8))) σ r2 hc2 H.size) (cwV 3 hts g_y_X0_progression_X1_makeTuple__a16_V107 rfl rfl rfl hd_y_X1_makeTuple__a16 ⟨Nat.le_of_ble_eq_true rfl, Nat.le_of_ble_eq_true rfl⟩) ⟨nb_blind, va_recv hK hP (ci := 1) (q0 := 0) rfl rfl, (kb_pre hK hG hP hD)⟩ rfl rfl hl.1 rfl (lv_room (Nat.le_of_ble_eq_true rfl)) dX0_progression_299 ⟨Nat.le_refl _, Nat.le_refl _⟩) hA hP hD hS (fun H locs hP hD hS => ?_)
          obtain rfl := Option.some.inj h
          exact W.iret (v := r2.1) hx hb hr (fun t ht hW => ⟨⟨r2.1, (), rfl, rfl, by rw [ht]; exact hP, va_K.moved hW.alike hK, hD⟩, hS.F ht⟩) hS.2.2 dX0_progression_302
      · intro L σ r h H locs ls hP hD hS hl
        rw [y_X0_progression] at h
        refine lv_aload_n hx hb dX0_progression_252 rfl (lv_at hl 0 rfl) ?_
        refine hg_14_1 hx hb hts in_y_X0_progression_X0 hown hK hP (hts _ (List.mem_cons_of_mem _ (List.mem_append_left _ (List.mem_append_left _ (List.mem_of_getElem? (i := 11) rfl))))) dX0_progression_253 ?_
        refine lv_iload hx hb dX0_progression_256 (lv_at hl 8 rfl) ?_
        refine lv_iload hx hb dX0_progression_258 (lv_at hl 5 rfl) ?_
        refine lv_iconst (v := 0) hx hb dX0_progression_260 (by decide) ?_
        obtain ⟨r1, hc1, h⟩ := oc_ex h
        refine kc_i (va_runV (As := [.int (L.1 10), .int (L.1 7), .int 0]) (rest := []) ⟨hx, hb, hml, hown, hts⟩ (c_y_X10_added l dC dI cy a z k (lI (lI (lI lZ 1 ((L.1 10))) 2 ((L.1 7))) 3 0) σ r1 hc1 H.size) (cwV 3 hts g_y_X0_progression_X10_added_V94 rfl rfl rfl hd_y_X10_added ⟨Nat.le_of_ble_eq_true rfl, Nat.le_of_ble_eq_true rfl⟩) ⟨nb_blind, va_recv hK hP (ci := 9) (q0 := 4) rfl rfl, (kb_pre hK hG hP hD)⟩ rfl rfl hl.1 rfl (lv_room (Nat.le_of_ble_eq_true rfl)) dX0_progression_261 ⟨Nat.le_refl _, Nat.le_refl _⟩) hA hP hD hS (fun H locs hP hD hS => ?_)
        exact ih.2.2.2.2.2.2.2.2.2.2.2.2.2.2.1 (lI L 100 r1.1) r1.2 r h H locs ls hP hD hS (lv_sub hl [0, 1, 2, 3, 4, 5, 6, 7, 9] rfl)
      · intro L σ r h H locs ls hP hD hS hl
        rw [y_X0_progression] at h
        refine lv_iconst (v := 0) hx hb dX0_progression_303 (by decide) ?_
        refine lv_istore (lv' := [(10, .int 0), (0, .ref (a 14)), (6, .int (L.1 6)), (8, .int (L.1 8))]) hx hb dX0_progression_304 hl (by decide) rfl (fun ls hl => ?_)
        exact ih.2.2.2.2.2.2.2.2.2.2.2.2.2.2.2.2.2.2.1 (lI L 10 0) σ r h H locs ls hP hD hS (lv_sub hl [1, 2, 3, 0] rfl)
      · intro L σ r h H locs ls hP hD hS hl
        rw [y_X0_progression] at h
        refine lv_iload hx hb dX0_progression_306 (lv_at hl 1 rfl) ?_
        refine lv_if_ge (tgt := 368) hx hb dX0_progression_308 (by decide) (fun c1 => ?_) (fun c1 => ?_)
        · rw [if_pos c1] at h
          exact ih.2.2.2.2.2.2.2.2.2.2.2.2.2.2.2.2.2.2.2 L σ r h H locs ls hP hD hS (lv_sub hl [0, 2] rfl)
        · rw [if_neg c1] at h
          refine lv_iload hx hb dX0_progression_311 (lv_at hl 3 rfl) ?_
          refine lv_iload hx hb dX0_progression_313 (lv_at hl 2 rfl) ?_
          refine lv_iconst (v := 2) hx hb dX0_progression_315 (by decide) ?_
          obtain ⟨q2, h⟩ := kb_ite0 h
          refine lv_idiv hx hb dX0_progression_316 q2 ?_
          refine lv_icmp_ge (tgt := 368) hx hb dX0_progression_317 (by decide) (fun c3 => ?_) (fun c3 => ?_)
          · rw [if_pos c3] at h
            exact ih.2.2.2.2.2.2.2.2.2.2.2.2.2.2.2.2.2.2.2 L σ r h H locs ls hP hD hS (lv_sub hl [0, 2] rfl)
          · rw [if_neg c3] at h
            refine lv_aload_n hx hb dX0_progression_320 rfl (lv_at hl 0 rfl) ?_
            refine hg_14_4 hx hb hts in_y_X0_progression_X0 hown hK hP (hts _ (List.mem_cons_of_mem _ (List.mem_append_left _ (List.mem_append_left _ (List.mem_of_getElem? (i := 30) rfl))))) dX0_progression_321 ?_
            refine lv_iload hx hb dX0_progression_324 (lv_at hl 3 rfl) ?_
            obtain ⟨q4, h⟩ := kb_ite1 h
            refine hl_16 hx hb hK hP q4 dX0_progression_326 ?_
            refine lv_istore (lv' := [(11, .int (σ.2.2.1 16 ((L.1 10)).toNatClampNeg)), (0, .ref (a 14)), (6, .int (L.1 6)), (8, .int (L.1 8)), (10, .int (L.1 10))]) hx hb dX0_progression_327 hl (by decide) rfl (fun ls hl => ?_)
            refine lv_aload_n hx hb dX0_progression_329 rfl (lv_at hl 1 rfl) ?_
            refine hg_14_4 hx hb hts in_y_X0_progression_X0 hown hK hP (hts _ (List.mem_cons_of_mem _ (List.mem_append_left _ (List.mem_append_left _ (List.mem_of_getElem? (i := 30) rfl))))) dX0_progression_330 ?_
            refine lv_iload hx hb dX0_progression_333 (lv_at hl 4 rfl) ?_
            refine lv_aload_n hx hb dX0_progression_335 rfl (lv_at hl 1 rfl) ?_
            refine hg_14_4 hx hb hts in_y_X0_progression_X0 hown hK hP (hts _ (List.mem_cons_of_mem _ (List.mem_append_left _ (List.mem_append_left _ (List.mem_of_getElem? (i := 30) rfl))))) dX0_progression_336 ?_
            refine lv_iload hx hb dX0_progression_339 (lv_at hl 3 rfl) ?_
            refine lv_iconst (v := 1) hx hb dX0_progression_341 (by decide) ?_
            refine lv_isub hx hb dX0_progression_342 ?_
            refine lv_iload hx hb dX0_progression_343 (lv_at hl 4 rfl) ?_
            refine lv_isub hx hb dX0_progression_345 ?_
            obtain ⟨q5, h⟩ := kb_ite1 h
            refine hl_16 hx hb hK hP q5 dX0_progression_346 ?_
            obtain ⟨q6, h⟩ := kb_ite1 h
            refine hs_16 hx hb hK hP hD hS q6 dX0_progression_347 (fun H locs hP hD hS => ?_)
            refine lv_aload_n hx hb dX0_progression_348 rfl (lv_at hl 1 rfl) ?_
            refine hg_14_4 hx hb hts in_y_X0_progression_X0 hown hK hP (hts _ (List.mem_cons_of_mem _ (List.mem_append_left _ (List.mem_append_left _ (List.mem_of_getElem? (i := 30) rfl))))) dX0_progression_349 ?_
            refine lv_iload hx hb dX0_progression_352 (lv_at hl 3 rfl) ?_
            refine lv_iconst (v := 1) hx hb dX0_progression_354 (by decide) ?_
            refine lv_isub hx hb dX0_progression_355 ?_
            refine lv_iload hx hb dX0_progression_356 (lv_at hl 4 rfl) ?_
            refine lv_isub hx hb dX0_progression_358 ?_
            refine lv_iload hx hb dX0_progression_359 (lv_at hl 0 rfl) ?_
            obtain ⟨q7, h⟩ := kb_ite1 h
            refine hs_16 hx hb hK hP hD hS q7 dX0_progression_361 (fun H locs hP hD hS => ?_)
            refine lv_iinc (v := ((L.1 10)) + 1) (lv' := [(10, .int (((L.1 10)) + 1)), (11, .int (σ.2.2.1 16 ((L.1 10)).toNatClampNeg)), (0, .ref (a 14)), (6, .int (L.1 6)), (8, .int (L.1 8))]) hx hb dX0_progression_362 hl (k := 4) rfl rfl (by decide) rfl (fun ls hl => ?_)
            refine lv_goto (tgt := 306) hx hb dX0_progression_365 (by decide) ?_
            exact ih.2.2.2.2.2.2.2.2.2.2.2.2.2.2.2.2.2.2.1 (lI L 10 ((((L.1 10)) + 1))) (uA (uA σ 16 ((L.1 10)).toNatClampNeg ((σ.2.2.1 16 ((((((L.1 8)) - 1)) - ((L.1 10)))).toNatClampNeg))) 16 ((((((L.1 8)) - 1)) - ((L.1 10)))).toNatClampNeg ((σ.2.2.1 16 ((L.1 10)).toNatClampNeg))) r h H locs ls hP hD hS (lv_sub hl [2, 3, 4, 0] rfl)
      · intro L σ r h H locs ls hP hD hS hl
        rw [y_X0_progression] at h
        refine lv_aload_n hx hb dX0_progression_368 rfl (lv_at hl 0 rfl) ?_
        refine hg_14_0 hx hb hts in_y_X0_progression_X0 hown hK hP (hts _ (List.mem_cons_of_mem _ (List.mem_append_left _ (List.mem_append_left _ (List.mem_of_getElem? (i := 5) rfl))))) dX0_progression_369 ?_
        refine lv_bipush (v := 6) hx hb dX0_progression_372 (by decide) ?_
        refine lv_aload_n hx hb dX0_progression_374 rfl (lv_at hl 0 rfl) ?_
        refine hg_14_4 hx hb hts in_y_X0_progression_X0 hown hK hP (hts _ (List.mem_cons_of_mem _ (List.mem_append_left _ (List.mem_append_left _ (List.mem_of_getElem? (i := 30) rfl))))) dX0_progression_375 ?_
        refine lv_iconst (v := 0) hx hb dX0_progression_378 (by decide) ?_
        refine lv_iload hx hb dX0_progression_379 (lv_at hl 1 rfl) ?_
        obtain ⟨r1, hc1, h⟩ := oc_ex h
        refine kc_i (va_runV (As := [.int 6, .ref (a 16), .int 0, .int (L.1 8)]) (rest := []) ⟨hx, hb, hml, hown, hts⟩ (c_y_X1_makeRow__a16 l dC dI cy a z k (lI (lI (lI lZ 1 6) 3 0) 4 ((L.1 8))) σ r1 hc1 H.size) (cwV 4 hts g_y_X0_progression_X1_makeRow__a16_V160 rfl rfl rfl hd_y_X1_makeRow__a16 ⟨Nat.le_of_ble_eq_true rfl, Nat.le_of_ble_eq_true rfl⟩) ⟨nb_blind, va_recv hK hP (ci := 1) (q0 := 0) rfl rfl, (kb_pre hK hG hP hD)⟩ rfl rfl hl.1 rfl (lv_room (Nat.le_of_ble_eq_true rfl)) dX0_progression_381 ⟨Nat.le_refl _, Nat.le_refl _⟩) hA hP hD hS (fun H locs hP hD hS => ?_)
        obtain rfl := Option.some.inj h
        exact W.iret (v := r1.1) hx hb hr (fun t ht hW => ⟨⟨r1.1, (), rfl, rfl, by rw [ht]; exact hP, va_K.moved hW.alike hK, hD⟩, hS.F ht⟩) hS.2.2 dX0_progression_384
  exact (blk k0).1 L0 σ0 r0 h0 s.heap [] ls hP hD hS hl
/-! X1_taken -/
def y_X1_taken : Nat → Nat → LV → CS → Option (Int32 × CS)
  | 0, _, _, _ => none
  | k + 1, 0, L, σ => oc (y_X1_kind k 0 (lI lZ 1 ((L.1 1))) σ) (fun r1 => if r1.1 = 4 then (oc (y_X1_byteAt k 0 (lI (lI lZ 1 ((L.1 1))) 2 ((L.1 2))) r1.2) (fun r3 => y_X1_taken k 2 (lI L 100 ((((-1073741824)) ||| r3.1))) r3.2)) else (y_X1_taken k 1 L r1.2))
  | k + 1, 1, L, σ => oc (y_X1_member k 0 (lI (lI lZ 1 ((L.1 1))) 2 ((L.1 2))) σ) (fun r1 => y_X1_taken k 2 (lI L 100 r1.1) r1.2)
  | k + 1, 2, L, σ => some ((L.1 100), σ)
  | _ + 1, _ + 3, _, _ => none
def o_y_X1_taken : List Cond := [.methodLink RX1 36 yX1_kind, .instanceMethod yX1_kind, .selects RX1 yX1_kind yX1_kind, .initialized RX1, .constant RX1 34 (-1073741824), .methodLink RX1 45 yX1_byteAt, .instanceMethod yX1_byteAt, .selects RX1 yX1_byteAt yX1_byteAt, .methodLink RX1 49 yX1_member, .instanceMethod yX1_member, .selects RX1 yX1_member yX1_member]
theorem o_y_X1_taken_good : o_y_X1_taken.all goodWord = true := by decide +kernel
def p_y_X1_taken : List Cond := o_y_X1_taken ++ ((.code yX1_kind cX1_kind 2 (some .int) :: p_y_X1_kind) ++ ((.code yX1_byteAt cX1_byteAt 3 (some .int) :: p_y_X1_byteAt) ++ ((.code yX1_member cX1_member 3 (some .int) :: p_y_X1_member) ++ [])))
theorem p_y_X1_taken_good : p_y_X1_taken.all goodWord = true := nb_all2 o_y_X1_taken_good (nb_all2 (nb_allc (by decide +kernel) p_y_X1_kind_good) (nb_all2 (nb_allc (by decide +kernel) p_y_X1_byteAt_good) (nb_all2 (nb_allc (by decide +kernel) p_y_X1_member_good) rfl)))
def w_y_X1_taken : List Cond := .code yX1_taken cX1_taken 3 (some .int) :: (p_y_X1_taken ++ fC)
theorem w_y_X1_taken_good : w_y_X1_taken.all goodWord = true := nb_allc (by decide +kernel) (nb_all2 p_y_X1_taken_good fC_good)
theorem hd_y_X1_taken : yX1_taken.cls = RX1 ∧ yX1_taken.cls ≠ "java/lang/invoke/MethodHandle" ∧ yX1_taken.cls ≠ "java/lang/invoke/VarHandle" ∧ (parseMethodDescriptor yX1_taken.desc).map (fun d => d.parameters.length) = some 2 := by decide +kernel
theorem gg_y_X1_taken_X1_byteAt : GoodIn w_y_X1_taken w_y_X1_byteAt := goodIn_sub (fun w h => (List.mem_cons.mp h).elim (fun e => (List.mem_cons_of_mem _ (List.mem_append_left _ (List.mem_append_right _ (List.mem_append_right _ (List.mem_append_left _ (List.mem_cons.mpr (Or.inl e)))))))) (fun h => (List.mem_append.mp h).elim (fun h => (List.mem_cons_of_mem _ (List.mem_append_left _ (List.mem_append_right _ (List.mem_append_right _ (List.mem_append_left _ (List.mem_cons_of_mem _ h))))))) (fun h => List.mem_cons_of_mem _ (List.mem_append_right _ h)))) w_y_X1_byteAt_good
theorem g_y_X1_taken_X1_byteAt_V45 : GoodIn w_y_X1_taken (wsV RX1 45 RX1 yX1_byteAt w_y_X1_byteAt) := goodIn_app (nb_g4 (List.mem_cons_of_mem _ (List.mem_append_left _ (List.mem_append_left _ (List.mem_of_getElem? (i := 5) rfl)))) (List.mem_cons_of_mem _ (List.mem_append_left _ (List.mem_append_left _ (List.mem_of_getElem? (i := 6) rfl)))) (List.mem_cons_of_mem _ (List.mem_append_left _ (List.mem_append_left _ (List.mem_of_getElem? (i := 7) rfl)))) (List.mem_cons_of_mem _ (List.mem_append_left _ (List.mem_append_left _ (List.mem_of_getElem? (i := 3) rfl)))) (by decide +kernel)) gg_y_X1_taken_X1_byteAt
theorem gg_y_X1_taken_X1_kind : GoodIn w_y_X1_taken w_y_X1_kind := goodIn_sub (fun w h => (List.mem_cons.mp h).elim (fun e => (List.mem_cons_of_mem _ (List.mem_append_left _ (List.mem_append_right _ (List.mem_append_left _ (List.mem_cons.mpr (Or.inl e))))))) (fun h => (List.mem_append.mp h).elim (fun h => (List.mem_cons_of_mem _ (List.mem_append_left _ (List.mem_append_right _ (List.mem_append_left _ (List.mem_cons_of_mem _ h)))))) (fun h => List.mem_cons_of_mem _ (List.mem_append_right _ h)))) w_y_X1_kind_good
theorem g_y_X1_taken_X1_kind_V36 : GoodIn w_y_X1_taken (wsV RX1 36 RX1 yX1_kind w_y_X1_kind) := goodIn_app (nb_g4 (List.mem_cons_of_mem _ (List.mem_append_left _ (List.mem_append_left _ (List.mem_of_getElem? (i := 0) rfl)))) (List.mem_cons_of_mem _ (List.mem_append_left _ (List.mem_append_left _ (List.mem_of_getElem? (i := 1) rfl)))) (List.mem_cons_of_mem _ (List.mem_append_left _ (List.mem_append_left _ (List.mem_of_getElem? (i := 2) rfl)))) (List.mem_cons_of_mem _ (List.mem_append_left _ (List.mem_append_left _ (List.mem_of_getElem? (i := 3) rfl)))) (by decide +kernel)) gg_y_X1_taken_X1_kind
theorem gg_y_X1_taken_X1_member : GoodIn w_y_X1_taken w_y_X1_member := goodIn_sub (fun w h => (List.mem_cons.mp h).elim (fun e => (List.mem_cons_of_mem _ (List.mem_append_left _ (List.mem_append_right _ (List.mem_append_right _ (List.mem_append_right _ (List.mem_append_left _ (List.mem_cons.mpr (Or.inl e))))))))) (fun h => (List.mem_append.mp h).elim (fun h => (List.mem_cons_of_mem _ (List.mem_append_left _ (List.mem_append_right _ (List.mem_append_right _ (List.mem_append_right _ (List.mem_append_left _ (List.mem_cons_of_mem _ h)))))))) (fun h => List.mem_cons_of_mem _ (List.mem_append_right _ h)))) w_y_X1_member_good
theorem g_y_X1_taken_X1_member_V49 : GoodIn w_y_X1_taken (wsV RX1 49 RX1 yX1_member w_y_X1_member) := goodIn_app (nb_g4 (List.mem_cons_of_mem _ (List.mem_append_left _ (List.mem_append_left _ (List.mem_of_getElem? (i := 8) rfl)))) (List.mem_cons_of_mem _ (List.mem_append_left _ (List.mem_append_left _ (List.mem_of_getElem? (i := 9) rfl)))) (List.mem_cons_of_mem _ (List.mem_append_left _ (List.mem_append_left _ (List.mem_of_getElem? (i := 10) rfl)))) (List.mem_cons_of_mem _ (List.mem_append_left _ (List.mem_append_left _ (List.mem_of_getElem? (i := 3) rfl)))) (by decide +kernel)) gg_y_X1_taken_X1_member
set_option maxHeartbeats 40000000 in
set_option maxRecDepth 100000 in
theorem c_y_X1_taken (l : Launch) (dC : Nat → ClassId) (dI : Nat → Nat → Nat) (cy : Nat → ClassId) (a z : Nat → Nat) (k0 : Nat) (L0 : LV) (σ0 : CS) (r0 : Int32 × CS) (h0 : y_X1_taken k0 0 L0 σ0 = some r0) (sz : Nat) : Met l yX1_taken w_y_X1_taken ({ frames := 1, cells := 0, slots := 0, locals := 22 }) (va_Pc [.ref (a 0), .int (L0.1 1), .int (L0.1 2)] (nIn (dC, dI) cy sz (vC cy a z σ0))) (va_Qi (fun (x : Int32) (_ : Unit) => x = r0.1) (fun _ t => nOut (dC, dI) cy (va_A (vC cy a z σ0) sz) (vC cy a z r0.2) t) (va_A (vC cy a z σ0) sz)) 0 0 (va_A (vC cy a z σ0) sz) := by
  refine Met.ofW (cc := cX1_taken) (maxL := 3) (ret := (some .int)) (by decide) rfl ?_
  intro p e s m args below meth c s₁ B hml hv
  obtain ⟨rfl, hsz, hP, hK, hD0, hG⟩ := hv
  have hx := B.exec
  have hb := B.bytes
  have hr := B.returns
  have hts := atoms_spec (ws := w_y_X1_taken) B.pre
  have hown : s.vm.findClass RX1 = some m.cls := findClass_of_methodNamed B.named
  have hlocks := B.notSynchronized
  subst hsz
  have hD := hD0.self (sz := s.heap.size)
  generalize hAe : va_A (vC cy a z σ0) s.heap.size = A at hD ⊢
  have hA : ∀ q : Nat, s.heap.size ≤ q → A q := fun q h => by rw [← hAe]; exact Or.inr h
  have hS : va_S A s.heap s.heap [] := va_S.rf
  have hl := lv_entry ([.ref (a 0), .int (L0.1 1), .int (L0.1 2)]) (n := 3) (Nat.le_of_ble_eq_true rfl)
  rw [lg_entry_eq]
  generalize (lg_sl ([.ref (a 0), .int (L0.1 1), .int (L0.1 2)]) ++ List.replicate (3 - (lg_sl ([.ref (a 0), .int (L0.1 1), .int (L0.1 2)])).length) Slot.unset).toArray = ls at hl ⊢
  have hl : lv_has ls 3 [(0, .ref (a 0)), (1, .int (L0.1 1)), (2, .int (L0.1 2))] := hl
  have blk : ∀ k : Nat, (bC p l e (headSpec w_y_X1_taken ({ frames := 1, cells := 0, slots := 0, locals := 22 })).room s m #[.ref (a 0), .int (L0.1 1), .int (L0.1 2)] below meth c dC dI cy a z A (kI dC dI cy a z A below #[.ref (a 0), .int (L0.1 1), .int (L0.1 2)] s) 3 (y_X1_taken k 0) (fun L => [(0, .ref (a 0)), (1, .int (L.1 1)), (2, .int (L.1 2))]) 0 (fun L => [])) ∧ (bC p l e (headSpec w_y_X1_taken ({ frames := 1, cells := 0, slots := 0, locals := 22 })).room s m #[.ref (a 0), .int (L0.1 1), .int (L0.1 2)] below meth c dC dI cy a z A (kI dC dI cy a z A below #[.ref (a 0), .int (L0.1 1), .int (L0.1 2)] s) 3 (y_X1_taken k 1) (fun L => [(0, .ref (a 0)), (1, .int (L.1 1)), (2, .int (L.1 2))]) 21 (fun L => [])) ∧ (bC p l e (headSpec w_y_X1_taken ({ frames := 1, cells := 0, slots := 0, locals := 22 })).room s m #[.ref (a 0), .int (L0.1 1), .int (L0.1 2)] below meth c dC dI cy a z A (kI dC dI cy a z A below #[.ref (a 0), .int (L0.1 1), .int (L0.1 2)] s) 3 (y_X1_taken k 2) (fun L => []) 27 (fun L => [.int (L.1 100)])) := by
    intro k
    induction k with
    | zero => exact ⟨fun L σ r h => (by cases h), fun L σ r h => (by cases h), fun L σ r h => (by cases h)⟩
    | succ k ih =>
      refine ⟨?_, ?_, ?_⟩
      · intro L σ r h H locs ls hP hD hS hl
        rw [y_X1_taken] at h
        refine lv_aload_n hx hb dX1_taken_0 rfl (lv_at hl 0 rfl) ?_
        refine lv_iload_n hx hb dX1_taken_1 rfl (lv_at hl 1 rfl) ?_
        obtain ⟨r1, hc1, h⟩ := oc_ex h
        refine kc_i (va_runV (As := [.int (L.1 1)]) (rest := []) ⟨hx, hb, hml, hown, hts⟩ (c_y_X1_kind l dC dI cy a z k (lI lZ 1 ((L.1 1))) σ r1 hc1 H.size) (cwV 1 hts g_y_X1_taken_X1_kind_V36 rfl rfl rfl hd_y_X1_kind ⟨Nat.le_of_ble_eq_true rfl, Nat.le_of_ble_eq_true rfl⟩) ⟨nb_blind, va_recv hK hP (ci := 1) (q0 := 0) rfl rfl, (kb_pre hK hG hP hD)⟩ rfl rfl hl.1 rfl (lv_room (Nat.le_of_ble_eq_true rfl)) dX1_taken_2 ⟨Nat.le_refl _, Nat.le_refl _⟩) hA hP hD hS (fun H locs hP hD hS => ?_)
        refine lv_iconst (v := 4) hx hb dX1_taken_5 (by decide) ?_
        refine lv_icmp_ne (tgt := 21) hx hb dX1_taken_6 (by decide) (fun c2 => ?_) (fun c2 => ?_)
        · rw [if_neg c2] at h
          exact ih.2.1 L r1.2 r h H locs ls hP hD hS (lv_sub hl [0, 1, 2] rfl)
        · rw [if_pos c2] at h
          refine lv_ldc (v := (-1073741824)) hx hb hown (hts _ (List.mem_cons_of_mem _ (List.mem_append_left _ (List.mem_append_left _ (List.mem_of_getElem? (i := 4) rfl))))) dX1_taken_9 ?_
          refine lv_aload_n hx hb dX1_taken_11 rfl (lv_at hl 0 rfl) ?_
          refine lv_iload_n hx hb dX1_taken_12 rfl (lv_at hl 1 rfl) ?_
          refine lv_iload_n hx hb dX1_taken_13 rfl (lv_at hl 2 rfl) ?_
          obtain ⟨r3, hc3, h⟩ := oc_ex h
          refine kc_i (va_runV (As := [.int (L.1 1), .int (L.1 2)]) (rest := [.int (-1073741824)]) ⟨hx, hb, hml, hown, hts⟩ (c_y_X1_byteAt l dC dI cy a z k (lI (lI lZ 1 ((L.1 1))) 2 ((L.1 2))) r1.2 r3 hc3 H.size) (cwV 2 hts g_y_X1_taken_X1_byteAt_V45 rfl rfl rfl hd_y_X1_byteAt ⟨Nat.le_of_ble_eq_true rfl, Nat.le_of_ble_eq_true rfl⟩) ⟨nb_blind, va_recv hK hP (ci := 1) (q0 := 0) rfl rfl, (kb_pre hK hG hP hD)⟩ rfl rfl hl.1 rfl (lv_room (Nat.le_of_ble_eq_true rfl)) dX1_taken_14 ⟨Nat.le_refl _, Nat.le_refl _⟩) hA hP hD hS (fun H locs hP hD hS => ?_)
          refine lv_ior hx hb dX1_taken_17 ?_
          refine lv_goto (tgt := 27) hx hb dX1_taken_18 (by decide) ?_
          exact ih.2.2 (lI L 100 ((((-1073741824)) ||| r3.1))) r3.2 r h H locs ls hP hD hS (lv_sub hl [] rfl)
      · intro L σ r h H locs ls hP hD hS hl
        rw [y_X1_taken] at h
        refine lv_aload_n hx hb dX1_taken_21 rfl (lv_at hl 0 rfl) ?_
        refine lv_iload_n hx hb dX1_taken_22 rfl (lv_at hl 1 rfl) ?_
        refine lv_iload_n hx hb dX1_taken_23 rfl (lv_at hl 2 rfl) ?_
        obtain ⟨r1, hc1, h⟩ := oc_ex h
        refine kc_i (va_runV (As := [.int (L.1 1), .int (L.1 2)]) (rest := []) ⟨hx, hb, hml, hown, hts⟩ (c_y_X1_member l dC dI cy a z k (lI (lI lZ 1 ((L.1 1))) 2 ((L.1 2))) σ r1 hc1 H.size) (cwV 2 hts g_y_X1_taken_X1_member_V49 rfl rfl rfl hd_y_X1_member ⟨Nat.le_of_ble_eq_true rfl, Nat.le_of_ble_eq_true rfl⟩) ⟨nb_blind, va_recv hK hP (ci := 1) (q0 := 0) rfl rfl, (kb_pre hK hG hP hD)⟩ rfl rfl hl.1 rfl (lv_room (Nat.le_of_ble_eq_true rfl)) dX1_taken_24 ⟨Nat.le_refl _, Nat.le_refl _⟩) hA hP hD hS (fun H locs hP hD hS => ?_)
        exact ih.2.2 (lI L 100 r1.1) r1.2 r h H locs ls hP hD hS (lv_sub hl [] rfl)
      · intro L σ r h H locs ls hP hD hS hl
        rw [y_X1_taken] at h
        obtain rfl := Option.some.inj h
        exact W.iret (v := (L.1 100)) hx hb hr (fun t ht hW => ⟨⟨(L.1 100), (), rfl, rfl, by rw [ht]; exact hP, va_K.moved hW.alike hK, hD⟩, hS.F ht⟩) hS.2.2 dX1_taken_27
  exact (blk k0).1 L0 σ0 r0 h0 s.heap [] ls hP hD hS hl

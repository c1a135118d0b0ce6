/-! X3_iterate -/
def f_X3_iterate : Nat → Nat → LV → CS → Option RS
  | 0, _, _, _ => none
  | k + 1, 0, L, σ => if ((L.1 1)) < 69 then (f_X3_iterate k 1 L σ) else (f_X3_iterate k 2 (lI L 100 1) σ)
  | k + 1, 1, L, σ => f_X3_iterate k 2 (lI L 100 0) σ
  | k + 1, 2, L, σ => if ((L.1 100)) = 0 then (f_X3_iterate k 3 (lI L 4 ((L.1 100))) σ) else (f_X3_iterate k 4 (lI L 4 ((L.1 100))) σ)
  | k + 1, 3, L, σ => f_X3_iterate k 5 L σ
  | k + 1, 4, L, σ => if ((L.1 4)) = 0 then (f_X3_iterate k 6 L σ) else (f_X3_iterate k 7 (lI L 100 ((((σ.1 1901)) + 4))) σ)
  | k + 1, 5, L, σ => if ((L.1 4)) = 0 then (f_X3_iterate k 8 L σ) else (f_X3_iterate k 9 (lI L 100 ((((σ.1 1901)) + 4))) σ)
  | k + 1, 6, L, σ => f_X3_iterate k 7 (lI L 100 ((σ.1 1811))) σ
  | k + 1, 7, L, σ => if ((L.1 1)) = (64 : Int32) then (f_X3_iterate k 10 (lI L 6 ((((L.1 100)) + ((L.1 2))))) σ) else (if ((L.1 1)) = (65 : Int32) then (f_X3_iterate k 11 (lI L 6 ((((L.1 100)) + ((L.1 2))))) σ) else (if ((L.1 1)) = (66 : Int32) then (f_X3_iterate k 12 (lI L 6 ((((L.1 100)) + ((L.1 2))))) σ) else (if ((L.1 1)) = (67 : Int32) then (f_X3_iterate k 13 (lI L 6 ((((L.1 100)) + ((L.1 2))))) σ) else (if ((L.1 1)) = (68 : Int32) then (f_X3_iterate k 14 (lI L 6 ((((L.1 100)) + ((L.1 2))))) σ) else (if ((L.1 1)) = (69 : Int32) then (f_X3_iterate k 10 (lI L 6 ((((L.1 100)) + ((L.1 2))))) σ) else (if ((L.1 1)) = (70 : Int32) then (f_X3_iterate k 11 (lI L 6 ((((L.1 100)) + ((L.1 2))))) σ) else (if ((L.1 1)) = (71 : Int32) then (f_X3_iterate k 15 (lI L 6 ((((L.1 100)) + ((L.1 2))))) σ) else (if ((L.1 1)) = (72 : Int32) then (f_X3_iterate k 13 (lI L 6 ((((L.1 100)) + ((L.1 2))))) σ) else (f_X3_iterate k 16 (lI L 6 ((((L.1 100)) + ((L.1 2))))) σ)))))))))
  | k + 1, 8, L, σ => f_X3_iterate k 9 (lI L 100 ((σ.1 1811))) σ
  | k + 1, 9, L, σ => if ((L.1 1)) = (64 : Int32) then (f_X3_iterate k 17 (lI L 6 ((((L.1 100)) + ((L.1 2))))) σ) else (if ((L.1 1)) = (65 : Int32) then (f_X3_iterate k 18 (lI L 6 ((((L.1 100)) + ((L.1 2))))) σ) else (if ((L.1 1)) = (66 : Int32) then (f_X3_iterate k 19 (lI L 6 ((((L.1 100)) + ((L.1 2))))) σ) else (if ((L.1 1)) = (67 : Int32) then (f_X3_iterate k 20 (lI L 6 ((((L.1 100)) + ((L.1 2))))) σ) else (if ((L.1 1)) = (68 : Int32) then (f_X3_iterate k 21 (lI L 6 ((((L.1 100)) + ((L.1 2))))) σ) else (if ((L.1 1)) = (69 : Int32) then (f_X3_iterate k 17 (lI L 6 ((((L.1 100)) + ((L.1 2))))) σ) else (if ((L.1 1)) = (70 : Int32) then (f_X3_iterate k 18 (lI L 6 ((((L.1 100)) + ((L.1 2))))) σ) else (if ((L.1 1)) = (71 : Int32) then (f_X3_iterate k 15 (lI L 6 ((((L.1 100)) + ((L.1 2))))) σ) else (if ((L.1 1)) = (72 : Int32) then (f_X3_iterate k 20 (lI L 6 ((((L.1 100)) + ((L.1 2))))) σ) else (f_X3_iterate k 16 (lI L 6 ((((L.1 100)) + ((L.1 2))))) σ)))))))))
  | k + 1, 10, L, σ => op (y_X3_goOver__z20 k 0 (lI (lI lZ 2 ((L.1 6))) 3 ((L.1 4))) σ) (fun r1 => f_X3_iterate k 22 L r1.2)
  | k + 1, 11, L, σ => ox (f_X3_nextMember__z20 k 0 (lI (lI (lI lZ 2 ((L.1 6))) 3 ((L.1 3))) 4 ((L.1 4))) σ) (fun r1 => f_X3_iterate k 22 L r1.2.1)
  | k + 1, 12, L, σ => op (y_X3_pop k 0 lZ σ) (fun r1 => if ¬ (((L.1 6)) < 0 ∨ (sN r1.2 20) ≤ ((L.1 6)).toNatClampNeg) then (f_X3_iterate k 22 L (uA r1.2 20 ((L.1 6)).toNatClampNeg r1.1)) else none)
  | k + 1, 13, L, σ => oP (sPr σ) (fun b1 => if ¬ (((((L.1 3)) + 1)) < 0 ∨ (sN σ (pR0 ((sKd σ b1)))) ≤ ((((L.1 3)) + 1)).toNatClampNeg) then (op (y_X3_spread__z20 k 0 (lI (lI (lI lZ 2 ((L.1 6))) 3 ((σ.2.2.1 (pR0 ((sKd σ b1))) ((((L.1 3)) + 1)).toNatClampNeg))) 4 ((L.1 4))) σ) (fun r3 => f_X3_iterate k 22 L (uI r3.2 1900 ((((L.1 3)) + 2))))) else none)
  | k + 1, 14, L, σ => oP (sPr σ) (fun b1 => if ¬ (((((L.1 3)) + 1)) < 0 ∨ (sN σ (pR0 ((sKd σ b1)))) ≤ ((((L.1 3)) + 1)).toNatClampNeg) then (f_X3_iterate k 23 (lI L 7 ((σ.2.2.1 (pR0 ((sKd σ b1))) ((((L.1 3)) + 1)).toNatClampNeg))) σ) else none)
  | k + 1, 15, L, σ => op (y_X3_pop k 0 lZ σ) (fun r1 => op (y_X3_assign k 0 (lI (lI (lI lZ 1 ((L.1 6))) 2 r1.1) 3 1) r1.2) (fun r2 => f_X3_iterate k 22 L r2.2))
  | k + 1, 16, L, σ => oP (sPr σ) (fun b1 => if ¬ (((((L.1 3)) + 1)) < 0 ∨ (sN σ (pR0 ((sKd σ b1)))) ≤ ((((L.1 3)) + 1)).toNatClampNeg) then (oP (sPr σ) (fun b3 => if ¬ (((((L.1 3)) + 2)) < 0 ∨ (sN σ (pR0 ((sKd σ b3)))) ≤ ((((L.1 3)) + 2)).toNatClampNeg) then (op (y_X3_clearFor k 0 (lI (lI (lI lZ 1 ((L.1 6))) 2 ((((((σ.1 1901)) + 4)) + ((σ.2.2.1 (pR0 ((sKd σ b1))) ((((L.1 3)) + 1)).toNatClampNeg))))) 3 ((σ.2.2.1 (pR0 ((sKd σ b3))) ((((L.1 3)) + 2)).toNatClampNeg))) σ) (fun r5 => f_X3_iterate k 22 L (uI r5.2 1900 ((((L.1 3)) + 3))))) else none)) else none)
  | k + 1, 17, L, σ => op (y_X3_goOver__a23 k 0 (lI (lI lZ 2 ((L.1 6))) 3 ((L.1 4))) σ) (fun r1 => f_X3_iterate k 22 L r1.2)
  | k + 1, 18, L, σ => ox (f_X3_nextMember__a23 k 0 (lI (lI (lI lZ 2 ((L.1 6))) 3 ((L.1 3))) 4 ((L.1 4))) σ) (fun r1 => f_X3_iterate k 22 L r1.2.1)
  | k + 1, 19, L, σ => op (y_X3_pop k 0 lZ σ) (fun r1 => if ¬ (((L.1 6)) < 0 ∨ 3780 ≤ ((L.1 6)).toNatClampNeg) then (f_X3_iterate k 22 L (uA r1.2 23 ((L.1 6)).toNatClampNeg r1.1)) else none)
  | k + 1, 20, L, σ => oP (sPr σ) (fun b1 => if ¬ (((((L.1 3)) + 1)) < 0 ∨ (sN σ (pR0 ((sKd σ b1)))) ≤ ((((L.1 3)) + 1)).toNatClampNeg) then (op (y_X3_spread__a23 k 0 (lI (lI (lI lZ 2 ((L.1 6))) 3 ((σ.2.2.1 (pR0 ((sKd σ b1))) ((((L.1 3)) + 1)).toNatClampNeg))) 4 ((L.1 4))) σ) (fun r3 => f_X3_iterate k 22 L (uI r3.2 1900 ((((L.1 3)) + 2))))) else none)
  | k + 1, 21, L, σ => oP (sPr σ) (fun b1 => if ¬ (((((L.1 3)) + 1)) < 0 ∨ (sN σ (pR0 ((sKd σ b1)))) ≤ ((((L.1 3)) + 1)).toNatClampNeg) then (f_X3_iterate k 24 (lI L 7 ((σ.2.2.1 (pR0 ((sKd σ b1))) ((((L.1 3)) + 1)).toNatClampNeg))) σ) else none)
  | k + 1, 22, L, σ => some ((0, 0), σ, (0, 0))
  | k + 1, 23, L, σ => if ((L.1 7)) ≤ 0 then (f_X3_iterate k 25 L σ) else (if ¬ (((((((L.1 6)) + ((L.1 7)))) - 1)) < 0 ∨ (sN σ 20) ≤ ((((((L.1 6)) + ((L.1 7)))) - 1)).toNatClampNeg) then (f_X3_iterate k 23 (lI L 7 ((((L.1 7)) + (-1)))) (uA σ 20 ((((((L.1 6)) + ((L.1 7)))) - 1)).toNatClampNeg ((-2147483648)))) else none)
  | k + 1, 24, L, σ => if ((L.1 7)) ≤ 0 then (f_X3_iterate k 25 L σ) else (if ¬ (((((((L.1 6)) + ((L.1 7)))) - 1)) < 0 ∨ 3780 ≤ ((((((L.1 6)) + ((L.1 7)))) - 1)).toNatClampNeg) then (f_X3_iterate k 24 (lI L 7 ((((L.1 7)) + (-1)))) (uA σ 23 ((((((L.1 6)) + ((L.1 7)))) - 1)).toNatClampNeg ((-2147483648)))) else none)
  | k + 1, 25, L, σ => f_X3_iterate k 22 L (uI σ 1900 ((((L.1 3)) + 2)))
  | _ + 1, _ + 26, _, _ => none
def o_f_X3_iterate : List Cond := [.fieldLink RX3 18 "SetHouse$Machine" "stack" "[I", .fieldLink RX3 29 "SetHouse$Machine" "passing" "[I", .fieldLink RX3 14 "SetHouse$Machine" "run" "LSetHouse$Run;", .fieldLink RX3 235 "SetHouse$Machine" "passingBase" "I", .methodLink RX3 496 yX3_goOver, .instanceMethod yX3_goOver, .selects RX3 yX3_goOver yX3_goOver, .initialized RX3, .methodLink RX3 500 yX3_nextMember, .instanceMethod yX3_nextMember, .selects RX3 yX3_nextMember yX3_nextMember, .methodLink RX3 339 yX3_pop, .instanceMethod yX3_pop, .selects RX3 yX3_pop yX3_pop, .fieldLink RX3 58 "SetHouse$Machine" "program" "LSetHouse$Program;", .methodLink RX3 507 yX3_spread, .instanceMethod yX3_spread, .selects RX3 yX3_spread yX3_spread, .methodLink RX3 504 yX3_assign, .instanceMethod yX3_assign, .selects RX3 yX3_assign yX3_assign, .methodLink RX3 510 yX3_clearFor, .instanceMethod yX3_clearFor, .selects RX3 yX3_clearFor yX3_clearFor, .constant RX3 136 (-2147483648)]
theorem o_f_X3_iterate_good : o_f_X3_iterate.all goodWord = true := by decide +kernel
def p_f_X3_iterate : List Cond := o_f_X3_iterate ++ ((.code yX3_goOver cX3_goOver 6 none :: p_y_X3_goOver__z20) ++ ((.code yX3_nextMember cX3_nextMember 7 none :: p_f_X3_nextMember__z20) ++ ((.code yX3_pop cX3_pop 1 (some .int) :: p_y_X3_pop) ++ ((.code yX3_spread cX3_spread 7 none :: p_y_X3_spread__z20) ++ ((.code yX3_assign cX3_assign 5 none :: p_y_X3_assign) ++ ((.code yX3_clearFor cX3_clearFor 5 none :: p_y_X3_clearFor) ++ ((.code yX3_goOver cX3_goOver 6 none :: p_y_X3_goOver__a23) ++ ((.code yX3_nextMember cX3_nextMember 7 none :: p_f_X3_nextMember__a23) ++ ((.code yX3_spread cX3_spread 7 none :: p_y_X3_spread__a23) ++ [])))))))))
theorem p_f_X3_iterate_good : p_f_X3_iterate.all goodWord = true := nb_all2 o_f_X3_iterate_good (nb_all2 (nb_allc (by decide +kernel) p_y_X3_goOver__z20_good) (nb_all2 (nb_allc (by decide +kernel) p_f_X3_nextMember__z20_good) (nb_all2 (nb_allc (by decide +kernel) p_y_X3_pop_good) (nb_all2 (nb_allc (by decide +kernel) p_y_X3_spread__z20_good) (nb_all2 (nb_allc (by decide +kernel) p_y_X3_assign_good) (nb_all2 (nb_allc (by decide +kernel) p_y_X3_clearFor_good) (nb_all2 (nb_allc (by decide +kernel) p_y_X3_goOver__a23_good) (nb_all2 (nb_allc (by decide +kernel) p_f_X3_nextMember__a23_good) (nb_all2 (nb_allc (by decide +kernel) p_y_X3_spread__a23_good) rfl)))))))))
def w_f_X3_iterate : List Cond := .code yX3_iterate cX3_iterate 8 none :: (p_f_X3_iterate ++ fC)
theorem w_f_X3_iterate_good : w_f_X3_iterate.all goodWord = true := nb_allc (by decide +kernel) (nb_all2 p_f_X3_iterate_good fC_good)
theorem in_f_X3_iterate_X3 : ∀ w ∈ wsX30, w ∈ w_f_X3_iterate := fun _ h => List.mem_cons_of_mem _ (List.mem_append_right _ (List.mem_append_right _ (List.mem_append_right _ (List.mem_append_right _ (List.mem_append_left _ h)))))
theorem in_f_X3_iterate_X7 : ∀ w ∈ wsX70, w ∈ w_f_X3_iterate := fun _ h => List.mem_cons_of_mem _ (List.mem_append_right _ (List.mem_append_right _ (List.mem_append_right _ (List.mem_append_right _ (List.mem_append_right _ (List.mem_append_right _ (List.mem_append_right _ (List.mem_append_left _ h))))))))
theorem in_f_X3_iterate_X8 : ∀ w ∈ wsX80, w ∈ w_f_X3_iterate := fun _ h => List.mem_cons_of_mem _ (List.mem_append_right _ (List.mem_append_right _ (List.mem_append_right _ (List.mem_append_right _ (List.mem_append_right _ (List.mem_append_right _ (List.mem_append_right _ (List.mem_append_right _ (List.mem_append_left _ h)))))))))
theorem hd_f_X3_iterate : yX3_iterate.cls = RX3 ∧ yX3_iterate.cls ≠ "java/lang/invoke/MethodHandle" ∧ yX3_iterate.cls ≠ "java/lang/invoke/VarHandle" ∧ (parseMethodDescriptor yX3_iterate.desc).map (fun d => d.parameters.length) = some 3 := by decide +kernel
theorem gg_f_X3_iterate_X3_nextMember__a23 : GoodIn w_f_X3_iterate w_f_X3_nextMember__a23 := goodIn_sub (fun w h => (List.mem_cons.mp h).elim (fun e => (List.mem_cons_of_mem _ (List.mem_append_left _ (List.mem_append_right _ (List.mem_append_right _ (List.mem_append_right _ (List.mem_append_right _ (List.mem_append_right _ (List.mem_append_right _ (List.mem_append_right _ (List.mem_append_right _ (List.mem_append_left _ (List.mem_cons.mpr (Or.inl e)))))))))))))) (fun h => (List.mem_append.mp h).elim (fun h => (List.mem_cons_of_mem _ (List.mem_append_left _ (List.mem_append_right _ (List.mem_append_right _ (List.mem_append_right _ (List.mem_append_right _ (List.mem_append_right _ (List.mem_append_right _ (List.mem_append_right _ (List.mem_append_right _ (List.mem_append_left _ (List.mem_cons_of_mem _ h))))))))))))) (fun h => List.mem_cons_of_mem _ (List.mem_append_right _ h)))) w_f_X3_nextMember__a23_good
theorem g_f_X3_iterate_X3_nextMember__a23_V500 : GoodIn w_f_X3_iterate (wsV RX3 500 RX3 yX3_nextMember w_f_X3_nextMember__a23) := goodIn_app (nb_g4 (List.mem_cons_of_mem _ (List.mem_append_left _ (List.mem_append_left _ (List.mem_of_getElem? (i := 8) rfl)))) (List.mem_cons_of_mem _ (List.mem_append_left _ (List.mem_append_left _ (List.mem_of_getElem? (i := 9) rfl)))) (List.mem_cons_of_mem _ (List.mem_append_left _ (List.mem_append_left _ (List.mem_of_getElem? (i := 10) rfl)))) (List.mem_cons_of_mem _ (List.mem_append_left _ (List.mem_append_left _ (List.mem_of_getElem? (i := 7) rfl)))) (by decide +kernel)) gg_f_X3_iterate_X3_nextMember__a23
theorem gg_f_X3_iterate_X3_nextMember__z20 : GoodIn w_f_X3_iterate w_f_X3_nextMember__z20 := goodIn_sub (fun w h => (List.mem_cons.mp h).elim (fun e => (List.mem_cons_of_mem _ (List.mem_append_left _ (List.mem_append_right _ (List.mem_append_right _ (List.mem_append_left _ (List.mem_cons.mpr (Or.inl e)))))))) (fun h => (List.mem_append.mp h).elim (fun h => (List.mem_cons_of_mem _ (List.mem_append_left _ (List.mem_append_right _ (List.mem_append_right _ (List.mem_append_left _ (List.mem_cons_of_mem _ h))))))) (fun h => List.mem_cons_of_mem _ (List.mem_append_right _ h)))) w_f_X3_nextMember__z20_good
theorem g_f_X3_iterate_X3_nextMember__z20_V500 : GoodIn w_f_X3_iterate (wsV RX3 500 RX3 yX3_nextMember w_f_X3_nextMember__z20) := goodIn_app (nb_g4 (List.mem_cons_of_mem _ (List.mem_append_left _ (List.mem_append_left _ (List.mem_of_getElem? (i := 8) rfl)))) (List.mem_cons_of_mem _ (List.mem_append_left _ (List.mem_append_left _ (List.mem_of_getElem? (i := 9) rfl)))) (List.mem_cons_of_mem _ (List.mem_append_left _ (List.mem_append_left _ (List.mem_of_getElem? (i := 10) rfl)))) (List.mem_cons_of_mem _ (List.mem_append_left _ (List.mem_append_left _ (List.mem_of_getElem? (i := 7) rfl)))) (by decide +kernel)) gg_f_X3_iterate_X3_nextMember__z20
theorem gg_f_X3_iterate_X3_assign : GoodIn w_f_X3_iterate w_y_X3_assign := goodIn_sub (fun w h => (List.mem_cons.mp h).elim (fun e => (List.mem_cons_of_mem _ (List.mem_append_left _ (List.mem_append_right _ (List.mem_append_right _ (List.mem_append_right _ (List.mem_append_right _ (List.mem_append_right _ (List.mem_append_left _ (List.mem_cons.mpr (Or.inl e))))))))))) (fun h => (List.mem_append.mp h).elim (fun h => (List.mem_cons_of_mem _ (List.mem_append_left _ (List.mem_append_right _ (List.mem_append_right _ (List.mem_append_right _ (List.mem_append_right _ (List.mem_append_right _ (List.mem_append_left _ (List.mem_cons_of_mem _ h)))))))))) (fun h => List.mem_cons_of_mem _ (List.mem_append_right _ h)))) w_y_X3_assign_good
theorem g_y_X3_iterate_X3_assign_V504 : GoodIn w_f_X3_iterate (wsV RX3 504 RX3 yX3_assign w_y_X3_assign) := goodIn_app (nb_g4 (List.mem_cons_of_mem _ (List.mem_append_left _ (List.mem_append_left _ (List.mem_of_getElem? (i := 18) rfl)))) (List.mem_cons_of_mem _ (List.mem_append_left _ (List.mem_append_left _ (List.mem_of_getElem? (i := 19) rfl)))) (List.mem_cons_of_mem _ (List.mem_append_left _ (List.mem_append_left _ (List.mem_of_getElem? (i := 20) rfl)))) (List.mem_cons_of_mem _ (List.mem_append_left _ (List.mem_append_left _ (List.mem_of_getElem? (i := 7) rfl)))) (by decide +kernel)) gg_f_X3_iterate_X3_assign
theorem gg_f_X3_iterate_X3_clearFor : GoodIn w_f_X3_iterate w_y_X3_clearFor := goodIn_sub (fun w h => (List.mem_cons.mp h).elim (fun e => (List.mem_cons_of_mem _ (List.mem_append_left _ (List.mem_append_right _ (List.mem_append_right _ (List.mem_append_right _ (List.mem_append_right _ (List.mem_append_right _ (List.mem_append_right _ (List.mem_append_left _ (List.mem_cons.mpr (Or.inl e)))))))))))) (fun h => (List.mem_append.mp h).elim (fun h => (List.mem_cons_of_mem _ (List.mem_append_left _ (List.mem_append_right _ (List.mem_append_right _ (List.mem_append_right _ (List.mem_append_right _ (List.mem_append_right _ (List.mem_append_right _ (List.mem_append_left _ (List.mem_cons_of_mem _ h))))))))))) (fun h => List.mem_cons_of_mem _ (List.mem_append_right _ h)))) w_y_X3_clearFor_good
theorem g_y_X3_iterate_X3_clearFor_V510 : GoodIn w_f_X3_iterate (wsV RX3 510 RX3 yX3_clearFor w_y_X3_clearFor) := goodIn_app (nb_g4 (List.mem_cons_of_mem _ (List.mem_append_left _ (List.mem_append_left _ (List.mem_of_getElem? (i := 21) rfl)))) (List.mem_cons_of_mem _ (List.mem_append_left _ (List.mem_append_left _ (List.mem_of_getElem? (i := 22) rfl)))) (List.mem_cons_of_mem _ (List.mem_append_left _ (List.mem_append_left _ (List.mem_of_getElem? (i := 23) rfl)))) (List.mem_cons_of_mem _ (List.mem_append_left _ (List.mem_append_left _ (List.mem_of_getElem? (i := 7) rfl)))) (by decide +kernel)) gg_f_X3_iterate_X3_clearFor
theorem gg_f_X3_iterate_X3_goOver__a23 : GoodIn w_f_X3_iterate w_y_X3_goOver__a23 := goodIn_sub (fun w h => (List.mem_cons.mp h).elim (fun e => (List.mem_cons_of_mem _ (List.mem_append_left _ (List.mem_append_right _ (List.mem_append_right _ (List.mem_append_right _ (List.mem_append_right _ (List.mem_append_right _ (List.mem_append_right _ (List.mem_append_right _ (List.mem_append_left _ (List.mem_cons.mpr (Or.inl e))))))))))))) (fun h => (List.mem_append.mp h).elim (fun h => (List.mem_cons_of_mem _ (List.mem_append_left _ (List.mem_append_right _ (List.mem_append_right _ (List.mem_append_right _ (List.mem_append_right _ (List.mem_append_right _ (List.mem_append_right _ (List.mem_append_right _ (List.mem_append_left _ (List.mem_cons_of_mem _ h)))))))))))) (fun h => List.mem_cons_of_mem _ (List.mem_append_right _ h)))) w_y_X3_goOver__a23_good
theorem g_y_X3_iterate_X3_goOver__a23_V496 : GoodIn w_f_X3_iterate (wsV RX3 496 RX3 yX3_goOver w_y_X3_goOver__a23) := goodIn_app (nb_g4 (List.mem_cons_of_mem _ (List.mem_append_left _ (List.mem_append_left _ (List.mem_of_getElem? (i := 4) rfl)))) (List.mem_cons_of_mem _ (List.mem_append_left _ (List.mem_append_left _ (List.mem_of_getElem? (i := 5) rfl)))) (List.mem_cons_of_mem _ (List.mem_append_left _ (List.mem_append_left _ (List.mem_of_getElem? (i := 6) rfl)))) (List.mem_cons_of_mem _ (List.mem_append_left _ (List.mem_append_left _ (List.mem_of_getElem? (i := 7) rfl)))) (by decide +kernel)) gg_f_X3_iterate_X3_goOver__a23
theorem gg_f_X3_iterate_X3_goOver__z20 : GoodIn w_f_X3_iterate w_y_X3_goOver__z20 := goodIn_sub (fun w h => (List.mem_cons.mp h).elim (fun e => (List.mem_cons_of_mem _ (List.mem_append_left _ (List.mem_append_right _ (List.mem_append_left _ (List.mem_cons.mpr (Or.inl e))))))) (fun h => (List.mem_append.mp h).elim (fun h => (List.mem_cons_of_mem _ (List.mem_append_left _ (List.mem_append_right _ (List.mem_append_left _ (List.mem_cons_of_mem _ h)))))) (fun h => List.mem_cons_of_mem _ (List.mem_append_right _ h)))) w_y_X3_goOver__z20_good
theorem g_y_X3_iterate_X3_goOver__z20_V496 : GoodIn w_f_X3_iterate (wsV RX3 496 RX3 yX3_goOver w_y_X3_goOver__z20) := goodIn_app (nb_g4 (List.mem_cons_of_mem _ (List.mem_append_left _ (List.mem_append_left _ (List.mem_of_getElem? (i := 4) rfl)))) (List.mem_cons_of_mem _ (List.mem_append_left _ (List.mem_append_left _ (List.mem_of_getElem? (i := 5) rfl)))) (List.mem_cons_of_mem _ (List.mem_append_left _ (List.mem_append_left _ (List.mem_of_getElem? (i := 6) rfl)))) (List.mem_cons_of_mem _ (List.mem_append_left _ (List.mem_append_left _ (List.mem_of_getElem? (i := 7) rfl)))) (by decide +kernel)) gg_f_X3_iterate_X3_goOver__z20
theorem gg_f_X3_iterate_X3_pop : GoodIn w_f_X3_iterate w_y_X3_pop := goodIn_sub (fun w h => (List.mem_cons.mp h).elim (fun e => (List.mem_cons_of_mem _ (List.mem_append_left _ (List.mem_append_right _ (List.mem_append_right _ (List.mem_append_right _ (List.mem_append_left _ (List.mem_cons.mpr (Or.inl e))))))))) (fun h => (List.mem_append.mp h).elim (fun h => (List.mem_cons_of_mem _ (List.mem_append_left _ (List.mem_append_right _ (List.mem_append_right _ (List.mem_append_right _ (List.mem_append_left _ (List.mem_cons_of_mem _ h)))))))) (fun h => List.mem_cons_of_mem _ (List.mem_append_right _ h)))) w_y_X3_pop_good
theorem g_y_X3_iterate_X3_pop_V339 : GoodIn w_f_X3_iterate (wsV RX3 339 RX3 yX3_pop w_y_X3_pop) := goodIn_app (nb_g4 (List.mem_cons_of_mem _ (List.mem_append_left _ (List.mem_append_left _ (List.mem_of_getElem? (i := 11) rfl)))) (List.mem_cons_of_mem _ (List.mem_append_left _ (List.mem_append_left _ (List.mem_of_getElem? (i := 12) rfl)))) (List.mem_cons_of_mem _ (List.mem_append_left _ (List.mem_append_left _ (List.mem_of_getElem? (i := 13) rfl)))) (List.mem_cons_of_mem _ (List.mem_append_left _ (List.mem_append_left _ (List.mem_of_getElem? (i := 7) rfl)))) (by decide +kernel)) gg_f_X3_iterate_X3_pop
theorem gg_f_X3_iterate_X3_spread__a23 : GoodIn w_f_X3_iterate w_y_X3_spread__a23 := goodIn_sub (fun w h => (List.mem_cons.mp h).elim (fun e => (List.mem_cons_of_mem _ (List.mem_append_left _ (List.mem_append_right _ (List.mem_append_right _ (List.mem_append_right _ (List.mem_append_right _ (List.mem_append_right _ (List.mem_append_right _ (List.mem_append_right _ (List.mem_append_right _ (List.mem_append_right _ (List.mem_append_left _ (List.mem_cons.mpr (Or.inl e))))))))))))))) (fun h => (List.mem_append.mp h).elim (fun h => (List.mem_cons_of_mem _ (List.mem_append_left _ (List.mem_append_right _ (List.mem_append_right _ (List.mem_append_right _ (List.mem_append_right _ (List.mem_append_right _ (List.mem_append_right _ (List.mem_append_right _ (List.mem_append_right _ (List.mem_append_right _ (List.mem_append_left _ (List.mem_cons_of_mem _ h)))))))))))))) (fun h => List.mem_cons_of_mem _ (List.mem_append_right _ h)))) w_y_X3_spread__a23_good
theorem g_y_X3_iterate_X3_spread__a23_V507 : GoodIn w_f_X3_iterate (wsV RX3 507 RX3 yX3_spread w_y_X3_spread__a23) := goodIn_app (nb_g4 (List.mem_cons_of_mem _ (List.mem_append_left _ (List.mem_append_left _ (List.mem_of_getElem? (i := 15) rfl)))) (List.mem_cons_of_mem _ (List.mem_append_left _ (List.mem_append_left _ (List.mem_of_getElem? (i := 16) rfl)))) (List.mem_cons_of_mem _ (List.mem_append_left _ (List.mem_append_left _ (List.mem_of_getElem? (i := 17) rfl)))) (List.mem_cons_of_mem _ (List.mem_append_left _ (List.mem_append_left _ (List.mem_of_getElem? (i := 7) rfl)))) (by decide +kernel)) gg_f_X3_iterate_X3_spread__a23
theorem gg_f_X3_iterate_X3_spread__z20 : GoodIn w_f_X3_iterate w_y_X3_spread__z20 := goodIn_sub (fun w h => (List.mem_cons.mp h).elim (fun e => (List.mem_cons_of_mem _ (List.mem_append_left _ (List.mem_append_right _ (List.mem_append_right _ (List.mem_append_right _ (List.mem_append_right _ (List.mem_append_left _ (List.mem_cons.mpr (Or.inl e)))))))))) (fun h => (List.mem_append.mp h).elim (fun h => (List.mem_cons_of_mem _ (List.mem_append_left _ (List.mem_append_right _ (List.mem_append_right _ (List.mem_append_right _ (List.mem_append_right _ (List.mem_append_left _ (List.mem_cons_of_mem _ h))))))))) (fun h => List.mem_cons_of_mem _ (List.mem_append_right _ h)))) w_y_X3_spread__z20_good
theorem g_y_X3_iterate_X3_spread__z20_V507 : GoodIn w_f_X3_iterate (wsV RX3 507 RX3 yX3_spread w_y_X3_spread__z20) := goodIn_app (nb_g4 (List.mem_cons_of_mem _ (List.mem_append_left _ (List.mem_append_left _ (List.mem_of_getElem? (i := 15) rfl)))) (List.mem_cons_of_mem _ (List.mem_append_left _ (List.mem_append_left _ (List.mem_of_getElem? (i := 16) rfl)))) (List.mem_cons_of_mem _ (List.mem_append_left _ (List.mem_append_left _ (List.mem_of_getElem? (i := 17) rfl)))) (List.mem_cons_of_mem _ (List.mem_append_left _ (List.mem_append_left _ (List.mem_of_getElem? (i := 7) rfl)))) (by decide +kernel)) gg_f_X3_iterate_X3_spread__z20
set_option maxHeartbeats 40000000 in
set_option maxRecDepth 100000 in
theorem c_f_X3_iterate (l : Launch) (hl0 : l.stackTraces = false) (dC : Nat → ClassId) (dI : Nat → Nat → Nat) (cy : Nat → ClassId) (ek a : Nat → Nat) (k0 : Nat) (L0 : LV) (σ0 : CS) (r0 : RS) (h0 : f_X3_iterate k0 0 L0 σ0 = some r0) (z : Nat → Nat) (sz : Nat) : vx_Met l yX3_iterate w_f_X3_iterate ({ frames := 6, cells := r0.2.2.1, slots := r0.2.2.2, locals := 182 }) (va_Pc [.ref (a 18), .int (L0.1 1), .int (L0.1 2), .int (L0.1 3)] (nInF (dC, dI) cy ek sz (vC cy a z σ0))) (xV dC dI cy a (va_A (vC cy a z σ0) sz) [20] z r0) (xX dC dI cy a (va_A (vC cy a z σ0) sz) [20] z r0) r0.2.2.1 r0.2.2.2 (va_A (vC cy a z σ0) sz) := by
  refine vx_ofW (cc := cX3_iterate) (maxL := 8) (ret := none) (by decide) rfl ?_
  intro p e s m args below meth c s₁ B hml hno hv
  obtain ⟨rfl, ⟨⟨hsz, hP, hK, hD0, hG⟩, hE⟩, hT⟩ := hv
  have hx := B.exec
  have hb := B.bytes
  have hr := B.returns
  have hts := atoms_spec (ws := w_f_X3_iterate) B.pre
  have hown : s.vm.findClass RX3 = some m.cls := findClass_of_methodNamed B.named
  have hlocks := B.notSynchronized
  subst hsz
  have hD := hD0.self (sz := s.heap.size)
  generalize hAe : va_A (vC cy a z σ0) s.heap.size = A at hD hE hT ⊢
  have hA : ∀ q : Nat, s.heap.size ≤ q → A q := fun q h => by rw [← hAe]; exact Or.inr h
  have hS : va_S A s.heap s.heap [] := va_S.rf
  have hl := lv_entry ([.ref (a 18), .int (L0.1 1), .int (L0.1 2), .int (L0.1 3)]) (n := 8) (Nat.le_of_ble_eq_true rfl)
  rw [lg_entry_eq]
  generalize (lg_sl ([.ref (a 18), .int (L0.1 1), .int (L0.1 2), .int (L0.1 3)]) ++ List.replicate (8 - (lg_sl ([.ref (a 18), .int (L0.1 1), .int (L0.1 2), .int (L0.1 3)])).length) Slot.unset).toArray = ls at hl ⊢
  have hl : lv_has ls 8 [(0, .ref (a 18)), (1, .int (L0.1 1)), (2, .int (L0.1 2)), (3, .int (L0.1 3))] := hl
  generalize hmc : r0.2.2.1 = mc
  generalize hms : r0.2.2.2 = ms
  have blk : ∀ k : Nat, (bX p l e (headSpec w_f_X3_iterate ({ frames := 6, cells := mc, slots := ms, locals := 182 })).room s m #[.ref (a 18), .int (L0.1 1), .int (L0.1 2), .int (L0.1 3)] below meth c dC dI cy a A (fun r => vx_MQ below (xV dC dI cy a A [20] z r) (xX dC dI cy a A [20] z r) #[.ref (a 18), .int (L0.1 1), .int (L0.1 2), .int (L0.1 3)] s mc ms A) [20] z mc ms 8 (f_X3_iterate k 0) (fun z L => [(0, .ref (a 18)), (1, .int (L.1 1)), (2, .int (L.1 2)), (3, .int (L.1 3))]) 0 (fun z L => [])) ∧ (bX p l e (headSpec w_f_X3_iterate ({ frames := 6, cells := mc, slots := ms, locals := 182 })).room s m #[.ref (a 18), .int (L0.1 1), .int (L0.1 2), .int (L0.1 3)] below meth c dC dI cy a A (fun r => vx_MQ below (xV dC dI cy a A [20] z r) (xX dC dI cy a A [20] z r) #[.ref (a 18), .int (L0.1 1), .int (L0.1 2), .int (L0.1 3)] s mc ms A) [20] z mc ms 8 (f_X3_iterate k 1) (fun z L => [(0, .ref (a 18)), (1, .int (L.1 1)), (2, .int (L.1 2)), (3, .int (L.1 3))]) 10 (fun z L => [])) ∧ (bX p l e (headSpec w_f_X3_iterate ({ frames := 6, cells := mc, slots := ms, locals := 182 })).room s m #[.ref (a 18), .int (L0.1 1), .int (L0.1 2), .int (L0.1 3)] below meth c dC dI cy a A (fun r => vx_MQ below (xV dC dI cy a A [20] z r) (xX dC dI cy a A [20] z r) #[.ref (a 18), .int (L0.1 1), .int (L0.1 2), .int (L0.1 3)] s mc ms A) [20] z mc ms 8 (f_X3_iterate k 2) (fun z L => [(0, .ref (a 18)), (1, .int (L.1 1)), (2, .int (L.1 2)), (3, .int (L.1 3))]) 11 (fun z L => [.int (L.1 100)])) ∧ (bX p l e (headSpec w_f_X3_iterate ({ frames := 6, cells := mc, slots := ms, locals := 182 })).room s m #[.ref (a 18), .int (L0.1 1), .int (L0.1 2), .int (L0.1 3)] below meth c dC dI cy a A (fun r => vx_MQ below (xV dC dI cy a A [20] z r) (xX dC dI cy a A [20] z r) #[.ref (a 18), .int (L0.1 1), .int (L0.1 2), .int (L0.1 3)] s mc ms A) [20] z mc ms 8 (f_X3_iterate k 3) (fun z L => [(0, .ref (a 18)), (1, .int (L.1 1)), (2, .int (L.1 2)), (3, .int (L.1 3)), (4, .int (L.1 4))]) 25 (fun z L => [])) ∧ (bX p l e (headSpec w_f_X3_iterate ({ frames := 6, cells := mc, slots := ms, locals := 182 })).room s m #[.ref (a 18), .int (L0.1 1), .int (L0.1 2), .int (L0.1 3)] below meth c dC dI cy a A (fun r => vx_MQ below (xV dC dI cy a A [20] z r) (xX dC dI cy a A [20] z r) #[.ref (a 18), .int (L0.1 1), .int (L0.1 2), .int (L0.1 3)] s mc ms A) [20] z mc ms 8 (f_X3_iterate k 4) (fun z L => [(0, .ref (a 18)), (1, .int (L.1 1)), (2, .int (L.1 2)), (3, .int (L.1 3)), (4, .int (L.1 4))]) 29 (fun z L => [.ref (z 20)])) ∧ (bX p l e (headSpec w_f_X3_iterate ({ frames := 6, cells := mc, slots := ms, locals := 182 })).room s m #[.ref (a 18), .int (L0.1 1), .int (L0.1 2), .int (L0.1 3)] below meth c dC dI cy a A (fun r => vx_MQ below (xV dC dI cy a A [20] z r) (xX dC dI cy a A [20] z r) #[.ref (a 18), .int (L0.1 1), .int (L0.1 2), .int (L0.1 3)] s mc ms A) [20] z mc ms 8 (f_X3_iterate k 5) (fun z L => [(0, .ref (a 18)), (1, .int (L.1 1)), (2, .int (L.1 2)), (3, .int (L.1 3)), (4, .int (L.1 4))]) 29 (fun z L => [.ref (a 23)])) ∧ (bX p l e (headSpec w_f_X3_iterate ({ frames := 6, cells := mc, slots := ms, locals := 182 })).room s m #[.ref (a 18), .int (L0.1 1), .int (L0.1 2), .int (L0.1 3)] below meth c dC dI cy a A (fun r => vx_MQ below (xV dC dI cy a A [20] z r) (xX dC dI cy a A [20] z r) #[.ref (a 18), .int (L0.1 1), .int (L0.1 2), .int (L0.1 3)] s mc ms A) [20] z mc ms 8 (f_X3_iterate k 6) (fun z L => [(0, .ref (a 18)), (1, .int (L.1 1)), (2, .int (L.1 2)), (3, .int (L.1 3)), (4, .int (L.1 4)), (5, .ref (z 20))]) 48 (fun z L => [])) ∧ (bX p l e (headSpec w_f_X3_iterate ({ frames := 6, cells := mc, slots := ms, locals := 182 })).room s m #[.ref (a 18), .int (L0.1 1), .int (L0.1 2), .int (L0.1 3)] below meth c dC dI cy a A (fun r => vx_MQ below (xV dC dI cy a A [20] z r) (xX dC dI cy a A [20] z r) #[.ref (a 18), .int (L0.1 1), .int (L0.1 2), .int (L0.1 3)] s mc ms A) [20] z mc ms 8 (f_X3_iterate k 7) (fun z L => [(0, .ref (a 18)), (1, .int (L.1 1)), (2, .int (L.1 2)), (3, .int (L.1 3)), (4, .int (L.1 4)), (5, .ref (z 20))]) 52 (fun z L => [.int (L.1 100)])) ∧ (bX p l e (headSpec w_f_X3_iterate ({ frames := 6, cells := mc, slots := ms, locals := 182 })).room s m #[.ref (a 18), .int (L0.1 1), .int (L0.1 2), .int (L0.1 3)] below meth c dC dI cy a A (fun r => vx_MQ below (xV dC dI cy a A [20] z r) (xX dC dI cy a A [20] z r) #[.ref (a 18), .int (L0.1 1), .int (L0.1 2), .int (L0.1 3)] s mc ms A) [20] z mc ms 8 (f_X3_iterate k 8) (fun z L => [(0, .ref (a 18)), (1, .int (L.1 1)), (2, .int (L.1 2)), (3, .int (L.1 3)), (4, .int (L.1 4)), (5, .ref (a 23))]) 48 (fun z L => [])) ∧ (bX p l e (headSpec w_f_X3_iterate ({ frames := 6, cells := mc, slots := ms, locals := 182 })).room s m #[.ref (a 18), .int (L0.1 1), .int (L0.1 2), .int (L0.1 3)] below meth c dC dI cy a A (fun r => vx_MQ below (xV dC dI cy a A [20] z r) (xX dC dI cy a A [20] z r) #[.ref (a 18), .int (L0.1 1), .int (L0.1 2), .int (L0.1 3)] s mc ms A) [20] z mc ms 8 (f_X3_iterate k 9) (fun z L => [(0, .ref (a 18)), (1, .int (L.1 1)), (2, .int (L.1 2)), (3, .int (L.1 3)), (4, .int (L.1 4)), (5, .ref (a 23))]) 52 (fun z L => [.int (L.1 100)])) ∧ (bX p l e (headSpec w_f_X3_iterate ({ frames := 6, cells := mc, slots := ms, locals := 182 })).room s m #[.ref (a 18), .int (L0.1 1), .int (L0.1 2), .int (L0.1 3)] below meth c dC dI cy a A (fun r => vx_MQ below (xV dC dI cy a A [20] z r) (xX dC dI cy a A [20] z r) #[.ref (a 18), .int (L0.1 1), .int (L0.1 2), .int (L0.1 3)] s mc ms A) [20] z mc ms 8 (f_X3_iterate k 10) (fun z L => [(0, .ref (a 18)), (4, .int (L.1 4)), (5, .ref (z 20)), (6, .int (L.1 6))]) 108 (fun z L => [])) ∧ (bX p l e (headSpec w_f_X3_iterate ({ frames := 6, cells := mc, slots := ms, locals := 182 })).room s m #[.ref (a 18), .int (L0.1 1), .int (L0.1 2), .int (L0.1 3)] below meth c dC dI cy a A (fun r => vx_MQ below (xV dC dI cy a A [20] z r) (xX dC dI cy a A [20] z r) #[.ref (a 18), .int (L0.1 1), .int (L0.1 2), .int (L0.1 3)] s mc ms A) [20] z mc ms 8 (f_X3_iterate k 11) (fun z L => [(0, .ref (a 18)), (3, .int (L.1 3)), (4, .int (L.1 4)), (5, .ref (z 20)), (6, .int (L.1 6))]) 121 (fun z L => [])) ∧ (bX p l e (headSpec w_f_X3_iterate ({ frames := 6, cells := mc, slots := ms, locals := 182 })).room s m #[.ref (a 18), .int (L0.1 1), .int (L0.1 2), .int (L0.1 3)] below meth c dC dI cy a A (fun r => vx_MQ below (xV dC dI cy a A [20] z r) (xX dC dI cy a A [20] z r) #[.ref (a 18), .int (L0.1 1), .int (L0.1 2), .int (L0.1 3)] s mc ms A) [20] z mc ms 8 (f_X3_iterate k 12) (fun z L => [(0, .ref (a 18)), (5, .ref (z 20)), (6, .int (L.1 6))]) 135 (fun z L => [])) ∧ (bX p l e (headSpec w_f_X3_iterate ({ frames := 6, cells := mc, slots := ms, locals := 182 })).room s m #[.ref (a 18), .int (L0.1 1), .int (L0.1 2), .int (L0.1 3)] below meth c dC dI cy a A (fun r => vx_MQ below (xV dC dI cy a A [20] z r) (xX dC dI cy a A [20] z r) #[.ref (a 18), .int (L0.1 1), .int (L0.1 2), .int (L0.1 3)] s mc ms A) [20] z mc ms 8 (f_X3_iterate k 13) (fun z L => [(0, .ref (a 18)), (3, .int (L.1 3)), (4, .int (L.1 4)), (5, .ref (z 20)), (6, .int (L.1 6))]) 161 (fun z L => [])) ∧ (bX p l e (headSpec w_f_X3_iterate ({ frames := 6, cells := mc, slots := ms, locals := 182 })).room s m #[.ref (a 18), .int (L0.1 1), .int (L0.1 2), .int (L0.1 3)] below meth c dC dI cy a A (fun r => vx_MQ below (xV dC dI cy a A [20] z r) (xX dC dI cy a A [20] z r) #[.ref (a 18), .int (L0.1 1), .int (L0.1 2), .int (L0.1 3)] s mc ms A) [20] z mc ms 8 (f_X3_iterate k 14) (fun z L => [(0, .ref (a 18)), (3, .int (L.1 3)), (5, .ref (z 20)), (6, .int (L.1 6))]) 195 (fun z L => [])) ∧ (bX p l e (headSpec w_f_X3_iterate ({ frames := 6, cells := mc, slots := ms, locals := 182 })).room s m #[.ref (a 18), .int (L0.1 1), .int (L0.1 2), .int (L0.1 3)] below meth c dC dI cy a A (fun r => vx_MQ below (xV dC dI cy a A [20] z r) (xX dC dI cy a A [20] z r) #[.ref (a 18), .int (L0.1 1), .int (L0.1 2), .int (L0.1 3)] s mc ms A) [20] z mc ms 8 (f_X3_iterate k 15) (fun z L => [(0, .ref (a 18)), (6, .int (L.1 6))]) 147 (fun z L => [])) ∧ (bX p l e (headSpec w_f_X3_iterate ({ frames := 6, cells := mc, slots := ms, locals := 182 })).room s m #[.ref (a 18), .int (L0.1 1), .int (L0.1 2), .int (L0.1 3)] below meth c dC dI cy a A (fun r => vx_MQ below (xV dC dI cy a A [20] z r) (xX dC dI cy a A [20] z r) #[.ref (a 18), .int (L0.1 1), .int (L0.1 2), .int (L0.1 3)] s mc ms A) [20] z mc ms 8 (f_X3_iterate k 16) (fun z L => [(0, .ref (a 18)), (3, .int (L.1 3)), (6, .int (L.1 6))]) 244 (fun z L => [])) ∧ (bX p l e (headSpec w_f_X3_iterate ({ frames := 6, cells := mc, slots := ms, locals := 182 })).room s m #[.ref (a 18), .int (L0.1 1), .int (L0.1 2), .int (L0.1 3)] below meth c dC dI cy a A (fun r => vx_MQ below (xV dC dI cy a A [20] z r) (xX dC dI cy a A [20] z r) #[.ref (a 18), .int (L0.1 1), .int (L0.1 2), .int (L0.1 3)] s mc ms A) [20] z mc ms 8 (f_X3_iterate k 17) (fun z L => [(0, .ref (a 18)), (4, .int (L.1 4)), (5, .ref (a 23)), (6, .int (L.1 6))]) 108 (fun z L => [])) ∧ (bX p l e (headSpec w_f_X3_iterate ({ frames := 6, cells := mc, slots := ms, locals := 182 })).room s m #[.ref (a 18), .int (L0.1 1), .int (L0.1 2), .int (L0.1 3)] below meth c dC dI cy a A (fun r => vx_MQ below (xV dC dI cy a A [20] z r) (xX dC dI cy a A [20] z r) #[.ref (a 18), .int (L0.1 1), .int (L0.1 2), .int (L0.1 3)] s mc ms A) [20] z mc ms 8 (f_X3_iterate k 18) (fun z L => [(0, .ref (a 18)), (3, .int (L.1 3)), (4, .int (L.1 4)), (5, .ref (a 23)), (6, .int (L.1 6))]) 121 (fun z L => [])) ∧ (bX p l e (headSpec w_f_X3_iterate ({ frames := 6, cells := mc, slots := ms, locals := 182 })).room s m #[.ref (a 18), .int (L0.1 1), .int (L0.1 2), .int (L0.1 3)] below meth c dC dI cy a A (fun r => vx_MQ below (xV dC dI cy a A [20] z r) (xX dC dI cy a A [20] z r) #[.ref (a 18), .int (L0.1 1), .int (L0.1 2), .int (L0.1 3)] s mc ms A) [20] z mc ms 8 (f_X3_iterate k 19) (fun z L => [(0, .ref (a 18)), (5, .ref (a 23)), (6, .int (L.1 6))]) 135 (fun z L => [])) ∧ (bX p l e (headSpec w_f_X3_iterate ({ frames := 6, cells := mc, slots := ms, locals := 182 })).room s m #[.ref (a 18), .int (L0.1 1), .int (L0.1 2), .int (L0.1 3)] below meth c dC dI cy a A (fun r => vx_MQ below (xV dC dI cy a A [20] z r) (xX dC dI cy a A [20] z r) #[.ref (a 18), .int (L0.1 1), .int (L0.1 2), .int (L0.1 3)] s mc ms A) [20] z mc ms 8 (f_X3_iterate k 20) (fun z L => [(0, .ref (a 18)), (3, .int (L.1 3)), (4, .int (L.1 4)), (5, .ref (a 23)), (6, .int (L.1 6))]) 161 (fun z L => [])) ∧ (bX p l e (headSpec w_f_X3_iterate ({ frames := 6, cells := mc, slots := ms, locals := 182 })).room s m #[.ref (a 18), .int (L0.1 1), .int (L0.1 2), .int (L0.1 3)] below meth c dC dI cy a A (fun r => vx_MQ below (xV dC dI cy a A [20] z r) (xX dC dI cy a A [20] z r) #[.ref (a 18), .int (L0.1 1), .int (L0.1 2), .int (L0.1 3)] s mc ms A) [20] z mc ms 8 (f_X3_iterate k 21) (fun z L => [(0, .ref (a 18)), (3, .int (L.1 3)), (5, .ref (a 23)), (6, .int (L.1 6))]) 195 (fun z L => [])) ∧ (bX p l e (headSpec w_f_X3_iterate ({ frames := 6, cells := mc, slots := ms, locals := 182 })).room s m #[.ref (a 18), .int (L0.1 1), .int (L0.1 2), .int (L0.1 3)] below meth c dC dI cy a A (fun r => vx_MQ below (xV dC dI cy a A [20] z r) (xX dC dI cy a A [20] z r) #[.ref (a 18), .int (L0.1 1), .int (L0.1 2), .int (L0.1 3)] s mc ms A) [20] z mc ms 8 (f_X3_iterate k 22) (fun z L => []) 292 (fun z L => [])) ∧ (bX p l e (headSpec w_f_X3_iterate ({ frames := 6, cells := mc, slots := ms, locals := 182 })).room s m #[.ref (a 18), .int (L0.1 1), .int (L0.1 2), .int (L0.1 3)] below meth c dC dI cy a A (fun r => vx_MQ below (xV dC dI cy a A [20] z r) (xX dC dI cy a A [20] z r) #[.ref (a 18), .int (L0.1 1), .int (L0.1 2), .int (L0.1 3)] s mc ms A) [20] z mc ms 8 (f_X3_iterate k 23) (fun z L => [(0, .ref (a 18)), (3, .int (L.1 3)), (5, .ref (z 20)), (6, .int (L.1 6)), (7, .int (L.1 7))]) 208 (fun z L => [])) ∧ (bX p l e (headSpec w_f_X3_iterate ({ frames := 6, cells := mc, slots := ms, locals := 182 })).room s m #[.ref (a 18), .int (L0.1 1), .int (L0.1 2), .int (L0.1 3)] below meth c dC dI cy a A (fun r => vx_MQ below (xV dC dI cy a A [20] z r) (xX dC dI cy a A [20] z r) #[.ref (a 18), .int (L0.1 1), .int (L0.1 2), .int (L0.1 3)] s mc ms A) [20] z mc ms 8 (f_X3_iterate k 24) (fun z L => [(0, .ref (a 18)), (3, .int (L.1 3)), (5, .ref (a 23)), (6, .int (L.1 6)), (7, .int (L.1 7))]) 208 (fun z L => [])) ∧ (bX p l e (headSpec w_f_X3_iterate ({ frames := 6, cells := mc, slots := ms, locals := 182 })).room s m #[.ref (a 18), .int (L0.1 1), .int (L0.1 2), .int (L0.1 3)] below meth c dC dI cy a A (fun r => vx_MQ below (xV dC dI cy a A [20] z r) (xX dC dI cy a A [20] z r) #[.ref (a 18), .int (L0.1 1), .int (L0.1 2), .int (L0.1 3)] s mc ms A) [20] z mc ms 8 (f_X3_iterate k 25) (fun z L => [(0, .ref (a 18)), (3, .int (L.1 3))]) 231 (fun z L => [])) := by
    intro k
    induction k with
    | zero => exact ⟨fun z c1 c2 L σ r h => (by cases h), fun z c1 c2 L σ r h => (by cases h), fun z c1 c2 L σ r h => (by cases h), fun z c1 c2 L σ r h => (by cases h), fun z c1 c2 L σ r h => (by cases h), fun z c1 c2 L σ r h => (by cases h), fun z c1 c2 L σ r h => (by cases h), fun z c1 c2 L σ r h => (by cases h), fun z c1 c2 L σ r h => (by cases h), fun z c1 c2 L σ r h => (by cases h), fun z c1 c2 L σ r h => (by cases h), fun z c1 c2 L σ r h => (by cases h), fun z c1 c2 L σ r h => (by cases h), fun z c1 c2 L σ r h => (by cases h), fun z c1 c2 L σ r h => (by cases h), fun z c1 c2 L σ r h => (by cases h), fun z c1 c2 L σ r h => (by cases h), fun z c1 c2 L σ r h => (by cases h), fun z c1 c2 L σ r h => (by cases h), fun z c1 c2 L σ r h => (by cases h), fun z c1 c2 L σ r h => (by cases h), fun z c1 c2 L σ r h => (by cases h), fun z c1 c2 L σ r h => (by cases h), fun z c1 c2 L σ r h => (by cases h), fun z c1 c2 L σ r h => (by cases h), fun z c1 c2 L σ r h => (by cases h)⟩
    | succ k ih =>
      refine ⟨?_, ?_, ?_, ?_, ?_, ?_, ?_, ?_, ?_, ?_, ?_, ?_, ?_, ?_, ?_, ?_, ?_, ?_, ?_, ?_, ?_, ?_, ?_, ?_, ?_, ?_⟩
      · intro z cells slots L σ r h hzk hc hs H locs ls hP hD hS hl
        rw [f_X3_iterate] at h
        refine lv_iload_n hx hb dX3_iterate_0 rfl (lv_at hl 1 rfl) ?_
        refine lv_bipush (v := 69) hx hb dX3_iterate_1 (by decide) ?_
        refine lv_icmp_lt (tgt := 10) hx hb dX3_iterate_3 (by decide) (fun c1 => ?_) (fun c1 => ?_)
        · rw [if_pos c1] at h
          exact ih.2.1 z _ _ L σ _ h hzk hc hs H locs ls hP hD hS (lv_sub hl [0, 1, 2, 3] rfl)
        · rw [if_neg c1] at h
          refine lv_iconst (v := 1) hx hb dX3_iterate_6 (by decide) ?_
          refine lv_goto (tgt := 11) hx hb dX3_iterate_7 (by decide) ?_
          exact ih.2.2.1 z _ _ (lI L 100 1) σ _ h hzk hc hs H locs ls hP hD hS (lv_sub hl [0, 1, 2, 3] rfl)
      · intro z cells slots L σ r h hzk hc hs H locs ls hP hD hS hl
        rw [f_X3_iterate] at h
        refine lv_iconst (v := 0) hx hb dX3_iterate_10 (by decide) ?_
        exact ih.2.2.1 z _ _ (lI L 100 0) σ _ h hzk hc hs H locs ls hP hD hS (lv_sub hl [0, 1, 2, 3] rfl)
      · intro z cells slots L σ r h hzk hc hs H locs ls hP hD hS hl
        rw [f_X3_iterate] at h
        refine lv_istore (lv' := [(4, .int (L.1 100)), (0, .ref (a 18)), (1, .int (L.1 1)), (2, .int (L.1 2)), (3, .int (L.1 3))]) hx hb dX3_iterate_11 hl (by decide) rfl (fun ls hl => ?_)
        refine lv_iload hx hb dX3_iterate_13 (lv_at hl 0 rfl) ?_
        refine lv_if_eq (tgt := 25) hx hb dX3_iterate_15 (by decide) (fun c1 => ?_) (fun c1 => ?_)
        · rw [if_pos c1] at h
          exact ih.2.2.2.1 z _ _ (lI L 4 ((L.1 100))) σ _ h hzk hc hs H locs ls hP hD hS (lv_sub hl [1, 2, 3, 4, 0] rfl)
        · rw [if_neg c1] at h
          refine lv_aload_n hx hb dX3_iterate_18 rfl (lv_at hl 1 rfl) ?_
          refine hg_18_7 hx hb hts in_f_X3_iterate_X3 hown hK hP (hts _ (List.mem_cons_of_mem _ (List.mem_append_left _ (List.mem_append_left _ (List.mem_of_getElem? (i := 0) rfl))))) dX3_iterate_19 ?_
          refine lv_goto (tgt := 29) hx hb dX3_iterate_22 (by decide) ?_
          exact ih.2.2.2.2.1 z _ _ (lI L 4 ((L.1 100))) σ _ h hzk hc hs H locs ls hP hD hS (lv_sub hl [1, 2, 3, 4, 0] rfl)
      · intro z cells slots L σ r h hzk hc hs H locs ls hP hD hS hl
        rw [f_X3_iterate] at h
        refine lv_aload_n hx hb dX3_iterate_25 rfl (lv_at hl 0 rfl) ?_
        refine hg_18_10 hx hb hts in_f_X3_iterate_X3 hown hK hP (hts _ (List.mem_cons_of_mem _ (List.mem_append_left _ (List.mem_append_left _ (List.mem_of_getElem? (i := 1) rfl))))) dX3_iterate_26 ?_
        exact ih.2.2.2.2.2.1 z _ _ L σ _ h hzk hc hs H locs ls hP hD hS (lv_sub hl [0, 1, 2, 3, 4] rfl)
      · intro z cells slots L σ r h hzk hc hs H locs ls hP hD hS hl
        rw [f_X3_iterate] at h
        refine lv_astore (lv' := [(5, .ref (z 20)), (0, .ref (a 18)), (1, .int (L.1 1)), (2, .int (L.1 2)), (3, .int (L.1 3)), (4, .int (L.1 4))]) hx hb dX3_iterate_29 hl (by decide) rfl (fun ls hl => ?_)
        refine lv_iload hx hb dX3_iterate_31 (lv_at hl 5 rfl) ?_
        refine lv_if_eq (tgt := 48) hx hb dX3_iterate_33 (by decide) (fun c1 => ?_) (fun c1 => ?_)
        · rw [if_pos c1] at h
          exact ih.2.2.2.2.2.2.1 z _ _ L σ _ h hzk hc hs H locs ls hP hD hS (lv_sub hl [1, 2, 3, 4, 5, 0] rfl)
        · rw [if_neg c1] at h
          refine lv_aload_n hx hb dX3_iterate_36 rfl (lv_at hl 1 rfl) ?_
          refine hg_18_5 hx hb hts in_f_X3_iterate_X3 hown hK hP (hts _ (List.mem_cons_of_mem _ (List.mem_append_left _ (List.mem_append_left _ (List.mem_of_getElem? (i := 2) rfl))))) dX3_iterate_37 ?_
          refine hg_19_1n hx hb hts in_f_X3_iterate_X8 hown hK hP (va_Nw.use rfl (hG.1 _ (List.mem_of_getElem? (i := 9) rfl))) dX3_iterate_40 ?_
          refine lv_iconst (v := 4) hx hb dX3_iterate_43 (by decide) ?_
          refine lv_iadd hx hb dX3_iterate_44 ?_
          refine lv_goto (tgt := 52) hx hb dX3_iterate_45 (by decide) ?_
          exact ih.2.2.2.2.2.2.2.1 z _ _ (lI L 100 ((((σ.1 1901)) + 4))) σ _ h hzk hc hs H locs ls hP hD hS (lv_sub hl [1, 2, 3, 4, 5, 0] rfl)
      · intro z cells slots L σ r h hzk hc hs H locs ls hP hD hS hl
        rw [f_X3_iterate] at h
        refine lv_astore (lv' := [(5, .ref (a 23)), (0, .ref (a 18)), (1, .int (L.1 1)), (2, .int (L.1 2)), (3, .int (L.1 3)), (4, .int (L.1 4))]) hx hb dX3_iterate_29 hl (by decide) rfl (fun ls hl => ?_)
        refine lv_iload hx hb dX3_iterate_31 (lv_at hl 5 rfl) ?_
        refine lv_if_eq (tgt := 48) hx hb dX3_iterate_33 (by decide) (fun c1 => ?_) (fun c1 => ?_)
        · rw [if_pos c1] at h
          exact ih.2.2.2.2.2.2.2.2.1 z _ _ L σ _ h hzk hc hs H locs ls hP hD hS (lv_sub hl [1, 2, 3, 4, 5, 0] rfl)
        · rw [if_neg c1] at h
          refine lv_aload_n hx hb dX3_iterate_36 rfl (lv_at hl 1 rfl) ?_
          refine hg_18_5 hx hb hts in_f_X3_iterate_X3 hown hK hP (hts _ (List.mem_cons_of_mem _ (List.mem_append_left _ (List.mem_append_left _ (List.mem_of_getElem? (i := 2) rfl))))) dX3_iterate_37 ?_
          refine hg_19_1n hx hb hts in_f_X3_iterate_X8 hown hK hP (va_Nw.use rfl (hG.1 _ (List.mem_of_getElem? (i := 9) rfl))) dX3_iterate_40 ?_
          refine lv_iconst (v := 4) hx hb dX3_iterate_43 (by decide) ?_
          refine lv_iadd hx hb dX3_iterate_44 ?_
          refine lv_goto (tgt := 52) hx hb dX3_iterate_45 (by decide) ?_
          exact ih.2.2.2.2.2.2.2.2.2.1 z _ _ (lI L 100 ((((σ.1 1901)) + 4))) σ _ h hzk hc hs H locs ls hP hD hS (lv_sub hl [1, 2, 3, 4, 5, 0] rfl)
      · intro z cells slots L σ r h hzk hc hs H locs ls hP hD hS hl
        rw [f_X3_iterate] at h
        refine lv_aload_n hx hb dX3_iterate_48 rfl (lv_at hl 0 rfl) ?_
        refine hg_18_11 hx hb hts in_f_X3_iterate_X3 hown hK hP (hts _ (List.mem_cons_of_mem _ (List.mem_append_left _ (List.mem_append_left _ (List.mem_of_getElem? (i := 3) rfl))))) dX3_iterate_49 ?_
        exact ih.2.2.2.2.2.2.2.1 z _ _ (lI L 100 ((σ.1 1811))) σ _ h hzk hc hs H locs ls hP hD hS (lv_sub hl [0, 1, 2, 3, 4, 5] rfl)
      · intro z cells slots L σ r h hzk hc hs H locs ls hP hD hS hl
        rw [f_X3_iterate] at h
        refine lv_iload_n hx hb dX3_iterate_52 rfl (lv_at hl 2 rfl) ?_
        refine lv_iadd hx hb dX3_iterate_53 ?_
        refine lv_istore (lv' := [(6, .int (((L.1 100)) + ((L.1 2)))), (0, .ref (a 18)), (1, .int (L.1 1)), (2, .int (L.1 2)), (3, .int (L.1 3)), (4, .int (L.1 4)), (5, .ref (z 20))]) hx hb dX3_iterate_54 hl (by decide) rfl (fun ls hl => ?_)
        refine lv_iload_n hx hb dX3_iterate_56 rfl (lv_at hl 2 rfl) ?_
        by_cases q1 : ((L.1 1)) = (64 : Int32)
        · rw [if_pos q1] at h
          refine lv_tableIn (off := 51) (tgt := 108) hx hb dX3_iterate_57 (by rw [q1]; decide) (by rw [q1]; decide) (by rw [q1]; decide) (by decide) ?_
          exact ih.2.2.2.2.2.2.2.2.2.2.1 z _ _ (lI L 6 ((((L.1 100)) + ((L.1 2))))) σ _ h hzk hc hs H locs ls hP hD hS (lv_sub hl [1, 5, 6, 0] rfl)
        · rw [if_neg q1] at h
          by_cases q2 : ((L.1 1)) = (65 : Int32)
          · rw [if_pos q2] at h
            refine lv_tableIn (off := 64) (tgt := 121) hx hb dX3_iterate_57 (by rw [q2]; decide) (by rw [q2]; decide) (by rw [q2]; decide) (by decide) ?_
            exact ih.2.2.2.2.2.2.2.2.2.2.2.1 z _ _ (lI L 6 ((((L.1 100)) + ((L.1 2))))) σ _ h hzk hc hs H locs ls hP hD hS (lv_sub hl [1, 4, 5, 6, 0] rfl)
          · rw [if_neg q2] at h
            by_cases q3 : ((L.1 1)) = (66 : Int32)
            · rw [if_pos q3] at h
              refine lv_tableIn (off := 78) (tgt := 135) hx hb dX3_iterate_57 (by rw [q3]; decide) (by rw [q3]; decide) (by rw [q3]; decide) (by decide) ?_
              exact ih.2.2.2.2.2.2.2.2.2.2.2.2.1 z _ _ (lI L 6 ((((L.1 100)) + ((L.1 2))))) σ _ h hzk hc hs H locs ls hP hD hS (lv_sub hl [1, 6, 0] rfl)
            · rw [if_neg q3] at h
              by_cases q4 : ((L.1 1)) = (67 : Int32)
              · rw [if_pos q4] at h
                refine lv_tableIn (off := 104) (tgt := 161) hx hb dX3_iterate_57 (by rw [q4]; decide) (by rw [q4]; decide) (by rw [q4]; decide) (by decide) ?_
                exact ih.2.2.2.2.2.2.2.2.2.2.2.2.2.1 z _ _ (lI L 6 ((((L.1 100)) + ((L.1 2))))) σ _ h hzk hc hs H locs ls hP hD hS (lv_sub hl [1, 4, 5, 6, 0] rfl)
              · rw [if_neg q4] at h
                by_cases q5 : ((L.1 1)) = (68 : Int32)
                · rw [if_pos q5] at h
                  refine lv_tableIn (off := 138) (tgt := 195) hx hb dX3_iterate_57 (by rw [q5]; decide) (by rw [q5]; decide) (by rw [q5]; decide) (by decide) ?_
                  exact ih.2.2.2.2.2.2.2.2.2.2.2.2.2.2.1 z _ _ (lI L 6 ((((L.1 100)) + ((L.1 2))))) σ _ h hzk hc hs H locs ls hP hD hS (lv_sub hl [1, 4, 6, 0] rfl)
                · rw [if_neg q5] at h
                  by_cases q6 : ((L.1 1)) = (69 : Int32)
                  · rw [if_pos q6] at h
                    refine lv_tableIn (off := 51) (tgt := 108) hx hb dX3_iterate_57 (by rw [q6]; decide) (by rw [q6]; decide) (by rw [q6]; decide) (by decide) ?_
                    exact ih.2.2.2.2.2.2.2.2.2.2.1 z _ _ (lI L 6 ((((L.1 100)) + ((L.1 2))))) σ _ h hzk hc hs H locs ls hP hD hS (lv_sub hl [1, 5, 6, 0] rfl)
                  · rw [if_neg q6] at h
                    by_cases q7 : ((L.1 1)) = (70 : Int32)
                    · rw [if_pos q7] at h
                      refine lv_tableIn (off := 64) (tgt := 121) hx hb dX3_iterate_57 (by rw [q7]; decide) (by rw [q7]; decide) (by rw [q7]; decide) (by decide) ?_
                      exact ih.2.2.2.2.2.2.2.2.2.2.2.1 z _ _ (lI L 6 ((((L.1 100)) + ((L.1 2))))) σ _ h hzk hc hs H locs ls hP hD hS (lv_sub hl [1, 4, 5, 6, 0] rfl)
                    · rw [if_neg q7] at h
                      by_cases q8 : ((L.1 1)) = (71 : Int32)
                      · rw [if_pos q8] at h
                        refine lv_tableIn (off := 90) (tgt := 147) hx hb dX3_iterate_57 (by rw [q8]; decide) (by rw [q8]; decide) (by rw [q8]; decide) (by decide) ?_
                        exact ih.2.2.2.2.2.2.2.2.2.2.2.2.2.2.2.1 z _ _ (lI L 6 ((((L.1 100)) + ((L.1 2))))) σ _ h hzk hc hs H locs ls hP hD hS (lv_sub hl [1, 0] rfl)
                      · rw [if_neg q8] at h
                        by_cases q9 : ((L.1 1)) = (72 : Int32)
                        · rw [if_pos q9] at h
                          refine lv_tableIn (off := 104) (tgt := 161) hx hb dX3_iterate_57 (by rw [q9]; decide) (by rw [q9]; decide) (by rw [q9]; decide) (by decide) ?_
                          exact ih.2.2.2.2.2.2.2.2.2.2.2.2.2.1 z _ _ (lI L 6 ((((L.1 100)) + ((L.1 2))))) σ _ h hzk hc hs H locs ls hP hD hS (lv_sub hl [1, 4, 5, 6, 0] rfl)
                        · rw [if_neg q9] at h
                          have nq1 : ¬ ((L.1 1)).toInt = 64 := nb_ti q1 rfl
                          have nq2 : ¬ ((L.1 1)).toInt = 65 := nb_ti q2 rfl
                          have nq3 : ¬ ((L.1 1)).toInt = 66 := nb_ti q3 rfl
                          have nq4 : ¬ ((L.1 1)).toInt = 67 := nb_ti q4 rfl
                          have nq5 : ¬ ((L.1 1)).toInt = 68 := nb_ti q5 rfl
                          have nq6 : ¬ ((L.1 1)).toInt = 69 := nb_ti q6 rfl
                          have nq7 : ¬ ((L.1 1)).toInt = 70 := nb_ti q7 rfl
                          have nq8 : ¬ ((L.1 1)).toInt = 71 := nb_ti q8 rfl
                          have nq9 : ¬ ((L.1 1)).toInt = 72 := nb_ti q9 rfl
                          refine lv_tableOut (tgt := 244) hx hb dX3_iterate_57 (by omega) (by decide) ?_
                          exact ih.2.2.2.2.2.2.2.2.2.2.2.2.2.2.2.2.1 z _ _ (lI L 6 ((((L.1 100)) + ((L.1 2))))) σ _ h hzk hc hs H locs ls hP hD hS (lv_sub hl [1, 4, 0] rfl)
      · intro z cells slots L σ r h hzk hc hs H locs ls hP hD hS hl
        rw [f_X3_iterate] at h
        refine lv_aload_n hx hb dX3_iterate_48 rfl (lv_at hl 0 rfl) ?_
        refine hg_18_11 hx hb hts in_f_X3_iterate_X3 hown hK hP (hts _ (List.mem_cons_of_mem _ (List.mem_append_left _ (List.mem_append_left _ (List.mem_of_getElem? (i := 3) rfl))))) dX3_iterate_49 ?_
        exact ih.2.2.2.2.2.2.2.2.2.1 z _ _ (lI L 100 ((σ.1 1811))) σ _ h hzk hc hs H locs ls hP hD hS (lv_sub hl [0, 1, 2, 3, 4, 5] rfl)
      · intro z cells slots L σ r h hzk hc hs H locs ls hP hD hS hl
        rw [f_X3_iterate] at h
        refine lv_iload_n hx hb dX3_iterate_52 rfl (lv_at hl 2 rfl) ?_
        refine lv_iadd hx hb dX3_iterate_53 ?_
        refine lv_istore (lv' := [(6, .int (((L.1 100)) + ((L.1 2)))), (0, .ref (a 18)), (1, .int (L.1 1)), (2, .int (L.1 2)), (3, .int (L.1 3)), (4, .int (L.1 4)), (5, .ref (a 23))]) hx hb dX3_iterate_54 hl (by decide) rfl (fun ls hl => ?_)
        refine lv_iload_n hx hb dX3_iterate_56 rfl (lv_at hl 2 rfl) ?_
        by_cases q1 : ((L.1 1)) = (64 : Int32)
        · rw [if_pos q1] at h
          refine lv_tableIn (off := 51) (tgt := 108) hx hb dX3_iterate_57 (by rw [q1]; decide) (by rw [q1]; decide) (by rw [q1]; decide) (by decide) ?_
          exact ih.2.2.2.2.2.2.2.2.2.2.2.2.2.2.2.2.2.1 z _ _ (lI L 6 ((((L.1 100)) + ((L.1 2))))) σ _ h hzk hc hs H locs ls hP hD hS (lv_sub hl [1, 5, 6, 0] rfl)
        · rw [if_neg q1] at h
          by_cases q2 : ((L.1 1)) = (65 : Int32)
          · rw [if_pos q2] at h
            refine lv_tableIn (off := 64) (tgt := 121) hx hb dX3_iterate_57 (by rw [q2]; decide) (by rw [q2]; decide) (by rw [q2]; decide) (by decide) ?_
            exact ih.2.2.2.2.2.2.2.2.2.2.2.2.2.2.2.2.2.2.1 z _ _ (lI L 6 ((((L.1 100)) + ((L.1 2))))) σ _ h hzk hc hs H locs ls hP hD hS (lv_sub hl [1, 4, 5, 6, 0] rfl)
          · rw [if_neg q2] at h
            by_cases q3 : ((L.1 1)) = (66 : Int32)
            · rw [if_pos q3] at h
              refine lv_tableIn (off := 78) (tgt := 135) hx hb dX3_iterate_57 (by rw [q3]; decide) (by rw [q3]; decide) (by rw [q3]; decide) (by decide) ?_
              exact ih.2.2.2.2.2.2.2.2.2.2.2.2.2.2.2.2.2.2.2.1 z _ _ (lI L 6 ((((L.1 100)) + ((L.1 2))))) σ _ h hzk hc hs H locs ls hP hD hS (lv_sub hl [1, 6, 0] rfl)
            · rw [if_neg q3] at h
              by_cases q4 : ((L.1 1)) = (67 : Int32)
              · rw [if_pos q4] at h
                refine lv_tableIn (off := 104) (tgt := 161) hx hb dX3_iterate_57 (by rw [q4]; decide) (by rw [q4]; decide) (by rw [q4]; decide) (by decide) ?_
                exact ih.2.2.2.2.2.2.2.2.2.2.2.2.2.2.2.2.2.2.2.2.1 z _ _ (lI L 6 ((((L.1 100)) + ((L.1 2))))) σ _ h hzk hc hs H locs ls hP hD hS (lv_sub hl [1, 4, 5, 6, 0] rfl)
              · rw [if_neg q4] at h
                by_cases q5 : ((L.1 1)) = (68 : Int32)
                · rw [if_pos q5] at h
                  refine lv_tableIn (off := 138) (tgt := 195) hx hb dX3_iterate_57 (by rw [q5]; decide) (by rw [q5]; decide) (by rw [q5]; decide) (by decide) ?_
                  exact ih.2.2.2.2.2.2.2.2.2.2.2.2.2.2.2.2.2.2.2.2.2.1 z _ _ (lI L 6 ((((L.1 100)) + ((L.1 2))))) σ _ h hzk hc hs H locs ls hP hD hS (lv_sub hl [1, 4, 6, 0] rfl)
                · rw [if_neg q5] at h
                  by_cases q6 : ((L.1 1)) = (69 : Int32)
                  · rw [if_pos q6] at h
                    refine lv_tableIn (off := 51) (tgt := 108) hx hb dX3_iterate_57 (by rw [q6]; decide) (by rw [q6]; decide) (by rw [q6]; decide) (by decide) ?_
                    exact ih.2.2.2.2.2.2.2.2.2.2.2.2.2.2.2.2.2.1 z _ _ (lI L 6 ((((L.1 100)) + ((L.1 2))))) σ _ h hzk hc hs H locs ls hP hD hS (lv_sub hl [1, 5, 6, 0] rfl)
                  · rw [if_neg q6] at h
                    by_cases q7 : ((L.1 1)) = (70 : Int32)
                    · rw [if_pos q7] at h
                      refine lv_tableIn (off := 64) (tgt := 121) hx hb dX3_iterate_57 (by rw [q7]; decide) (by rw [q7]; decide) (by rw [q7]; decide) (by decide) ?_
                      exact ih.2.2.2.2.2.2.2.2.2.2.2.2.2.2.2.2.2.2.1 z _ _ (lI L 6 ((((L.1 100)) + ((L.1 2))))) σ _ h hzk hc hs H locs ls hP hD hS (lv_sub hl [1, 4, 5, 6, 0] rfl)
                    · rw [if_neg q7] at h
                      by_cases q8 : ((L.1 1)) = (71 : Int32)
                      · rw [if_pos q8] at h
                        refine lv_tableIn (off := 90) (tgt := 147) hx hb dX3_iterate_57 (by rw [q8]; decide) (by rw [q8]; decide) (by rw [q8]; decide) (by decide) ?_
                        exact ih.2.2.2.2.2.2.2.2.2.2.2.2.2.2.2.1 z _ _ (lI L 6 ((((L.1 100)) + ((L.1 2))))) σ _ h hzk hc hs H locs ls hP hD hS (lv_sub hl [1, 0] rfl)
                      · rw [if_neg q8] at h
                        by_cases q9 : ((L.1 1)) = (72 : Int32)
                        · rw [if_pos q9] at h
                          refine lv_tableIn (off := 104) (tgt := 161) hx hb dX3_iterate_57 (by rw [q9]; decide) (by rw [q9]; decide) (by rw [q9]; decide) (by decide) ?_
                          exact ih.2.2.2.2.2.2.2.2.2.2.2.2.2.2.2.2.2.2.2.2.1 z _ _ (lI L 6 ((((L.1 100)) + ((L.1 2))))) σ _ h hzk hc hs H locs ls hP hD hS (lv_sub hl [1, 4, 5, 6, 0] rfl)
                        · rw [if_neg q9] at h
                          have nq1 : ¬ ((L.1 1)).toInt = 64 := nb_ti q1 rfl
                          have nq2 : ¬ ((L.1 1)).toInt = 65 := nb_ti q2 rfl
                          have nq3 : ¬ ((L.1 1)).toInt = 66 := nb_ti q3 rfl
                          have nq4 : ¬ ((L.1 1)).toInt = 67 := nb_ti q4 rfl
                          have nq5 : ¬ ((L.1 1)).toInt = 68 := nb_ti q5 rfl
                          have nq6 : ¬ ((L.1 1)).toInt = 69 := nb_ti q6 rfl
                          have nq7 : ¬ ((L.1 1)).toInt = 70 := nb_ti q7 rfl
                          have nq8 : ¬ ((L.1 1)).toInt = 71 := nb_ti q8 rfl
                          have nq9 : ¬ ((L.1 1)).toInt = 72 := nb_ti q9 rfl
                          refine lv_tableOut (tgt := 244) hx hb dX3_iterate_57 (by omega) (by decide) ?_
                          exact ih.2.2.2.2.2.2.2.2.2.2.2.2.2.2.2.2.1 z _ _ (lI L 6 ((((L.1 100)) + ((L.1 2))))) σ _ h hzk hc hs H locs ls hP hD hS (lv_sub hl [1, 4, 0] rfl)
      · intro z cells slots L σ r h hzk hc hs H locs ls hP hD hS hl
        rw [f_X3_iterate] at h
        refine lv_aload_n hx hb dX3_iterate_108 rfl (lv_at hl 0 rfl) ?_
        refine lv_aload hx hb dX3_iterate_109 (lv_at hl 2 rfl) ?_
        refine lv_iload hx hb dX3_iterate_111 (lv_at hl 3 rfl) ?_
        refine lv_iload hx hb dX3_iterate_113 (lv_at hl 1 rfl) ?_
        obtain ⟨r1, hc1, h⟩ := op_ex h
        refine kc_v (va_runV (As := [.ref (z 20), .int (L.1 6), .int (L.1 4)]) (rest := []) ⟨hx, hb, hml, hown, hts⟩ (c_y_X3_goOver__z20 l dC dI cy a z k (lI (lI lZ 2 ((L.1 6))) 3 ((L.1 4))) σ r1 hc1 H.size) (cwV 3 hts g_y_X3_iterate_X3_goOver__z20_V496 rfl rfl rfl hd_y_X3_goOver__z20 ⟨Nat.le_of_ble_eq_true rfl, Nat.le_of_ble_eq_true rfl⟩) ⟨nb_blind, va_recv hK hP (ci := 3) (q0 := 18) rfl rfl, (kb_pre hK hG hP hD)⟩ rfl rfl hl.1 rfl (lv_room (Nat.le_of_ble_eq_true rfl)) dX3_iterate_115 ⟨(Nat.le_trans (Nat.le_add_right _ _) (Nat.le_of_eq hc)), (Nat.le_trans (Nat.le_add_right _ _) (Nat.le_of_eq hs))⟩) hA hP hD hS (fun H locs hP hD hS => ?_)
        refine lv_goto (tgt := 292) hx hb dX3_iterate_118 (by decide) ?_
        exact ih.2.2.2.2.2.2.2.2.2.2.2.2.2.2.2.2.2.2.2.2.2.2.1 z _ _ L r1.2 _ h hzk hc hs H locs ls hP hD hS (lv_sub hl [] rfl)
      · intro z cells slots L σ r h hzk hc hs H locs ls hP hD hS hl
        rw [f_X3_iterate] at h
        refine lv_aload_n hx hb dX3_iterate_121 rfl (lv_at hl 0 rfl) ?_
        refine lv_aload hx hb dX3_iterate_122 (lv_at hl 3 rfl) ?_
        refine lv_iload hx hb dX3_iterate_124 (lv_at hl 4 rfl) ?_
        refine lv_iload_n hx hb dX3_iterate_126 rfl (lv_at hl 1 rfl) ?_
        refine lv_iload hx hb dX3_iterate_127 (lv_at hl 2 rfl) ?_
        obtain ⟨r1, hc1, hle1, h9⟩ := ox_ex h
        clear h
        refine kx_v (vx_runV (As := [.ref (z 20), .int (L.1 6), .int (L.1 3), .int (L.1 4)]) (rest := []) ⟨hx, hb, hml, hown, hts⟩ (c_f_X3_nextMember__z20 l hl0 dC dI cy ek a k (lI (lI (lI lZ 2 ((L.1 6))) 3 ((L.1 3))) 4 ((L.1 4))) σ r1 hc1 z H.size) (cwV 4 hts g_f_X3_iterate_X3_nextMember__z20_V500 rfl rfl rfl hd_f_X3_nextMember__z20 ⟨Nat.le_of_ble_eq_true rfl, Nat.le_of_ble_eq_true rfl⟩) ⟨nb_blindF, va_recv hK hP (ci := 3) (q0 := 18) rfl rfl, (kx_pre hK hG hE hT hA hP hD hS)⟩ rfl rfl hl.1 rfl (lv_room (Nat.le_of_ble_eq_true rfl)) dX3_iterate_129 ⟨Nat.le_trans (Nat.add_le_add_left hle1.1 _) (Nat.le_of_eq hc), Nat.le_trans (Nat.add_le_add_left hle1.2 _) (Nat.le_of_eq hs)⟩) hK hA hzk hP hD hS (by decide) hno hlocks ?_
        rcases h9 with ⟨h00, y1, hny1, hy⟩ | ⟨h00, hy⟩
        · subst hy
          have h := hny1
          refine Or.inl ⟨h00, fun z H locs hz1 hzk hP hD hS => ?_⟩
          replace hl := lv_sub hl [0, 1, 2, 4] rfl
          replace hc := (Nat.add_assoc _ _ _).trans hc
          replace hs := (Nat.add_assoc _ _ _).trans hs
          refine lv_goto (tgt := 292) hx hb dX3_iterate_132 (by decide) ?_
          exact ih.2.2.2.2.2.2.2.2.2.2.2.2.2.2.2.2.2.2.2.2.2.2.1 z _ _ L r1.2.1 _ h hzk hc hs H locs ls hP hD hS (lv_sub hl [] rfl)
        · subst hy
          exact Or.inr ⟨h00, rfl, hc, hs⟩
      · intro z cells slots L σ r h hzk hc hs H locs ls hP hD hS hl
        rw [f_X3_iterate] at h
        refine lv_aload hx hb dX3_iterate_135 (lv_at hl 1 rfl) ?_
        refine lv_iload hx hb dX3_iterate_137 (lv_at hl 2 rfl) ?_
        refine lv_aload_n hx hb dX3_iterate_139 rfl (lv_at hl 0 rfl) ?_
        obtain ⟨r1, hc1, h⟩ := op_ex h
        refine kc_i (va_runV (As := []) (rest := [.int (L.1 6), .ref (z 20)]) ⟨hx, hb, hml, hown, hts⟩ (c_y_X3_pop l dC dI cy a z k lZ σ r1 hc1 H.size) (cwV 0 hts g_y_X3_iterate_X3_pop_V339 rfl rfl rfl hd_y_X3_pop ⟨Nat.le_of_ble_eq_true rfl, Nat.le_of_ble_eq_true rfl⟩) ⟨nb_blind, va_recv hK hP (ci := 3) (q0 := 18) rfl rfl, (kb_pre hK hG hP hD)⟩ rfl rfl hl.1 rfl (lv_room (Nat.le_of_ble_eq_true rfl)) dX3_iterate_140 ⟨(Nat.le_trans (Nat.le_add_right _ _) (Nat.le_of_eq hc)), (Nat.le_trans (Nat.le_add_right _ _) (Nat.le_of_eq hs))⟩) hA hP hD hS (fun H locs hP hD hS => ?_)
        obtain ⟨q2, h⟩ := kr_ite1 h
        refine hs_20 hx hb hK hP hD hS q2 dX3_iterate_143 (fun H locs hP hD hS => ?_)
        refine lv_goto (tgt := 292) hx hb dX3_iterate_144 (by decide) ?_
        exact ih.2.2.2.2.2.2.2.2.2.2.2.2.2.2.2.2.2.2.2.2.2.2.1 z _ _ L (uA r1.2 20 ((L.1 6)).toNatClampNeg r1.1) _ h hzk hc hs H locs ls hP hD hS (lv_sub hl [] rfl)
      · intro z cells slots L σ r h hzk hc hs H locs ls hP hD hS hl
        rw [f_X3_iterate] at h
        refine lv_aload_n hx hb dX3_iterate_161 rfl (lv_at hl 0 rfl) ?_
        refine lv_aload hx hb dX3_iterate_162 (lv_at hl 3 rfl) ?_
        refine lv_iload hx hb dX3_iterate_164 (lv_at hl 4 rfl) ?_
        refine lv_aload_n hx hb dX3_iterate_166 rfl (lv_at hl 0 rfl) ?_
        obtain ⟨b1, hb1, h⟩ := oP_ex h
        refine hgq_18_6 hx hb hts in_f_X3_iterate_X3 hown hK hP (hts _ (List.mem_cons_of_mem _ (List.mem_append_left _ (List.mem_append_left _ (List.mem_of_getElem? (i := 14) rfl))))) hb1 dX3_iterate_167 ?_
        refine hg_P_0n b1 hx hb hts in_f_X3_iterate_X7 hown hK hP (va_Nw.use rfl (hG.1 _ (List.mem_of_getElem? (i := 66) rfl))) dX3_iterate_170 ?_
        refine lv_iload_n hx hb dX3_iterate_173 rfl (lv_at hl 1 rfl) ?_
        refine lv_iconst (v := 1) hx hb dX3_iterate_174 (by decide) ?_
        refine lv_iadd hx hb dX3_iterate_175 ?_
        obtain ⟨q2, h⟩ := kr_ite1 h
        refine hl_P0 ((sKd σ b1)) hx hb hK hP q2 dX3_iterate_176 ?_
        refine lv_iload hx hb dX3_iterate_177 (lv_at hl 2 rfl) ?_
        obtain ⟨r3, hc3, h⟩ := op_ex h
        refine kc_v (va_runV (As := [.ref (z 20), .int (L.1 6), .int (σ.2.2.1 (pR0 ((sKd σ b1))) ((((L.1 3)) + 1)).toNatClampNeg), .int (L.1 4)]) (rest := []) ⟨hx, hb, hml, hown, hts⟩ (c_y_X3_spread__z20 l dC dI cy a z k (lI (lI (lI lZ 2 ((L.1 6))) 3 ((σ.2.2.1 (pR0 ((sKd σ b1))) ((((L.1 3)) + 1)).toNatClampNeg))) 4 ((L.1 4))) σ r3 hc3 H.size) (cwV 4 hts g_y_X3_iterate_X3_spread__z20_V507 rfl rfl rfl hd_y_X3_spread__z20 ⟨Nat.le_of_ble_eq_true rfl, Nat.le_of_ble_eq_true rfl⟩) ⟨nb_blind, va_recv hK hP (ci := 3) (q0 := 18) rfl rfl, (kb_pre hK hG hP hD)⟩ rfl rfl hl.1 rfl (lv_room (Nat.le_of_ble_eq_true rfl)) dX3_iterate_179 ⟨(Nat.le_trans (Nat.le_add_right _ _) (Nat.le_of_eq hc)), (Nat.le_trans (Nat.le_add_right _ _) (Nat.le_of_eq hs))⟩) hA hP hD hS (fun H locs hP hD hS => ?_)
        refine lv_aload_n hx hb dX3_iterate_182 rfl (lv_at hl 0 rfl) ?_
        refine hg_18_5 hx hb hts in_f_X3_iterate_X3 hown hK hP (hts _ (List.mem_cons_of_mem _ (List.mem_append_left _ (List.mem_append_left _ (List.mem_of_getElem? (i := 2) rfl))))) dX3_iterate_183 ?_
        refine lv_iload_n hx hb dX3_iterate_186 rfl (lv_at hl 1 rfl) ?_
        refine lv_iconst (v := 2) hx hb dX3_iterate_187 (by decide) ?_
        refine lv_iadd hx hb dX3_iterate_188 ?_
        refine hp_19_0n hx hb hts in_f_X3_iterate_X8 hown hK hP hD hS (va_Nw.use rfl (hG.1 _ (List.mem_of_getElem? (i := 8) rfl))) dX3_iterate_189 (fun H locs hP hD hS => ?_)
        refine lv_goto (tgt := 292) hx hb dX3_iterate_192 (by decide) ?_
        exact ih.2.2.2.2.2.2.2.2.2.2.2.2.2.2.2.2.2.2.2.2.2.2.1 z _ _ L (uI r3.2 1900 ((((L.1 3)) + 2))) _ h hzk hc hs H locs ls hP hD hS (lv_sub hl [] rfl)
      · intro z cells slots L σ r h hzk hc hs H locs ls hP hD hS hl
        rw [f_X3_iterate] at h
        refine lv_aload_n hx hb dX3_iterate_195 rfl (lv_at hl 0 rfl) ?_
        obtain ⟨b1, hb1, h⟩ := oP_ex h
        refine hgq_18_6 hx hb hts in_f_X3_iterate_X3 hown hK hP (hts _ (List.mem_cons_of_mem _ (List.mem_append_left _ (List.mem_append_left _ (List.mem_of_getElem? (i := 14) rfl))))) hb1 dX3_iterate_196 ?_
        refine hg_P_0n b1 hx hb hts in_f_X3_iterate_X7 hown hK hP (va_Nw.use rfl (hG.1 _ (List.mem_of_getElem? (i := 66) rfl))) dX3_iterate_199 ?_
        refine lv_iload_n hx hb dX3_iterate_202 rfl (lv_at hl 1 rfl) ?_
        refine lv_iconst (v := 1) hx hb dX3_iterate_203 (by decide) ?_
        refine lv_iadd hx hb dX3_iterate_204 ?_
        obtain ⟨q2, h⟩ := kr_ite1 h
        refine hl_P0 ((sKd σ b1)) hx hb hK hP q2 dX3_iterate_205 ?_
        refine lv_istore (lv' := [(7, .int (σ.2.2.1 (pR0 ((sKd σ b1))) ((((L.1 3)) + 1)).toNatClampNeg)), (0, .ref (a 18)), (3, .int (L.1 3)), (5, .ref (z 20)), (6, .int (L.1 6))]) hx hb dX3_iterate_206 hl (by decide) rfl (fun ls hl => ?_)
        exact ih.2.2.2.2.2.2.2.2.2.2.2.2.2.2.2.2.2.2.2.2.2.2.2.1 z _ _ (lI L 7 ((σ.2.2.1 (pR0 ((sKd σ b1))) ((((L.1 3)) + 1)).toNatClampNeg))) σ _ h hzk hc hs H locs ls hP hD hS (lv_sub hl [1, 2, 3, 4, 0] rfl)
      · intro z cells slots L σ r h hzk hc hs H locs ls hP hD hS hl
        rw [f_X3_iterate] at h
        refine lv_aload_n hx hb dX3_iterate_147 rfl (lv_at hl 0 rfl) ?_
        refine lv_iload hx hb dX3_iterate_148 (lv_at hl 1 rfl) ?_
        refine lv_aload_n hx hb dX3_iterate_150 rfl (lv_at hl 0 rfl) ?_
        obtain ⟨r1, hc1, h⟩ := op_ex h
        refine kc_i (va_runV (As := []) (rest := [.int (L.1 6), .ref (a 18)]) ⟨hx, hb, hml, hown, hts⟩ (c_y_X3_pop l dC dI cy a z k lZ σ r1 hc1 H.size) (cwV 0 hts g_y_X3_iterate_X3_pop_V339 rfl rfl rfl hd_y_X3_pop ⟨Nat.le_of_ble_eq_true rfl, Nat.le_of_ble_eq_true rfl⟩) ⟨nb_blind, va_recv hK hP (ci := 3) (q0 := 18) rfl rfl, (kb_pre hK hG hP hD)⟩ rfl rfl hl.1 rfl (lv_room (Nat.le_of_ble_eq_true rfl)) dX3_iterate_151 ⟨(Nat.le_trans (Nat.le_add_right _ _) (Nat.le_of_eq hc)), (Nat.le_trans (Nat.le_add_right _ _) (Nat.le_of_eq hs))⟩) hA hP hD hS (fun H locs hP hD hS => ?_)
        refine lv_iconst (v := 1) hx hb dX3_iterate_154 (by decide) ?_
        obtain ⟨r2, hc2, h⟩ := op_ex h
        refine kc_v (va_runV (As := [.int (L.1 6), .int r1.1, .int 1]) (rest := []) ⟨hx, hb, hml, hown, hts⟩ (c_y_X3_assign l dC dI cy a z k (lI (lI (lI lZ 1 ((L.1 6))) 2 r1.1) 3 1) r1.2 r2 hc2 H.size) (cwV 3 hts g_y_X3_iterate_X3_assign_V504 rfl rfl rfl hd_y_X3_assign ⟨Nat.le_of_ble_eq_true rfl, Nat.le_of_ble_eq_true rfl⟩) ⟨nb_blind, va_recv hK hP (ci := 3) (q0 := 18) rfl rfl, (kb_pre hK hG hP hD)⟩ rfl rfl hl.1 rfl (lv_room (Nat.le_of_ble_eq_true rfl)) dX3_iterate_155 ⟨(Nat.le_trans (Nat.le_add_right _ _) (Nat.le_of_eq hc)), (Nat.le_trans (Nat.le_add_right _ _) (Nat.le_of_eq hs))⟩) hA hP hD hS (fun H locs hP hD hS => ?_)
        refine lv_goto (tgt := 292) hx hb dX3_iterate_158 (by decide) ?_
        exact ih.2.2.2.2.2.2.2.2.2.2.2.2.2.2.2.2.2.2.2.2.2.2.1 z _ _ L r2.2 _ h hzk hc hs H locs ls hP hD hS (lv_sub hl [] rfl)
      · intro z cells slots L σ r h hzk hc hs H locs ls hP hD hS hl
        rw [f_X3_iterate] at h
        refine lv_aload_n hx hb dX3_iterate_244 rfl (lv_at hl 0 rfl) ?_
        refine lv_iload hx hb dX3_iterate_245 (lv_at hl 2 rfl) ?_
        refine lv_aload_n hx hb dX3_iterate_247 rfl (lv_at hl 0 rfl) ?_
        refine hg_18_5 hx hb hts in_f_X3_iterate_X3 hown hK hP (hts _ (List.mem_cons_of_mem _ (List.mem_append_left _ (List.mem_append_left _ (List.mem_of_getElem? (i := 2) rfl))))) dX3_iterate_248 ?_
        refine hg_19_1n hx hb hts in_f_X3_iterate_X8 hown hK hP (va_Nw.use rfl (hG.1 _ (List.mem_of_getElem? (i := 9) rfl))) dX3_iterate_251 ?_
        refine lv_iconst (v := 4) hx hb dX3_iterate_254 (by decide) ?_
        refine lv_iadd hx hb dX3_iterate_255 ?_
        refine lv_aload_n hx hb dX3_iterate_256 rfl (lv_at hl 0 rfl) ?_
        obtain ⟨b1, hb1, h⟩ := oP_ex h
        refine hgq_18_6 hx hb hts in_f_X3_iterate_X3 hown hK hP (hts _ (List.mem_cons_of_mem _ (List.mem_append_left _ (List.mem_append_left _ (List.mem_of_getElem? (i := 14) rfl))))) hb1 dX3_iterate_257 ?_
        refine hg_P_0n b1 hx hb hts in_f_X3_iterate_X7 hown hK hP (va_Nw.use rfl (hG.1 _ (List.mem_of_getElem? (i := 66) rfl))) dX3_iterate_260 ?_
        refine lv_iload_n hx hb dX3_iterate_263 rfl (lv_at hl 1 rfl) ?_
        refine lv_iconst (v := 1) hx hb dX3_iterate_264 (by decide) ?_
        refine lv_iadd hx hb dX3_iterate_265 ?_
        obtain ⟨q2, h⟩ := kr_ite1 h
        refine hl_P0 ((sKd σ b1)) hx hb hK hP q2 dX3_iterate_266 ?_
        refine lv_iadd hx hb dX3_iterate_267 ?_
        refine lv_aload_n hx hb dX3_iterate_268 rfl (lv_at hl 0 rfl) ?_
        obtain ⟨b3, hb3, h⟩ := oP_ex h
        refine hgq_18_6 hx hb hts in_f_X3_iterate_X3 hown hK hP (hts _ (List.mem_cons_of_mem _ (List.mem_append_left _ (List.mem_append_left _ (List.mem_of_getElem? (i := 14) rfl))))) hb3 dX3_iterate_269 ?_
        refine hg_P_0n b3 hx hb hts in_f_X3_iterate_X7 hown hK hP (va_Nw.use rfl (hG.1 _ (List.mem_of_getElem? (i := 66) rfl))) dX3_iterate_272 ?_
        refine lv_iload_n hx hb dX3_iterate_275 rfl (lv_at hl 1 rfl) ?_
        refine lv_iconst (v := 2) hx hb dX3_iterate_276 (by decide) ?_
        refine lv_iadd hx hb dX3_iterate_277 ?_
        obtain ⟨q4, h⟩ := kr_ite1 h
        refine hl_P0 ((sKd σ b3)) hx hb hK hP q4 dX3_iterate_278 ?_
        obtain ⟨r5, hc5, h⟩ := op_ex h
        refine kc_v (va_runV (As := [.int (L.1 6), .int (((((σ.1 1901)) + 4)) + ((σ.2.2.1 (pR0 ((sKd σ b1))) ((((L.1 3)) + 1)).toNatClampNeg))), .int (σ.2.2.1 (pR0 ((sKd σ b3))) ((((L.1 3)) + 2)).toNatClampNeg)]) (rest := []) ⟨hx, hb, hml, hown, hts⟩ (c_y_X3_clearFor l dC dI cy a z k (lI (lI (lI lZ 1 ((L.1 6))) 2 ((((((σ.1 1901)) + 4)) + ((σ.2.2.1 (pR0 ((sKd σ b1))) ((((L.1 3)) + 1)).toNatClampNeg))))) 3 ((σ.2.2.1 (pR0 ((sKd σ b3))) ((((L.1 3)) + 2)).toNatClampNeg))) σ r5 hc5 H.size) (cwV 3 hts g_y_X3_iterate_X3_clearFor_V510 rfl rfl rfl hd_y_X3_clearFor ⟨Nat.le_of_ble_eq_true rfl, Nat.le_of_ble_eq_true rfl⟩) ⟨nb_blind, va_recv hK hP (ci := 3) (q0 := 18) rfl rfl, (kb_pre hK hG hP hD)⟩ rfl rfl hl.1 rfl (lv_room (Nat.le_of_ble_eq_true rfl)) dX3_iterate_279 ⟨(Nat.le_trans (Nat.le_add_right _ _) (Nat.le_of_eq hc)), (Nat.le_trans (Nat.le_add_right _ _) (Nat.le_of_eq hs))⟩) hA hP hD hS (fun H locs hP hD hS => ?_)
        refine lv_aload_n hx hb dX3_iterate_282 rfl (lv_at hl 0 rfl) ?_
        refine hg_18_5 hx hb hts in_f_X3_iterate_X3 hown hK hP (hts _ (List.mem_cons_of_mem _ (List.mem_append_left _ (List.mem_append_left _ (List.mem_of_getElem? (i := 2) rfl))))) dX3_iterate_283 ?_
        refine lv_iload_n hx hb dX3_iterate_286 rfl (lv_at hl 1 rfl) ?_
        refine lv_iconst (v := 3) hx hb dX3_iterate_287 (by decide) ?_
        refine lv_iadd hx hb dX3_iterate_288 ?_
        refine hp_19_0n hx hb hts in_f_X3_iterate_X8 hown hK hP hD hS (va_Nw.use rfl (hG.1 _ (List.mem_of_getElem? (i := 8) rfl))) dX3_iterate_289 (fun H locs hP hD hS => ?_)
        exact ih.2.2.2.2.2.2.2.2.2.2.2.2.2.2.2.2.2.2.2.2.2.2.1 z _ _ L (uI r5.2 1900 ((((L.1 3)) + 3))) _ h hzk hc hs H locs ls hP hD hS (lv_sub hl [] rfl)
      · intro z cells slots L σ r h hzk hc hs H locs ls hP hD hS hl
        rw [f_X3_iterate] at h
        refine lv_aload_n hx hb dX3_iterate_108 rfl (lv_at hl 0 rfl) ?_
        refine lv_aload hx hb dX3_iterate_109 (lv_at hl 2 rfl) ?_
        refine lv_iload hx hb dX3_iterate_111 (lv_at hl 3 rfl) ?_
        refine lv_iload hx hb dX3_iterate_113 (lv_at hl 1 rfl) ?_
        obtain ⟨r1, hc1, h⟩ := op_ex h
        refine kc_v (va_runV (As := [.ref (a 23), .int (L.1 6), .int (L.1 4)]) (rest := []) ⟨hx, hb, hml, hown, hts⟩ (c_y_X3_goOver__a23 l dC dI cy a z k (lI (lI lZ 2 ((L.1 6))) 3 ((L.1 4))) σ r1 hc1 H.size) (cwV 3 hts g_y_X3_iterate_X3_goOver__a23_V496 rfl rfl rfl hd_y_X3_goOver__a23 ⟨Nat.le_of_ble_eq_true rfl, Nat.le_of_ble_eq_true rfl⟩) ⟨nb_blind, va_recv hK hP (ci := 3) (q0 := 18) rfl rfl, (kb_pre hK hG hP hD)⟩ rfl rfl hl.1 rfl (lv_room (Nat.le_of_ble_eq_true rfl)) dX3_iterate_115 ⟨(Nat.le_trans (Nat.le_add_right _ _) (Nat.le_of_eq hc)), (Nat.le_trans (Nat.le_add_right _ _) (Nat.le_of_eq hs))⟩) hA hP hD hS (fun H locs hP hD hS => ?_)
        refine lv_goto (tgt := 292) hx hb dX3_iterate_118 (by decide) ?_
        exact ih.2.2.2.2.2.2.2.2.2.2.2.2.2.2.2.2.2.2.2.2.2.2.1 z _ _ L r1.2 _ h hzk hc hs H locs ls hP hD hS (lv_sub hl [] rfl)
      · intro z cells slots L σ r h hzk hc hs H locs ls hP hD hS hl
        rw [f_X3_iterate] at h
        refine lv_aload_n hx hb dX3_iterate_121 rfl (lv_at hl 0 rfl) ?_
        refine lv_aload hx hb dX3_iterate_122 (lv_at hl 3 rfl) ?_
        refine lv_iload hx hb dX3_iterate_124 (lv_at hl 4 rfl) ?_
        refine lv_iload_n hx hb dX3_iterate_126 rfl (lv_at hl 1 rfl) ?_
        refine lv_iload hx hb dX3_iterate_127 (lv_at hl 2 rfl) ?_
        obtain ⟨r1, hc1, hle1, h9⟩ := ox_ex h
        clear h
        refine kx_v (vx_runV (As := [.ref (a 23), .int (L.1 6), .int (L.1 3), .int (L.1 4)]) (rest := []) ⟨hx, hb, hml, hown, hts⟩ (c_f_X3_nextMember__a23 l hl0 dC dI cy ek a k (lI (lI (lI lZ 2 ((L.1 6))) 3 ((L.1 3))) 4 ((L.1 4))) σ r1 hc1 z H.size) (cwV 4 hts g_f_X3_iterate_X3_nextMember__a23_V500 rfl rfl rfl hd_f_X3_nextMember__a23 ⟨Nat.le_of_ble_eq_true rfl, Nat.le_of_ble_eq_true rfl⟩) ⟨nb_blindF, va_recv hK hP (ci := 3) (q0 := 18) rfl rfl, (kx_pre hK hG hE hT hA hP hD hS)⟩ rfl rfl hl.1 rfl (lv_room (Nat.le_of_ble_eq_true rfl)) dX3_iterate_129 ⟨Nat.le_trans (Nat.add_le_add_left hle1.1 _) (Nat.le_of_eq hc), Nat.le_trans (Nat.add_le_add_left hle1.2 _) (Nat.le_of_eq hs)⟩) hK hA hzk hP hD hS (by decide) hno hlocks ?_
        rcases h9 with ⟨h00, y1, hny1, hy⟩ | ⟨h00, hy⟩
        · subst hy
          have h := hny1
          refine Or.inl ⟨h00, fun z H locs hz1 hzk hP hD hS => ?_⟩
          replace hc := (Nat.add_assoc _ _ _).trans hc
          replace hs := (Nat.add_assoc _ _ _).trans hs
          refine lv_goto (tgt := 292) hx hb dX3_iterate_132 (by decide) ?_
          exact ih.2.2.2.2.2.2.2.2.2.2.2.2.2.2.2.2.2.2.2.2.2.2.1 z _ _ L r1.2.1 _ h hzk hc hs H locs ls hP hD hS (lv_sub hl [] rfl)
        · subst hy
          exact Or.inr ⟨h00, rfl, hc, hs⟩
      · intro z cells slots L σ r h hzk hc hs H locs ls hP hD hS hl
        rw [f_X3_iterate] at h
        refine lv_aload hx hb dX3_iterate_135 (lv_at hl 1 rfl) ?_
        refine lv_iload hx hb dX3_iterate_137 (lv_at hl 2 rfl) ?_
        refine lv_aload_n hx hb dX3_iterate_139 rfl (lv_at hl 0 rfl) ?_
        obtain ⟨r1, hc1, h⟩ := op_ex h
        refine kc_i (va_runV (As := []) (rest := [.int (L.1 6), .ref (a 23)]) ⟨hx, hb, hml, hown, hts⟩ (c_y_X3_pop l dC dI cy a z k lZ σ r1 hc1 H.size) (cwV 0 hts g_y_X3_iterate_X3_pop_V339 rfl rfl rfl hd_y_X3_pop ⟨Nat.le_of_ble_eq_true rfl, Nat.le_of_ble_eq_true rfl⟩) ⟨nb_blind, va_recv hK hP (ci := 3) (q0 := 18) rfl rfl, (kb_pre hK hG hP hD)⟩ rfl rfl hl.1 rfl (lv_room (Nat.le_of_ble_eq_true rfl)) dX3_iterate_140 ⟨(Nat.le_trans (Nat.le_add_right _ _) (Nat.le_of_eq hc)), (Nat.le_trans (Nat.le_add_right _ _) (Nat.le_of_eq hs))⟩) hA hP hD hS (fun H locs hP hD hS => ?_)
        obtain ⟨q2, h⟩ := kr_ite1 h
        refine hs_23 hx hb hK hP hD hS q2 dX3_iterate_143 (fun H locs hP hD hS => ?_)
        refine lv_goto (tgt := 292) hx hb dX3_iterate_144 (by decide) ?_
        exact ih.2.2.2.2.2.2.2.2.2.2.2.2.2.2.2.2.2.2.2.2.2.2.1 z _ _ L (uA r1.2 23 ((L.1 6)).toNatClampNeg r1.1) _ h hzk hc hs H locs ls hP hD hS (lv_sub hl [] rfl)
      · intro z cells slots L σ r h hzk hc hs H locs ls hP hD hS hl
        rw [f_X3_iterate] at h
        refine lv_aload_n hx hb dX3_iterate_161 rfl (lv_at hl 0 rfl) ?_
        refine lv_aload hx hb dX3_iterate_162 (lv_at hl 3 rfl) ?_
        refine lv_iload hx hb dX3_iterate_164 (lv_at hl 4 rfl) ?_
        refine lv_aload_n hx hb dX3_iterate_166 rfl (lv_at hl 0 rfl) ?_
        obtain ⟨b1, hb1, h⟩ := oP_ex h
        refine hgq_18_6 hx hb hts in_f_X3_iterate_X3 hown hK hP (hts _ (List.mem_cons_of_mem _ (List.mem_append_left _ (List.mem_append_left _ (List.mem_of_getElem? (i := 14) rfl))))) hb1 dX3_iterate_167 ?_
        refine hg_P_0n b1 hx hb hts in_f_X3_iterate_X7 hown hK hP (va_Nw.use rfl (hG.1 _ (List.mem_of_getElem? (i := 66) rfl))) dX3_iterate_170 ?_
        refine lv_iload_n hx hb dX3_iterate_173 rfl (lv_at hl 1 rfl) ?_
        refine lv_iconst (v := 1) hx hb dX3_iterate_174 (by decide) ?_
        refine lv_iadd hx hb dX3_iterate_175 ?_
        obtain ⟨q2, h⟩ := kr_ite1 h
        refine hl_P0 ((sKd σ b1)) hx hb hK hP q2 dX3_iterate_176 ?_
        refine lv_iload hx hb dX3_iterate_177 (lv_at hl 2 rfl) ?_
        obtain ⟨r3, hc3, h⟩ := op_ex h
        refine kc_v (va_runV (As := [.ref (a 23), .int (L.1 6), .int (σ.2.2.1 (pR0 ((sKd σ b1))) ((((L.1 3)) + 1)).toNatClampNeg), .int (L.1 4)]) (rest := []) ⟨hx, hb, hml, hown, hts⟩ (c_y_X3_spread__a23 l dC dI cy a z k (lI (lI (lI lZ 2 ((L.1 6))) 3 ((σ.2.2.1 (pR0 ((sKd σ b1))) ((((L.1 3)) + 1)).toNatClampNeg))) 4 ((L.1 4))) σ r3 hc3 H.size) (cwV 4 hts g_y_X3_iterate_X3_spread__a23_V507 rfl rfl rfl hd_y_X3_spread__a23 ⟨Nat.le_of_ble_eq_true rfl, Nat.le_of_ble_eq_true rfl⟩) ⟨nb_blind, va_recv hK hP (ci := 3) (q0 := 18) rfl rfl, (kb_pre hK hG hP hD)⟩ rfl rfl hl.1 rfl (lv_room (Nat.le_of_ble_eq_true rfl)) dX3_iterate_179 ⟨(Nat.le_trans (Nat.le_add_right _ _) (Nat.le_of_eq hc)), (Nat.le_trans (Nat.le_add_right _ _) (Nat.le_of_eq hs))⟩) hA hP hD hS (fun H locs hP hD hS => ?_)
        refine lv_aload_n hx hb dX3_iterate_182 rfl (lv_at hl 0 rfl) ?_
        refine hg_18_5 hx hb hts in_f_X3_iterate_X3 hown hK hP (hts _ (List.mem_cons_of_mem _ (List.mem_append_left _ (List.mem_append_left _ (List.mem_of_getElem? (i := 2) rfl))))) dX3_iterate_183 ?_
        refine lv_iload_n hx hb dX3_iterate_186 rfl (lv_at hl 1 rfl) ?_
        refine lv_iconst (v := 2) hx hb dX3_iterate_187 (by decide) ?_
        refine lv_iadd hx hb dX3_iterate_188 ?_
        refine hp_19_0n hx hb hts in_f_X3_iterate_X8 hown hK hP hD hS (va_Nw.use rfl (hG.1 _ (List.mem_of_getElem? (i := 8) rfl))) dX3_iterate_189 (fun H locs hP hD hS => ?_)
        refine lv_goto (tgt := 292) hx hb dX3_iterate_192 (by decide) ?_
        exact ih.2.2.2.2.2.2.2.2.2.2.2.2.2.2.2.2.2.2.2.2.2.2.1 z _ _ L (uI r3.2 1900 ((((L.1 3)) + 2))) _ h hzk hc hs H locs ls hP hD hS (lv_sub hl [] rfl)
      · intro z cells slots L σ r h hzk hc hs H locs ls hP hD hS hl
        rw [f_X3_iterate] at h
        refine lv_aload_n hx hb dX3_iterate_195 rfl (lv_at hl 0 rfl) ?_
        obtain ⟨b1, hb1, h⟩ := oP_ex h
        refine hgq_18_6 hx hb hts in_f_X3_iterate_X3 hown hK hP (hts _ (List.mem_cons_of_mem _ (List.mem_append_left _ (List.mem_append_left _ (List.mem_of_getElem? (i := 14) rfl))))) hb1 dX3_iterate_196 ?_
        refine hg_P_0n b1 hx hb hts in_f_X3_iterate_X7 hown hK hP (va_Nw.use rfl (hG.1 _ (List.mem_of_getElem? (i := 66) rfl))) dX3_iterate_199 ?_
        refine lv_iload_n hx hb dX3_iterate_202 rfl (lv_at hl 1 rfl) ?_
        refine lv_iconst (v := 1) hx hb dX3_iterate_203 (by decide) ?_
        refine lv_iadd hx hb dX3_iterate_204 ?_
        obtain ⟨q2, h⟩ := kr_ite1 h
        refine hl_P0 ((sKd σ b1)) hx hb hK hP q2 dX3_iterate_205 ?_
        refine lv_istore (lv' := [(7, .int (σ.2.2.1 (pR0 ((sKd σ b1))) ((((L.1 3)) + 1)).toNatClampNeg)), (0, .ref (a 18)), (3, .int (L.1 3)), (5, .ref (a 23)), (6, .int (L.1 6))]) hx hb dX3_iterate_206 hl (by decide) rfl (fun ls hl => ?_)
        exact ih.2.2.2.2.2.2.2.2.2.2.2.2.2.2.2.2.2.2.2.2.2.2.2.2.1 z _ _ (lI L 7 ((σ.2.2.1 (pR0 ((sKd σ b1))) ((((L.1 3)) + 1)).toNatClampNeg))) σ _ h hzk hc hs H locs ls hP hD hS (lv_sub hl [1, 2, 3, 4, 0] rfl)
      · intro z cells slots L σ r h hzk hc hs H locs ls hP hD hS hl
        rw [f_X3_iterate] at h
        obtain rfl := Option.some.inj h
        subst hc
        subst hs
        exact xr_v hx hb hr hK hzk hP hD hS hlocks dX3_iterate_292
      · intro z cells slots L σ r h hzk hc hs H locs ls hP hD hS hl
        rw [f_X3_iterate] at h
        refine lv_iload hx hb dX3_iterate_208 (lv_at hl 4 rfl) ?_
        refine lv_if_le (tgt := 231) hx hb dX3_iterate_210 (by decide) (fun c1 => ?_) (fun c1 => ?_)
        · rw [if_pos c1] at h
          exact ih.2.2.2.2.2.2.2.2.2.2.2.2.2.2.2.2.2.2.2.2.2.2.2.2.2 z _ _ L σ _ h hzk hc hs H locs ls hP hD hS (lv_sub hl [0, 1] rfl)
        · rw [if_neg c1] at h
          refine lv_aload hx hb dX3_iterate_213 (lv_at hl 2 rfl) ?_
          refine lv_iload hx hb dX3_iterate_215 (lv_at hl 3 rfl) ?_
          refine lv_iload hx hb dX3_iterate_217 (lv_at hl 4 rfl) ?_
          refine lv_iadd hx hb dX3_iterate_219 ?_
          refine lv_iconst (v := 1) hx hb dX3_iterate_220 (by decide) ?_
          refine lv_isub hx hb dX3_iterate_221 ?_
          refine lv_ldc (v := (-2147483648)) hx hb hown (hts _ (List.mem_cons_of_mem _ (List.mem_append_left _ (List.mem_append_left _ (List.mem_of_getElem? (i := 24) rfl))))) dX3_iterate_222 ?_
          obtain ⟨q2, h⟩ := kr_ite1 h
          refine hs_20 hx hb hK hP hD hS q2 dX3_iterate_224 (fun H locs hP hD hS => ?_)
          refine lv_iinc (v := ((L.1 7)) + (-1)) (lv' := [(7, .int (((L.1 7)) + (-1))), (0, .ref (a 18)), (3, .int (L.1 3)), (5, .ref (z 20)), (6, .int (L.1 6))]) hx hb dX3_iterate_225 hl (k := 4) rfl rfl (by decide) rfl (fun ls hl => ?_)
          refine lv_goto (tgt := 208) hx hb dX3_iterate_228 (by decide) ?_
          exact ih.2.2.2.2.2.2.2.2.2.2.2.2.2.2.2.2.2.2.2.2.2.2.2.1 z _ _ (lI L 7 ((((L.1 7)) + (-1)))) (uA σ 20 ((((((L.1 6)) + ((L.1 7)))) - 1)).toNatClampNeg ((-2147483648))) _ h hzk hc hs H locs ls hP hD hS (lv_sub hl [1, 2, 3, 4, 0] rfl)
      · intro z cells slots L σ r h hzk hc hs H locs ls hP hD hS hl
        rw [f_X3_iterate] at h
        refine lv_iload hx hb dX3_iterate_208 (lv_at hl 4 rfl) ?_
        refine lv_if_le (tgt := 231) hx hb dX3_iterate_210 (by decide) (fun c1 => ?_) (fun c1 => ?_)
        · rw [if_pos c1] at h
          exact ih.2.2.2.2.2.2.2.2.2.2.2.2.2.2.2.2.2.2.2.2.2.2.2.2.2 z _ _ L σ _ h hzk hc hs H locs ls hP hD hS (lv_sub hl [0, 1] rfl)
        · rw [if_neg c1] at h
          refine lv_aload hx hb dX3_iterate_213 (lv_at hl 2 rfl) ?_
          refine lv_iload hx hb dX3_iterate_215 (lv_at hl 3 rfl) ?_
          refine lv_iload hx hb dX3_iterate_217 (lv_at hl 4 rfl) ?_
          refine lv_iadd hx hb dX3_iterate_219 ?_
          refine lv_iconst (v := 1) hx hb dX3_iterate_220 (by decide) ?_
          refine lv_isub hx hb dX3_iterate_221 ?_
          refine lv_ldc (v := (-2147483648)) hx hb hown (hts _ (List.mem_cons_of_mem _ (List.mem_append_left _ (List.mem_append_left _ (List.mem_of_getElem? (i := 24) rfl))))) dX3_iterate_222 ?_
          obtain ⟨q2, h⟩ := kr_ite1 h
          refine hs_23 hx hb hK hP hD hS q2 dX3_iterate_224 (fun H locs hP hD hS => ?_)
          refine lv_iinc (v := ((L.1 7)) + (-1)) (lv' := [(7, .int (((L.1 7)) + (-1))), (0, .ref (a 18)), (3, .int (L.1 3)), (5, .ref (a 23)), (6, .int (L.1 6))]) hx hb dX3_iterate_225 hl (k := 4) rfl rfl (by decide) rfl (fun ls hl => ?_)
          refine lv_goto (tgt := 208) hx hb dX3_iterate_228 (by decide) ?_
          exact ih.2.2.2.2.2.2.2.2.2.2.2.2.2.2.2.2.2.2.2.2.2.2.2.2.1 z _ _ (lI L 7 ((((L.1 7)) + (-1)))) (uA σ 23 ((((((L.1 6)) + ((L.1 7)))) - 1)).toNatClampNeg ((-2147483648))) _ h hzk hc hs H locs ls hP hD hS (lv_sub hl [1, 2, 3, 4, 0] rfl)
      · intro z cells slots L σ r h hzk hc hs H locs ls hP hD hS hl
        rw [f_X3_iterate] at h
        refine lv_aload_n hx hb dX3_iterate_231 rfl (lv_at hl 0 rfl) ?_
        refine hg_18_5 hx hb hts in_f_X3_iterate_X3 hown hK hP (hts _ (List.mem_cons_of_mem _ (List.mem_append_left _ (List.mem_append_left _ (List.mem_of_getElem? (i := 2) rfl))))) dX3_iterate_232 ?_
        refine lv_iload_n hx hb dX3_iterate_235 rfl (lv_at hl 1 rfl) ?_
        refine lv_iconst (v := 2) hx hb dX3_iterate_236 (by decide) ?_
        refine lv_iadd hx hb dX3_iterate_237 ?_
        refine hp_19_0n hx hb hts in_f_X3_iterate_X8 hown hK hP hD hS (va_Nw.use rfl (hG.1 _ (List.mem_of_getElem? (i := 8) rfl))) dX3_iterate_238 (fun H locs hP hD hS => ?_)
        refine lv_goto (tgt := 292) hx hb dX3_iterate_241 (by decide) ?_
        exact ih.2.2.2.2.2.2.2.2.2.2.2.2.2.2.2.2.2.2.2.2.2.2.1 z _ _ L (uI σ 1900 ((((L.1 3)) + 2))) _ h hzk hc hs H locs ls hP hD hS (lv_sub hl [] rfl)
  exact (blk k0).1 z 0 0 L0 σ0 r0 h0 (zk_rf _ _) ((Nat.zero_add _).trans hmc) ((Nat.zero_add _).trans hms) s.heap [] ls hP hD hS hl
/-! X3_joinSet -/
def f_X3_joinSet : Nat → Nat → LV → CS → Option RS
  | 0, _, _, _ => none
  | k + 1, 0, L, σ => f_X3_joinSet k 1 (lI (lI (lI (lI (lI L 2 ((((σ.1 1902)) - ((L.1 1))))) 3 0) 4 1) 5 0) 6 ((((σ.1 1902)) - ((L.1 1))))) σ
  | k + 1, 1, L, σ => if ((((L.1 2)) + ((L.1 1)))) ≤ ((L.1 6)) then (f_X3_joinSet k 2 L σ) else (if ¬ (((L.1 6)) < 0 ∨ (sN σ 20) ≤ ((L.1 6)).toNatClampNeg) then (if ((L.1 5)) = 0 then (if ((σ.2.2.1 20 ((L.1 6)).toNatClampNeg)) = ((-2147483648)) then (f_X3_joinSet k 3 (lI L 7 ((σ.2.2.1 20 ((L.1 6)).toNatClampNeg))) σ) else (f_X3_joinSet k 4 (lI L 7 ((σ.2.2.1 20 ((L.1 6)).toNatClampNeg))) σ)) else (f_X3_joinSet k 3 (lI L 7 ((σ.2.2.1 20 ((L.1 6)).toNatClampNeg))) σ)) else none)
  | k + 1, 2, L, σ => if ((L.1 5)) = 0 then (f_X3_joinSet k 5 (lI L 100 ((L.1 2))) σ) else (f_X3_joinSet k 6 (lI (lI L 100 ((-2147483648))) 101 ((L.1 2))) σ)
  | k + 1, 3, L, σ => f_X3_joinSet k 7 (lI L 100 1) σ
  | k + 1, 4, L, σ => f_X3_joinSet k 7 (lI L 100 0) σ
  | k + 1, 5, L, σ => if ¬ (((L.1 2)) < 0 ∨ (sN σ 20) ≤ ((L.1 2)).toNatClampNeg) then (f_X3_joinSet k 6 (lI (lI L 100 ((σ.2.2.1 20 ((L.1 2)).toNatClampNeg))) 101 ((L.1 100))) σ) else none
  | k + 1, 6, L, σ => if ¬ (((L.1 101)) < 0 ∨ (sN σ 20) ≤ ((L.1 101)).toNatClampNeg) then (op (y_X11_raw k 0 (lI lZ 0 ((L.1 3))) (uI (uA σ 20 ((L.1 101)).toNatClampNeg ((L.1 100))) 1902 ((((L.1 2)) + ((L.1 3)))))) (fun r2 => f_X3_joinSet k 8 (lI L 100 r2.1) r2.2)) else none
  | k + 1, 7, L, σ => if 1000 < ((L.1 4)) then (f_X3_joinSet k 9 (lI L 5 ((L.1 100))) σ) else (op (y_X0_insert__z20 k 0 (lI (lI (lI (lI lZ 2 ((L.1 2))) 3 ((L.1 3))) 4 ((((L.1 2)) + ((L.1 3))))) 5 ((L.1 7))) σ) (fun r2 => if r2.1 = 0 then (f_X3_joinSet k 9 (lI L 5 ((L.1 100))) r2.2) else (op (y_X1_size k 0 (lI lZ 1 ((L.1 7))) r2.2) (fun r4 => f_X3_joinSet k 9 (lI (lI (lI L 3 ((((L.1 3)) + 1))) 4 ((((L.1 4)) + r4.1))) 5 ((L.1 100))) r4.2))))
  | k + 1, 8, L, σ => ox (f_X3_push k 0 (lI lZ 1 ((L.1 100))) σ) (fun r1 => if ((L.1 4)) ≤ 1000 then (f_X3_joinSet k 10 L r1.2.1) else (f_X3_joinSet k 11 (lI L 100 3000) r1.2.1))
  | k + 1, 9, L, σ => f_X3_joinSet k 1 (lI L 6 ((((L.1 6)) + 1))) σ
  | k + 1, 10, L, σ => f_X3_joinSet k 11 (lI L 100 ((L.1 4))) σ
  | k + 1, 11, L, σ => op (y_X11_raw k 0 (lI lZ 0 ((L.1 100))) σ) (fun r1 => ox (f_X3_push k 0 (lI lZ 1 r1.1) r1.2) (fun r2 => some ((0, 0), r2.2.1, (0, 0))))
  | _ + 1, _ + 12, _, _ => none
def o_f_X3_joinSet : List Cond := [.fieldLink RX3 14 "SetHouse$Machine" "run" "LSetHouse$Run;", .fieldLink RX3 18 "SetHouse$Machine" "stack" "[I", .constant RX3 136 (-2147483648), .initialized RX11, .static yX11_raw, .fieldLink RX3 47 "SetHouse$Machine" "algebra" "LSetHouse$Algebra;", .methodLink RX3 536 yX0_insert, .instanceMethod yX0_insert, .selects RX0 yX0_insert yX0_insert, .initialized RX0, .fieldLink RX3 39 "SetHouse$Machine" "heap" "LSetHouse$Heap;", .methodLink RX3 316 yX1_size, .instanceMethod yX1_size, .selects RX1 yX1_size yX1_size, .initialized RX1, .methodLink RX3 322 yX3_push, .instanceMethod yX3_push, .selects RX3 yX3_push yX3_push, .initialized RX3]
theorem o_f_X3_joinSet_good : o_f_X3_joinSet.all goodWord = true := by decide +kernel
def p_f_X3_joinSet : List Cond := o_f_X3_joinSet ++ ((.code yX11_raw cX11_raw 1 (some .int) :: p_y_X11_raw) ++ ((.code yX0_insert cX0_insert 10 (some .boolean) :: p_y_X0_insert__z20) ++ ((.code yX1_size cX1_size 3 (some .int) :: p_y_X1_size) ++ ((.code yX3_push cX3_push 2 none :: p_f_X3_push) ++ []))))
theorem p_f_X3_joinSet_good : p_f_X3_joinSet.all goodWord = true := nb_all2 o_f_X3_joinSet_good (nb_all2 (nb_allc (by decide +kernel) p_y_X11_raw_good) (nb_all2 (nb_allc (by decide +kernel) p_y_X0_insert__z20_good) (nb_all2 (nb_allc (by decide +kernel) p_y_X1_size_good) (nb_all2 (nb_allc (by decide +kernel) p_f_X3_push_good) rfl))))
def w_f_X3_joinSet : List Cond := .code yX3_joinSet cX3_joinSet 8 none :: (p_f_X3_joinSet ++ fC)
theorem w_f_X3_joinSet_good : w_f_X3_joinSet.all goodWord = true := nb_allc (by decide +kernel) (nb_all2 p_f_X3_joinSet_good fC_good)
theorem in_f_X3_joinSet_X3 : ∀ w ∈ wsX30, w ∈ w_f_X3_joinSet := fun _ h => List.mem_cons_of_mem _ (List.mem_append_right _ (List.mem_append_right _ (List.mem_append_right _ (List.mem_append_right _ (List.mem_append_left _ h)))))
theorem in_f_X3_joinSet_X8 : ∀ w ∈ wsX80, w ∈ w_f_X3_joinSet := fun _ h => List.mem_cons_of_mem _ (List.mem_append_right _ (List.mem_append_right _ (List.mem_append_right _ (List.mem_append_right _ (List.mem_append_right _ (List.mem_append_right _ (List.mem_append_right _ (List.mem_append_right _ (List.mem_append_left _ h)))))))))
theorem hd_f_X3_joinSet : yX3_joinSet.cls = RX3 ∧ yX3_joinSet.cls ≠ "java/lang/invoke/MethodHandle" ∧ yX3_joinSet.cls ≠ "java/lang/invoke/VarHandle" ∧ (parseMethodDescriptor yX3_joinSet.desc).map (fun d => d.parameters.length) = some 1 := by decide +kernel
theorem gg_f_X3_joinSet_X3_push : GoodIn w_f_X3_joinSet w_f_X3_push := goodIn_sub (fun w h => (List.mem_cons.mp h).elim (fun e => (List.mem_cons_of_mem _ (List.mem_append_left _ (List.mem_append_right _ (List.mem_append_right _ (List.mem_append_right _ (List.mem_append_right _ (List.mem_append_left _ (List.mem_cons.mpr (Or.inl e)))))))))) (fun h => (List.mem_append.mp h).elim (fun h => (List.mem_cons_of_mem _ (List.mem_append_left _ (List.mem_append_right _ (List.mem_append_right _ (List.mem_append_right _ (List.mem_append_right _ (List.mem_append_left _ (List.mem_cons_of_mem _ h))))))))) (fun h => List.mem_cons_of_mem _ (List.mem_append_right _ h)))) w_f_X3_push_good
theorem g_f_X3_joinSet_X3_push_V322 : GoodIn w_f_X3_joinSet (wsV RX3 322 RX3 yX3_push w_f_X3_push) := goodIn_app (nb_g4 (List.mem_cons_of_mem _ (List.mem_append_left _ (List.mem_append_left _ (List.mem_of_getElem? (i := 15) rfl)))) (List.mem_cons_of_mem _ (List.mem_append_left _ (List.mem_append_left _ (List.mem_of_getElem? (i := 16) rfl)))) (List.mem_cons_of_mem _ (List.mem_append_left _ (List.mem_append_left _ (List.mem_of_getElem? (i := 17) rfl)))) (List.mem_cons_of_mem _ (List.mem_append_left _ (List.mem_append_left _ (List.mem_of_getElem? (i := 18) rfl)))) (by decide +kernel)) gg_f_X3_joinSet_X3_push
theorem gg_f_X3_joinSet_X0_insert__z20 : GoodIn w_f_X3_joinSet w_y_X0_insert__z20 := goodIn_sub (fun w h => (List.mem_cons.mp h).elim (fun e => (List.mem_cons_of_mem _ (List.mem_append_left _ (List.mem_append_right _ (List.mem_append_right _ (List.mem_append_left _ (List.mem_cons.mpr (Or.inl e)))))))) (fun h => (List.mem_append.mp h).elim (fun h => (List.mem_cons_of_mem _ (List.mem_append_left _ (List.mem_append_right _ (List.mem_append_right _ (List.mem_append_left _ (List.mem_cons_of_mem _ h))))))) (fun h => List.mem_cons_of_mem _ (List.mem_append_right _ h)))) w_y_X0_insert__z20_good
theorem g_y_X3_joinSet_X0_insert__z20_V536 : GoodIn w_f_X3_joinSet (wsV RX3 536 RX0 yX0_insert w_y_X0_insert__z20) := goodIn_app (nb_g4 (List.mem_cons_of_mem _ (List.mem_append_left _ (List.mem_append_left _ (List.mem_of_getElem? (i := 6) rfl)))) (List.mem_cons_of_mem _ (List.mem_append_left _ (List.mem_append_left _ (List.mem_of_getElem? (i := 7) rfl)))) (List.mem_cons_of_mem _ (List.mem_append_left _ (List.mem_append_left _ (List.mem_of_getElem? (i := 8) rfl)))) (List.mem_cons_of_mem _ (List.mem_append_left _ (List.mem_append_left _ (List.mem_of_getElem? (i := 9) rfl)))) (by decide +kernel)) gg_f_X3_joinSet_X0_insert__z20
theorem gg_f_X3_joinSet_X11_raw : GoodIn w_f_X3_joinSet w_y_X11_raw := goodIn_sub (fun w h => (List.mem_cons.mp h).elim (fun e => (List.mem_cons_of_mem _ (List.mem_append_left _ (List.mem_append_right _ (List.mem_append_left _ (List.mem_cons.mpr (Or.inl e))))))) (fun h => (List.mem_append.mp h).elim (fun h => (List.mem_cons_of_mem _ (List.mem_append_left _ (List.mem_append_right _ (List.mem_append_left _ (List.mem_cons_of_mem _ h)))))) (fun h => List.mem_cons_of_mem _ (List.mem_append_right _ h)))) w_y_X11_raw_good
theorem g_y_X3_joinSet_X11_raw_SN182 : GoodIn w_f_X3_joinSet w_y_X11_raw := gg_f_X3_joinSet_X11_raw
theorem gg_f_X3_joinSet_X1_size : GoodIn w_f_X3_joinSet w_y_X1_size := goodIn_sub (fun w h => (List.mem_cons.mp h).elim (fun e => (List.mem_cons_of_mem _ (List.mem_append_left _ (List.mem_append_right _ (List.mem_append_right _ (List.mem_append_right _ (List.mem_append_left _ (List.mem_cons.mpr (Or.inl e))))))))) (fun h => (List.mem_append.mp h).elim (fun h => (List.mem_cons_of_mem _ (List.mem_append_left _ (List.mem_append_right _ (List.mem_append_right _ (List.mem_append_right _ (List.mem_append_left _ (List.mem_cons_of_mem _ h)))))))) (fun h => List.mem_cons_of_mem _ (List.mem_append_right _ h)))) w_y_X1_size_good
theorem g_y_X3_joinSet_X1_size_V316 : GoodIn w_f_X3_joinSet (wsV RX3 316 RX1 yX1_size w_y_X1_size) := goodIn_app (nb_g4 (List.mem_cons_of_mem _ (List.mem_append_left _ (List.mem_append_left _ (List.mem_of_getElem? (i := 11) rfl)))) (List.mem_cons_of_mem _ (List.mem_append_left _ (List.mem_append_left _ (List.mem_of_getElem? (i := 12) rfl)))) (List.mem_cons_of_mem _ (List.mem_append_left _ (List.mem_append_left _ (List.mem_of_getElem? (i := 13) rfl)))) (List.mem_cons_of_mem _ (List.mem_append_left _ (List.mem_append_left _ (List.mem_of_getElem? (i := 14) rfl)))) (by decide +kernel)) gg_f_X3_joinSet_X1_size
set_option maxHeartbeats 40000000 in
set_option maxRecDepth 100000 in
theorem c_f_X3_joinSet (l : Launch) (hl0 : l.stackTraces = false) (dC : Nat → ClassId) (dI : Nat → Nat → Nat) (cy : Nat → ClassId) (ek a : Nat → Nat) (k0 : Nat) (L0 : LV) (σ0 : CS) (r0 : RS) (h0 : f_X3_joinSet k0 0 L0 σ0 = some r0) (z : Nat → Nat) (sz : Nat) : vx_Met l yX3_joinSet w_f_X3_joinSet ({ frames := 64, cells := r0.2.2.1, slots := r0.2.2.2, locals := 1789 }) (va_Pc [.ref (a 18), .int (L0.1 1)] (nInF (dC, dI) cy ek sz (vC cy a z σ0))) (xV dC dI cy a (va_A (vC cy a z σ0) sz) [20] z r0) (xX dC dI cy a (va_A (vC cy a z σ0) sz) [20] z r0) r0.2.2.1 r0.2.2.2 (va_A (vC cy a z σ0) sz) := by
  refine vx_ofW (cc := cX3_joinSet) (maxL := 8) (ret := none) (by decide) rfl ?_
  intro p e s m args below meth c s₁ B hml hno hv
  obtain ⟨rfl, ⟨⟨hsz, hP, hK, hD0, hG⟩, hE⟩, hT⟩ := hv
  have hx := B.exec
  have hb := B.bytes
  have hr := B.returns
  have hts := atoms_spec (ws := w_f_X3_joinSet) B.pre
  have hown : s.vm.findClass RX3 = some m.cls := findClass_of_methodNamed B.named
  have hlocks := B.notSynchronized
  subst hsz
  have hD := hD0.self (sz := s.heap.size)
  generalize hAe : va_A (vC cy a z σ0) s.heap.size = A at hD hE hT ⊢
  have hA : ∀ q : Nat, s.heap.size ≤ q → A q := fun q h => by rw [← hAe]; exact Or.inr h
  have hS : va_S A s.heap s.heap [] := va_S.rf
  have hl := lv_entry ([.ref (a 18), .int (L0.1 1)]) (n := 8) (Nat.le_of_ble_eq_true rfl)
  rw [lg_entry_eq]
  generalize (lg_sl ([.ref (a 18), .int (L0.1 1)]) ++ List.replicate (8 - (lg_sl ([.ref (a 18), .int (L0.1 1)])).length) Slot.unset).toArray = ls at hl ⊢
  have hl : lv_has ls 8 [(0, .ref (a 18)), (1, .int (L0.1 1))] := hl
  generalize hmc : r0.2.2.1 = mc
  generalize hms : r0.2.2.2 = ms
  have blk : ∀ k : Nat, (bX p l e (headSpec w_f_X3_joinSet ({ frames := 64, cells := mc, slots := ms, locals := 1789 })).room s m #[.ref (a 18), .int (L0.1 1)] below meth c dC dI cy a A (fun r => vx_MQ below (xV dC dI cy a A [20] z r) (xX dC dI cy a A [20] z r) #[.ref (a 18), .int (L0.1 1)] s mc ms A) [20] z mc ms 8 (f_X3_joinSet k 0) (fun z L => [(0, .ref (a 18)), (1, .int (L.1 1))]) 0 (fun z L => [])) ∧ (bX p l e (headSpec w_f_X3_joinSet ({ frames := 64, cells := mc, slots := ms, locals := 1789 })).room s m #[.ref (a 18), .int (L0.1 1)] below meth c dC dI cy a A (fun r => vx_MQ below (xV dC dI cy a A [20] z r) (xX dC dI cy a A [20] z r) #[.ref (a 18), .int (L0.1 1)] s mc ms A) [20] z mc ms 8 (f_X3_joinSet k 1) (fun z L => [(0, .ref (a 18)), (1, .int (L.1 1)), (2, .int (L.1 2)), (3, .int (L.1 3)), (4, .int (L.1 4)), (5, .int (L.1 5)), (6, .int (L.1 6))]) 21 (fun z L => [])) ∧ (bX p l e (headSpec w_f_X3_joinSet ({ frames := 64, cells := mc, slots := ms, locals := 1789 })).room s m #[.ref (a 18), .int (L0.1 1)] below meth c dC dI cy a A (fun r => vx_MQ below (xV dC dI cy a A [20] z r) (xX dC dI cy a A [20] z r) #[.ref (a 18), .int (L0.1 1)] s mc ms A) [20] z mc ms 8 (f_X3_joinSet k 2) (fun z L => [(0, .ref (a 18)), (2, .int (L.1 2)), (3, .int (L.1 3)), (4, .int (L.1 4)), (5, .int (L.1 5))]) 109 (fun z L => [])) ∧ (bX p l e (headSpec w_f_X3_joinSet ({ frames := 64, cells := mc, slots := ms, locals := 1789 })).room s m #[.ref (a 18), .int (L0.1 1)] below meth c dC dI cy a A (fun r => vx_MQ below (xV dC dI cy a A [20] z r) (xX dC dI cy a A [20] z r) #[.ref (a 18), .int (L0.1 1)] s mc ms A) [20] z mc ms 8 (f_X3_joinSet k 3) (fun z L => [(0, .ref (a 18)), (1, .int (L.1 1)), (2, .int (L.1 2)), (3, .int (L.1 3)), (4, .int (L.1 4)), (6, .int (L.1 6)), (7, .int (L.1 7))]) 50 (fun z L => [])) ∧ (bX p l e (headSpec w_f_X3_joinSet ({ frames := 64, cells := mc, slots := ms, locals := 1789 })).room s m #[.ref (a 18), .int (L0.1 1)] below meth c dC dI cy a A (fun r => vx_MQ below (xV dC dI cy a A [20] z r) (xX dC dI cy a A [20] z r) #[.ref (a 18), .int (L0.1 1)] s mc ms A) [20] z mc ms 8 (f_X3_joinSet k 4) (fun z L => [(0, .ref (a 18)), (1, .int (L.1 1)), (2, .int (L.1 2)), (3, .int (L.1 3)), (4, .int (L.1 4)), (6, .int (L.1 6)), (7, .int (L.1 7))]) 54 (fun z L => [])) ∧ (bX p l e (headSpec w_f_X3_joinSet ({ frames := 64, cells := mc, slots := ms, locals := 1789 })).room s m #[.ref (a 18), .int (L0.1 1)] below meth c dC dI cy a A (fun r => vx_MQ below (xV dC dI cy a A [20] z r) (xX dC dI cy a A [20] z r) #[.ref (a 18), .int (L0.1 1)] s mc ms A) [20] z mc ms 8 (f_X3_joinSet k 5) (fun z L => [(0, .ref (a 18)), (2, .int (L.1 2)), (3, .int (L.1 3)), (4, .int (L.1 4))]) 124 (fun z L => [.int (L.1 100), .ref (z 20)])) ∧ (bX p l e (headSpec w_f_X3_joinSet ({ frames := 64, cells := mc, slots := ms, locals := 1789 })).room s m #[.ref (a 18), .int (L0.1 1)] below meth c dC dI cy a A (fun r => vx_MQ below (xV dC dI cy a A [20] z r) (xX dC dI cy a A [20] z r) #[.ref (a 18), .int (L0.1 1)] s mc ms A) [20] z mc ms 8 (f_X3_joinSet k 6) (fun z L => [(0, .ref (a 18)), (2, .int (L.1 2)), (3, .int (L.1 3)), (4, .int (L.1 4))]) 130 (fun z L => [.int (L.1 100), .int (L.1 101), .ref (z 20)])) ∧ (bX p l e (headSpec w_f_X3_joinSet ({ frames := 64, cells := mc, slots := ms, locals := 1789 })).room s m #[.ref (a 18), .int (L0.1 1)] below meth c dC dI cy a A (fun r => vx_MQ below (xV dC dI cy a A [20] z r) (xX dC dI cy a A [20] z r) #[.ref (a 18), .int (L0.1 1)] s mc ms A) [20] z mc ms 8 (f_X3_joinSet k 7) (fun z L => [(0, .ref (a 18)), (1, .int (L.1 1)), (2, .int (L.1 2)), (3, .int (L.1 3)), (4, .int (L.1 4)), (6, .int (L.1 6)), (7, .int (L.1 7))]) 55 (fun z L => [.int (L.1 100)])) ∧ (bX p l e (headSpec w_f_X3_joinSet ({ frames := 64, cells := mc, slots := ms, locals := 1789 })).room s m #[.ref (a 18), .int (L0.1 1)] below meth c dC dI cy a A (fun r => vx_MQ below (xV dC dI cy a A [20] z r) (xX dC dI cy a A [20] z r) #[.ref (a 18), .int (L0.1 1)] s mc ms A) [20] z mc ms 8 (f_X3_joinSet k 8) (fun z L => [(0, .ref (a 18)), (4, .int (L.1 4))]) 146 (fun z L => [.int (L.1 100), .ref (a 18)])) ∧ (bX p l e (headSpec w_f_X3_joinSet ({ frames := 64, cells := mc, slots := ms, locals := 1789 })).room s m #[.ref (a 18), .int (L0.1 1)] below meth c dC dI cy a A (fun r => vx_MQ below (xV dC dI cy a A [20] z r) (xX dC dI cy a A [20] z r) #[.ref (a 18), .int (L0.1 1)] s mc ms A) [20] z mc ms 8 (f_X3_joinSet k 9) (fun z L => [(0, .ref (a 18)), (1, .int (L.1 1)), (2, .int (L.1 2)), (3, .int (L.1 3)), (4, .int (L.1 4)), (5, .int (L.1 5)), (6, .int (L.1 6))]) 103 (fun z L => [])) ∧ (bX p l e (headSpec w_f_X3_joinSet ({ frames := 64, cells := mc, slots := ms, locals := 1789 })).room s m #[.ref (a 18), .int (L0.1 1)] below meth c dC dI cy a A (fun r => vx_MQ below (xV dC dI cy a A [20] z r) (xX dC dI cy a A [20] z r) #[.ref (a 18), .int (L0.1 1)] s mc ms A) [20] z mc ms 8 (f_X3_joinSet k 10) (fun z L => [(4, .int (L.1 4))]) 164 (fun z L => [.ref (a 18)])) ∧ (bX p l e (headSpec w_f_X3_joinSet ({ frames := 64, cells := mc, slots := ms, locals := 1789 })).room s m #[.ref (a 18), .int (L0.1 1)] below meth c dC dI cy a A (fun r => vx_MQ below (xV dC dI cy a A [20] z r) (xX dC dI cy a A [20] z r) #[.ref (a 18), .int (L0.1 1)] s mc ms A) [20] z mc ms 8 (f_X3_joinSet k 11) (fun z L => []) 166 (fun z L => [.int (L.1 100), .ref (a 18)])) := by
    intro k
    induction k with
    | zero => exact ⟨fun z c1 c2 L σ r h => (by cases h), fun z c1 c2 L σ r h => (by cases h), fun z c1 c2 L σ r h => (by cases h), fun z c1 c2 L σ r h => (by cases h), fun z c1 c2 L σ r h => (by cases h), fun z c1 c2 L σ r h => (by cases h), fun z c1 c2 L σ r h => (by cases h), fun z c1 c2 L σ r h => (by cases h), fun z c1 c2 L σ r h => (by cases h), fun z c1 c2 L σ r h => (by cases h), fun z c1 c2 L σ r h => (by cases h), fun z c1 c2 L σ r h => (by cases h)⟩
    | succ k ih =>
      refine ⟨?_, ?_, ?_, ?_, ?_, ?_, ?_, ?_, ?_, ?_, ?_, ?_⟩
      · intro z cells slots L σ r h hzk hc hs H locs ls hP hD hS hl
        rw [f_X3_joinSet] at h
        refine lv_aload_n hx hb dX3_joinSet_0 rfl (lv_at hl 0 rfl) ?_
        refine hg_18_5 hx hb hts in_f_X3_joinSet_X3 hown hK hP (hts _ (List.mem_cons_of_mem _ (List.mem_append_left _ (List.mem_append_left _ (List.mem_of_getElem? (i := 0) rfl))))) dX3_joinSet_1 ?_
        refine hg_19_2n hx hb hts in_f_X3_joinSet_X8 hown hK hP (va_Nw.use rfl (hG.1 _ (List.mem_of_getElem? (i := 10) rfl))) dX3_joinSet_4 ?_
        refine lv_iload_n hx hb dX3_joinSet_7 rfl (lv_at hl 1 rfl) ?_
        refine lv_isub hx hb dX3_joinSet_8 ?_
        refine lv_istore_n (lv' := [(2, .int (((σ.1 1902)) - ((L.1 1)))), (0, .ref (a 18)), (1, .int (L.1 1))]) hx hb dX3_joinSet_9 rfl hl (by decide) rfl (fun ls hl => ?_)
        refine lv_iconst (v := 0) hx hb dX3_joinSet_10 (by decide) ?_
        refine lv_istore_n (lv' := [(3, .int 0), (2, .int (((σ.1 1902)) - ((L.1 1)))), (0, .ref (a 18)), (1, .int (L.1 1))]) hx hb dX3_joinSet_11 rfl hl (by decide) rfl (fun ls hl => ?_)
        refine lv_iconst (v := 1) hx hb dX3_joinSet_12 (by decide) ?_
        refine lv_istore (lv' := [(4, .int 1), (3, .int 0), (2, .int (((σ.1 1902)) - ((L.1 1)))), (0, .ref (a 18)), (1, .int (L.1 1))]) hx hb dX3_joinSet_13 hl (by decide) rfl (fun ls hl => ?_)
        refine lv_iconst (v := 0) hx hb dX3_joinSet_15 (by decide) ?_
        refine lv_istore (lv' := [(5, .int 0), (4, .int 1), (3, .int 0), (2, .int (((σ.1 1902)) - ((L.1 1)))), (0, .ref (a 18)), (1, .int (L.1 1))]) hx hb dX3_joinSet_16 hl (by decide) rfl (fun ls hl => ?_)
        refine lv_iload_n hx hb dX3_joinSet_18 rfl (lv_at hl 3 rfl) ?_
        refine lv_istore (lv' := [(6, .int (((σ.1 1902)) - ((L.1 1)))), (5, .int 0), (4, .int 1), (3, .int 0), (2, .int (((σ.1 1902)) - ((L.1 1)))), (0, .ref (a 18)), (1, .int (L.1 1))]) hx hb dX3_joinSet_19 hl (by decide) rfl (fun ls hl => ?_)
        exact ih.2.1 z _ _ (lI (lI (lI (lI (lI L 2 ((((σ.1 1902)) - ((L.1 1))))) 3 0) 4 1) 5 0) 6 ((((σ.1 1902)) - ((L.1 1))))) σ _ h hzk hc hs H locs ls hP hD hS (lv_sub hl [5, 6, 4, 3, 2, 1, 0] rfl)
      · intro z cells slots L σ r h hzk hc hs H locs ls hP hD hS hl
        rw [f_X3_joinSet] at h
        refine lv_iload hx hb dX3_joinSet_21 (lv_at hl 6 rfl) ?_
        refine lv_iload_n hx hb dX3_joinSet_23 rfl (lv_at hl 2 rfl) ?_
        refine lv_iload_n hx hb dX3_joinSet_24 rfl (lv_at hl 1 rfl) ?_
        refine lv_iadd hx hb dX3_joinSet_25 ?_
        refine lv_icmp_ge (tgt := 109) hx hb dX3_joinSet_26 (by decide) (fun c1 => ?_) (fun c1 => ?_)
        · rw [if_pos c1] at h
          exact ih.2.2.1 z _ _ L σ _ h hzk hc hs H locs ls hP hD hS (lv_sub hl [0, 2, 3, 4, 5] rfl)
        · rw [if_neg c1] at h
          refine lv_aload_n hx hb dX3_joinSet_29 rfl (lv_at hl 0 rfl) ?_
          refine hg_18_7 hx hb hts in_f_X3_joinSet_X3 hown hK hP (hts _ (List.mem_cons_of_mem _ (List.mem_append_left _ (List.mem_append_left _ (List.mem_of_getElem? (i := 1) rfl))))) dX3_joinSet_30 ?_
          refine lv_iload hx hb dX3_joinSet_33 (lv_at hl 6 rfl) ?_
          obtain ⟨q2, h⟩ := kr_ite1 h
          refine hl_20 hx hb hK hP q2 dX3_joinSet_35 ?_
          refine lv_istore (lv' := [(7, .int (σ.2.2.1 20 ((L.1 6)).toNatClampNeg)), (0, .ref (a 18)), (1, .int (L.1 1)), (2, .int (L.1 2)), (3, .int (L.1 3)), (4, .int (L.1 4)), (5, .int (L.1 5)), (6, .int (L.1 6))]) hx hb dX3_joinSet_36 hl (by decide) rfl (fun ls hl => ?_)
          refine lv_iload hx hb dX3_joinSet_38 (lv_at hl 6 rfl) ?_
          refine lv_if_ne (tgt := 50) hx hb dX3_joinSet_40 (by decide) (fun c3 => ?_) (fun c3 => ?_)
          · rw [if_neg c3] at h
            exact ih.2.2.2.1 z _ _ (lI L 7 ((σ.2.2.1 20 ((L.1 6)).toNatClampNeg))) σ _ h hzk hc hs H locs ls hP hD hS (lv_sub hl [1, 2, 3, 4, 5, 7, 0] rfl)
          · rw [if_pos c3] at h
            refine lv_iload hx hb dX3_joinSet_43 (lv_at hl 0 rfl) ?_
            refine lv_ldc (v := (-2147483648)) hx hb hown (hts _ (List.mem_cons_of_mem _ (List.mem_append_left _ (List.mem_append_left _ (List.mem_of_getElem? (i := 2) rfl))))) dX3_joinSet_45 ?_
            refine lv_icmp_ne (tgt := 54) hx hb dX3_joinSet_47 (by decide) (fun c4 => ?_) (fun c4 => ?_)
            · rw [if_neg c4] at h
              exact ih.2.2.2.2.1 z _ _ (lI L 7 ((σ.2.2.1 20 ((L.1 6)).toNatClampNeg))) σ _ h hzk hc hs H locs ls hP hD hS (lv_sub hl [1, 2, 3, 4, 5, 7, 0] rfl)
            · rw [if_pos c4] at h
              exact ih.2.2.2.1 z _ _ (lI L 7 ((σ.2.2.1 20 ((L.1 6)).toNatClampNeg))) σ _ h hzk hc hs H locs ls hP hD hS (lv_sub hl [1, 2, 3, 4, 5, 7, 0] rfl)
      · intro z cells slots L σ r h hzk hc hs H locs ls hP hD hS hl
        rw [f_X3_joinSet] at h
        refine lv_aload_n hx hb dX3_joinSet_109 rfl (lv_at hl 0 rfl) ?_
        refine hg_18_7 hx hb hts in_f_X3_joinSet_X3 hown hK hP (hts _ (List.mem_cons_of_mem _ (List.mem_append_left _ (List.mem_append_left _ (List.mem_of_getElem? (i := 1) rfl))))) dX3_joinSet_110 ?_
        refine lv_iload_n hx hb dX3_joinSet_113 rfl (lv_at hl 1 rfl) ?_
        refine lv_iload hx hb dX3_joinSet_114 (lv_at hl 4 rfl) ?_
        refine lv_if_eq (tgt := 124) hx hb dX3_joinSet_116 (by decide) (fun c1 => ?_) (fun c1 => ?_)
        · rw [if_pos c1] at h
          exact ih.2.2.2.2.2.1 z _ _ (lI L 100 ((L.1 2))) σ _ h hzk hc hs H locs ls hP hD hS (lv_sub hl [0, 1, 2, 3] rfl)
        · rw [if_neg c1] at h
          refine lv_ldc (v := (-2147483648)) hx hb hown (hts _ (List.mem_cons_of_mem _ (List.mem_append_left _ (List.mem_append_left _ (List.mem_of_getElem? (i := 2) rfl))))) dX3_joinSet_119 ?_
          refine lv_goto (tgt := 130) hx hb dX3_joinSet_121 (by decide) ?_
          exact ih.2.2.2.2.2.2.1 z _ _ (lI (lI L 100 ((-2147483648))) 101 ((L.1 2))) σ _ h hzk hc hs H locs ls hP hD hS (lv_sub hl [0, 1, 2, 3] rfl)
      · intro z cells slots L σ r h hzk hc hs H locs ls hP hD hS hl
        rw [f_X3_joinSet] at h
        refine lv_iconst (v := 1) hx hb dX3_joinSet_50 (by decide) ?_
        refine lv_goto (tgt := 55) hx hb dX3_joinSet_51 (by decide) ?_
        exact ih.2.2.2.2.2.2.2.1 z _ _ (lI L 100 1) σ _ h hzk hc hs H locs ls hP hD hS (lv_sub hl [0, 1, 2, 3, 4, 5, 6] rfl)
      · intro z cells slots L σ r h hzk hc hs H locs ls hP hD hS hl
        rw [f_X3_joinSet] at h
        refine lv_iconst (v := 0) hx hb dX3_joinSet_54 (by decide) ?_
        exact ih.2.2.2.2.2.2.2.1 z _ _ (lI L 100 0) σ _ h hzk hc hs H locs ls hP hD hS (lv_sub hl [0, 1, 2, 3, 4, 5, 6] rfl)
      · intro z cells slots L σ r h hzk hc hs H locs ls hP hD hS hl
        rw [f_X3_joinSet] at h
        refine lv_aload_n hx hb dX3_joinSet_124 rfl (lv_at hl 0 rfl) ?_
        refine hg_18_7 hx hb hts in_f_X3_joinSet_X3 hown hK hP (hts _ (List.mem_cons_of_mem _ (List.mem_append_left _ (List.mem_append_left _ (List.mem_of_getElem? (i := 1) rfl))))) dX3_joinSet_125 ?_
        refine lv_iload_n hx hb dX3_joinSet_128 rfl (lv_at hl 1 rfl) ?_
        obtain ⟨q1, h⟩ := kr_ite1 h
        refine hl_20 hx hb hK hP q1 dX3_joinSet_129 ?_
        exact ih.2.2.2.2.2.2.1 z _ _ (lI (lI L 100 ((σ.2.2.1 20 ((L.1 2)).toNatClampNeg))) 101 ((L.1 100))) σ _ h hzk hc hs H locs ls hP hD hS (lv_sub hl [0, 1, 2, 3] rfl)
      · intro z cells slots L σ r h hzk hc hs H locs ls hP hD hS hl
        rw [f_X3_joinSet] at h
        obtain ⟨q1, h⟩ := kr_ite1 h
        refine hs_20 hx hb hK hP hD hS q1 dX3_joinSet_130 (fun H locs hP hD hS => ?_)
        refine lv_aload_n hx hb dX3_joinSet_131 rfl (lv_at hl 0 rfl) ?_
        refine hg_18_5 hx hb hts in_f_X3_joinSet_X3 hown hK hP (hts _ (List.mem_cons_of_mem _ (List.mem_append_left _ (List.mem_append_left _ (List.mem_of_getElem? (i := 0) rfl))))) dX3_joinSet_132 ?_
        refine lv_iload_n hx hb dX3_joinSet_135 rfl (lv_at hl 1 rfl) ?_
        refine lv_iload_n hx hb dX3_joinSet_136 rfl (lv_at hl 2 rfl) ?_
        refine lv_iadd hx hb dX3_joinSet_137 ?_
        refine hp_19_2n hx hb hts in_f_X3_joinSet_X8 hown hK hP hD hS (va_Nw.use rfl (hG.1 _ (List.mem_of_getElem? (i := 10) rfl))) dX3_joinSet_138 (fun H locs hP hD hS => ?_)
        refine lv_aload_n hx hb dX3_joinSet_141 rfl (lv_at hl 0 rfl) ?_
        refine lv_iload_n hx hb dX3_joinSet_142 rfl (lv_at hl 2 rfl) ?_
        obtain ⟨r2, hc2, h⟩ := op_ex h
        refine kc_i (va_runSN (As := [.int (L.1 3)]) (rest := [.ref (a 18)]) ⟨hx, hb, hml, hown, hts⟩ (c_y_X11_raw l dC dI cy a z k (lI lZ 0 ((L.1 3))) (uI (uA σ 20 ((L.1 101)).toNatClampNeg ((L.1 100))) 1902 ((((L.1 2)) + ((L.1 3))))) r2 hc2 H.size) ⟨va_cnB 1 hts g_y_X3_joinSet_X11_raw_SN182 rfl rfl rfl (hG.1 _ (List.mem_of_getElem? (i := 103) rfl)) (hts _ (List.mem_cons_of_mem _ (List.mem_append_left _ (List.mem_append_left _ (List.mem_of_getElem? (i := 3) rfl))))) hd_y_X11_raw ⟨Nat.le_of_ble_eq_true rfl, Nat.le_of_ble_eq_true rfl⟩, (hts _ (List.mem_cons_of_mem _ (List.mem_append_left _ (List.mem_append_left _ (List.mem_of_getElem? (i := 4) rfl))))), trivial⟩ ⟨nb_blind, (kb_pre hK hG hP hD)⟩ rfl rfl hl.1 rfl (lv_room (Nat.le_of_ble_eq_true rfl)) dX3_joinSet_143 ⟨(Nat.le_trans (Nat.le_add_right _ _) (Nat.le_of_eq hc)), (Nat.le_trans (Nat.le_add_right _ _) (Nat.le_of_eq hs))⟩) hA hP hD hS (fun H locs hP hD hS => ?_)
        exact ih.2.2.2.2.2.2.2.2.1 z _ _ (lI L 100 r2.1) r2.2 _ h hzk hc hs H locs ls hP hD hS (lv_sub hl [0, 3] rfl)
      · intro z cells slots L σ r h hzk hc hs H locs ls hP hD hS hl
        rw [f_X3_joinSet] at h
        refine lv_istore (lv' := [(5, .int (L.1 100)), (0, .ref (a 18)), (1, .int (L.1 1)), (2, .int (L.1 2)), (3, .int (L.1 3)), (4, .int (L.1 4)), (6, .int (L.1 6)), (7, .int (L.1 7))]) hx hb dX3_joinSet_55 hl (by decide) rfl (fun ls hl => ?_)
        refine lv_iload hx hb dX3_joinSet_57 (lv_at hl 5 rfl) ?_
        refine lv_sipush (v := 1000) hx hb dX3_joinSet_59 (by decide) ?_
        refine lv_icmp_gt (tgt := 103) hx hb dX3_joinSet_62 (by decide) (fun c1 => ?_) (fun c1 => ?_)
        · rw [if_pos c1] at h
          exact ih.2.2.2.2.2.2.2.2.2.1 z _ _ (lI L 5 ((L.1 100))) σ _ h hzk hc hs H locs ls hP hD hS (lv_sub hl [1, 2, 3, 4, 5, 0, 6] rfl)
        · rw [if_neg c1] at h
          refine lv_aload_n hx hb dX3_joinSet_65 rfl (lv_at hl 1 rfl) ?_
          refine hg_18_2 hx hb hts in_f_X3_joinSet_X3 hown hK hP (hts _ (List.mem_cons_of_mem _ (List.mem_append_left _ (List.mem_append_left _ (List.mem_of_getElem? (i := 5) rfl))))) dX3_joinSet_66 ?_
          refine lv_aload_n hx hb dX3_joinSet_69 rfl (lv_at hl 1 rfl) ?_
          refine hg_18_7 hx hb hts in_f_X3_joinSet_X3 hown hK hP (hts _ (List.mem_cons_of_mem _ (List.mem_append_left _ (List.mem_append_left _ (List.mem_of_getElem? (i := 1) rfl))))) dX3_joinSet_70 ?_
          refine lv_iload_n hx hb dX3_joinSet_73 rfl (lv_at hl 3 rfl) ?_
          refine lv_iload_n hx hb dX3_joinSet_74 rfl (lv_at hl 4 rfl) ?_
          refine lv_iload_n hx hb dX3_joinSet_75 rfl (lv_at hl 3 rfl) ?_
          refine lv_iload_n hx hb dX3_joinSet_76 rfl (lv_at hl 4 rfl) ?_
          refine lv_iadd hx hb dX3_joinSet_77 ?_
          refine lv_iload hx hb dX3_joinSet_78 (lv_at hl 7 rfl) ?_
          obtain ⟨r2, hc2, h⟩ := op_ex h
          refine kc_i (va_runV (As := [.ref (z 20), .int (L.1 2), .int (L.1 3), .int (((L.1 2)) + ((L.1 3))), .int (L.1 7)]) (rest := []) ⟨hx, hb, hml, hown, hts⟩ (c_y_X0_insert__z20 l dC dI cy a z k (lI (lI (lI (lI lZ 2 ((L.1 2))) 3 ((L.1 3))) 4 ((((L.1 2)) + ((L.1 3))))) 5 ((L.1 7))) σ r2 hc2 H.size) (cwV 5 hts g_y_X3_joinSet_X0_insert__z20_V536 rfl rfl rfl hd_y_X0_insert__z20 ⟨Nat.le_of_ble_eq_true rfl, Nat.le_of_ble_eq_true rfl⟩) ⟨nb_blind, va_recv hK hP (ci := 0) (q0 := 14) rfl rfl, (kb_pre hK hG hP hD)⟩ rfl rfl hl.1 rfl (lv_room (Nat.le_of_ble_eq_true rfl)) dX3_joinSet_80 ⟨(Nat.le_trans (Nat.le_add_right _ _) (Nat.le_of_eq hc)), (Nat.le_trans (Nat.le_add_right _ _) (Nat.le_of_eq hs))⟩) hA hP hD hS (fun H locs hP hD hS => ?_)
          refine lv_if_eq (tgt := 103) hx hb dX3_joinSet_83 (by decide) (fun c3 => ?_) (fun c3 => ?_)
          · rw [if_pos c3] at h
            exact ih.2.2.2.2.2.2.2.2.2.1 z _ _ (lI L 5 ((L.1 100))) r2.2 _ h hzk hc hs H locs ls hP hD hS (lv_sub hl [1, 2, 3, 4, 5, 0, 6] rfl)
          · rw [if_neg c3] at h
            refine lv_iinc (v := ((L.1 3)) + 1) (lv' := [(3, .int (((L.1 3)) + 1)), (5, .int (L.1 100)), (0, .ref (a 18)), (1, .int (L.1 1)), (2, .int (L.1 2)), (4, .int (L.1 4)), (6, .int (L.1 6)), (7, .int (L.1 7))]) hx hb dX3_joinSet_86 hl (k := 4) rfl rfl (by decide) rfl (fun ls hl => ?_)
            refine lv_iload hx hb dX3_joinSet_89 (lv_at hl 5 rfl) ?_
            refine lv_aload_n hx hb dX3_joinSet_91 rfl (lv_at hl 2 rfl) ?_
            refine hg_18_0 hx hb hts in_f_X3_joinSet_X3 hown hK hP (hts _ (List.mem_cons_of_mem _ (List.mem_append_left _ (List.mem_append_left _ (List.mem_of_getElem? (i := 10) rfl))))) dX3_joinSet_92 ?_
            refine lv_iload hx hb dX3_joinSet_95 (lv_at hl 7 rfl) ?_
            obtain ⟨r4, hc4, h⟩ := op_ex h
            refine kc_i (va_runV (As := [.int (L.1 7)]) (rest := [.int (L.1 4)]) ⟨hx, hb, hml, hown, hts⟩ (c_y_X1_size l dC dI cy a z k (lI lZ 1 ((L.1 7))) r2.2 r4 hc4 H.size) (cwV 1 hts g_y_X3_joinSet_X1_size_V316 rfl rfl rfl hd_y_X1_size ⟨Nat.le_of_ble_eq_true rfl, Nat.le_of_ble_eq_true rfl⟩) ⟨nb_blind, va_recv hK hP (ci := 1) (q0 := 0) rfl rfl, (kb_pre hK hG hP hD)⟩ rfl rfl hl.1 rfl (lv_room (Nat.le_of_ble_eq_true rfl)) dX3_joinSet_97 ⟨(Nat.le_trans (Nat.le_add_right _ _) (Nat.le_of_eq hc)), (Nat.le_trans (Nat.le_add_right _ _) (Nat.le_of_eq hs))⟩) hA hP hD hS (fun H locs hP hD hS => ?_)
            refine lv_iadd hx hb dX3_joinSet_100 ?_
            refine lv_istore (lv' := [(4, .int (((L.1 4)) + r4.1)), (3, .int (((L.1 3)) + 1)), (5, .int (L.1 100)), (0, .ref (a 18)), (1, .int (L.1 1)), (2, .int (L.1 2)), (6, .int (L.1 6)), (7, .int (L.1 7))]) hx hb dX3_joinSet_101 hl (by decide) rfl (fun ls hl => ?_)
            exact ih.2.2.2.2.2.2.2.2.2.1 z _ _ (lI (lI (lI L 3 ((((L.1 3)) + 1))) 4 ((((L.1 4)) + r4.1))) 5 ((L.1 100))) r4.2 _ h hzk hc hs H locs ls hP hD hS (lv_sub hl [3, 4, 5, 1, 0, 2, 6] rfl)
      · intro z cells slots L σ r h hzk hc hs H locs ls hP hD hS hl
        rw [f_X3_joinSet] at h
        obtain ⟨r1, hc1, hle1, h9⟩ := ox_ex h
        clear h
        refine kx_v (vx_runV (As := [.int (L.1 100)]) (rest := []) ⟨hx, hb, hml, hown, hts⟩ (c_f_X3_push l hl0 dC dI cy ek a k (lI lZ 1 ((L.1 100))) σ r1 hc1 z H.size) (cwV 1 hts g_f_X3_joinSet_X3_push_V322 rfl rfl rfl hd_f_X3_push ⟨Nat.le_of_ble_eq_true rfl, Nat.le_of_ble_eq_true rfl⟩) ⟨nb_blindF, va_recv hK hP (ci := 3) (q0 := 18) rfl rfl, (kx_pre hK hG hE hT hA hP hD hS)⟩ rfl rfl hl.1 rfl (lv_room (Nat.le_of_ble_eq_true rfl)) dX3_joinSet_146 ⟨Nat.le_trans (Nat.add_le_add_left hle1.1 _) (Nat.le_of_eq hc), Nat.le_trans (Nat.add_le_add_left hle1.2 _) (Nat.le_of_eq hs)⟩) hK hA hzk hP hD hS (by decide) hno hlocks ?_
        rcases h9 with ⟨h00, y1, hny1, hy⟩ | ⟨h00, hy⟩
        · subst hy
          have h := hny1
          refine Or.inl ⟨h00, fun z H locs hz1 hzk hP hD hS => ?_⟩
          replace hc := (Nat.add_assoc _ _ _).trans hc
          replace hs := (Nat.add_assoc _ _ _).trans hs
          refine lv_aload_n hx hb dX3_joinSet_149 rfl (lv_at hl 0 rfl) ?_
          refine lv_iload hx hb dX3_joinSet_150 (lv_at hl 1 rfl) ?_
          refine lv_sipush (v := 1000) hx hb dX3_joinSet_152 (by decide) ?_
          refine lv_icmp_le (tgt := 164) hx hb dX3_joinSet_155 (by decide) (fun c2 => ?_) (fun c2 => ?_)
          · rw [if_pos c2] at h
            exact ih.2.2.2.2.2.2.2.2.2.2.1 z _ _ L r1.2.1 _ h hzk hc hs H locs ls hP hD hS (lv_sub hl [1] rfl)
          · rw [if_neg c2] at h
            refine lv_sipush (v := 3000) hx hb dX3_joinSet_158 (by decide) ?_
            refine lv_goto (tgt := 166) hx hb dX3_joinSet_161 (by decide) ?_
            exact ih.2.2.2.2.2.2.2.2.2.2.2 z _ _ (lI L 100 3000) r1.2.1 _ h hzk hc hs H locs ls hP hD hS (lv_sub hl [] rfl)
        · subst hy
          exact Or.inr ⟨h00, rfl, hc, hs⟩
      · intro z cells slots L σ r h hzk hc hs H locs ls hP hD hS hl
        rw [f_X3_joinSet] at h
        refine lv_iinc (v := ((L.1 6)) + 1) (lv' := [(6, .int (((L.1 6)) + 1)), (0, .ref (a 18)), (1, .int (L.1 1)), (2, .int (L.1 2)), (3, .int (L.1 3)), (4, .int (L.1 4)), (5, .int (L.1 5))]) hx hb dX3_joinSet_103 hl (k := 6) rfl rfl (by decide) rfl (fun ls hl => ?_)
        refine lv_goto (tgt := 21) hx hb dX3_joinSet_106 (by decide) ?_
        exact ih.2.1 z _ _ (lI L 6 ((((L.1 6)) + 1))) σ _ h hzk hc hs H locs ls hP hD hS (lv_sub hl [1, 2, 3, 4, 5, 6, 0] rfl)
      · intro z cells slots L σ r h hzk hc hs H locs ls hP hD hS hl
        rw [f_X3_joinSet] at h
        refine lv_iload hx hb dX3_joinSet_164 (lv_at hl 0 rfl) ?_
        exact ih.2.2.2.2.2.2.2.2.2.2.2 z _ _ (lI L 100 ((L.1 4))) σ _ h hzk hc hs H locs ls hP hD hS (lv_sub hl [] rfl)
      · intro z cells slots L σ r h hzk hc hs H locs ls hP hD hS hl
        rw [f_X3_joinSet] at h
        obtain ⟨r1, hc1, h⟩ := op_ex h
        refine kc_i (va_runSN (As := [.int (L.1 100)]) (rest := [.ref (a 18)]) ⟨hx, hb, hml, hown, hts⟩ (c_y_X11_raw l dC dI cy a z k (lI lZ 0 ((L.1 100))) σ r1 hc1 H.size) ⟨va_cnB 1 hts g_y_X3_joinSet_X11_raw_SN182 rfl rfl rfl (hG.1 _ (List.mem_of_getElem? (i := 103) rfl)) (hts _ (List.mem_cons_of_mem _ (List.mem_append_left _ (List.mem_append_left _ (List.mem_of_getElem? (i := 3) rfl))))) hd_y_X11_raw ⟨Nat.le_of_ble_eq_true rfl, Nat.le_of_ble_eq_true rfl⟩, (hts _ (List.mem_cons_of_mem _ (List.mem_append_left _ (List.mem_append_left _ (List.mem_of_getElem? (i := 4) rfl))))), trivial⟩ ⟨nb_blind, (kb_pre hK hG hP hD)⟩ rfl rfl hl.1 rfl (lv_room (Nat.le_of_ble_eq_true rfl)) dX3_joinSet_166 ⟨(Nat.le_trans (Nat.le_add_right _ _) (Nat.le_of_eq hc)), (Nat.le_trans (Nat.le_add_right _ _) (Nat.le_of_eq hs))⟩) hA hP hD hS (fun H locs hP hD hS => ?_)
        obtain ⟨r2, hc2, hle2, h9⟩ := ox_ex h
        clear h
        refine kx_v (vx_runV (As := [.int r1.1]) (rest := []) ⟨hx, hb, hml, hown, hts⟩ (c_f_X3_push l hl0 dC dI cy ek a k (lI lZ 1 r1.1) r1.2 r2 hc2 z H.size) (cwV 1 hts g_f_X3_joinSet_X3_push_V322 rfl rfl rfl hd_f_X3_push ⟨Nat.le_of_ble_eq_true rfl, Nat.le_of_ble_eq_true rfl⟩) ⟨nb_blindF, va_recv hK hP (ci := 3) (q0 := 18) rfl rfl, (kx_pre hK hG hE hT hA hP hD hS)⟩ rfl rfl hl.1 rfl (lv_room (Nat.le_of_ble_eq_true rfl)) dX3_joinSet_169 ⟨Nat.le_trans (Nat.add_le_add_left hle2.1 _) (Nat.le_of_eq hc), Nat.le_trans (Nat.add_le_add_left hle2.2 _) (Nat.le_of_eq hs)⟩) hK hA hzk hP hD hS (by decide) hno hlocks ?_
        rcases h9 with ⟨h00, y2, hny2, hy⟩ | ⟨h00, hy⟩
        · subst hy
          have h := hny2
          refine Or.inl ⟨h00, fun z H locs hz2 hzk hP hD hS => ?_⟩
          replace hc := (Nat.add_assoc _ _ _).trans hc
          replace hs := (Nat.add_assoc _ _ _).trans hs
          obtain rfl := Option.some.inj h
          subst hc
          subst hs
          exact xr_v hx hb hr hK hzk hP hD hS hlocks dX3_joinSet_172
        · subst hy
          exact Or.inr ⟨h00, rfl, hc, hs⟩
  exact (blk k0).1 z 0 0 L0 σ0 r0 h0 (zk_rf _ _) ((Nat.zero_add _).trans hmc) ((Nat.zero_add _).trans hms) s.heap [] ls hP hD hS hl
/-! X3_joinTuple -/
def f_X3_joinTuple : Nat → Nat → LV → CS → Option RS
  | 0, _, _, _ => none
  | k + 1, 0, L, σ => f_X3_joinTuple k 1 (lI (lI (lI L 2 1) 3 0) 4 ((((σ.1 1902)) - ((L.1 1))))) σ
  | k + 1, 1, L, σ => if ((σ.1 1902)) ≤ ((L.1 4)) then (f_X3_joinTuple k 2 L σ) else (if ¬ (((L.1 4)) < 0 ∨ (sN σ 20) ≤ ((L.1 4)).toNatClampNeg) then (op (y_X1_size k 0 (lI lZ 1 ((σ.2.2.1 20 ((L.1 4)).toNatClampNeg))) σ) (fun r3 => if ((L.1 3)) = 0 then (if ¬ (((L.1 4)) < 0 ∨ (sN r3.2 20) ≤ ((L.1 4)).toNatClampNeg) then (if ((r3.2.2.2.1 20 ((L.1 4)).toNatClampNeg)) = ((-2147483648)) then (f_X3_joinTuple k 4 (lI L 2 ((((L.1 2)) + r3.1))) r3.2) else (if ((((L.1 2)) + r3.1)) ≤ 1000 then (f_X3_joinTuple k 4 (lI L 2 ((((L.1 2)) + r3.1))) r3.2) else (f_X3_joinTuple k 3 (lI L 2 ((((L.1 2)) + r3.1))) r3.2))) else none) else (f_X3_joinTuple k 3 (lI L 2 ((((L.1 2)) + r3.1))) r3.2))) else none)
  | k + 1, 2, L, σ => op (y_X11_raw k 0 (lI lZ 0 ((L.1 1))) σ) (fun r1 => ox (f_X3_push k 0 (lI lZ 1 r1.1) r1.2) (fun r2 => if ((L.1 3)) = 0 then (f_X3_joinTuple k 5 L r2.2.1) else (f_X3_joinTuple k 6 (lI L 100 3000) r2.2.1)))
  | k + 1, 3, L, σ => f_X3_joinTuple k 7 (lI L 100 1) σ
  | k + 1, 4, L, σ => f_X3_joinTuple k 7 (lI L 100 0) σ
  | k + 1, 5, L, σ => f_X3_joinTuple k 6 (lI L 100 ((L.1 2))) σ
  | k + 1, 6, L, σ => op (y_X11_raw k 0 (lI lZ 0 ((L.1 100))) σ) (fun r1 => ox (f_X3_push k 0 (lI lZ 1 r1.1) r1.2) (fun r2 => some ((0, 0), r2.2.1, (0, 0))))
  | k + 1, 7, L, σ => f_X3_joinTuple k 1 (lI (lI L 3 ((L.1 100))) 4 ((((L.1 4)) + 1))) σ
  | _ + 1, _ + 8, _, _ => none
def o_f_X3_joinTuple : List Cond := [.fieldLink RX3 14 "SetHouse$Machine" "run" "LSetHouse$Run;", .fieldLink RX3 39 "SetHouse$Machine" "heap" "LSetHouse$Heap;", .fieldLink RX3 18 "SetHouse$Machine" "stack" "[I", .methodLink RX3 316 yX1_size, .instanceMethod yX1_size, .selects RX1 yX1_size yX1_size, .initialized RX1, .constant RX3 136 (-2147483648), .initialized RX11, .static yX11_raw, .methodLink RX3 322 yX3_push, .instanceMethod yX3_push, .selects RX3 yX3_push yX3_push, .initialized RX3]
theorem o_f_X3_joinTuple_good : o_f_X3_joinTuple.all goodWord = true := by decide +kernel
def p_f_X3_joinTuple : List Cond := o_f_X3_joinTuple ++ ((.code yX1_size cX1_size 3 (some .int) :: p_y_X1_size) ++ ((.code yX11_raw cX11_raw 1 (some .int) :: p_y_X11_raw) ++ ((.code yX3_push cX3_push 2 none :: p_f_X3_push) ++ [])))
theorem p_f_X3_joinTuple_good : p_f_X3_joinTuple.all goodWord = true := nb_all2 o_f_X3_joinTuple_good (nb_all2 (nb_allc (by decide +kernel) p_y_X1_size_good) (nb_all2 (nb_allc (by decide +kernel) p_y_X11_raw_good) (nb_all2 (nb_allc (by decide +kernel) p_f_X3_push_good) rfl)))
def w_f_X3_joinTuple : List Cond := .code yX3_joinTuple cX3_joinTuple 5 none :: (p_f_X3_joinTuple ++ fC)
theorem w_f_X3_joinTuple_good : w_f_X3_joinTuple.all goodWord = true := nb_allc (by decide +kernel) (nb_all2 p_f_X3_joinTuple_good fC_good)
theorem in_f_X3_joinTuple_X3 : ∀ w ∈ wsX30, w ∈ w_f_X3_joinTuple := fun _ h => List.mem_cons_of_mem _ (List.mem_append_right _ (List.mem_append_right _ (List.mem_append_right _ (List.mem_append_right _ (List.mem_append_left _ h)))))
theorem in_f_X3_joinTuple_X8 : ∀ w ∈ wsX80, w ∈ w_f_X3_joinTuple := fun _ h => List.mem_cons_of_mem _ (List.mem_append_right _ (List.mem_append_right _ (List.mem_append_right _ (List.mem_append_right _ (List.mem_append_right _ (List.mem_append_right _ (List.mem_append_right _ (List.mem_append_right _ (List.mem_append_left _ h)))))))))
theorem hd_f_X3_joinTuple : yX3_joinTuple.cls = RX3 ∧ yX3_joinTuple.cls ≠ "java/lang/invoke/MethodHandle" ∧ yX3_joinTuple.cls ≠ "java/lang/invoke/VarHandle" ∧ (parseMethodDescriptor yX3_joinTuple.desc).map (fun d => d.parameters.length) = some 1 := by decide +kernel
theorem gg_f_X3_joinTuple_X3_push : GoodIn w_f_X3_joinTuple w_f_X3_push := goodIn_sub (fun w h => (List.mem_cons.mp h).elim (fun e => (List.mem_cons_of_mem _ (List.mem_append_left _ (List.mem_append_right _ (List.mem_append_right _ (List.mem_append_right _ (List.mem_append_left _ (List.mem_cons.mpr (Or.inl e))))))))) (fun h => (List.mem_append.mp h).elim (fun h => (List.mem_cons_of_mem _ (List.mem_append_left _ (List.mem_append_right _ (List.mem_append_right _ (List.mem_append_right _ (List.mem_append_left _ (List.mem_cons_of_mem _ h)))))))) (fun h => List.mem_cons_of_mem _ (List.mem_append_right _ h)))) w_f_X3_push_good
theorem g_f_X3_joinTuple_X3_push_V322 : GoodIn w_f_X3_joinTuple (wsV RX3 322 RX3 yX3_push w_f_X3_push) := goodIn_app (nb_g4 (List.mem_cons_of_mem _ (List.mem_append_left _ (List.mem_append_left _ (List.mem_of_getElem? (i := 10) rfl)))) (List.mem_cons_of_mem _ (List.mem_append_left _ (List.mem_append_left _ (List.mem_of_getElem? (i := 11) rfl)))) (List.mem_cons_of_mem _ (List.mem_append_left _ (List.mem_append_left _ (List.mem_of_getElem? (i := 12) rfl)))) (List.mem_cons_of_mem _ (List.mem_append_left _ (List.mem_append_left _ (List.mem_of_getElem? (i := 13) rfl)))) (by decide +kernel)) gg_f_X3_joinTuple_X3_push
theorem gg_f_X3_joinTuple_X11_raw : GoodIn w_f_X3_joinTuple w_y_X11_raw := goodIn_sub (fun w h => (List.mem_cons.mp h).elim (fun e => (List.mem_cons_of_mem _ (List.mem_append_left _ (List.mem_append_right _ (List.mem_append_right _ (List.mem_append_left _ (List.mem_cons.mpr (Or.inl e)))))))) (fun h => (List.mem_append.mp h).elim (fun h => (List.mem_cons_of_mem _ (List.mem_append_left _ (List.mem_append_right _ (List.mem_append_right _ (List.mem_append_left _ (List.mem_cons_of_mem _ h))))))) (fun h => List.mem_cons_of_mem _ (List.mem_append_right _ h)))) w_y_X11_raw_good
theorem g_y_X3_joinTuple_X11_raw_SN182 : GoodIn w_f_X3_joinTuple w_y_X11_raw := gg_f_X3_joinTuple_X11_raw
theorem gg_f_X3_joinTuple_X1_size : GoodIn w_f_X3_joinTuple w_y_X1_size := goodIn_sub (fun w h => (List.mem_cons.mp h).elim (fun e => (List.mem_cons_of_mem _ (List.mem_append_left _ (List.mem_append_right _ (List.mem_append_left _ (List.mem_cons.mpr (Or.inl e))))))) (fun h => (List.mem_append.mp h).elim (fun h => (List.mem_cons_of_mem _ (List.mem_append_left _ (List.mem_append_right _ (List.mem_append_left _ (List.mem_cons_of_mem _ h)))))) (fun h => List.mem_cons_of_mem _ (List.mem_append_right _ h)))) w_y_X1_size_good
theorem g_y_X3_joinTuple_X1_size_V316 : GoodIn w_f_X3_joinTuple (wsV RX3 316 RX1 yX1_size w_y_X1_size) := goodIn_app (nb_g4 (List.mem_cons_of_mem _ (List.mem_append_left _ (List.mem_append_left _ (List.mem_of_getElem? (i := 3) rfl)))) (List.mem_cons_of_mem _ (List.mem_append_left _ (List.mem_append_left _ (List.mem_of_getElem? (i := 4) rfl)))) (List.mem_cons_of_mem _ (List.mem_append_left _ (List.mem_append_left _ (List.mem_of_getElem? (i := 5) rfl)))) (List.mem_cons_of_mem _ (List.mem_append_left _ (List.mem_append_left _ (List.mem_of_getElem? (i := 6) rfl)))) (by decide +kernel)) gg_f_X3_joinTuple_X1_size
set_option maxHeartbeats 40000000 in
set_option maxRecDepth 100000 in
theorem c_f_X3_joinTuple (l : Launch) (hl0 : l.stackTraces = false) (dC : Nat → ClassId) (dI : Nat → Nat → Nat) (cy : Nat → ClassId) (ek a : Nat → Nat) (k0 : Nat) (L0 : LV) (σ0 : CS) (r0 : RS) (h0 : f_X3_joinTuple k0 0 L0 σ0 = some r0) (z : Nat → Nat) (sz : Nat) : vx_Met l yX3_joinTuple w_f_X3_joinTuple ({ frames := 5, cells := r0.2.2.1, slots := r0.2.2.2, locals := 156 }) (va_Pc [.ref (a 18), .int (L0.1 1)] (nInF (dC, dI) cy ek sz (vC cy a z σ0))) (xV dC dI cy a (va_A (vC cy a z σ0) sz) [20] z r0) (xX dC dI cy a (va_A (vC cy a z σ0) sz) [20] z r0) r0.2.2.1 r0.2.2.2 (va_A (vC cy a z σ0) sz) := by
  refine vx_ofW (cc := cX3_joinTuple) (maxL := 5) (ret := none) (by decide) rfl ?_
  intro p e s m args below meth c s₁ B hml hno hv
  obtain ⟨rfl, ⟨⟨hsz, hP, hK, hD0, hG⟩, hE⟩, hT⟩ := hv
  have hx := B.exec
  have hb := B.bytes
  have hr := B.returns
  have hts := atoms_spec (ws := w_f_X3_joinTuple) B.pre
  have hown : s.vm.findClass RX3 = some m.cls := findClass_of_methodNamed B.named
  have hlocks := B.notSynchronized
  subst hsz
  have hD := hD0.self (sz := s.heap.size)
  generalize hAe : va_A (vC cy a z σ0) s.heap.size = A at hD hE hT ⊢
  have hA : ∀ q : Nat, s.heap.size ≤ q → A q := fun q h => by rw [← hAe]; exact Or.inr h
  have hS : va_S A s.heap s.heap [] := va_S.rf
  have hl := lv_entry ([.ref (a 18), .int (L0.1 1)]) (n := 5) (Nat.le_of_ble_eq_true rfl)
  rw [lg_entry_eq]
  generalize (lg_sl ([.ref (a 18), .int (L0.1 1)]) ++ List.replicate (5 - (lg_sl ([.ref (a 18), .int (L0.1 1)])).length) Slot.unset).toArray = ls at hl ⊢
  have hl : lv_has ls 5 [(0, .ref (a 18)), (1, .int (L0.1 1))] := hl
  generalize hmc : r0.2.2.1 = mc
  generalize hms : r0.2.2.2 = ms
  have blk : ∀ k : Nat, (bX p l e (headSpec w_f_X3_joinTuple ({ frames := 5, cells := mc, slots := ms, locals := 156 })).room s m #[.ref (a 18), .int (L0.1 1)] below meth c dC dI cy a A (fun r => vx_MQ below (xV dC dI cy a A [20] z r) (xX dC dI cy a A [20] z r) #[.ref (a 18), .int (L0.1 1)] s mc ms A) [20] z mc ms 5 (f_X3_joinTuple k 0) (fun z L => [(0, .ref (a 18)), (1, .int (L.1 1))]) 0 (fun z L => [])) ∧ (bX p l e (headSpec w_f_X3_joinTuple ({ frames := 5, cells := mc, slots := ms, locals := 156 })).room s m #[.ref (a 18), .int (L0.1 1)] below meth c dC dI cy a A (fun r => vx_MQ below (xV dC dI cy a A [20] z r) (xX dC dI cy a A [20] z r) #[.ref (a 18), .int (L0.1 1)] s mc ms A) [20] z mc ms 5 (f_X3_joinTuple k 1) (fun z L => [(0, .ref (a 18)), (1, .int (L.1 1)), (2, .int (L.1 2)), (3, .int (L.1 3)), (4, .int (L.1 4))]) 15 (fun z L => [])) ∧ (bX p l e (headSpec w_f_X3_joinTuple ({ frames := 5, cells := mc, slots := ms, locals := 156 })).room s m #[.ref (a 18), .int (L0.1 1)] below meth c dC dI cy a A (fun r => vx_MQ below (xV dC dI cy a A [20] z r) (xX dC dI cy a A [20] z r) #[.ref (a 18), .int (L0.1 1)] s mc ms A) [20] z mc ms 5 (f_X3_joinTuple k 2) (fun z L => [(0, .ref (a 18)), (1, .int (L.1 1)), (2, .int (L.1 2)), (3, .int (L.1 3))]) 79 (fun z L => [])) ∧ (bX p l e (headSpec w_f_X3_joinTuple ({ frames := 5, cells := mc, slots := ms, locals := 156 })).room s m #[.ref (a 18), .int (L0.1 1)] below meth c dC dI cy a A (fun r => vx_MQ below (xV dC dI cy a A [20] z r) (xX dC dI cy a A [20] z r) #[.ref (a 18), .int (L0.1 1)] s mc ms A) [20] z mc ms 5 (f_X3_joinTuple k 3) (fun z L => [(0, .ref (a 18)), (1, .int (L.1 1)), (2, .int (L.1 2)), (4, .int (L.1 4))]) 67 (fun z L => [])) ∧ (bX p l e (headSpec w_f_X3_joinTuple ({ frames := 5, cells := mc, slots := ms, locals := 156 })).room s m #[.ref (a 18), .int (L0.1 1)] below meth c dC dI cy a A (fun r => vx_MQ below (xV dC dI cy a A [20] z r) (xX dC dI cy a A [20] z r) #[.ref (a 18), .int (L0.1 1)] s mc ms A) [20] z mc ms 5 (f_X3_joinTuple k 4) (fun z L => [(0, .ref (a 18)), (1, .int (L.1 1)), (2, .int (L.1 2)), (4, .int (L.1 4))]) 71 (fun z L => [])) ∧ (bX p l e (headSpec w_f_X3_joinTuple ({ frames := 5, cells := mc, slots := ms, locals := 156 })).room s m #[.ref (a 18), .int (L0.1 1)] below meth c dC dI cy a A (fun r => vx_MQ below (xV dC dI cy a A [20] z r) (xX dC dI cy a A [20] z r) #[.ref (a 18), .int (L0.1 1)] s mc ms A) [20] z mc ms 5 (f_X3_joinTuple k 5) (fun z L => [(2, .int (L.1 2))]) 98 (fun z L => [.ref (a 18)])) ∧ (bX p l e (headSpec w_f_X3_joinTuple ({ frames := 5, cells := mc, slots := ms, locals := 156 })).room s m #[.ref (a 18), .int (L0.1 1)] below meth c dC dI cy a A (fun r => vx_MQ below (xV dC dI cy a A [20] z r) (xX dC dI cy a A [20] z r) #[.ref (a 18), .int (L0.1 1)] s mc ms A) [20] z mc ms 5 (f_X3_joinTuple k 6) (fun z L => []) 99 (fun z L => [.int (L.1 100), .ref (a 18)])) ∧ (bX p l e (headSpec w_f_X3_joinTuple ({ frames := 5, cells := mc, slots := ms, locals := 156 })).room s m #[.ref (a 18), .int (L0.1 1)] below meth c dC dI cy a A (fun r => vx_MQ below (xV dC dI cy a A [20] z r) (xX dC dI cy a A [20] z r) #[.ref (a 18), .int (L0.1 1)] s mc ms A) [20] z mc ms 5 (f_X3_joinTuple k 7) (fun z L => [(0, .ref (a 18)), (1, .int (L.1 1)), (2, .int (L.1 2)), (4, .int (L.1 4))]) 72 (fun z L => [.int (L.1 100)])) := by
    intro k
    induction k with
    | zero => exact ⟨fun z c1 c2 L σ r h => (by cases h), fun z c1 c2 L σ r h => (by cases h), fun z c1 c2 L σ r h => (by cases h), fun z c1 c2 L σ r h => (by cases h), fun z c1 c2 L σ r h => (by cases h), fun z c1 c2 L σ r h => (by cases h), fun z c1 c2 L σ r h => (by cases h), fun z c1 c2 L σ r h => (by cases h)⟩
    | succ k ih =>
      refine ⟨?_, ?_, ?_, ?_, ?_, ?_, ?_, ?_⟩
      · intro z cells slots L σ r h hzk hc hs H locs ls hP hD hS hl
        rw [f_X3_joinTuple] at h
        refine lv_iconst (v := 1) hx hb dX3_joinTuple_0 (by decide) ?_
        refine lv_istore_n (lv' := [(2, .int 1), (0, .ref (a 18)), (1, .int (L.1 1))]) hx hb dX3_joinTuple_1 rfl hl (by decide) rfl (fun ls hl => ?_)
        refine lv_iconst (v := 0) hx hb dX3_joinTuple_2 (by decide) ?_
        refine lv_istore_n (lv' := [(3, .int 0), (2, .int 1), (0, .ref (a 18)), (1, .int (L.1 1))]) hx hb dX3_joinTuple_3 rfl hl (by decide) rfl (fun ls hl => ?_)
        refine lv_aload_n hx hb dX3_joinTuple_4 rfl (lv_at hl 2 rfl) ?_
        refine hg_18_5 hx hb hts in_f_X3_joinTuple_X3 hown hK hP (hts _ (List.mem_cons_of_mem _ (List.mem_append_left _ (List.mem_append_left _ (List.mem_of_getElem? (i := 0) rfl))))) dX3_joinTuple_5 ?_
        refine hg_19_2n hx hb hts in_f_X3_joinTuple_X8 hown hK hP (va_Nw.use rfl (hG.1 _ (List.mem_of_getElem? (i := 10) rfl))) dX3_joinTuple_8 ?_
        refine lv_iload_n hx hb dX3_joinTuple_11 rfl (lv_at hl 3 rfl) ?_
        refine lv_isub hx hb dX3_joinTuple_12 ?_
        refine lv_istore (lv' := [(4, .int (((σ.1 1902)) - ((L.1 1)))), (3, .int 0), (2, .int 1), (0, .ref (a 18)), (1, .int (L.1 1))]) hx hb dX3_joinTuple_13 hl (by decide) rfl (fun ls hl => ?_)
        exact ih.2.1 z _ _ (lI (lI (lI L 2 1) 3 0) 4 ((((σ.1 1902)) - ((L.1 1))))) σ _ h hzk hc hs H locs ls hP hD hS (lv_sub hl [3, 4, 2, 1, 0] rfl)
      · intro z cells slots L σ r h hzk hc hs H locs ls hP hD hS hl
        rw [f_X3_joinTuple] at h
        refine lv_iload hx hb dX3_joinTuple_15 (lv_at hl 4 rfl) ?_
        refine lv_aload_n hx hb dX3_joinTuple_17 rfl (lv_at hl 0 rfl) ?_
        refine hg_18_5 hx hb hts in_f_X3_joinTuple_X3 hown hK hP (hts _ (List.mem_cons_of_mem _ (List.mem_append_left _ (List.mem_append_left _ (List.mem_of_getElem? (i := 0) rfl))))) dX3_joinTuple_18 ?_
        refine hg_19_2n hx hb hts in_f_X3_joinTuple_X8 hown hK hP (va_Nw.use rfl (hG.1 _ (List.mem_of_getElem? (i := 10) rfl))) dX3_joinTuple_21 ?_
        refine lv_icmp_ge (tgt := 79) hx hb dX3_joinTuple_24 (by decide) (fun c1 => ?_) (fun c1 => ?_)
        · rw [if_pos c1] at h
          exact ih.2.2.1 z _ _ L σ _ h hzk hc hs H locs ls hP hD hS (lv_sub hl [0, 1, 2, 3] rfl)
        · rw [if_neg c1] at h
          refine lv_iload_n hx hb dX3_joinTuple_27 rfl (lv_at hl 2 rfl) ?_
          refine lv_aload_n hx hb dX3_joinTuple_28 rfl (lv_at hl 0 rfl) ?_
          refine hg_18_0 hx hb hts in_f_X3_joinTuple_X3 hown hK hP (hts _ (List.mem_cons_of_mem _ (List.mem_append_left _ (List.mem_append_left _ (List.mem_of_getElem? (i := 1) rfl))))) dX3_joinTuple_29 ?_
          refine lv_aload_n hx hb dX3_joinTuple_32 rfl (lv_at hl 0 rfl) ?_
          refine hg_18_7 hx hb hts in_f_X3_joinTuple_X3 hown hK hP (hts _ (List.mem_cons_of_mem _ (List.mem_append_left _ (List.mem_append_left _ (List.mem_of_getElem? (i := 2) rfl))))) dX3_joinTuple_33 ?_
          refine lv_iload hx hb dX3_joinTuple_36 (lv_at hl 4 rfl) ?_
          obtain ⟨q2, h⟩ := kr_ite1 h
          refine hl_20 hx hb hK hP q2 dX3_joinTuple_38 ?_
          obtain ⟨r3, hc3, h⟩ := op_ex h
          refine kc_i (va_runV (As := [.int (σ.2.2.1 20 ((L.1 4)).toNatClampNeg)]) (rest := [.int (L.1 2)]) ⟨hx, hb, hml, hown, hts⟩ (c_y_X1_size l dC dI cy a z k (lI lZ 1 ((σ.2.2.1 20 ((L.1 4)).toNatClampNeg))) σ r3 hc3 H.size) (cwV 1 hts g_y_X3_joinTuple_X1_size_V316 rfl rfl rfl hd_y_X1_size ⟨Nat.le_of_ble_eq_true rfl, Nat.le_of_ble_eq_true rfl⟩) ⟨nb_blind, va_recv hK hP (ci := 1) (q0 := 0) rfl rfl, (kb_pre hK hG hP hD)⟩ rfl rfl hl.1 rfl (lv_room (Nat.le_of_ble_eq_true rfl)) dX3_joinTuple_39 ⟨(Nat.le_trans (Nat.le_add_right _ _) (Nat.le_of_eq hc)), (Nat.le_trans (Nat.le_add_right _ _) (Nat.le_of_eq hs))⟩) hA hP hD hS (fun H locs hP hD hS => ?_)
          refine lv_iadd hx hb dX3_joinTuple_42 ?_
          refine lv_istore_n (lv' := [(2, .int (((L.1 2)) + r3.1)), (0, .ref (a 18)), (1, .int (L.1 1)), (3, .int (L.1 3)), (4, .int (L.1 4))]) hx hb dX3_joinTuple_43 rfl hl (by decide) rfl (fun ls hl => ?_)
          refine lv_iload_n hx hb dX3_joinTuple_44 rfl (lv_at hl 3 rfl) ?_
          refine lv_if_ne (tgt := 67) hx hb dX3_joinTuple_45 (by decide) (fun c4 => ?_) (fun c4 => ?_)
          · rw [if_neg c4] at h
            exact ih.2.2.2.1 z _ _ (lI L 2 ((((L.1 2)) + r3.1))) r3.2 _ h hzk hc hs H locs ls hP hD hS (lv_sub hl [1, 2, 0, 4] rfl)
          · rw [if_pos c4] at h
            refine lv_aload_n hx hb dX3_joinTuple_48 rfl (lv_at hl 1 rfl) ?_
            refine hg_18_7 hx hb hts in_f_X3_joinTuple_X3 hown hK hP (hts _ (List.mem_cons_of_mem _ (List.mem_append_left _ (List.mem_append_left _ (List.mem_of_getElem? (i := 2) rfl))))) dX3_joinTuple_49 ?_
            refine lv_iload hx hb dX3_joinTuple_52 (lv_at hl 4 rfl) ?_
            obtain ⟨q5, h⟩ := kr_ite1 h
            refine hl_20 hx hb hK hP q5 dX3_joinTuple_54 ?_
            refine lv_ldc (v := (-2147483648)) hx hb hown (hts _ (List.mem_cons_of_mem _ (List.mem_append_left _ (List.mem_append_left _ (List.mem_of_getElem? (i := 7) rfl))))) dX3_joinTuple_55 ?_
            refine lv_icmp_eq (tgt := 71) hx hb dX3_joinTuple_57 (by decide) (fun c6 => ?_) (fun c6 => ?_)
            · rw [if_pos c6] at h
              exact ih.2.2.2.2.1 z _ _ (lI L 2 ((((L.1 2)) + r3.1))) r3.2 _ h hzk hc hs H locs ls hP hD hS (lv_sub hl [1, 2, 0, 4] rfl)
            · rw [if_neg c6] at h
              refine lv_iload_n hx hb dX3_joinTuple_60 rfl (lv_at hl 0 rfl) ?_
              refine lv_sipush (v := 1000) hx hb dX3_joinTuple_61 (by decide) ?_
              refine lv_icmp_le (tgt := 71) hx hb dX3_joinTuple_64 (by decide) (fun c7 => ?_) (fun c7 => ?_)
              · rw [if_pos c7] at h
                exact ih.2.2.2.2.1 z _ _ (lI L 2 ((((L.1 2)) + r3.1))) r3.2 _ h hzk hc hs H locs ls hP hD hS (lv_sub hl [1, 2, 0, 4] rfl)
              · rw [if_neg c7] at h
                exact ih.2.2.2.1 z _ _ (lI L 2 ((((L.1 2)) + r3.1))) r3.2 _ h hzk hc hs H locs ls hP hD hS (lv_sub hl [1, 2, 0, 4] rfl)
      · intro z cells slots L σ r h hzk hc hs H locs ls hP hD hS hl
        rw [f_X3_joinTuple] at h
        refine lv_aload_n hx hb dX3_joinTuple_79 rfl (lv_at hl 0 rfl) ?_
        refine lv_iload_n hx hb dX3_joinTuple_80 rfl (lv_at hl 1 rfl) ?_
        obtain ⟨r1, hc1, h⟩ := op_ex h
        refine kc_i (va_runSN (As := [.int (L.1 1)]) (rest := [.ref (a 18)]) ⟨hx, hb, hml, hown, hts⟩ (c_y_X11_raw l dC dI cy a z k (lI lZ 0 ((L.1 1))) σ r1 hc1 H.size) ⟨va_cnB 1 hts g_y_X3_joinTuple_X11_raw_SN182 rfl rfl rfl (hG.1 _ (List.mem_of_getElem? (i := 103) rfl)) (hts _ (List.mem_cons_of_mem _ (List.mem_append_left _ (List.mem_append_left _ (List.mem_of_getElem? (i := 8) rfl))))) hd_y_X11_raw ⟨Nat.le_of_ble_eq_true rfl, Nat.le_of_ble_eq_true rfl⟩, (hts _ (List.mem_cons_of_mem _ (List.mem_append_left _ (List.mem_append_left _ (List.mem_of_getElem? (i := 9) rfl))))), trivial⟩ ⟨nb_blind, (kb_pre hK hG hP hD)⟩ rfl rfl hl.1 rfl (lv_room (Nat.le_of_ble_eq_true rfl)) dX3_joinTuple_81 ⟨(Nat.le_trans (Nat.le_add_right _ _) (Nat.le_of_eq hc)), (Nat.le_trans (Nat.le_add_right _ _) (Nat.le_of_eq hs))⟩) hA hP hD hS (fun H locs hP hD hS => ?_)
        obtain ⟨r2, hc2, hle2, h9⟩ := ox_ex h
        clear h
        refine kx_v (vx_runV (As := [.int r1.1]) (rest := []) ⟨hx, hb, hml, hown, hts⟩ (c_f_X3_push l hl0 dC dI cy ek a k (lI lZ 1 r1.1) r1.2 r2 hc2 z H.size) (cwV 1 hts g_f_X3_joinTuple_X3_push_V322 rfl rfl rfl hd_f_X3_push ⟨Nat.le_of_ble_eq_true rfl, Nat.le_of_ble_eq_true rfl⟩) ⟨nb_blindF, va_recv hK hP (ci := 3) (q0 := 18) rfl rfl, (kx_pre hK hG hE hT hA hP hD hS)⟩ rfl rfl hl.1 rfl (lv_room (Nat.le_of_ble_eq_true rfl)) dX3_joinTuple_84 ⟨Nat.le_trans (Nat.add_le_add_left hle2.1 _) (Nat.le_of_eq hc), Nat.le_trans (Nat.add_le_add_left hle2.2 _) (Nat.le_of_eq hs)⟩) hK hA hzk hP hD hS (by decide) hno hlocks ?_
        rcases h9 with ⟨h00, y2, hny2, hy⟩ | ⟨h00, hy⟩
        · subst hy
          have h := hny2
          refine Or.inl ⟨h00, fun z H locs hz2 hzk hP hD hS => ?_⟩
          replace hc := (Nat.add_assoc _ _ _).trans hc
          replace hs := (Nat.add_assoc _ _ _).trans hs
          refine lv_aload_n hx hb dX3_joinTuple_87 rfl (lv_at hl 0 rfl) ?_
          refine lv_iload_n hx hb dX3_joinTuple_88 rfl (lv_at hl 3 rfl) ?_
          refine lv_if_eq (tgt := 98) hx hb dX3_joinTuple_89 (by decide) (fun c3 => ?_) (fun c3 => ?_)
          · rw [if_pos c3] at h
            exact ih.2.2.2.2.2.1 z _ _ L r2.2.1 _ h hzk hc hs H locs ls hP hD hS (lv_sub hl [2] rfl)
          · rw [if_neg c3] at h
            refine lv_sipush (v := 3000) hx hb dX3_joinTuple_92 (by decide) ?_
            refine lv_goto (tgt := 99) hx hb dX3_joinTuple_95 (by decide) ?_
            exact ih.2.2.2.2.2.2.1 z _ _ (lI L 100 3000) r2.2.1 _ h hzk hc hs H locs ls hP hD hS (lv_sub hl [] rfl)
        · subst hy
          exact Or.inr ⟨h00, rfl, hc, hs⟩
      · intro z cells slots L σ r h hzk hc hs H locs ls hP hD hS hl
        rw [f_X3_joinTuple] at h
        refine lv_iconst (v := 1) hx hb dX3_joinTuple_67 (by decide) ?_
        refine lv_goto (tgt := 72) hx hb dX3_joinTuple_68 (by decide) ?_
        exact ih.2.2.2.2.2.2.2 z _ _ (lI L 100 1) σ _ h hzk hc hs H locs ls hP hD hS (lv_sub hl [0, 1, 2, 3] rfl)
      · intro z cells slots L σ r h hzk hc hs H locs ls hP hD hS hl
        rw [f_X3_joinTuple] at h
        refine lv_iconst (v := 0) hx hb dX3_joinTuple_71 (by decide) ?_
        exact ih.2.2.2.2.2.2.2 z _ _ (lI L 100 0) σ _ h hzk hc hs H locs ls hP hD hS (lv_sub hl [0, 1, 2, 3] rfl)
      · intro z cells slots L σ r h hzk hc hs H locs ls hP hD hS hl
        rw [f_X3_joinTuple] at h
        refine lv_iload_n hx hb dX3_joinTuple_98 rfl (lv_at hl 0 rfl) ?_
        exact ih.2.2.2.2.2.2.1 z _ _ (lI L 100 ((L.1 2))) σ _ h hzk hc hs H locs ls hP hD hS (lv_sub hl [] rfl)
      · intro z cells slots L σ r h hzk hc hs H locs ls hP hD hS hl
        rw [f_X3_joinTuple] at h
        obtain ⟨r1, hc1, h⟩ := op_ex h
        refine kc_i (va_runSN (As := [.int (L.1 100)]) (rest := [.ref (a 18)]) ⟨hx, hb, hml, hown, hts⟩ (c_y_X11_raw l dC dI cy a z k (lI lZ 0 ((L.1 100))) σ r1 hc1 H.size) ⟨va_cnB 1 hts g_y_X3_joinTuple_X11_raw_SN182 rfl rfl rfl (hG.1 _ (List.mem_of_getElem? (i := 103) rfl)) (hts _ (List.mem_cons_of_mem _ (List.mem_append_left _ (List.mem_append_left _ (List.mem_of_getElem? (i := 8) rfl))))) hd_y_X11_raw ⟨Nat.le_of_ble_eq_true rfl, Nat.le_of_ble_eq_true rfl⟩, (hts _ (List.mem_cons_of_mem _ (List.mem_append_left _ (List.mem_append_left _ (List.mem_of_getElem? (i := 9) rfl))))), trivial⟩ ⟨nb_blind, (kb_pre hK hG hP hD)⟩ rfl rfl hl.1 rfl (lv_room (Nat.le_of_ble_eq_true rfl)) dX3_joinTuple_99 ⟨(Nat.le_trans (Nat.le_add_right _ _) (Nat.le_of_eq hc)), (Nat.le_trans (Nat.le_add_right _ _) (Nat.le_of_eq hs))⟩) hA hP hD hS (fun H locs hP hD hS => ?_)
        obtain ⟨r2, hc2, hle2, h9⟩ := ox_ex h
        clear h
        refine kx_v (vx_runV (As := [.int r1.1]) (rest := []) ⟨hx, hb, hml, hown, hts⟩ (c_f_X3_push l hl0 dC dI cy ek a k (lI lZ 1 r1.1) r1.2 r2 hc2 z H.size) (cwV 1 hts g_f_X3_joinTuple_X3_push_V322 rfl rfl rfl hd_f_X3_push ⟨Nat.le_of_ble_eq_true rfl, Nat.le_of_ble_eq_true rfl⟩) ⟨nb_blindF, va_recv hK hP (ci := 3) (q0 := 18) rfl rfl, (kx_pre hK hG hE hT hA hP hD hS)⟩ rfl rfl hl.1 rfl (lv_room (Nat.le_of_ble_eq_true rfl)) dX3_joinTuple_102 ⟨Nat.le_trans (Nat.add_le_add_left hle2.1 _) (Nat.le_of_eq hc), Nat.le_trans (Nat.add_le_add_left hle2.2 _) (Nat.le_of_eq hs)⟩) hK hA hzk hP hD hS (by decide) hno hlocks ?_
        rcases h9 with ⟨h00, y2, hny2, hy⟩ | ⟨h00, hy⟩
        · subst hy
          have h := hny2
          refine Or.inl ⟨h00, fun z H locs hz2 hzk hP hD hS => ?_⟩
          replace hc := (Nat.add_assoc _ _ _).trans hc
          replace hs := (Nat.add_assoc _ _ _).trans hs
          obtain rfl := Option.some.inj h
          subst hc
          subst hs
          exact xr_v hx hb hr hK hzk hP hD hS hlocks dX3_joinTuple_105
        · subst hy
          exact Or.inr ⟨h00, rfl, hc, hs⟩
      · intro z cells slots L σ r h hzk hc hs H locs ls hP hD hS hl
        rw [f_X3_joinTuple] at h
        refine lv_istore_n (lv' := [(3, .int (L.1 100)), (0, .ref (a 18)), (1, .int (L.1 1)), (2, .int (L.1 2)), (4, .int (L.1 4))]) hx hb dX3_joinTuple_72 rfl hl (by decide) rfl (fun ls hl => ?_)
        refine lv_iinc (v := ((L.1 4)) + 1) (lv' := [(4, .int (((L.1 4)) + 1)), (3, .int (L.1 100)), (0, .ref (a 18)), (1, .int (L.1 1)), (2, .int (L.1 2))]) hx hb dX3_joinTuple_73 hl (k := 4) rfl rfl (by decide) rfl (fun ls hl => ?_)
        refine lv_goto (tgt := 15) hx hb dX3_joinTuple_76 (by decide) ?_
        exact ih.2.1 z _ _ (lI (lI L 3 ((L.1 100))) 4 ((((L.1 4)) + 1))) σ _ h hzk hc hs H locs ls hP hD hS (lv_sub hl [2, 3, 4, 1, 0] rfl)
  exact (blk k0).1 z 0 0 L0 σ0 r0 h0 (zk_rf _ _) ((Nat.zero_add _).trans hmc) ((Nat.zero_add _).trans hms) s.heap [] ls hP hD hS hl
/-! X3_gatherIntoSet -/
def f_X3_gatherIntoSet : Nat → Nat → LV → CS → Option RS
  | 0, _, _, _ => none
  | k + 1, 0, L, σ => if ¬ (((((σ.1 1902)) - 2)) < 0 ∨ (sN σ 20) ≤ ((((σ.1 1902)) - 2)).toNatClampNeg) then (op (y_X11_unraw k 0 (lI lZ 0 ((σ.2.2.1 20 ((((σ.1 1902)) - 2)).toNatClampNeg))) σ) (fun r2 => if ¬ (((((r2.2.1 1902)) - 1)) < 0 ∨ (sN r2.2 20) ≤ ((((r2.2.1 1902)) - 1)).toNatClampNeg) then (op (y_X11_unraw k 0 (lI lZ 0 ((r2.2.2.2.1 20 ((((r2.2.1 1902)) - 1)).toNatClampNeg))) r2.2) (fun r4 => if ((L.1 1)) = ((-2147483648)) then (if ((L.1 2)) = 0 then (op (y_X3_fail k 0 (lI lZ 1 3) r4.2) (fun r7 => some ((0, 0), r7.2, (0, 0)))) else (f_X3_gatherIntoSet k 1 (lI (lI L 3 r2.1) 4 r4.1) r4.2)) else (f_X3_gatherIntoSet k 1 (lI (lI L 3 r2.1) 4 r4.1) r4.2))) else none)) else none
  | k + 1, 1, L, σ => if ((L.1 4)) ≤ 1000 then (f_X3_gatherIntoSet k 2 L σ) else (if ((L.1 1)) = ((-2147483648)) then (f_X3_gatherIntoSet k 4 (lI (lI L 100 ((L.1 1))) 101 ((((((σ.1 1902)) - 2)) - ((L.1 3))))) σ) else (f_X3_gatherIntoSet k 3 (lI (lI L 5 ((((((σ.1 1902)) - 2)) - ((L.1 3))))) 100 ((((((σ.1 1902)) - 2)) - ((L.1 3))))) σ))
  | k + 1, 2, L, σ => ox (f_X3_push k 0 (lI lZ 1 ((-2147483648))) σ) (fun r1 => op (y_X0_insert__z20 k 0 (lI (lI (lI (lI lZ 2 (((((((uI r1.2.1 1902 ((((r1.2.1.1 1902)) - 1))).1 1902)) - 2)) - ((L.1 3))))) 3 ((L.1 3))) 4 (((uI r1.2.1 1902 ((((r1.2.1.1 1902)) - 1))).1 1902))) 5 ((L.1 1))) (uI r1.2.1 1902 ((((r1.2.1.1 1902)) - 1)))) (fun r2 => if r2.1 = 0 then (f_X3_gatherIntoSet k 5 L r2.2) else (op (y_X11_raw k 0 (lI lZ 0 ((((L.1 3)) + 1))) (uI r2.2 1902 ((((r2.2.1 1902)) + 1)))) (fun r4 => f_X3_gatherIntoSet k 6 (lI (lI L 100 r4.1) 101 (((((uI r2.2 1902 ((((r2.2.1 1902)) + 1))).1 1902)) - 2))) r4.2))))
  | k + 1, 3, L, σ => if ¬ (((L.1 5)) < 0 ∨ (sN σ 20) ≤ ((L.1 5)).toNatClampNeg) then (f_X3_gatherIntoSet k 4 (lI (lI L 100 ((σ.2.2.1 20 ((L.1 5)).toNatClampNeg))) 101 ((L.1 100))) σ) else none
  | k + 1, 4, L, σ => if ¬ (((L.1 101)) < 0 ∨ (sN σ 20) ≤ ((L.1 101)).toNatClampNeg) then (some ((0, 0), (uA σ 20 ((L.1 101)).toNatClampNeg ((L.1 100))), (0, 0))) else none
  | k + 1, 5, L, σ => some ((0, 0), σ, (0, 0))
  | k + 1, 6, L, σ => if ¬ (((L.1 101)) < 0 ∨ (sN σ 20) ≤ ((L.1 101)).toNatClampNeg) then (op (y_X1_size k 0 (lI lZ 1 ((L.1 1))) (uA σ 20 ((L.1 101)).toNatClampNeg ((L.1 100)))) (fun r2 => if ((((L.1 4)) + r2.1)) ≤ 1000 then (f_X3_gatherIntoSet k 7 (lI L 100 (((((uA σ 20 ((L.1 101)).toNatClampNeg ((L.1 100))).1 1902)) - 1))) r2.2) else (f_X3_gatherIntoSet k 8 (lI (lI L 100 3000) 101 (((((uA σ 20 ((L.1 101)).toNatClampNeg ((L.1 100))).1 1902)) - 1))) r2.2))) else none
  | k + 1, 7, L, σ => op (y_X1_size k 0 (lI lZ 1 ((L.1 1))) σ) (fun r1 => f_X3_gatherIntoSet k 8 (lI (lI L 100 ((((L.1 4)) + r1.1))) 101 ((L.1 100))) r1.2)
  | k + 1, 8, L, σ => op (y_X11_raw k 0 (lI lZ 0 ((L.1 100))) σ) (fun r1 => if ¬ (((L.1 101)) < 0 ∨ (sN r1.2 20) ≤ ((L.1 101)).toNatClampNeg) then (f_X3_gatherIntoSet k 5 L (uA r1.2 20 ((L.1 101)).toNatClampNeg r1.1)) else none)
  | _ + 1, _ + 9, _, _ => none
def o_f_X3_gatherIntoSet : List Cond := [.fieldLink RX3 18 "SetHouse$Machine" "stack" "[I", .fieldLink RX3 14 "SetHouse$Machine" "run" "LSetHouse$Run;", .initialized RX11, .static yX11_unraw, .constant RX3 136 (-2147483648), .methodLink RX3 313 yX3_fail, .instanceMethod yX3_fail, .selects RX3 yX3_fail yX3_fail, .initialized RX3, .methodLink RX3 322 yX3_push, .instanceMethod yX3_push, .selects RX3 yX3_push yX3_push, .fieldLink RX3 47 "SetHouse$Machine" "algebra" "LSetHouse$Algebra;", .methodLink RX3 536 yX0_insert, .instanceMethod yX0_insert, .selects RX0 yX0_insert yX0_insert, .initialized RX0, .static yX11_raw, .fieldLink RX3 39 "SetHouse$Machine" "heap" "LSetHouse$Heap;", .methodLink RX3 316 yX1_size, .instanceMethod yX1_size, .selects RX1 yX1_size yX1_size, .initialized RX1]
theorem o_f_X3_gatherIntoSet_good : o_f_X3_gatherIntoSet.all goodWord = true := by decide +kernel
def p_f_X3_gatherIntoSet : List Cond := o_f_X3_gatherIntoSet ++ ((.code yX11_unraw cX11_unraw 1 (some .int) :: p_y_X11_unraw) ++ ((.code yX3_fail cX3_fail 2 none :: p_y_X3_fail) ++ ((.code yX3_push cX3_push 2 none :: p_f_X3_push) ++ ((.code yX0_insert cX0_insert 10 (some .boolean) :: p_y_X0_insert__z20) ++ ((.code yX11_raw cX11_raw 1 (some .int) :: p_y_X11_raw) ++ ((.code yX1_size cX1_size 3 (some .int) :: p_y_X1_size) ++ []))))))
theorem p_f_X3_gatherIntoSet_good : p_f_X3_gatherIntoSet.all goodWord = true := nb_all2 o_f_X3_gatherIntoSet_good (nb_all2 (nb_allc (by decide +kernel) p_y_X11_unraw_good) (nb_all2 (nb_allc (by decide +kernel) p_y_X3_fail_good) (nb_all2 (nb_allc (by decide +kernel) p_f_X3_push_good) (nb_all2 (nb_allc (by decide +kernel) p_y_X0_insert__z20_good) (nb_all2 (nb_allc (by decide +kernel) p_y_X11_raw_good) (nb_all2 (nb_allc (by decide +kernel) p_y_X1_size_good) rfl))))))
def w_f_X3_gatherIntoSet : List Cond := .code yX3_gatherIntoSet cX3_gatherIntoSet 6 none :: (p_f_X3_gatherIntoSet ++ fC)
theorem w_f_X3_gatherIntoSet_good : w_f_X3_gatherIntoSet.all goodWord = true := nb_allc (by decide +kernel) (nb_all2 p_f_X3_gatherIntoSet_good fC_good)
theorem in_f_X3_gatherIntoSet_X3 : ∀ w ∈ wsX30, w ∈ w_f_X3_gatherIntoSet := fun _ h => List.mem_cons_of_mem _ (List.mem_append_right _ (List.mem_append_right _ (List.mem_append_right _ (List.mem_append_right _ (List.mem_append_left _ h)))))
theorem in_f_X3_gatherIntoSet_X8 : ∀ w ∈ wsX80, w ∈ w_f_X3_gatherIntoSet := fun _ h => List.mem_cons_of_mem _ (List.mem_append_right _ (List.mem_append_right _ (List.mem_append_right _ (List.mem_append_right _ (List.mem_append_right _ (List.mem_append_right _ (List.mem_append_right _ (List.mem_append_right _ (List.mem_append_left _ h)))))))))
theorem hd_f_X3_gatherIntoSet : yX3_gatherIntoSet.cls = RX3 ∧ yX3_gatherIntoSet.cls ≠ "java/lang/invoke/MethodHandle" ∧ yX3_gatherIntoSet.cls ≠ "java/lang/invoke/VarHandle" ∧ (parseMethodDescriptor yX3_gatherIntoSet.desc).map (fun d => d.parameters.length) = some 2 := by decide +kernel
theorem gg_f_X3_gatherIntoSet_X3_push : GoodIn w_f_X3_gatherIntoSet w_f_X3_push := goodIn_sub (fun w h => (List.mem_cons.mp h).elim (fun e => (List.mem_cons_of_mem _ (List.mem_append_left _ (List.mem_append_right _ (List.mem_append_right _ (List.mem_append_right _ (List.mem_append_left _ (List.mem_cons.mpr (Or.inl e))))))))) (fun h => (List.mem_append.mp h).elim (fun h => (List.mem_cons_of_mem _ (List.mem_append_left _ (List.mem_append_right _ (List.mem_append_right _ (List.mem_append_right _ (List.mem_append_left _ (List.mem_cons_of_mem _ h)))))))) (fun h => List.mem_cons_of_mem _ (List.mem_append_right _ h)))) w_f_X3_push_good
theorem g_f_X3_gatherIntoSet_X3_push_V322 : GoodIn w_f_X3_gatherIntoSet (wsV RX3 322 RX3 yX3_push w_f_X3_push) := goodIn_app (nb_g4 (List.mem_cons_of_mem _ (List.mem_append_left _ (List.mem_append_left _ (List.mem_of_getElem? (i := 9) rfl)))) (List.mem_cons_of_mem _ (List.mem_append_left _ (List.mem_append_left _ (List.mem_of_getElem? (i := 10) rfl)))) (List.mem_cons_of_mem _ (List.mem_append_left _ (List.mem_append_left _ (List.mem_of_getElem? (i := 11) rfl)))) (List.mem_cons_of_mem _ (List.mem_append_left _ (List.mem_append_left _ (List.mem_of_getElem? (i := 8) rfl)))) (by decide +kernel)) gg_f_X3_gatherIntoSet_X3_push
theorem gg_f_X3_gatherIntoSet_X0_insert__z20 : GoodIn w_f_X3_gatherIntoSet w_y_X0_insert__z20 := goodIn_sub (fun w h => (List.mem_cons.mp h).elim (fun e => (List.mem_cons_of_mem _ (List.mem_append_left _ (List.mem_append_right _ (List.mem_append_right _ (List.mem_append_right _ (List.mem_append_right _ (List.mem_append_left _ (List.mem_cons.mpr (Or.inl e)))))))))) (fun h => (List.mem_append.mp h).elim (fun h => (List.mem_cons_of_mem _ (List.mem_append_left _ (List.mem_append_right _ (List.mem_append_right _ (List.mem_append_right _ (List.mem_append_right _ (List.mem_append_left _ (List.mem_cons_of_mem _ h))))))))) (fun h => List.mem_cons_of_mem _ (List.mem_append_right _ h)))) w_y_X0_insert__z20_good
theorem g_y_X3_gatherIntoSet_X0_insert__z20_V536 : GoodIn w_f_X3_gatherIntoSet (wsV RX3 536 RX0 yX0_insert w_y_X0_insert__z20) := goodIn_app (nb_g4 (List.mem_cons_of_mem _ (List.mem_append_left _ (List.mem_append_left _ (List.mem_of_getElem? (i := 13) rfl)))) (List.mem_cons_of_mem _ (List.mem_append_left _ (List.mem_append_left _ (List.mem_of_getElem? (i := 14) rfl)))) (List.mem_cons_of_mem _ (List.mem_append_left _ (List.mem_append_left _ (List.mem_of_getElem? (i := 15) rfl)))) (List.mem_cons_of_mem _ (List.mem_append_left _ (List.mem_append_left _ (List.mem_of_getElem? (i := 16) rfl)))) (by decide +kernel)) gg_f_X3_gatherIntoSet_X0_insert__z20
theorem gg_f_X3_gatherIntoSet_X11_raw : GoodIn w_f_X3_gatherIntoSet w_y_X11_raw := goodIn_sub (fun w h => (List.mem_cons.mp h).elim (fun e => (List.mem_cons_of_mem _ (List.mem_append_left _ (List.mem_append_right _ (List.mem_append_right _ (List.mem_append_right _ (List.mem_append_right _ (List.mem_append_right _ (List.mem_append_left _ (List.mem_cons.mpr (Or.inl e))))))))))) (fun h => (List.mem_append.mp h).elim (fun h => (List.mem_cons_of_mem _ (List.mem_append_left _ (List.mem_append_right _ (List.mem_append_right _ (List.mem_append_right _ (List.mem_append_right _ (List.mem_append_right _ (List.mem_append_left _ (List.mem_cons_of_mem _ h)))))))))) (fun h => List.mem_cons_of_mem _ (List.mem_append_right _ h)))) w_y_X11_raw_good
theorem g_y_X3_gatherIntoSet_X11_raw_SN182 : GoodIn w_f_X3_gatherIntoSet w_y_X11_raw := gg_f_X3_gatherIntoSet_X11_raw
theorem gg_f_X3_gatherIntoSet_X11_unraw : GoodIn w_f_X3_gatherIntoSet w_y_X11_unraw := goodIn_sub (fun w h => (List.mem_cons.mp h).elim (fun e => (List.mem_cons_of_mem _ (List.mem_append_left _ (List.mem_append_right _ (List.mem_append_left _ (List.mem_cons.mpr (Or.inl e))))))) (fun h => (List.mem_append.mp h).elim (fun h => (List.mem_cons_of_mem _ (List.mem_append_left _ (List.mem_append_right _ (List.mem_append_left _ (List.mem_cons_of_mem _ h)))))) (fun h => List.mem_cons_of_mem _ (List.mem_append_right _ h)))) w_y_X11_unraw_good
theorem g_y_X3_gatherIntoSet_X11_unraw_SN388 : GoodIn w_f_X3_gatherIntoSet w_y_X11_unraw := gg_f_X3_gatherIntoSet_X11_unraw
theorem gg_f_X3_gatherIntoSet_X1_size : GoodIn w_f_X3_gatherIntoSet w_y_X1_size := goodIn_sub (fun w h => (List.mem_cons.mp h).elim (fun e => (List.mem_cons_of_mem _ (List.mem_append_left _ (List.mem_append_right _ (List.mem_append_right _ (List.mem_append_right _ (List.mem_append_right _ (List.mem_append_right _ (List.mem_append_right _ (List.mem_append_left _ (List.mem_cons.mpr (Or.inl e)))))))))))) (fun h => (List.mem_append.mp h).elim (fun h => (List.mem_cons_of_mem _ (List.mem_append_left _ (List.mem_append_right _ (List.mem_append_right _ (List.mem_append_right _ (List.mem_append_right _ (List.mem_append_right _ (List.mem_append_right _ (List.mem_append_left _ (List.mem_cons_of_mem _ h))))))))))) (fun h => List.mem_cons_of_mem _ (List.mem_append_right _ h)))) w_y_X1_size_good
theorem g_y_X3_gatherIntoSet_X1_size_V316 : GoodIn w_f_X3_gatherIntoSet (wsV RX3 316 RX1 yX1_size w_y_X1_size) := goodIn_app (nb_g4 (List.mem_cons_of_mem _ (List.mem_append_left _ (List.mem_append_left _ (List.mem_of_getElem? (i := 19) rfl)))) (List.mem_cons_of_mem _ (List.mem_append_left _ (List.mem_append_left _ (List.mem_of_getElem? (i := 20) rfl)))) (List.mem_cons_of_mem _ (List.mem_append_left _ (List.mem_append_left _ (List.mem_of_getElem? (i := 21) rfl)))) (List.mem_cons_of_mem _ (List.mem_append_left _ (List.mem_append_left _ (List.mem_of_getElem? (i := 22) rfl)))) (by decide +kernel)) gg_f_X3_gatherIntoSet_X1_size
theorem gg_f_X3_gatherIntoSet_X3_fail : GoodIn w_f_X3_gatherIntoSet w_y_X3_fail := goodIn_sub (fun w h => (List.mem_cons.mp h).elim (fun e => (List.mem_cons_of_mem _ (List.mem_append_left _ (List.mem_append_right _ (List.mem_append_right _ (List.mem_append_left _ (List.mem_cons.mpr (Or.inl e)))))))) (fun h => (List.mem_append.mp h).elim (fun h => (List.mem_cons_of_mem _ (List.mem_append_left _ (List.mem_append_right _ (List.mem_append_right _ (List.mem_append_left _ (List.mem_cons_of_mem _ h))))))) (fun h => List.mem_cons_of_mem _ (List.mem_append_right _ h)))) w_y_X3_fail_good
theorem g_y_X3_gatherIntoSet_X3_fail_V313 : GoodIn w_f_X3_gatherIntoSet (wsV RX3 313 RX3 yX3_fail w_y_X3_fail) := goodIn_app (nb_g4 (List.mem_cons_of_mem _ (List.mem_append_left _ (List.mem_append_left _ (List.mem_of_getElem? (i := 5) rfl)))) (List.mem_cons_of_mem _ (List.mem_append_left _ (List.mem_append_left _ (List.mem_of_getElem? (i := 6) rfl)))) (List.mem_cons_of_mem _ (List.mem_append_left _ (List.mem_append_left _ (List.mem_of_getElem? (i := 7) rfl)))) (List.mem_cons_of_mem _ (List.mem_append_left _ (List.mem_append_left _ (List.mem_of_getElem? (i := 8) rfl)))) (by decide +kernel)) gg_f_X3_gatherIntoSet_X3_fail
set_option maxHeartbeats 40000000 in
set_option maxRecDepth 100000 in
theorem c_f_X3_gatherIntoSet (l : Launch) (hl0 : l.stackTraces = false) (dC : Nat → ClassId) (dI : Nat → Nat → Nat) (cy : Nat → ClassId) (ek a : Nat → Nat) (k0 : Nat) (L0 : LV) (σ0 : CS) (r0 : RS) (h0 : f_X3_gatherIntoSet k0 0 L0 σ0 = some r0) (z : Nat → Nat) (sz : Nat) : vx_Met l yX3_gatherIntoSet w_f_X3_gatherIntoSet ({ frames := 64, cells := r0.2.2.1, slots := r0.2.2.2, locals := 1789 }) (va_Pc [.ref (a 18), .int (L0.1 1), .int (L0.1 2)] (nInF (dC, dI) cy ek sz (vC cy a z σ0))) (xV dC dI cy a (va_A (vC cy a z σ0) sz) [20] z r0) (xX dC dI cy a (va_A (vC cy a z σ0) sz) [20] z r0) r0.2.2.1 r0.2.2.2 (va_A (vC cy a z σ0) sz) := by
  refine vx_ofW (cc := cX3_gatherIntoSet) (maxL := 6) (ret := none) (by decide) rfl ?_
  intro p e s m args below meth c s₁ B hml hno hv
  obtain ⟨rfl, ⟨⟨hsz, hP, hK, hD0, hG⟩, hE⟩, hT⟩ := hv
  have hx := B.exec
  have hb := B.bytes
  have hr := B.returns
  have hts := atoms_spec (ws := w_f_X3_gatherIntoSet) B.pre
  have hown : s.vm.findClass RX3 = some m.cls := findClass_of_methodNamed B.named
  have hlocks := B.notSynchronized
  subst hsz
  have hD := hD0.self (sz := s.heap.size)
  generalize hAe : va_A (vC cy a z σ0) s.heap.size = A at hD hE hT ⊢
  have hA : ∀ q : Nat, s.heap.size ≤ q → A q := fun q h => by rw [← hAe]; exact Or.inr h
  have hS : va_S A s.heap s.heap [] := va_S.rf
  have hl := lv_entry ([.ref (a 18), .int (L0.1 1), .int (L0.1 2)]) (n := 6) (Nat.le_of_ble_eq_true rfl)
  rw [lg_entry_eq]
  generalize (lg_sl ([.ref (a 18), .int (L0.1 1), .int (L0.1 2)]) ++ List.replicate (6 - (lg_sl ([.ref (a 18), .int (L0.1 1), .int (L0.1 2)])).length) Slot.unset).toArray = ls at hl ⊢
  have hl : lv_has ls 6 [(0, .ref (a 18)), (1, .int (L0.1 1)), (2, .int (L0.1 2))] := hl
  generalize hmc : r0.2.2.1 = mc
  generalize hms : r0.2.2.2 = ms
  have blk : ∀ k : Nat, (bX p l e (headSpec w_f_X3_gatherIntoSet ({ frames := 64, cells := mc, slots := ms, locals := 1789 })).room s m #[.ref (a 18), .int (L0.1 1), .int (L0.1 2)] below meth c dC dI cy a A (fun r => vx_MQ below (xV dC dI cy a A [20] z r) (xX dC dI cy a A [20] z r) #[.ref (a 18), .int (L0.1 1), .int (L0.1 2)] s mc ms A) [20] z mc ms 6 (f_X3_gatherIntoSet k 0) (fun z L => [(0, .ref (a 18)), (1, .int (L.1 1)), (2, .int (L.1 2))]) 0 (fun z L => [])) ∧ (bX p l e (headSpec w_f_X3_gatherIntoSet ({ frames := 64, cells := mc, slots := ms, locals := 1789 })).room s m #[.ref (a 18), .int (L0.1 1), .int (L0.1 2)] below meth c dC dI cy a A (fun r => vx_MQ below (xV dC dI cy a A [20] z r) (xX dC dI cy a A [20] z r) #[.ref (a 18), .int (L0.1 1), .int (L0.1 2)] s mc ms A) [20] z mc ms 6 (f_X3_gatherIntoSet k 1) (fun z L => [(0, .ref (a 18)), (1, .int (L.1 1)), (3, .int (L.1 3)), (4, .int (L.1 4))]) 53 (fun z L => [])) ∧ (bX p l e (headSpec w_f_X3_gatherIntoSet ({ frames := 64, cells := mc, slots := ms, locals := 1789 })).room s m #[.ref (a 18), .int (L0.1 1), .int (L0.1 2)] below meth c dC dI cy a A (fun r => vx_MQ below (xV dC dI cy a A [20] z r) (xX dC dI cy a A [20] z r) #[.ref (a 18), .int (L0.1 1), .int (L0.1 2)] s mc ms A) [20] z mc ms 6 (f_X3_gatherIntoSet k 2) (fun z L => [(0, .ref (a 18)), (1, .int (L.1 1)), (3, .int (L.1 3)), (4, .int (L.1 4))]) 99 (fun z L => [])) ∧ (bX p l e (headSpec w_f_X3_gatherIntoSet ({ frames := 64, cells := mc, slots := ms, locals := 1789 })).room s m #[.ref (a 18), .int (L0.1 1), .int (L0.1 2)] below meth c dC dI cy a A (fun r => vx_MQ below (xV dC dI cy a A [20] z r) (xX dC dI cy a A [20] z r) #[.ref (a 18), .int (L0.1 1), .int (L0.1 2)] s mc ms A) [20] z mc ms 6 (f_X3_gatherIntoSet k 3) (fun z L => [(0, .ref (a 18)), (5, .int (L.1 5))]) 90 (fun z L => [.int (L.1 100), .ref (z 20)])) ∧ (bX p l e (headSpec w_f_X3_gatherIntoSet ({ frames := 64, cells := mc, slots := ms, locals := 1789 })).room s m #[.ref (a 18), .int (L0.1 1), .int (L0.1 2)] below meth c dC dI cy a A (fun r => vx_MQ below (xV dC dI cy a A [20] z r) (xX dC dI cy a A [20] z r) #[.ref (a 18), .int (L0.1 1), .int (L0.1 2)] s mc ms A) [20] z mc ms 6 (f_X3_gatherIntoSet k 4) (fun z L => []) 97 (fun z L => [.int (L.1 100), .int (L.1 101), .ref (z 20)])) ∧ (bX p l e (headSpec w_f_X3_gatherIntoSet ({ frames := 64, cells := mc, slots := ms, locals := 1789 })).room s m #[.ref (a 18), .int (L0.1 1), .int (L0.1 2)] below meth c dC dI cy a A (fun r => vx_MQ below (xV dC dI cy a A [20] z r) (xX dC dI cy a A [20] z r) #[.ref (a 18), .int (L0.1 1), .int (L0.1 2)] s mc ms A) [20] z mc ms 6 (f_X3_gatherIntoSet k 5) (fun z L => []) 236 (fun z L => [])) ∧ (bX p l e (headSpec w_f_X3_gatherIntoSet ({ frames := 64, cells := mc, slots := ms, locals := 1789 })).room s m #[.ref (a 18), .int (L0.1 1), .int (L0.1 2)] below meth c dC dI cy a A (fun r => vx_MQ below (xV dC dI cy a A [20] z r) (xX dC dI cy a A [20] z r) #[.ref (a 18), .int (L0.1 1), .int (L0.1 2)] s mc ms A) [20] z mc ms 6 (f_X3_gatherIntoSet k 6) (fun z L => [(0, .ref (a 18)), (1, .int (L.1 1)), (4, .int (L.1 4))]) 184 (fun z L => [.int (L.1 100), .int (L.1 101), .ref (z 20)])) ∧ (bX p l e (headSpec w_f_X3_gatherIntoSet ({ frames := 64, cells := mc, slots := ms, locals := 1789 })).room s m #[.ref (a 18), .int (L0.1 1), .int (L0.1 2)] below meth c dC dI cy a A (fun r => vx_MQ below (xV dC dI cy a A [20] z r) (xX dC dI cy a A [20] z r) #[.ref (a 18), .int (L0.1 1), .int (L0.1 2)] s mc ms A) [20] z mc ms 6 (f_X3_gatherIntoSet k 7) (fun z L => [(0, .ref (a 18)), (1, .int (L.1 1)), (4, .int (L.1 4))]) 221 (fun z L => [.int (L.1 100), .ref (z 20)])) ∧ (bX p l e (headSpec w_f_X3_gatherIntoSet ({ frames := 64, cells := mc, slots := ms, locals := 1789 })).room s m #[.ref (a 18), .int (L0.1 1), .int (L0.1 2)] below meth c dC dI cy a A (fun r => vx_MQ below (xV dC dI cy a A [20] z r) (xX dC dI cy a A [20] z r) #[.ref (a 18), .int (L0.1 1), .int (L0.1 2)] s mc ms A) [20] z mc ms 6 (f_X3_gatherIntoSet k 8) (fun z L => []) 232 (fun z L => [.int (L.1 100), .int (L.1 101), .ref (z 20)])) := by
    intro k
    induction k with
    | zero => exact ⟨fun z c1 c2 L σ r h => (by cases h), fun z c1 c2 L σ r h => (by cases h), fun z c1 c2 L σ r h => (by cases h), fun z c1 c2 L σ r h => (by cases h), fun z c1 c2 L σ r h => (by cases h), fun z c1 c2 L σ r h => (by cases h), fun z c1 c2 L σ r h => (by cases h), fun z c1 c2 L σ r h => (by cases h), fun z c1 c2 L σ r h => (by cases h)⟩
    | succ k ih =>
      refine ⟨?_, ?_, ?_, ?_, ?_, ?_, ?_, ?_, ?_⟩
      · intro z cells slots L σ r h hzk hc hs H locs ls hP hD hS hl
        rw [f_X3_gatherIntoSet] at h
        refine lv_aload_n hx hb dX3_gatherIntoSet_0 rfl (lv_at hl 0 rfl) ?_
        refine hg_18_7 hx hb hts in_f_X3_gatherIntoSet_X3 hown hK hP (hts _ (List.mem_cons_of_mem _ (List.mem_append_left _ (List.mem_append_left _ (List.mem_of_getElem? (i := 0) rfl))))) dX3_gatherIntoSet_1 ?_
        refine lv_aload_n hx hb dX3_gatherIntoSet_4 rfl (lv_at hl 0 rfl) ?_
        refine hg_18_5 hx hb hts in_f_X3_gatherIntoSet_X3 hown hK hP (hts _ (List.mem_cons_of_mem _ (List.mem_append_left _ (List.mem_append_left _ (List.mem_of_getElem? (i := 1) rfl))))) dX3_gatherIntoSet_5 ?_
        refine hg_19_2n hx hb hts in_f_X3_gatherIntoSet_X8 hown hK hP (va_Nw.use rfl (hG.1 _ (List.mem_of_getElem? (i := 10) rfl))) dX3_gatherIntoSet_8 ?_
        refine lv_iconst (v := 2) hx hb dX3_gatherIntoSet_11 (by decide) ?_
        refine lv_isub hx hb dX3_gatherIntoSet_12 ?_
        obtain ⟨q1, h⟩ := kr_ite1 h
        refine hl_20 hx hb hK hP q1 dX3_gatherIntoSet_13 ?_
        obtain ⟨r2, hc2, h⟩ := op_ex h
        refine kc_i (va_runSN (As := [.int (σ.2.2.1 20 ((((σ.1 1902)) - 2)).toNatClampNeg)]) (rest := []) ⟨hx, hb, hml, hown, hts⟩ (c_y_X11_unraw l dC dI cy a z k (lI lZ 0 ((σ.2.2.1 20 ((((σ.1 1902)) - 2)).toNatClampNeg))) σ r2 hc2 H.size) ⟨va_cnB 1 hts g_y_X3_gatherIntoSet_X11_unraw_SN388 rfl rfl rfl (hG.1 _ (List.mem_of_getElem? (i := 104) rfl)) (hts _ (List.mem_cons_of_mem _ (List.mem_append_left _ (List.mem_append_left _ (List.mem_of_getElem? (i := 2) rfl))))) hd_y_X11_unraw ⟨Nat.le_of_ble_eq_true rfl, Nat.le_of_ble_eq_true rfl⟩, (hts _ (List.mem_cons_of_mem _ (List.mem_append_left _ (List.mem_append_left _ (List.mem_of_getElem? (i := 3) rfl))))), trivial⟩ ⟨nb_blind, (kb_pre hK hG hP hD)⟩ rfl rfl hl.1 rfl (lv_room (Nat.le_of_ble_eq_true rfl)) dX3_gatherIntoSet_14 ⟨(Nat.le_trans (Nat.le_add_right _ _) (Nat.le_of_eq hc)), (Nat.le_trans (Nat.le_add_right _ _) (Nat.le_of_eq hs))⟩) hA hP hD hS (fun H locs hP hD hS => ?_)
        refine lv_istore_n (lv' := [(3, .int r2.1), (0, .ref (a 18)), (1, .int (L.1 1)), (2, .int (L.1 2))]) hx hb dX3_gatherIntoSet_17 rfl hl (by decide) rfl (fun ls hl => ?_)
        refine lv_aload_n hx hb dX3_gatherIntoSet_18 rfl (lv_at hl 1 rfl) ?_
        refine hg_18_7 hx hb hts in_f_X3_gatherIntoSet_X3 hown hK hP (hts _ (List.mem_cons_of_mem _ (List.mem_append_left _ (List.mem_append_left _ (List.mem_of_getElem? (i := 0) rfl))))) dX3_gatherIntoSet_19 ?_
        refine lv_aload_n hx hb dX3_gatherIntoSet_22 rfl (lv_at hl 1 rfl) ?_
        refine hg_18_5 hx hb hts in_f_X3_gatherIntoSet_X3 hown hK hP (hts _ (List.mem_cons_of_mem _ (List.mem_append_left _ (List.mem_append_left _ (List.mem_of_getElem? (i := 1) rfl))))) dX3_gatherIntoSet_23 ?_
        refine hg_19_2n hx hb hts in_f_X3_gatherIntoSet_X8 hown hK hP (va_Nw.use rfl (hG.1 _ (List.mem_of_getElem? (i := 10) rfl))) dX3_gatherIntoSet_26 ?_
        refine lv_iconst (v := 1) hx hb dX3_gatherIntoSet_29 (by decide) ?_
        refine lv_isub hx hb dX3_gatherIntoSet_30 ?_
        obtain ⟨q3, h⟩ := kr_ite1 h
        refine hl_20 hx hb hK hP q3 dX3_gatherIntoSet_31 ?_
        obtain ⟨r4, hc4, h⟩ := op_ex h
        refine kc_i (va_runSN (As := [.int (r2.2.2.2.1 20 ((((r2.2.1 1902)) - 1)).toNatClampNeg)]) (rest := []) ⟨hx, hb, hml, hown, hts⟩ (c_y_X11_unraw l dC dI cy a z k (lI lZ 0 ((r2.2.2.2.1 20 ((((r2.2.1 1902)) - 1)).toNatClampNeg))) r2.2 r4 hc4 H.size) ⟨va_cnB 1 hts g_y_X3_gatherIntoSet_X11_unraw_SN388 rfl rfl rfl (hG.1 _ (List.mem_of_getElem? (i := 104) rfl)) (hts _ (List.mem_cons_of_mem _ (List.mem_append_left _ (List.mem_append_left _ (List.mem_of_getElem? (i := 2) rfl))))) hd_y_X11_unraw ⟨Nat.le_of_ble_eq_true rfl, Nat.le_of_ble_eq_true rfl⟩, (hts _ (List.mem_cons_of_mem _ (List.mem_append_left _ (List.mem_append_left _ (List.mem_of_getElem? (i := 3) rfl))))), trivial⟩ ⟨nb_blind, (kb_pre hK hG hP hD)⟩ rfl rfl hl.1 rfl (lv_room (Nat.le_of_ble_eq_true rfl)) dX3_gatherIntoSet_32 ⟨(Nat.le_trans (Nat.le_add_right _ _) (Nat.le_of_eq hc)), (Nat.le_trans (Nat.le_add_right _ _) (Nat.le_of_eq hs))⟩) hA hP hD hS (fun H locs hP hD hS => ?_)
        refine lv_istore (lv' := [(4, .int r4.1), (3, .int r2.1), (0, .ref (a 18)), (1, .int (L.1 1)), (2, .int (L.1 2))]) hx hb dX3_gatherIntoSet_35 hl (by decide) rfl (fun ls hl => ?_)
        refine lv_iload_n hx hb dX3_gatherIntoSet_37 rfl (lv_at hl 3 rfl) ?_
        refine lv_ldc (v := (-2147483648)) hx hb hown (hts _ (List.mem_cons_of_mem _ (List.mem_append_left _ (List.mem_append_left _ (List.mem_of_getElem? (i := 4) rfl))))) dX3_gatherIntoSet_38 ?_
        refine lv_icmp_ne (tgt := 53) hx hb dX3_gatherIntoSet_40 (by decide) (fun c5 => ?_) (fun c5 => ?_)
        · rw [if_neg c5] at h
          exact ih.2.1 z _ _ (lI (lI L 3 r2.1) 4 r4.1) r4.2 _ h hzk hc hs H locs ls hP hD hS (lv_sub hl [2, 3, 1, 0] rfl)
        · rw [if_pos c5] at h
          refine lv_iload_n hx hb dX3_gatherIntoSet_43 rfl (lv_at hl 4 rfl) ?_
          refine lv_if_ne (tgt := 53) hx hb dX3_gatherIntoSet_44 (by decide) (fun c6 => ?_) (fun c6 => ?_)
          · rw [if_neg c6] at h
            exact ih.2.1 z _ _ (lI (lI L 3 r2.1) 4 r4.1) r4.2 _ h hzk hc hs H locs ls hP hD hS (lv_sub hl [2, 3, 1, 0] rfl)
          · rw [if_pos c6] at h
            refine lv_aload_n hx hb dX3_gatherIntoSet_47 rfl (lv_at hl 2 rfl) ?_
            refine lv_iconst (v := 3) hx hb dX3_gatherIntoSet_48 (by decide) ?_
            obtain ⟨r7, hc7, h⟩ := op_ex h
            refine kc_v (va_runV (As := [.int 3]) (rest := []) ⟨hx, hb, hml, hown, hts⟩ (c_y_X3_fail l dC dI cy a z k (lI lZ 1 3) r4.2 r7 hc7 H.size) (cwV 1 hts g_y_X3_gatherIntoSet_X3_fail_V313 rfl rfl rfl hd_y_X3_fail ⟨Nat.le_of_ble_eq_true rfl, Nat.le_of_ble_eq_true rfl⟩) ⟨nb_blind, va_recv hK hP (ci := 3) (q0 := 18) rfl rfl, (kb_pre hK hG hP hD)⟩ rfl rfl hl.1 rfl (lv_room (Nat.le_of_ble_eq_true rfl)) dX3_gatherIntoSet_49 ⟨(Nat.le_trans (Nat.le_add_right _ _) (Nat.le_of_eq hc)), (Nat.le_trans (Nat.le_add_right _ _) (Nat.le_of_eq hs))⟩) hA hP hD hS (fun H locs hP hD hS => ?_)
            obtain rfl := Option.some.inj h
            subst hc
            subst hs
            exact xr_v hx hb hr hK hzk hP hD hS hlocks dX3_gatherIntoSet_52
      · intro z cells slots L σ r h hzk hc hs H locs ls hP hD hS hl
        rw [f_X3_gatherIntoSet] at h
        refine lv_iload hx hb dX3_gatherIntoSet_53 (lv_at hl 3 rfl) ?_
        refine lv_sipush (v := 1000) hx hb dX3_gatherIntoSet_55 (by decide) ?_
        refine lv_icmp_le (tgt := 99) hx hb dX3_gatherIntoSet_58 (by decide) (fun c1 => ?_) (fun c1 => ?_)
        · rw [if_pos c1] at h
          exact ih.2.2.1 z _ _ L σ _ h hzk hc hs H locs ls hP hD hS (lv_sub hl [0, 1, 2, 3] rfl)
        · rw [if_neg c1] at h
          refine lv_aload_n hx hb dX3_gatherIntoSet_61 rfl (lv_at hl 0 rfl) ?_
          refine hg_18_5 hx hb hts in_f_X3_gatherIntoSet_X3 hown hK hP (hts _ (List.mem_cons_of_mem _ (List.mem_append_left _ (List.mem_append_left _ (List.mem_of_getElem? (i := 1) rfl))))) dX3_gatherIntoSet_62 ?_
          refine hg_19_2n hx hb hts in_f_X3_gatherIntoSet_X8 hown hK hP (va_Nw.use rfl (hG.1 _ (List.mem_of_getElem? (i := 10) rfl))) dX3_gatherIntoSet_65 ?_
          refine lv_iconst (v := 2) hx hb dX3_gatherIntoSet_68 (by decide) ?_
          refine lv_isub hx hb dX3_gatherIntoSet_69 ?_
          refine lv_iload_n hx hb dX3_gatherIntoSet_70 rfl (lv_at hl 2 rfl) ?_
          refine lv_isub hx hb dX3_gatherIntoSet_71 ?_
          refine lv_istore (lv' := [(5, .int (((((σ.1 1902)) - 2)) - ((L.1 3)))), (0, .ref (a 18)), (1, .int (L.1 1)), (3, .int (L.1 3)), (4, .int (L.1 4))]) hx hb dX3_gatherIntoSet_72 hl (by decide) rfl (fun ls hl => ?_)
          refine lv_aload_n hx hb dX3_gatherIntoSet_74 rfl (lv_at hl 1 rfl) ?_
          refine hg_18_7 hx hb hts in_f_X3_gatherIntoSet_X3 hown hK hP (hts _ (List.mem_cons_of_mem _ (List.mem_append_left _ (List.mem_append_left _ (List.mem_of_getElem? (i := 0) rfl))))) dX3_gatherIntoSet_75 ?_
          refine lv_iload hx hb dX3_gatherIntoSet_78 (lv_at hl 0 rfl) ?_
          refine lv_iload_n hx hb dX3_gatherIntoSet_80 rfl (lv_at hl 2 rfl) ?_
          refine lv_ldc (v := (-2147483648)) hx hb hown (hts _ (List.mem_cons_of_mem _ (List.mem_append_left _ (List.mem_append_left _ (List.mem_of_getElem? (i := 4) rfl))))) dX3_gatherIntoSet_81 ?_
          refine lv_icmp_ne (tgt := 90) hx hb dX3_gatherIntoSet_83 (by decide) (fun c2 => ?_) (fun c2 => ?_)
          · rw [if_neg c2] at h
            exact ih.2.2.2.1 z _ _ (lI (lI L 5 ((((((σ.1 1902)) - 2)) - ((L.1 3))))) 100 ((((((σ.1 1902)) - 2)) - ((L.1 3))))) σ _ h hzk hc hs H locs ls hP hD hS (lv_sub hl [1, 0] rfl)
          · rw [if_pos c2] at h
            refine lv_iload_n hx hb dX3_gatherIntoSet_86 rfl (lv_at hl 2 rfl) ?_
            refine lv_goto (tgt := 97) hx hb dX3_gatherIntoSet_87 (by decide) ?_
            exact ih.2.2.2.2.1 z _ _ (lI (lI L 100 ((L.1 1))) 101 ((((((σ.1 1902)) - 2)) - ((L.1 3))))) σ _ h hzk hc hs H locs ls hP hD hS (lv_sub hl [] rfl)
      · intro z cells slots L σ r h hzk hc hs H locs ls hP hD hS hl
        rw [f_X3_gatherIntoSet] at h
        refine lv_aload_n hx hb dX3_gatherIntoSet_99 rfl (lv_at hl 0 rfl) ?_
        refine lv_ldc (v := (-2147483648)) hx hb hown (hts _ (List.mem_cons_of_mem _ (List.mem_append_left _ (List.mem_append_left _ (List.mem_of_getElem? (i := 4) rfl))))) dX3_gatherIntoSet_100 ?_
        obtain ⟨r1, hc1, hle1, h9⟩ := ox_ex h
        clear h
        refine kx_v (vx_runV (As := [.int (-2147483648)]) (rest := []) ⟨hx, hb, hml, hown, hts⟩ (c_f_X3_push l hl0 dC dI cy ek a k (lI lZ 1 ((-2147483648))) σ r1 hc1 z H.size) (cwV 1 hts g_f_X3_gatherIntoSet_X3_push_V322 rfl rfl rfl hd_f_X3_push ⟨Nat.le_of_ble_eq_true rfl, Nat.le_of_ble_eq_true rfl⟩) ⟨nb_blindF, va_recv hK hP (ci := 3) (q0 := 18) rfl rfl, (kx_pre hK hG hE hT hA hP hD hS)⟩ rfl rfl hl.1 rfl (lv_room (Nat.le_of_ble_eq_true rfl)) dX3_gatherIntoSet_102 ⟨Nat.le_trans (Nat.add_le_add_left hle1.1 _) (Nat.le_of_eq hc), Nat.le_trans (Nat.add_le_add_left hle1.2 _) (Nat.le_of_eq hs)⟩) hK hA hzk hP hD hS (by decide) hno hlocks ?_
        rcases h9 with ⟨h00, y1, hny1, hy⟩ | ⟨h00, hy⟩
        · subst hy
          have h := hny1
          refine Or.inl ⟨h00, fun z H locs hz1 hzk hP hD hS => ?_⟩
          replace hc := (Nat.add_assoc _ _ _).trans hc
          replace hs := (Nat.add_assoc _ _ _).trans hs
          refine lv_aload_n hx hb dX3_gatherIntoSet_105 rfl (lv_at hl 0 rfl) ?_
          refine hg_18_5 hx hb hts in_f_X3_gatherIntoSet_X3 hown hK hP (hts _ (List.mem_cons_of_mem _ (List.mem_append_left _ (List.mem_append_left _ (List.mem_of_getElem? (i := 1) rfl))))) dX3_gatherIntoSet_106 ?_
          refine lv_dup hx hb dX3_gatherIntoSet_109 rfl ?_
          refine hg_19_2n hx hb hts in_f_X3_gatherIntoSet_X8 hown hK hP (va_Nw.use rfl (hG.1 _ (List.mem_of_getElem? (i := 10) rfl))) dX3_gatherIntoSet_110 ?_
          refine lv_iconst (v := 1) hx hb dX3_gatherIntoSet_113 (by decide) ?_
          refine lv_isub hx hb dX3_gatherIntoSet_114 ?_
          refine hp_19_2n hx hb hts in_f_X3_gatherIntoSet_X8 hown hK hP hD hS (va_Nw.use rfl (hG.1 _ (List.mem_of_getElem? (i := 10) rfl))) dX3_gatherIntoSet_115 (fun H locs hP hD hS => ?_)
          refine lv_aload_n hx hb dX3_gatherIntoSet_118 rfl (lv_at hl 0 rfl) ?_
          refine hg_18_2 hx hb hts in_f_X3_gatherIntoSet_X3 hown hK hP (hts _ (List.mem_cons_of_mem _ (List.mem_append_left _ (List.mem_append_left _ (List.mem_of_getElem? (i := 12) rfl))))) dX3_gatherIntoSet_119 ?_
          refine lv_aload_n hx hb dX3_gatherIntoSet_122 rfl (lv_at hl 0 rfl) ?_
          refine hg_18_7 hx hb hts in_f_X3_gatherIntoSet_X3 hown hK hP (hts _ (List.mem_cons_of_mem _ (List.mem_append_left _ (List.mem_append_left _ (List.mem_of_getElem? (i := 0) rfl))))) dX3_gatherIntoSet_123 ?_
          refine lv_aload_n hx hb dX3_gatherIntoSet_126 rfl (lv_at hl 0 rfl) ?_
          refine hg_18_5 hx hb hts in_f_X3_gatherIntoSet_X3 hown hK hP (hts _ (List.mem_cons_of_mem _ (List.mem_append_left _ (List.mem_append_left _ (List.mem_of_getElem? (i := 1) rfl))))) dX3_gatherIntoSet_127 ?_
          refine hg_19_2n hx hb hts in_f_X3_gatherIntoSet_X8 hown hK hP (va_Nw.use rfl (hG.1 _ (List.mem_of_getElem? (i := 10) rfl))) dX3_gatherIntoSet_130 ?_
          refine lv_iconst (v := 2) hx hb dX3_gatherIntoSet_133 (by decide) ?_
          refine lv_isub hx hb dX3_gatherIntoSet_134 ?_
          refine lv_iload_n hx hb dX3_gatherIntoSet_135 rfl (lv_at hl 2 rfl) ?_
          refine lv_isub hx hb dX3_gatherIntoSet_136 ?_
          refine lv_iload_n hx hb dX3_gatherIntoSet_137 rfl (lv_at hl 2 rfl) ?_
          refine lv_aload_n hx hb dX3_gatherIntoSet_138 rfl (lv_at hl 0 rfl) ?_
          refine hg_18_5 hx hb hts in_f_X3_gatherIntoSet_X3 hown hK hP (hts _ (List.mem_cons_of_mem _ (List.mem_append_left _ (List.mem_append_left _ (List.mem_of_getElem? (i := 1) rfl))))) dX3_gatherIntoSet_139 ?_
          refine hg_19_2n hx hb hts in_f_X3_gatherIntoSet_X8 hown hK hP (va_Nw.use rfl (hG.1 _ (List.mem_of_getElem? (i := 10) rfl))) dX3_gatherIntoSet_142 ?_
          refine lv_iload_n hx hb dX3_gatherIntoSet_145 rfl (lv_at hl 1 rfl) ?_
          obtain ⟨r2, hc2, h⟩ := op_ex h
          refine kc_i (va_runV (As := [.ref (z 20), .int ((((((uI r1.2.1 1902 ((((r1.2.1.1 1902)) - 1))).1 1902)) - 2)) - ((L.1 3))), .int (L.1 3), .int ((uI r1.2.1 1902 ((((r1.2.1.1 1902)) - 1))).1 1902), .int (L.1 1)]) (rest := []) ⟨hx, hb, hml, hown, hts⟩ (c_y_X0_insert__z20 l dC dI cy a z k (lI (lI (lI (lI lZ 2 (((((((uI r1.2.1 1902 ((((r1.2.1.1 1902)) - 1))).1 1902)) - 2)) - ((L.1 3))))) 3 ((L.1 3))) 4 (((uI r1.2.1 1902 ((((r1.2.1.1 1902)) - 1))).1 1902))) 5 ((L.1 1))) (uI r1.2.1 1902 ((((r1.2.1.1 1902)) - 1))) r2 hc2 H.size) (cwV 5 hts g_y_X3_gatherIntoSet_X0_insert__z20_V536 rfl rfl rfl hd_y_X0_insert__z20 ⟨Nat.le_of_ble_eq_true rfl, Nat.le_of_ble_eq_true rfl⟩) ⟨nb_blind, va_recv hK hP (ci := 0) (q0 := 14) rfl rfl, (kb_pre hK hG hP hD)⟩ rfl rfl hl.1 rfl (lv_room (Nat.le_of_ble_eq_true rfl)) dX3_gatherIntoSet_146 ⟨(Nat.le_trans (Nat.le_add_right _ _) (Nat.le_of_eq hc)), (Nat.le_trans (Nat.le_add_right _ _) (Nat.le_of_eq hs))⟩) hA hP hD hS (fun H locs hP hD hS => ?_)
          refine lv_if_eq (tgt := 236) hx hb dX3_gatherIntoSet_149 (by decide) (fun c3 => ?_) (fun c3 => ?_)
          · rw [if_pos c3] at h
            exact ih.2.2.2.2.2.1 z _ _ L r2.2 _ h hzk hc hs H locs ls hP hD hS (lv_sub hl [] rfl)
          · rw [if_neg c3] at h
            refine lv_aload_n hx hb dX3_gatherIntoSet_152 rfl (lv_at hl 0 rfl) ?_
            refine hg_18_5 hx hb hts in_f_X3_gatherIntoSet_X3 hown hK hP (hts _ (List.mem_cons_of_mem _ (List.mem_append_left _ (List.mem_append_left _ (List.mem_of_getElem? (i := 1) rfl))))) dX3_gatherIntoSet_153 ?_
            refine lv_dup hx hb dX3_gatherIntoSet_156 rfl ?_
            refine hg_19_2n hx hb hts in_f_X3_gatherIntoSet_X8 hown hK hP (va_Nw.use rfl (hG.1 _ (List.mem_of_getElem? (i := 10) rfl))) dX3_gatherIntoSet_157 ?_
            refine lv_iconst (v := 1) hx hb dX3_gatherIntoSet_160 (by decide) ?_
            refine lv_iadd hx hb dX3_gatherIntoSet_161 ?_
            refine hp_19_2n hx hb hts in_f_X3_gatherIntoSet_X8 hown hK hP hD hS (va_Nw.use rfl (hG.1 _ (List.mem_of_getElem? (i := 10) rfl))) dX3_gatherIntoSet_162 (fun H locs hP hD hS => ?_)
            refine lv_aload_n hx hb dX3_gatherIntoSet_165 rfl (lv_at hl 0 rfl) ?_
            refine hg_18_7 hx hb hts in_f_X3_gatherIntoSet_X3 hown hK hP (hts _ (List.mem_cons_of_mem _ (List.mem_append_left _ (List.mem_append_left _ (List.mem_of_getElem? (i := 0) rfl))))) dX3_gatherIntoSet_166 ?_
            refine lv_aload_n hx hb dX3_gatherIntoSet_169 rfl (lv_at hl 0 rfl) ?_
            refine hg_18_5 hx hb hts in_f_X3_gatherIntoSet_X3 hown hK hP (hts _ (List.mem_cons_of_mem _ (List.mem_append_left _ (List.mem_append_left _ (List.mem_of_getElem? (i := 1) rfl))))) dX3_gatherIntoSet_170 ?_
            refine hg_19_2n hx hb hts in_f_X3_gatherIntoSet_X8 hown hK hP (va_Nw.use rfl (hG.1 _ (List.mem_of_getElem? (i := 10) rfl))) dX3_gatherIntoSet_173 ?_
            refine lv_iconst (v := 2) hx hb dX3_gatherIntoSet_176 (by decide) ?_
            refine lv_isub hx hb dX3_gatherIntoSet_177 ?_
            refine lv_iload_n hx hb dX3_gatherIntoSet_178 rfl (lv_at hl 2 rfl) ?_
            refine lv_iconst (v := 1) hx hb dX3_gatherIntoSet_179 (by decide) ?_
            refine lv_iadd hx hb dX3_gatherIntoSet_180 ?_
            obtain ⟨r4, hc4, h⟩ := op_ex h
            refine kc_i (va_runSN (As := [.int (((L.1 3)) + 1)]) (rest := [.int ((((uI r2.2 1902 ((((r2.2.1 1902)) + 1))).1 1902)) - 2), .ref (z 20)]) ⟨hx, hb, hml, hown, hts⟩ (c_y_X11_raw l dC dI cy a z k (lI lZ 0 ((((L.1 3)) + 1))) (uI r2.2 1902 ((((r2.2.1 1902)) + 1))) r4 hc4 H.size) ⟨va_cnB 1 hts g_y_X3_gatherIntoSet_X11_raw_SN182 rfl rfl rfl (hG.1 _ (List.mem_of_getElem? (i := 103) rfl)) (hts _ (List.mem_cons_of_mem _ (List.mem_append_left _ (List.mem_append_left _ (List.mem_of_getElem? (i := 2) rfl))))) hd_y_X11_raw ⟨Nat.le_of_ble_eq_true rfl, Nat.le_of_ble_eq_true rfl⟩, (hts _ (List.mem_cons_of_mem _ (List.mem_append_left _ (List.mem_append_left _ (List.mem_of_getElem? (i := 17) rfl))))), trivial⟩ ⟨nb_blind, (kb_pre hK hG hP hD)⟩ rfl rfl hl.1 rfl (lv_room (Nat.le_of_ble_eq_true rfl)) dX3_gatherIntoSet_181 ⟨(Nat.le_trans (Nat.le_add_right _ _) (Nat.le_of_eq hc)), (Nat.le_trans (Nat.le_add_right _ _) (Nat.le_of_eq hs))⟩) hA hP hD hS (fun H locs hP hD hS => ?_)
            exact ih.2.2.2.2.2.2.1 z _ _ (lI (lI L 100 r4.1) 101 (((((uI r2.2 1902 ((((r2.2.1 1902)) + 1))).1 1902)) - 2))) r4.2 _ h hzk hc hs H locs ls hP hD hS (lv_sub hl [0, 1, 3] rfl)
        · subst hy
          exact Or.inr ⟨h00, rfl, hc, hs⟩
      · intro z cells slots L σ r h hzk hc hs H locs ls hP hD hS hl
        rw [f_X3_gatherIntoSet] at h
        refine lv_aload_n hx hb dX3_gatherIntoSet_90 rfl (lv_at hl 0 rfl) ?_
        refine hg_18_7 hx hb hts in_f_X3_gatherIntoSet_X3 hown hK hP (hts _ (List.mem_cons_of_mem _ (List.mem_append_left _ (List.mem_append_left _ (List.mem_of_getElem? (i := 0) rfl))))) dX3_gatherIntoSet_91 ?_
        refine lv_iload hx hb dX3_gatherIntoSet_94 (lv_at hl 1 rfl) ?_
        obtain ⟨q1, h⟩ := kr_ite1 h
        refine hl_20 hx hb hK hP q1 dX3_gatherIntoSet_96 ?_
        exact ih.2.2.2.2.1 z _ _ (lI (lI L 100 ((σ.2.2.1 20 ((L.1 5)).toNatClampNeg))) 101 ((L.1 100))) σ _ h hzk hc hs H locs ls hP hD hS (lv_sub hl [] rfl)
      · intro z cells slots L σ r h hzk hc hs H locs ls hP hD hS hl
        rw [f_X3_gatherIntoSet] at h
        obtain ⟨q1, h⟩ := kr_ite1 h
        refine hs_20 hx hb hK hP hD hS q1 dX3_gatherIntoSet_97 (fun H locs hP hD hS => ?_)
        obtain rfl := Option.some.inj h
        subst hc
        subst hs
        exact xr_v hx hb hr hK hzk hP hD hS hlocks dX3_gatherIntoSet_98
      · intro z cells slots L σ r h hzk hc hs H locs ls hP hD hS hl
        rw [f_X3_gatherIntoSet] at h
        obtain rfl := Option.some.inj h
        subst hc
        subst hs
        exact xr_v hx hb hr hK hzk hP hD hS hlocks dX3_gatherIntoSet_236
      · intro z cells slots L σ r h hzk hc hs H locs ls hP hD hS hl
        rw [f_X3_gatherIntoSet] at h
        obtain ⟨q1, h⟩ := kr_ite1 h
        refine hs_20 hx hb hK hP hD hS q1 dX3_gatherIntoSet_184 (fun H locs hP hD hS => ?_)
        refine lv_aload_n hx hb dX3_gatherIntoSet_185 rfl (lv_at hl 0 rfl) ?_
        refine hg_18_7 hx hb hts in_f_X3_gatherIntoSet_X3 hown hK hP (hts _ (List.mem_cons_of_mem _ (List.mem_append_left _ (List.mem_append_left _ (List.mem_of_getElem? (i := 0) rfl))))) dX3_gatherIntoSet_186 ?_
        refine lv_aload_n hx hb dX3_gatherIntoSet_189 rfl (lv_at hl 0 rfl) ?_
        refine hg_18_5 hx hb hts in_f_X3_gatherIntoSet_X3 hown hK hP (hts _ (List.mem_cons_of_mem _ (List.mem_append_left _ (List.mem_append_left _ (List.mem_of_getElem? (i := 1) rfl))))) dX3_gatherIntoSet_190 ?_
        refine hg_19_2n hx hb hts in_f_X3_gatherIntoSet_X8 hown hK hP (va_Nw.use rfl (hG.1 _ (List.mem_of_getElem? (i := 10) rfl))) dX3_gatherIntoSet_193 ?_
        refine lv_iconst (v := 1) hx hb dX3_gatherIntoSet_196 (by decide) ?_
        refine lv_isub hx hb dX3_gatherIntoSet_197 ?_
        refine lv_iload hx hb dX3_gatherIntoSet_198 (lv_at hl 2 rfl) ?_
        refine lv_aload_n hx hb dX3_gatherIntoSet_200 rfl (lv_at hl 0 rfl) ?_
        refine hg_18_0 hx hb hts in_f_X3_gatherIntoSet_X3 hown hK hP (hts _ (List.mem_cons_of_mem _ (List.mem_append_left _ (List.mem_append_left _ (List.mem_of_getElem? (i := 18) rfl))))) dX3_gatherIntoSet_201 ?_
        refine lv_iload_n hx hb dX3_gatherIntoSet_204 rfl (lv_at hl 1 rfl) ?_
        obtain ⟨r2, hc2, h⟩ := op_ex h
        refine kc_i (va_runV (As := [.int (L.1 1)]) (rest := [.int (L.1 4), .int ((((uA σ 20 ((L.1 101)).toNatClampNeg ((L.1 100))).1 1902)) - 1), .ref (z 20)]) ⟨hx, hb, hml, hown, hts⟩ (c_y_X1_size l dC dI cy a z k (lI lZ 1 ((L.1 1))) (uA σ 20 ((L.1 101)).toNatClampNeg ((L.1 100))) r2 hc2 H.size) (cwV 1 hts g_y_X3_gatherIntoSet_X1_size_V316 rfl rfl rfl hd_y_X1_size ⟨Nat.le_of_ble_eq_true rfl, Nat.le_of_ble_eq_true rfl⟩) ⟨nb_blind, va_recv hK hP (ci := 1) (q0 := 0) rfl rfl, (kb_pre hK hG hP hD)⟩ rfl rfl hl.1 rfl (lv_room (Nat.le_of_ble_eq_true rfl)) dX3_gatherIntoSet_205 ⟨(Nat.le_trans (Nat.le_add_right _ _) (Nat.le_of_eq hc)), (Nat.le_trans (Nat.le_add_right _ _) (Nat.le_of_eq hs))⟩) hA hP hD hS (fun H locs hP hD hS => ?_)
        refine lv_iadd hx hb dX3_gatherIntoSet_208 ?_
        refine lv_sipush (v := 1000) hx hb dX3_gatherIntoSet_209 (by decide) ?_
        refine lv_icmp_le (tgt := 221) hx hb dX3_gatherIntoSet_212 (by decide) (fun c3 => ?_) (fun c3 => ?_)
        · rw [if_pos c3] at h
          exact ih.2.2.2.2.2.2.2.1 z _ _ (lI L 100 (((((uA σ 20 ((L.1 101)).toNatClampNeg ((L.1 100))).1 1902)) - 1))) r2.2 _ h hzk hc hs H locs ls hP hD hS (lv_sub hl [0, 1, 2] rfl)
        · rw [if_neg c3] at h
          refine lv_sipush (v := 3000) hx hb dX3_gatherIntoSet_215 (by decide) ?_
          refine lv_goto (tgt := 232) hx hb dX3_gatherIntoSet_218 (by decide) ?_
          exact ih.2.2.2.2.2.2.2.2 z _ _ (lI (lI L 100 3000) 101 (((((uA σ 20 ((L.1 101)).toNatClampNeg ((L.1 100))).1 1902)) - 1))) r2.2 _ h hzk hc hs H locs ls hP hD hS (lv_sub hl [] rfl)
      · intro z cells slots L σ r h hzk hc hs H locs ls hP hD hS hl
        rw [f_X3_gatherIntoSet] at h
        refine lv_iload hx hb dX3_gatherIntoSet_221 (lv_at hl 2 rfl) ?_
        refine lv_aload_n hx hb dX3_gatherIntoSet_223 rfl (lv_at hl 0 rfl) ?_
        refine hg_18_0 hx hb hts in_f_X3_gatherIntoSet_X3 hown hK hP (hts _ (List.mem_cons_of_mem _ (List.mem_append_left _ (List.mem_append_left _ (List.mem_of_getElem? (i := 18) rfl))))) dX3_gatherIntoSet_224 ?_
        refine lv_iload_n hx hb dX3_gatherIntoSet_227 rfl (lv_at hl 1 rfl) ?_
        obtain ⟨r1, hc1, h⟩ := op_ex h
        refine kc_i (va_runV (As := [.int (L.1 1)]) (rest := [.int (L.1 4), .int (L.1 100), .ref (z 20)]) ⟨hx, hb, hml, hown, hts⟩ (c_y_X1_size l dC dI cy a z k (lI lZ 1 ((L.1 1))) σ r1 hc1 H.size) (cwV 1 hts g_y_X3_gatherIntoSet_X1_size_V316 rfl rfl rfl hd_y_X1_size ⟨Nat.le_of_ble_eq_true rfl, Nat.le_of_ble_eq_true rfl⟩) ⟨nb_blind, va_recv hK hP (ci := 1) (q0 := 0) rfl rfl, (kb_pre hK hG hP hD)⟩ rfl rfl hl.1 rfl (lv_room (Nat.le_of_ble_eq_true rfl)) dX3_gatherIntoSet_228 ⟨(Nat.le_trans (Nat.le_add_right _ _) (Nat.le_of_eq hc)), (Nat.le_trans (Nat.le_add_right _ _) (Nat.le_of_eq hs))⟩) hA hP hD hS (fun H locs hP hD hS => ?_)
        refine lv_iadd hx hb dX3_gatherIntoSet_231 ?_
        exact ih.2.2.2.2.2.2.2.2 z _ _ (lI (lI L 100 ((((L.1 4)) + r1.1))) 101 ((L.1 100))) r1.2 _ h hzk hc hs H locs ls hP hD hS (lv_sub hl [] rfl)
      · intro z cells slots L σ r h hzk hc hs H locs ls hP hD hS hl
        rw [f_X3_gatherIntoSet] at h
        obtain ⟨r1, hc1, h⟩ := op_ex h
        refine kc_i (va_runSN (As := [.int (L.1 100)]) (rest := [.int (L.1 101), .ref (z 20)]) ⟨hx, hb, hml, hown, hts⟩ (c_y_X11_raw l dC dI cy a z k (lI lZ 0 ((L.1 100))) σ r1 hc1 H.size) ⟨va_cnB 1 hts g_y_X3_gatherIntoSet_X11_raw_SN182 rfl rfl rfl (hG.1 _ (List.mem_of_getElem? (i := 103) rfl)) (hts _ (List.mem_cons_of_mem _ (List.mem_append_left _ (List.mem_append_left _ (List.mem_of_getElem? (i := 2) rfl))))) hd_y_X11_raw ⟨Nat.le_of_ble_eq_true rfl, Nat.le_of_ble_eq_true rfl⟩, (hts _ (List.mem_cons_of_mem _ (List.mem_append_left _ (List.mem_append_left _ (List.mem_of_getElem? (i := 17) rfl))))), trivial⟩ ⟨nb_blind, (kb_pre hK hG hP hD)⟩ rfl rfl hl.1 rfl (lv_room (Nat.le_of_ble_eq_true rfl)) dX3_gatherIntoSet_232 ⟨(Nat.le_trans (Nat.le_add_right _ _) (Nat.le_of_eq hc)), (Nat.le_trans (Nat.le_add_right _ _) (Nat.le_of_eq hs))⟩) hA hP hD hS (fun H locs hP hD hS => ?_)
        obtain ⟨q2, h⟩ := kr_ite1 h
        refine hs_20 hx hb hK hP hD hS q2 dX3_gatherIntoSet_235 (fun H locs hP hD hS => ?_)
        exact ih.2.2.2.2.2.1 z _ _ L (uA r1.2 20 ((L.1 101)).toNatClampNeg r1.1) _ h hzk hc hs H locs ls hP hD hS (lv_sub hl [] rfl)
  exact (blk k0).1 z 0 0 L0 σ0 r0 h0 (zk_rf _ _) ((Nat.zero_add _).trans hmc) ((Nat.zero_add _).trans hms) s.heap [] ls hP hD hS hl

/-! write -/
def x_write : Nat → Nat → (Nat → Int32) → MS → Option (Int32 × MS)
  | 0, _, _, _ => none
  | k + 1, 0, L, σ => if ((σ.1 56)) ≤ 0 then (x_write k 1 L σ) else (some (0, σ))
  | k + 1, 1, L, σ => ob (x_readParts k 0 (upd (upd (upd (fun _ => 0) 1 ((L 1))) 2 ((L 2))) 3 0) σ) (fun r1 => ob (x_keysIn k 0 (upd (fun _ => 0) 1 ((L 1))) r1.2) (fun r2 => if ¬ (((L 3)) < 0 ∨ 185000 ≤ ((L 3)).toNatClampNeg) then (ob (x_push k 0 (upd (fun _ => 0) 1 ((r2.2.2.2 29 ((L 3)).toNatClampNeg))) r2.2) (fun r4 => x_write k 2 (upd (upd (upd (upd (upd L 4 ((σ.1 59))) 5 ((((L 2)) + r2.1))) 6 ((r2.2.1 59))) 7 ((r2.2.1 59))) 8 ((L 1))) r4.2)) else none))
  | k + 1, 2, L, σ => if ¬ (((L 8)) < 0 ∨ 70000 ≤ ((L 8)).toNatClampNeg) then (if ((σ.2.2 4 ((L 8)).toNatClampNeg)) = 7 then (x_write k 7 L σ) else (if ((σ.1 56)) = 0 then (if ¬ (((L 8)) < 0 ∨ 70000 ≤ ((L 8)).toNatClampNeg) then (ob (x_keysOf k 0 (upd (fun _ => 0) 0 ((σ.2.2 4 ((L 8)).toNatClampNeg))) σ) (fun r5 => ob (x_sweep k 0 (upd (fun _ => 0) 1 780000) r5.2) (fun r6 => if ¬ (((L 7)) < 0 ∨ 185000 ≤ ((L 7)).toNatClampNeg) then (if ¬ (((L 8)) < 0 ∨ 70000 ≤ ((L 8)).toNatClampNeg) then (if ((r6.2.2.2 4 ((L 8)).toNatClampNeg)) = 21 then (if ¬ (((((L 6)) + (-1))) < 0 ∨ 185000 ≤ ((((L 6)) + (-1))).toNatClampNeg) then (if ¬ (((((L 5)) - r5.1)) < 0 ∨ 185000 ≤ ((((L 5)) - r5.1)).toNatClampNeg) then (ob (x_putAt k 0 (upd (upd (upd (fun _ => 0) 1 ((r6.2.2.2 29 ((((L 6)) + (-1))).toNatClampNeg))) 2 ((r6.2.2.2 29 ((((L 5)) - r5.1)).toNatClampNeg))) 3 ((r6.2.2.2 29 ((L 7)).toNatClampNeg))) r6.2) (fun r12 => x_write k 5 (upd (upd (upd (upd (upd L 6 (((L 6)) + (-1))) 5 ((((L 5)) - r5.1))) 9 ((r6.2.2.2 29 ((L 7)).toNatClampNeg))) 100 r12.1) 102 ((L 7))) r12.2)) else none) else none) else (x_write k 3 (upd (upd (upd (upd L 6 (((L 6)) + (-1))) 5 ((((L 5)) - r5.1))) 9 ((r6.2.2.2 29 ((L 7)).toNatClampNeg))) 101 ((L 7))) r6.2)) else none) else none))) else none) else (x_write k 7 L σ))) else none
  | k + 1, 3, L, σ => if ¬ (((L 8)) < 0 ∨ 70000 ≤ ((L 8)).toNatClampNeg) then (if ((σ.2.2 4 ((L 8)).toNatClampNeg)) = 23 then (if ¬ (((L 6)) < 0 ∨ 185000 ≤ ((L 6)).toNatClampNeg) then (if ¬ (((L 5)) < 0 ∨ 185000 ≤ ((L 5)).toNatClampNeg) then (ob (x_putImage k 0 (upd (upd (upd (fun _ => 0) 1 ((σ.2.2 29 ((L 6)).toNatClampNeg))) 2 ((σ.2.2 29 ((L 5)).toNatClampNeg))) 3 ((L 9))) σ) (fun r5 => x_write k 5 (upd (upd L 100 r5.1) 102 ((L 101))) r5.2)) else none) else none) else (x_write k 4 (upd L 101 ((L 101))) σ)) else none
  | k + 1, 4, L, σ => if ¬ (((L 6)) < 0 ∨ 185000 ≤ ((L 6)).toNatClampNeg) then (if ¬ (((L 5)) < 0 ∨ 185000 ≤ ((L 5)).toNatClampNeg) then (if ¬ (((((L 5)) + 1)) < 0 ∨ 185000 ≤ ((((L 5)) + 1)).toNatClampNeg) then (ob (x_putSlice k 0 (upd (upd (upd (upd (fun _ => 0) 1 ((σ.2.2 29 ((L 6)).toNatClampNeg))) 2 ((σ.2.2 29 ((L 5)).toNatClampNeg))) 3 ((σ.2.2 29 ((((L 5)) + 1)).toNatClampNeg))) 4 ((L 9))) σ) (fun r4 => x_write k 5 (upd (upd L 100 r4.1) 102 ((L 101))) r4.2)) else none) else none) else none
  | k + 1, 5, L, σ => ob (x_answer k 0 (upd (fun _ => 0) 1 ((L 100))) σ) (fun r1 => if ¬ (((L 102)) < 0 ∨ 185000 ≤ ((L 102)).toNatClampNeg) then (x_write k 6 L (r1.2.1, r1.2.2.1, updG r1.2.2.2 29 (upd (r1.2.2.2 29) ((L 102)).toNatClampNeg r1.1))) else none)
  | k + 1, 6, L, σ => if ¬ (((L 8)) < 0 ∨ 70000 ≤ ((L 8)).toNatClampNeg) then (x_write k 2 (upd L 8 ((σ.2.2 6 ((L 8)).toNatClampNeg))) σ) else none
  | k + 1, 7, L, σ => x_write k 8 L (upd σ.1 59 ((L 4)), σ.2.1, σ.2.2)
  | k + 1, 8, L, σ => if ((σ.1 56)) = 0 then (if ¬ (((L 7)) < 0 ∨ 185000 ≤ ((L 7)).toNatClampNeg) then (ob (x_assign k 0 (upd (upd (fun _ => 0) 1 ((L 8))) 2 ((σ.2.2 29 ((L 7)).toNatClampNeg))) σ) (fun r3 => x_write k 9 L r3.2)) else none) else (x_write k 9 L σ)
  | k + 1, 9, L, σ => some (0, σ)
  | _ + 1, _ + 10, _, _ => none
def o_x_write : List Cond := [.fieldLink RX12 362 "SetHouseModel" "err" "I", .fieldLink RX12 385 "SetHouseModel" "top" "I", .methodLink RX12 824 yX12_readParts, .instanceMethod yX12_readParts, .selects RX12 yX12_readParts yX12_readParts, .initialized RX12, .methodLink RX12 828 yX12_keysIn, .instanceMethod yX12_keysIn, .selects RX12 yX12_keysIn yX12_keysIn, .fieldLink RX12 382 "SetHouseModel" "pile" "[I", .methodLink RX12 594 yX12_push, .instanceMethod yX12_push, .selects RX12 yX12_push yX12_push, .fieldLink RX12 83 "SetHouseModel" "op" "[I", .methodLink RX12 821 yX12_keysOf, .static yX12_keysOf, .constant RX12 584 (780000), .methodLink RX12 585 yX12_sweep, .instanceMethod yX12_sweep, .selects RX12 yX12_sweep yX12_sweep, .methodLink RX12 831 yX12_putAt, .instanceMethod yX12_putAt, .selects RX12 yX12_putAt yX12_putAt, .methodLink RX12 834 yX12_putImage, .instanceMethod yX12_putImage, .selects RX12 yX12_putImage yX12_putImage, .methodLink RX12 837 yX12_putSlice, .instanceMethod yX12_putSlice, .selects RX12 yX12_putSlice yX12_putSlice, .methodLink RX12 591 yX12_answer, .instanceMethod yX12_answer, .selects RX12 yX12_answer yX12_answer, .fieldLink RX12 89 "SetHouseModel" "x2" "[I", .methodLink RX12 840 yX12_assign, .instanceMethod yX12_assign, .selects RX12 yX12_assign yX12_assign]
theorem o_x_write_good : o_x_write.all goodWord = true := by decide +kernel
def p_x_write : List Cond := o_x_write ++ ((.code yX12_readParts cX12_readParts 7 none :: p_x_readParts) ++ ((.code yX12_keysIn cX12_keysIn 4 (some .int) :: p_x_keysIn) ++ ((.code yX12_push cX12_push 2 none :: p_x_push) ++ ((.code yX12_keysOf cX12_keysOf 1 (some .int) :: p_x_keysOf) ++ ((.code yX12_sweep cX12_sweep 5 none :: p_x_sweep) ++ ((.code yX12_putAt cX12_putAt 8 (some .int) :: p_x_putAt) ++ ((.code yX12_putImage cX12_putImage 6 (some .int) :: p_x_putImage) ++ ((.code yX12_putSlice cX12_putSlice 9 (some .int) :: p_x_putSlice) ++ ((.code yX12_answer cX12_answer 2 (some .int) :: p_x_answer) ++ ((.code yX12_assign cX12_assign 4 none :: p_x_assign) ++ []))))))))))
theorem p_x_write_good : p_x_write.all goodWord = true := nb_all2 o_x_write_good (nb_all2 (nb_allc (by decide +kernel) p_x_readParts_good) (nb_all2 (nb_allc (by decide +kernel) p_x_keysIn_good) (nb_all2 (nb_allc (by decide +kernel) p_x_push_good) (nb_all2 (nb_allc (by decide +kernel) p_x_keysOf_good) (nb_all2 (nb_allc (by decide +kernel) p_x_sweep_good) (nb_all2 (nb_allc (by decide +kernel) p_x_putAt_good) (nb_all2 (nb_allc (by decide +kernel) p_x_putImage_good) (nb_all2 (nb_allc (by decide +kernel) p_x_putSlice_good) (nb_all2 (nb_allc (by decide +kernel) p_x_answer_good) (nb_all2 (nb_allc (by decide +kernel) p_x_assign_good) rfl))))))))))
def w_x_write : List Cond := .code yX12_write cX12_write 10 none :: (p_x_write ++ fM)
theorem w_x_write_good : w_x_write.all goodWord = true := nb_allc (by decide +kernel) (nb_all2 p_x_write_good fM_good)
theorem in_x_write : ∀ w ∈ wsX120, w ∈ w_x_write := fun _ h => List.mem_cons_of_mem _ (List.mem_append_right _ h)
theorem hd_x_write : yX12_write.cls = RX12 ∧ yX12_write.cls ≠ "java/lang/invoke/MethodHandle" ∧ yX12_write.cls ≠ "java/lang/invoke/VarHandle" ∧ (parseMethodDescriptor yX12_write.desc).map (fun d => d.parameters.length) = some 3 := by decide +kernel
theorem gg_x_write_answer : GoodIn w_x_write w_x_answer := goodIn_sub (fun w h => (List.mem_cons.mp h).elim (fun e => (List.mem_cons_of_mem _ (List.mem_append_left _ (List.mem_append_right _ (List.mem_append_right _ (List.mem_append_right _ (List.mem_append_right _ (List.mem_append_right _ (List.mem_append_right _ (List.mem_append_right _ (List.mem_append_right _ (List.mem_append_right _ (List.mem_append_left _ (List.mem_cons.mpr (Or.inl e))))))))))))))) (fun h => (List.mem_append.mp h).elim (fun h => (List.mem_cons_of_mem _ (List.mem_append_left _ (List.mem_append_right _ (List.mem_append_right _ (List.mem_append_right _ (List.mem_append_right _ (List.mem_append_right _ (List.mem_append_right _ (List.mem_append_right _ (List.mem_append_right _ (List.mem_append_right _ (List.mem_append_left _ (List.mem_cons_of_mem _ h)))))))))))))) (fun h => List.mem_cons_of_mem _ (List.mem_append_right _ h)))) w_x_answer_good
theorem g_x_write_answer_591 : GoodIn w_x_write (wsV RX12 591 RX12 yX12_answer w_x_answer) := goodIn_app (nb_g4 (List.mem_cons_of_mem _ (List.mem_append_left _ (List.mem_append_left _ (List.mem_of_getElem? (i := 29) rfl)))) (List.mem_cons_of_mem _ (List.mem_append_left _ (List.mem_append_left _ (List.mem_of_getElem? (i := 30) rfl)))) (List.mem_cons_of_mem _ (List.mem_append_left _ (List.mem_append_left _ (List.mem_of_getElem? (i := 31) rfl)))) (List.mem_cons_of_mem _ (List.mem_append_left _ (List.mem_append_left _ (List.mem_of_getElem? (i := 5) rfl)))) (by decide +kernel)) gg_x_write_answer
theorem gg_x_write_assign : GoodIn w_x_write w_x_assign := goodIn_sub (fun w h => (List.mem_cons.mp h).elim (fun e => (List.mem_cons_of_mem _ (List.mem_append_left _ (List.mem_append_right _ (List.mem_append_right _ (List.mem_append_right _ (List.mem_append_right _ (List.mem_append_right _ (List.mem_append_right _ (List.mem_append_right _ (List.mem_append_right _ (List.mem_append_right _ (List.mem_append_right _ (List.mem_append_left _ (List.mem_cons.mpr (Or.inl e)))))))))))))))) (fun h => (List.mem_append.mp h).elim (fun h => (List.mem_cons_of_mem _ (List.mem_append_left _ (List.mem_append_right _ (List.mem_append_right _ (List.mem_append_right _ (List.mem_append_right _ (List.mem_append_right _ (List.mem_append_right _ (List.mem_append_right _ (List.mem_append_right _ (List.mem_append_right _ (List.mem_append_right _ (List.mem_append_left _ (List.mem_cons_of_mem _ h))))))))))))))) (fun h => List.mem_cons_of_mem _ (List.mem_append_right _ h)))) w_x_assign_good
theorem g_x_write_assign_840 : GoodIn w_x_write (wsV RX12 840 RX12 yX12_assign w_x_assign) := goodIn_app (nb_g4 (List.mem_cons_of_mem _ (List.mem_append_left _ (List.mem_append_left _ (List.mem_of_getElem? (i := 33) rfl)))) (List.mem_cons_of_mem _ (List.mem_append_left _ (List.mem_append_left _ (List.mem_of_getElem? (i := 34) rfl)))) (List.mem_cons_of_mem _ (List.mem_append_left _ (List.mem_append_left _ (List.mem_of_getElem? (i := 35) rfl)))) (List.mem_cons_of_mem _ (List.mem_append_left _ (List.mem_append_left _ (List.mem_of_getElem? (i := 5) rfl)))) (by decide +kernel)) gg_x_write_assign
theorem gg_x_write_keysIn : GoodIn w_x_write w_x_keysIn := goodIn_sub (fun w h => (List.mem_cons.mp h).elim (fun e => (List.mem_cons_of_mem _ (List.mem_append_left _ (List.mem_append_right _ (List.mem_append_right _ (List.mem_append_left _ (List.mem_cons.mpr (Or.inl e)))))))) (fun h => (List.mem_append.mp h).elim (fun h => (List.mem_cons_of_mem _ (List.mem_append_left _ (List.mem_append_right _ (List.mem_append_right _ (List.mem_append_left _ (List.mem_cons_of_mem _ h))))))) (fun h => List.mem_cons_of_mem _ (List.mem_append_right _ h)))) w_x_keysIn_good
theorem g_x_write_keysIn_828 : GoodIn w_x_write (wsV RX12 828 RX12 yX12_keysIn w_x_keysIn) := goodIn_app (nb_g4 (List.mem_cons_of_mem _ (List.mem_append_left _ (List.mem_append_left _ (List.mem_of_getElem? (i := 6) rfl)))) (List.mem_cons_of_mem _ (List.mem_append_left _ (List.mem_append_left _ (List.mem_of_getElem? (i := 7) rfl)))) (List.mem_cons_of_mem _ (List.mem_append_left _ (List.mem_append_left _ (List.mem_of_getElem? (i := 8) rfl)))) (List.mem_cons_of_mem _ (List.mem_append_left _ (List.mem_append_left _ (List.mem_of_getElem? (i := 5) rfl)))) (by decide +kernel)) gg_x_write_keysIn
theorem gg_x_write_keysOf : GoodIn w_x_write w_x_keysOf := goodIn_sub (fun w h => (List.mem_cons.mp h).elim (fun e => (List.mem_cons_of_mem _ (List.mem_append_left _ (List.mem_append_right _ (List.mem_append_right _ (List.mem_append_right _ (List.mem_append_right _ (List.mem_append_left _ (List.mem_cons.mpr (Or.inl e)))))))))) (fun h => (List.mem_append.mp h).elim (fun h => (List.mem_cons_of_mem _ (List.mem_append_left _ (List.mem_append_right _ (List.mem_append_right _ (List.mem_append_right _ (List.mem_append_right _ (List.mem_append_left _ (List.mem_cons_of_mem _ h))))))))) (fun h => List.mem_cons_of_mem _ (List.mem_append_right _ h)))) w_x_keysOf_good
theorem g_x_write_keysOf_821 : GoodIn w_x_write (va_wsS RX12 821 yX12_keysOf w_x_keysOf) := goodIn_app (nb_g3 (List.mem_cons_of_mem _ (List.mem_append_left _ (List.mem_append_left _ (List.mem_of_getElem? (i := 14) rfl)))) (List.mem_cons_of_mem _ (List.mem_append_left _ (List.mem_append_left _ (List.mem_of_getElem? (i := 15) rfl)))) (List.mem_cons_of_mem _ (List.mem_append_left _ (List.mem_append_left _ (List.mem_of_getElem? (i := 5) rfl)))) (by decide +kernel)) gg_x_write_keysOf
theorem gg_x_write_push : GoodIn w_x_write w_x_push := goodIn_sub (fun w h => (List.mem_cons.mp h).elim (fun e => (List.mem_cons_of_mem _ (List.mem_append_left _ (List.mem_append_right _ (List.mem_append_right _ (List.mem_append_right _ (List.mem_append_left _ (List.mem_cons.mpr (Or.inl e))))))))) (fun h => (List.mem_append.mp h).elim (fun h => (List.mem_cons_of_mem _ (List.mem_append_left _ (List.mem_append_right _ (List.mem_append_right _ (List.mem_append_right _ (List.mem_append_left _ (List.mem_cons_of_mem _ h)))))))) (fun h => List.mem_cons_of_mem _ (List.mem_append_right _ h)))) w_x_push_good
theorem g_x_write_push_594 : GoodIn w_x_write (wsV RX12 594 RX12 yX12_push w_x_push) := goodIn_app (nb_g4 (List.mem_cons_of_mem _ (List.mem_append_left _ (List.mem_append_left _ (List.mem_of_getElem? (i := 10) rfl)))) (List.mem_cons_of_mem _ (List.mem_append_left _ (List.mem_append_left _ (List.mem_of_getElem? (i := 11) rfl)))) (List.mem_cons_of_mem _ (List.mem_append_left _ (List.mem_append_left _ (List.mem_of_getElem? (i := 12) rfl)))) (List.mem_cons_of_mem _ (List.mem_append_left _ (List.mem_append_left _ (List.mem_of_getElem? (i := 5) rfl)))) (by decide +kernel)) gg_x_write_push
theorem gg_x_write_putAt : GoodIn w_x_write w_x_putAt := goodIn_sub (fun w h => (List.mem_cons.mp h).elim (fun e => (List.mem_cons_of_mem _ (List.mem_append_left _ (List.mem_append_right _ (List.mem_append_right _ (List.mem_append_right _ (List.mem_append_right _ (List.mem_append_right _ (List.mem_append_right _ (List.mem_append_left _ (List.mem_cons.mpr (Or.inl e)))))))))))) (fun h => (List.mem_append.mp h).elim (fun h => (List.mem_cons_of_mem _ (List.mem_append_left _ (List.mem_append_right _ (List.mem_append_right _ (List.mem_append_right _ (List.mem_append_right _ (List.mem_append_right _ (List.mem_append_right _ (List.mem_append_left _ (List.mem_cons_of_mem _ h))))))))))) (fun h => List.mem_cons_of_mem _ (List.mem_append_right _ h)))) w_x_putAt_good
theorem g_x_write_putAt_831 : GoodIn w_x_write (wsV RX12 831 RX12 yX12_putAt w_x_putAt) := goodIn_app (nb_g4 (List.mem_cons_of_mem _ (List.mem_append_left _ (List.mem_append_left _ (List.mem_of_getElem? (i := 20) rfl)))) (List.mem_cons_of_mem _ (List.mem_append_left _ (List.mem_append_left _ (List.mem_of_getElem? (i := 21) rfl)))) (List.mem_cons_of_mem _ (List.mem_append_left _ (List.mem_append_left _ (List.mem_of_getElem? (i := 22) rfl)))) (List.mem_cons_of_mem _ (List.mem_append_left _ (List.mem_append_left _ (List.mem_of_getElem? (i := 5) rfl)))) (by decide +kernel)) gg_x_write_putAt
theorem gg_x_write_putImage : GoodIn w_x_write w_x_putImage := goodIn_sub (fun w h => (List.mem_cons.mp h).elim (fun e => (List.mem_cons_of_mem _ (List.mem_append_left _ (List.mem_append_right _ (List.mem_append_right _ (List.mem_append_right _ (List.mem_append_right _ (List.mem_append_right _ (List.mem_append_right _ (List.mem_append_right _ (List.mem_append_left _ (List.mem_cons.mpr (Or.inl e))))))))))))) (fun h => (List.mem_append.mp h).elim (fun h => (List.mem_cons_of_mem _ (List.mem_append_left _ (List.mem_append_right _ (List.mem_append_right _ (List.mem_append_right _ (List.mem_append_right _ (List.mem_append_right _ (List.mem_append_right _ (List.mem_append_right _ (List.mem_append_left _ (List.mem_cons_of_mem _ h)))))))))))) (fun h => List.mem_cons_of_mem _ (List.mem_append_right _ h)))) w_x_putImage_good
theorem g_x_write_putImage_834 : GoodIn w_x_write (wsV RX12 834 RX12 yX12_putImage w_x_putImage) := goodIn_app (nb_g4 (List.mem_cons_of_mem _ (List.mem_append_left _ (List.mem_append_left _ (List.mem_of_getElem? (i := 23) rfl)))) (List.mem_cons_of_mem _ (List.mem_append_left _ (List.mem_append_left _ (List.mem_of_getElem? (i := 24) rfl)))) (List.mem_cons_of_mem _ (List.mem_append_left _ (List.mem_append_left _ (List.mem_of_getElem? (i := 25) rfl)))) (List.mem_cons_of_mem _ (List.mem_append_left _ (List.mem_append_left _ (List.mem_of_getElem? (i := 5) rfl)))) (by decide +kernel)) gg_x_write_putImage
theorem gg_x_write_putSlice : GoodIn w_x_write w_x_putSlice := goodIn_sub (fun w h => (List.mem_cons.mp h).elim (fun e => (List.mem_cons_of_mem _ (List.mem_append_left _ (List.mem_append_right _ (List.mem_append_right _ (List.mem_append_right _ (List.mem_append_right _ (List.mem_append_right _ (List.mem_append_right _ (List.mem_append_right _ (List.mem_append_right _ (List.mem_append_left _ (List.mem_cons.mpr (Or.inl e)))))))))))))) (fun h => (List.mem_append.mp h).elim (fun h => (List.mem_cons_of_mem _ (List.mem_append_left _ (List.mem_append_right _ (List.mem_append_right _ (List.mem_append_right _ (List.mem_append_right _ (List.mem_append_right _ (List.mem_append_right _ (List.mem_append_right _ (List.mem_append_right _ (List.mem_append_left _ (List.mem_cons_of_mem _ h))))))))))))) (fun h => List.mem_cons_of_mem _ (List.mem_append_right _ h)))) w_x_putSlice_good
theorem g_x_write_putSlice_837 : GoodIn w_x_write (wsV RX12 837 RX12 yX12_putSlice w_x_putSlice) := goodIn_app (nb_g4 (List.mem_cons_of_mem _ (List.mem_append_left _ (List.mem_append_left _ (List.mem_of_getElem? (i := 26) rfl)))) (List.mem_cons_of_mem _ (List.mem_append_left _ (List.mem_append_left _ (List.mem_of_getElem? (i := 27) rfl)))) (List.mem_cons_of_mem _ (List.mem_append_left _ (List.mem_append_left _ (List.mem_of_getElem? (i := 28) rfl)))) (List.mem_cons_of_mem _ (List.mem_append_left _ (List.mem_append_left _ (List.mem_of_getElem? (i := 5) rfl)))) (by decide +kernel)) gg_x_write_putSlice
theorem gg_x_write_readParts : GoodIn w_x_write w_x_readParts := goodIn_sub (fun w h => (List.mem_cons.mp h).elim (fun e => (List.mem_cons_of_mem _ (List.mem_append_left _ (List.mem_append_right _ (List.mem_append_left _ (List.mem_cons.mpr (Or.inl e))))))) (fun h => (List.mem_append.mp h).elim (fun h => (List.mem_cons_of_mem _ (List.mem_append_left _ (List.mem_append_right _ (List.mem_append_left _ (List.mem_cons_of_mem _ h)))))) (fun h => List.mem_cons_of_mem _ (List.mem_append_right _ h)))) w_x_readParts_good
theorem g_x_write_readParts_824 : GoodIn w_x_write (wsV RX12 824 RX12 yX12_readParts w_x_readParts) := goodIn_app (nb_g4 (List.mem_cons_of_mem _ (List.mem_append_left _ (List.mem_append_left _ (List.mem_of_getElem? (i := 2) rfl)))) (List.mem_cons_of_mem _ (List.mem_append_left _ (List.mem_append_left _ (List.mem_of_getElem? (i := 3) rfl)))) (List.mem_cons_of_mem _ (List.mem_append_left _ (List.mem_append_left _ (List.mem_of_getElem? (i := 4) rfl)))) (List.mem_cons_of_mem _ (List.mem_append_left _ (List.mem_append_left _ (List.mem_of_getElem? (i := 5) rfl)))) (by decide +kernel)) gg_x_write_readParts
theorem gg_x_write_sweep : GoodIn w_x_write w_x_sweep := goodIn_sub (fun w h => (List.mem_cons.mp h).elim (fun e => (List.mem_cons_of_mem _ (List.mem_append_left _ (List.mem_append_right _ (List.mem_append_right _ (List.mem_append_right _ (List.mem_append_right _ (List.mem_append_right _ (List.mem_append_left _ (List.mem_cons.mpr (Or.inl e))))))))))) (fun h => (List.mem_append.mp h).elim (fun h => (List.mem_cons_of_mem _ (List.mem_append_left _ (List.mem_append_right _ (List.mem_append_right _ (List.mem_append_right _ (List.mem_append_right _ (List.mem_append_right _ (List.mem_append_left _ (List.mem_cons_of_mem _ h)))))))))) (fun h => List.mem_cons_of_mem _ (List.mem_append_right _ h)))) w_x_sweep_good
theorem g_x_write_sweep_585 : GoodIn w_x_write (wsV RX12 585 RX12 yX12_sweep w_x_sweep) := goodIn_app (nb_g4 (List.mem_cons_of_mem _ (List.mem_append_left _ (List.mem_append_left _ (List.mem_of_getElem? (i := 17) rfl)))) (List.mem_cons_of_mem _ (List.mem_append_left _ (List.mem_append_left _ (List.mem_of_getElem? (i := 18) rfl)))) (List.mem_cons_of_mem _ (List.mem_append_left _ (List.mem_append_left _ (List.mem_of_getElem? (i := 19) rfl)))) (List.mem_cons_of_mem _ (List.mem_append_left _ (List.mem_append_left _ (List.mem_of_getElem? (i := 5) rfl)))) (by decide +kernel)) gg_x_write_sweep
set_option maxHeartbeats 40000000 in
set_option maxRecDepth 100000 in
theorem c_x_write (l : Launch) (dC : Nat → ClassId) (dI : Nat → Nat → Nat) (cy : Nat → ClassId) (a : Nat → Nat) (k0 : Nat) (L0 : Nat → Int32) (σ0 : MS) (r0 : Int32 × MS) (h0 : x_write k0 0 L0 σ0 = some r0) (sz : Nat) : Met l yX12_write w_x_write ({ frames := 48, cells := 0, slots := 0, locals := 1322 }) (va_Pc [.ref (a 0), .int (L0 1), .int (L0 2), .int (L0 3)] (nIn (dC, dI) cy sz (vM cy a σ0))) (va_Qv (fun _ : Unit => True) (fun _ t => nOut (dC, dI) cy (va_A (vM cy a σ0) sz) (vM cy a r0.2) t) (va_A (vM cy a σ0) sz)) 0 0 (va_A (vM cy a σ0) sz) := by
  refine Met.ofW (cc := cX12_write) (maxL := 10) (ret := none) (by decide) rfl ?_
  intro p e s m args below meth c s₁ B hml hv
  obtain ⟨rfl, hsz, hP, hK, hD0, hG⟩ := hv
  have hx := B.exec
  have hb := B.bytes
  have hr := B.returns
  have hts := atoms_spec (ws := w_x_write) B.pre
  have hown : s.vm.findClass RX12 = some m.cls := findClass_of_methodNamed B.named
  have hlocks := B.notSynchronized
  subst hsz
  have hD := hD0.self (sz := s.heap.size)
  generalize hAe : va_A (vM cy a σ0) s.heap.size = A at hD ⊢
  have hA : ∀ q : Nat, s.heap.size ≤ q → A q := fun q h => by rw [← hAe]; exact Or.inr h
  have hS : va_S A s.heap s.heap [] := va_S.rf
  have hl := lv_entry ([.ref (a 0), .int (L0 1), .int (L0 2), .int (L0 3)]) (n := 10) (Nat.le_of_ble_eq_true rfl)
  rw [lg_entry_eq]
  generalize (lg_sl ([.ref (a 0), .int (L0 1), .int (L0 2), .int (L0 3)]) ++ List.replicate (10 - (lg_sl ([.ref (a 0), .int (L0 1), .int (L0 2), .int (L0 3)])).length) Slot.unset).toArray = ls at hl ⊢
  have hl : lv_has ls 10 [(0, .ref (a 0)), (1, .int (L0 1)), (2, .int (L0 2)), (3, .int (L0 3))] := hl
  have blk : ∀ k : Nat, (bT p l e (headSpec w_x_write ({ frames := 48, cells := 0, slots := 0, locals := 1322 })).room s m #[.ref (a 0), .int (L0 1), .int (L0 2), .int (L0 3)] below meth c dC dI cy a A (qV dC dI cy a A below #[.ref (a 0), .int (L0 1), .int (L0 2), .int (L0 3)] s) 10 (x_write k 0) (fun L => [(0, .ref (a 0)), (1, .int (L 1)), (2, .int (L 2)), (3, .int (L 3))]) 0 (fun L => [])) ∧ (bT p l e (headSpec w_x_write ({ frames := 48, cells := 0, slots := 0, locals := 1322 })).room s m #[.ref (a 0), .int (L0 1), .int (L0 2), .int (L0 3)] below meth c dC dI cy a A (qV dC dI cy a A below #[.ref (a 0), .int (L0 1), .int (L0 2), .int (L0 3)] s) 10 (x_write k 1) (fun L => [(0, .ref (a 0)), (1, .int (L 1)), (2, .int (L 2)), (3, .int (L 3))]) 8 (fun L => [])) ∧ (bT p l e (headSpec w_x_write ({ frames := 48, cells := 0, slots := 0, locals := 1322 })).room s m #[.ref (a 0), .int (L0 1), .int (L0 2), .int (L0 3)] below meth c dC dI cy a A (qV dC dI cy a A below #[.ref (a 0), .int (L0 1), .int (L0 2), .int (L0 3)] s) 10 (x_write k 2) (fun L => [(0, .ref (a 0)), (1, .int (L 1)), (2, .int (L 2)), (3, .int (L 3)), (4, .int (L 4)), (5, .int (L 5)), (6, .int (L 6)), (7, .int (L 7)), (8, .int (L 8))]) 55 (fun L => [])) ∧ (bT p l e (headSpec w_x_write ({ frames := 48, cells := 0, slots := 0, locals := 1322 })).room s m #[.ref (a 0), .int (L0 1), .int (L0 2), .int (L0 3)] below meth c dC dI cy a A (qV dC dI cy a A below #[.ref (a 0), .int (L0 1), .int (L0 2), .int (L0 3)] s) 10 (x_write k 3) (fun L => [(0, .ref (a 0)), (1, .int (L 1)), (2, .int (L 2)), (3, .int (L 3)), (4, .int (L 4)), (5, .int (L 5)), (6, .int (L 6)), (7, .int (L 7)), (8, .int (L 8)), (9, .int (L 9))]) 150 (fun L => [.ref (a 0), .int (L 101), .ref (a 29)])) ∧ (bT p l e (headSpec w_x_write ({ frames := 48, cells := 0, slots := 0, locals := 1322 })).room s m #[.ref (a 0), .int (L0 1), .int (L0 2), .int (L0 3)] below meth c dC dI cy a A (qV dC dI cy a A below #[.ref (a 0), .int (L0 1), .int (L0 2), .int (L0 3)] s) 10 (x_write k 4) (fun L => [(0, .ref (a 0)), (1, .int (L 1)), (2, .int (L 2)), (3, .int (L 3)), (4, .int (L 4)), (5, .int (L 5)), (6, .int (L 6)), (7, .int (L 7)), (8, .int (L 8)), (9, .int (L 9))]) 185 (fun L => [.ref (a 0), .int (L 101), .ref (a 29)])) ∧ (bT p l e (headSpec w_x_write ({ frames := 48, cells := 0, slots := 0, locals := 1322 })).room s m #[.ref (a 0), .int (L0 1), .int (L0 2), .int (L0 3)] below meth c dC dI cy a A (qV dC dI cy a A below #[.ref (a 0), .int (L0 1), .int (L0 2), .int (L0 3)] s) 10 (x_write k 5) (fun L => [(0, .ref (a 0)), (1, .int (L 1)), (2, .int (L 2)), (3, .int (L 3)), (4, .int (L 4)), (5, .int (L 5)), (6, .int (L 6)), (7, .int (L 7)), (8, .int (L 8)), (9, .int (L 9))]) 214 (fun L => [.int (L 100), .ref (a 0), .int (L 102), .ref (a 29)])) ∧ (bT p l e (headSpec w_x_write ({ frames := 48, cells := 0, slots := 0, locals := 1322 })).room s m #[.ref (a 0), .int (L0 1), .int (L0 2), .int (L0 3)] below meth c dC dI cy a A (qV dC dI cy a A below #[.ref (a 0), .int (L0 1), .int (L0 2), .int (L0 3)] s) 10 (x_write k 6) (fun L => [(0, .ref (a 0)), (1, .int (L 1)), (2, .int (L 2)), (3, .int (L 3)), (4, .int (L 4)), (5, .int (L 5)), (6, .int (L 6)), (7, .int (L 7)), (8, .int (L 8)), (9, .int (L 9))]) 218 (fun L => [])) ∧ (bT p l e (headSpec w_x_write ({ frames := 48, cells := 0, slots := 0, locals := 1322 })).room s m #[.ref (a 0), .int (L0 1), .int (L0 2), .int (L0 3)] below meth c dC dI cy a A (qV dC dI cy a A below #[.ref (a 0), .int (L0 1), .int (L0 2), .int (L0 3)] s) 10 (x_write k 7) (fun L => [(0, .ref (a 0)), (1, .int (L 1)), (2, .int (L 2)), (3, .int (L 3)), (4, .int (L 4)), (5, .int (L 5)), (6, .int (L 6)), (7, .int (L 7)), (8, .int (L 8))]) 230 (fun L => [])) ∧ (bT p l e (headSpec w_x_write ({ frames := 48, cells := 0, slots := 0, locals := 1322 })).room s m #[.ref (a 0), .int (L0 1), .int (L0 2), .int (L0 3)] below meth c dC dI cy a A (qV dC dI cy a A below #[.ref (a 0), .int (L0 1), .int (L0 2), .int (L0 3)] s) 10 (x_write k 8) (fun L => [(0, .ref (a 0)), (1, .int (L 1)), (2, .int (L 2)), (3, .int (L 3)), (4, .int (L 4)), (5, .int (L 5)), (6, .int (L 6)), (7, .int (L 7)), (8, .int (L 8))]) 236 (fun L => [])) ∧ (bT p l e (headSpec w_x_write ({ frames := 48, cells := 0, slots := 0, locals := 1322 })).room s m #[.ref (a 0), .int (L0 1), .int (L0 2), .int (L0 3)] below meth c dC dI cy a A (qV dC dI cy a A below #[.ref (a 0), .int (L0 1), .int (L0 2), .int (L0 3)] s) 10 (x_write k 9) (fun L => [(0, .ref (a 0)), (1, .int (L 1)), (2, .int (L 2)), (3, .int (L 3)), (4, .int (L 4)), (5, .int (L 5)), (6, .int (L 6)), (7, .int (L 7)), (8, .int (L 8))]) 256 (fun L => [])) := by
    intro k
    induction k with
    | zero => exact ⟨fun L σ r h => (by cases h), fun L σ r h => (by cases h), fun L σ r h => (by cases h), fun L σ r h => (by cases h), fun L σ r h => (by cases h), fun L σ r h => (by cases h), fun L σ r h => (by cases h), fun L σ r h => (by cases h), fun L σ r h => (by cases h), fun L σ r h => (by cases h)⟩
    | succ k ih =>
      refine ⟨?_, ?_, ?_, ?_, ?_, ?_, ?_, ?_, ?_, ?_⟩
      · intro L σ r h H locs ls hP hD hS hl
        rw [x_write] at h
        refine lv_aload_n hx hb dX12_write_0 rfl (lv_at hl 0 rfl) ?_
        refine ng_56 hx hb hts in_x_write hown hK hP (hts _ (List.mem_cons_of_mem _ (List.mem_append_left _ (List.mem_append_left _ (List.mem_of_getElem? (i := 0) rfl))))) dX12_write_1 ?_
        refine lv_if_le (tgt := 8) hx hb dX12_write_4 (by decide) (fun c1 => ?_) (fun c1 => ?_)
        · rw [if_pos c1] at h
          exact ih.2.1 L σ r h H locs ls hP hD hS (lv_sub hl [0, 1, 2, 3] rfl)
        · rw [if_neg c1] at h
          cases h
          exact W.vret hx hb hr (fun t ht hW => ⟨⟨(), rfl, trivial, by rw [ht]; exact hP, va_K.moved hW.alike hK, hD⟩, hS.F ht⟩) hS.2.2 dX12_write_7
      · intro L σ r h H locs ls hP hD hS hl
        rw [x_write] at h
        refine lv_aload_n hx hb dX12_write_8 rfl (lv_at hl 0 rfl) ?_
        refine ng_59 hx hb hts in_x_write hown hK hP (hts _ (List.mem_cons_of_mem _ (List.mem_append_left _ (List.mem_append_left _ (List.mem_of_getElem? (i := 1) rfl))))) dX12_write_9 ?_
        refine lv_istore (lv' := [(4, .int (σ.1 59)), (0, .ref (a 0)), (1, .int (L 1)), (2, .int (L 2)), (3, .int (L 3))]) hx hb dX12_write_12 hl (by decide) rfl (fun ls hl => ?_)
        refine lv_aload_n hx hb dX12_write_14 rfl (lv_at hl 1 rfl) ?_
        refine lv_iload_n hx hb dX12_write_15 rfl (lv_at hl 2 rfl) ?_
        refine lv_iload_n hx hb dX12_write_16 rfl (lv_at hl 3 rfl) ?_
        refine lv_iconst (v := 0) hx hb dX12_write_17 (by decide) ?_
        obtain ⟨r1, hc1, h⟩ := ob_ex h
        refine nc_Vv (As := [.int (L 1), .int (L 2), .int 0]) (rest := []) ⟨hx, hb, hml, hown, hts⟩ (c_x_readParts l dC dI cy a k (upd (upd (upd (fun _ => 0) 1 ((L 1))) 2 ((L 2))) 3 0) σ r1 hc1 H.size) (cwV 3 hts g_x_write_readParts_824 rfl rfl rfl hd_x_readParts ⟨Nat.le_of_ble_eq_true rfl, Nat.le_of_ble_eq_true rfl⟩) hK hG hA hP hD hS rfl hl.1 rfl (Nat.le_of_ble_eq_true rfl) dX12_write_18 ⟨Nat.le_refl _, Nat.le_refl _⟩ (fun H locs hP hD hS => ?_)
        refine lv_iload_n hx hb dX12_write_21 rfl (lv_at hl 3 rfl) ?_
        refine lv_aload_n hx hb dX12_write_22 rfl (lv_at hl 1 rfl) ?_
        refine lv_iload_n hx hb dX12_write_23 rfl (lv_at hl 2 rfl) ?_
        obtain ⟨r2, hc2, h⟩ := ob_ex h
        refine nc_Vi (As := [.int (L 1)]) (rest := [.int (L 2)]) ⟨hx, hb, hml, hown, hts⟩ (c_x_keysIn l dC dI cy a k (upd (fun _ => 0) 1 ((L 1))) r1.2 r2 hc2 H.size) (cwV 1 hts g_x_write_keysIn_828 rfl rfl rfl hd_x_keysIn ⟨Nat.le_of_ble_eq_true rfl, Nat.le_of_ble_eq_true rfl⟩) hK hG hA hP hD hS rfl hl.1 rfl (Nat.le_of_ble_eq_true rfl) dX12_write_24 ⟨Nat.le_refl _, Nat.le_refl _⟩ (fun H locs hP hD hS => ?_)
        refine lv_iadd hx hb dX12_write_27 ?_
        refine lv_istore (lv' := [(5, .int (((L 2)) + r2.1)), (4, .int (σ.1 59)), (0, .ref (a 0)), (1, .int (L 1)), (2, .int (L 2)), (3, .int (L 3))]) hx hb dX12_write_28 hl (by decide) rfl (fun ls hl => ?_)
        refine lv_aload_n hx hb dX12_write_30 rfl (lv_at hl 2 rfl) ?_
        refine ng_59 hx hb hts in_x_write hown hK hP (hts _ (List.mem_cons_of_mem _ (List.mem_append_left _ (List.mem_append_left _ (List.mem_of_getElem? (i := 1) rfl))))) dX12_write_31 ?_
        refine lv_istore (lv' := [(6, .int (r2.2.1 59)), (5, .int (((L 2)) + r2.1)), (4, .int (σ.1 59)), (0, .ref (a 0)), (1, .int (L 1)), (2, .int (L 2)), (3, .int (L 3))]) hx hb dX12_write_34 hl (by decide) rfl (fun ls hl => ?_)
        refine lv_aload_n hx hb dX12_write_36 rfl (lv_at hl 3 rfl) ?_
        refine ng_59 hx hb hts in_x_write hown hK hP (hts _ (List.mem_cons_of_mem _ (List.mem_append_left _ (List.mem_append_left _ (List.mem_of_getElem? (i := 1) rfl))))) dX12_write_37 ?_
        refine lv_istore (lv' := [(7, .int (r2.2.1 59)), (6, .int (r2.2.1 59)), (5, .int (((L 2)) + r2.1)), (4, .int (σ.1 59)), (0, .ref (a 0)), (1, .int (L 1)), (2, .int (L 2)), (3, .int (L 3))]) hx hb dX12_write_40 hl (by decide) rfl (fun ls hl => ?_)
        refine lv_aload_n hx hb dX12_write_42 rfl (lv_at hl 4 rfl) ?_
        refine lv_aload_n hx hb dX12_write_43 rfl (lv_at hl 4 rfl) ?_
        refine ng_58 hx hb hts in_x_write hown hK hP (hts _ (List.mem_cons_of_mem _ (List.mem_append_left _ (List.mem_append_left _ (List.mem_of_getElem? (i := 9) rfl))))) dX12_write_44 ?_
        refine lv_iload_n hx hb dX12_write_47 rfl (lv_at hl 7 rfl) ?_
        obtain ⟨q3, h⟩ := nb_ite1 h
        refine nl_29 hx hb hK hP q3 dX12_write_48 ?_
        obtain ⟨r4, hc4, h⟩ := ob_ex h
        refine nc_Vv (As := [.int (r2.2.2.2 29 ((L 3)).toNatClampNeg)]) (rest := []) ⟨hx, hb, hml, hown, hts⟩ (c_x_push l dC dI cy a k (upd (fun _ => 0) 1 ((r2.2.2.2 29 ((L 3)).toNatClampNeg))) r2.2 r4 hc4 H.size) (cwV 1 hts g_x_write_push_594 rfl rfl rfl hd_x_push ⟨Nat.le_of_ble_eq_true rfl, Nat.le_of_ble_eq_true rfl⟩) hK hG hA hP hD hS rfl hl.1 rfl (Nat.le_of_ble_eq_true rfl) dX12_write_49 ⟨Nat.le_refl _, Nat.le_refl _⟩ (fun H locs hP hD hS => ?_)
        refine lv_iload_n hx hb dX12_write_52 rfl (lv_at hl 5 rfl) ?_
        refine lv_istore (lv' := [(8, .int (L 1)), (7, .int (r2.2.1 59)), (6, .int (r2.2.1 59)), (5, .int (((L 2)) + r2.1)), (4, .int (σ.1 59)), (0, .ref (a 0)), (1, .int (L 1)), (2, .int (L 2)), (3, .int (L 3))]) hx hb dX12_write_53 hl (by decide) rfl (fun ls hl => ?_)
        exact ih.2.2.1 (upd (upd (upd (upd (upd L 4 ((σ.1 59))) 5 ((((L 2)) + r2.1))) 6 ((r2.2.1 59))) 7 ((r2.2.1 59))) 8 ((L 1))) r4.2 r h H locs ls hP hD hS (lv_sub hl [5, 6, 7, 8, 4, 3, 2, 1, 0] rfl)
      · intro L σ r h H locs ls hP hD hS hl
        rw [x_write] at h
        refine lv_aload_n hx hb dX12_write_55 rfl (lv_at hl 0 rfl) ?_
        refine ng_14 hx hb hts in_x_write hown hK hP (hts _ (List.mem_cons_of_mem _ (List.mem_append_left _ (List.mem_append_left _ (List.mem_of_getElem? (i := 13) rfl))))) dX12_write_56 ?_
        refine lv_iload hx hb dX12_write_59 (lv_at hl 8 rfl) ?_
        obtain ⟨q1, h⟩ := nb_ite1 h
        refine nl_4 hx hb hK hP q1 dX12_write_61 ?_
        refine lv_bipush (v := 7) hx hb dX12_write_62 (by decide) ?_
        refine lv_icmp_eq (tgt := 230) hx hb dX12_write_64 (by decide) (fun c2 => ?_) (fun c2 => ?_)
        · rw [if_pos c2] at h
          exact ih.2.2.2.2.2.2.2.1 L σ r h H locs ls hP hD hS (lv_sub hl [0, 1, 2, 3, 4, 5, 6, 7, 8] rfl)
        · rw [if_neg c2] at h
          refine lv_aload_n hx hb dX12_write_67 rfl (lv_at hl 0 rfl) ?_
          refine ng_56 hx hb hts in_x_write hown hK hP (hts _ (List.mem_cons_of_mem _ (List.mem_append_left _ (List.mem_append_left _ (List.mem_of_getElem? (i := 0) rfl))))) dX12_write_68 ?_
          refine lv_if_ne (tgt := 230) hx hb dX12_write_71 (by decide) (fun c3 => ?_) (fun c3 => ?_)
          · rw [if_neg c3] at h
            exact ih.2.2.2.2.2.2.2.1 L σ r h H locs ls hP hD hS (lv_sub hl [0, 1, 2, 3, 4, 5, 6, 7, 8] rfl)
          · rw [if_pos c3] at h
            refine lv_iinc (v := ((L 6)) + (-1)) (lv' := [(6, .int (((L 6)) + (-1))), (0, .ref (a 0)), (1, .int (L 1)), (2, .int (L 2)), (3, .int (L 3)), (4, .int (L 4)), (5, .int (L 5)), (7, .int (L 7)), (8, .int (L 8))]) hx hb dX12_write_74 hl (k := 6) rfl rfl (by decide) rfl (fun ls hl => ?_)
            refine lv_iload hx hb dX12_write_77 (lv_at hl 6 rfl) ?_
            refine lv_aload_n hx hb dX12_write_79 rfl (lv_at hl 1 rfl) ?_
            refine ng_14 hx hb hts in_x_write hown hK hP (hts _ (List.mem_cons_of_mem _ (List.mem_append_left _ (List.mem_append_left _ (List.mem_of_getElem? (i := 13) rfl))))) dX12_write_80 ?_
            refine lv_iload hx hb dX12_write_83 (lv_at hl 8 rfl) ?_
            obtain ⟨q4, h⟩ := nb_ite1 h
            refine nl_4 hx hb hK hP q4 dX12_write_85 ?_
            obtain ⟨r5, hc5, h⟩ := ob_ex h
            refine nc_Si (As := [.int (σ.2.2 4 ((L 8)).toNatClampNeg)]) (rest := [.int (L 5)]) ⟨hx, hb, hml, hown, hts⟩ (c_x_keysOf l dC dI cy a k (upd (fun _ => 0) 0 ((σ.2.2 4 ((L 8)).toNatClampNeg))) σ r5 hc5 H.size) (va_cwS 1 hts g_x_write_keysOf_821 rfl rfl rfl hd_x_keysOf ⟨Nat.le_of_ble_eq_true rfl, Nat.le_of_ble_eq_true rfl⟩) hK hG hA hP hD hS rfl hl.1 rfl (Nat.le_of_ble_eq_true rfl) dX12_write_86 ⟨Nat.le_refl _, Nat.le_refl _⟩ (fun H locs hP hD hS => ?_)
            refine lv_isub hx hb dX12_write_89 ?_
            refine lv_istore (lv' := [(5, .int (((L 5)) - r5.1)), (6, .int (((L 6)) + (-1))), (0, .ref (a 0)), (1, .int (L 1)), (2, .int (L 2)), (3, .int (L 3)), (4, .int (L 4)), (7, .int (L 7)), (8, .int (L 8))]) hx hb dX12_write_90 hl (by decide) rfl (fun ls hl => ?_)
            refine lv_aload_n hx hb dX12_write_92 rfl (lv_at hl 2 rfl) ?_
            refine lv_ldcw (v := 780000) hx hb hown (hts _ (List.mem_cons_of_mem _ (List.mem_append_left _ (List.mem_append_left _ (List.mem_of_getElem? (i := 16) rfl))))) dX12_write_93 ?_
            obtain ⟨r6, hc6, h⟩ := ob_ex h
            refine nc_Vv (As := [.int 780000]) (rest := []) ⟨hx, hb, hml, hown, hts⟩ (c_x_sweep l dC dI cy a k (upd (fun _ => 0) 1 780000) r5.2 r6 hc6 H.size) (cwV 1 hts g_x_write_sweep_585 rfl rfl rfl hd_x_sweep ⟨Nat.le_of_ble_eq_true rfl, Nat.le_of_ble_eq_true rfl⟩) hK hG hA hP hD hS rfl hl.1 rfl (Nat.le_of_ble_eq_true rfl) dX12_write_96 ⟨Nat.le_refl _, Nat.le_refl _⟩ (fun H locs hP hD hS => ?_)
            refine lv_aload_n hx hb dX12_write_99 rfl (lv_at hl 2 rfl) ?_
            refine ng_58 hx hb hts in_x_write hown hK hP (hts _ (List.mem_cons_of_mem _ (List.mem_append_left _ (List.mem_append_left _ (List.mem_of_getElem? (i := 9) rfl))))) dX12_write_100 ?_
            refine lv_iload hx hb dX12_write_103 (lv_at hl 7 rfl) ?_
            obtain ⟨q7, h⟩ := nb_ite1 h
            refine nl_29 hx hb hK hP q7 dX12_write_105 ?_
            refine lv_istore (lv' := [(9, .int (r6.2.2.2 29 ((L 7)).toNatClampNeg)), (5, .int (((L 5)) - r5.1)), (6, .int (((L 6)) + (-1))), (0, .ref (a 0)), (1, .int (L 1)), (2, .int (L 2)), (3, .int (L 3)), (4, .int (L 4)), (7, .int (L 7)), (8, .int (L 8))]) hx hb dX12_write_106 hl (by decide) rfl (fun ls hl => ?_)
            refine lv_aload_n hx hb dX12_write_108 rfl (lv_at hl 3 rfl) ?_
            refine ng_58 hx hb hts in_x_write hown hK hP (hts _ (List.mem_cons_of_mem _ (List.mem_append_left _ (List.mem_append_left _ (List.mem_of_getElem? (i := 9) rfl))))) dX12_write_109 ?_
            refine lv_iload hx hb dX12_write_112 (lv_at hl 8 rfl) ?_
            refine lv_aload_n hx hb dX12_write_114 rfl (lv_at hl 3 rfl) ?_
            refine lv_aload_n hx hb dX12_write_115 rfl (lv_at hl 3 rfl) ?_
            refine ng_14 hx hb hts in_x_write hown hK hP (hts _ (List.mem_cons_of_mem _ (List.mem_append_left _ (List.mem_append_left _ (List.mem_of_getElem? (i := 13) rfl))))) dX12_write_116 ?_
            refine lv_iload hx hb dX12_write_119 (lv_at hl 9 rfl) ?_
            obtain ⟨q8, h⟩ := nb_ite1 h
            refine nl_4 hx hb hK hP q8 dX12_write_121 ?_
            refine lv_bipush (v := 21) hx hb dX12_write_122 (by decide) ?_
            refine lv_icmp_ne (tgt := 150) hx hb dX12_write_124 (by decide) (fun c9 => ?_) (fun c9 => ?_)
            · rw [if_neg c9] at h
              exact ih.2.2.2.1 (upd (upd (upd (upd L 6 (((L 6)) + (-1))) 5 ((((L 5)) - r5.1))) 9 ((r6.2.2.2 29 ((L 7)).toNatClampNeg))) 101 ((L 7))) r6.2 r h H locs ls hP hD hS (lv_sub hl [3, 4, 5, 6, 7, 1, 2, 8, 9, 0] rfl)
            · rw [if_pos c9] at h
              refine lv_aload_n hx hb dX12_write_127 rfl (lv_at hl 3 rfl) ?_
              refine lv_aload_n hx hb dX12_write_128 rfl (lv_at hl 3 rfl) ?_
              refine ng_58 hx hb hts in_x_write hown hK hP (hts _ (List.mem_cons_of_mem _ (List.mem_append_left _ (List.mem_append_left _ (List.mem_of_getElem? (i := 9) rfl))))) dX12_write_129 ?_
              refine lv_iload hx hb dX12_write_132 (lv_at hl 2 rfl) ?_
              obtain ⟨q10, h⟩ := nb_ite1 h
              refine nl_29 hx hb hK hP q10 dX12_write_134 ?_
              refine lv_aload_n hx hb dX12_write_135 rfl (lv_at hl 3 rfl) ?_
              refine ng_58 hx hb hts in_x_write hown hK hP (hts _ (List.mem_cons_of_mem _ (List.mem_append_left _ (List.mem_append_left _ (List.mem_of_getElem? (i := 9) rfl))))) dX12_write_136 ?_
              refine lv_iload hx hb dX12_write_139 (lv_at hl 1 rfl) ?_
              obtain ⟨q11, h⟩ := nb_ite1 h
              refine nl_29 hx hb hK hP q11 dX12_write_141 ?_
              refine lv_iload hx hb dX12_write_142 (lv_at hl 0 rfl) ?_
              obtain ⟨r12, hc12, h⟩ := ob_ex h
              refine nc_Vi (As := [.int (r6.2.2.2 29 ((((L 6)) + (-1))).toNatClampNeg), .int (r6.2.2.2 29 ((((L 5)) - r5.1)).toNatClampNeg), .int (r6.2.2.2 29 ((L 7)).toNatClampNeg)]) (rest := [.ref (a 0), .int (L 7), .ref (a 29)]) ⟨hx, hb, hml, hown, hts⟩ (c_x_putAt l dC dI cy a k (upd (upd (upd (fun _ => 0) 1 ((r6.2.2.2 29 ((((L 6)) + (-1))).toNatClampNeg))) 2 ((r6.2.2.2 29 ((((L 5)) - r5.1)).toNatClampNeg))) 3 ((r6.2.2.2 29 ((L 7)).toNatClampNeg))) r6.2 r12 hc12 H.size) (cwV 3 hts g_x_write_putAt_831 rfl rfl rfl hd_x_putAt ⟨Nat.le_of_ble_eq_true rfl, Nat.le_of_ble_eq_true rfl⟩) hK hG hA hP hD hS rfl hl.1 rfl (Nat.le_of_ble_eq_true rfl) dX12_write_144 ⟨Nat.le_refl _, Nat.le_refl _⟩ (fun H locs hP hD hS => ?_)
              refine lv_goto (tgt := 214) hx hb dX12_write_147 (by decide) ?_
              exact ih.2.2.2.2.2.1 (upd (upd (upd (upd (upd L 6 (((L 6)) + (-1))) 5 ((((L 5)) - r5.1))) 9 ((r6.2.2.2 29 ((L 7)).toNatClampNeg))) 100 r12.1) 102 ((L 7))) r12.2 r h H locs ls hP hD hS (lv_sub hl [3, 4, 5, 6, 7, 1, 2, 8, 9, 0] rfl)
      · intro L σ r h H locs ls hP hD hS hl
        rw [x_write] at h
        refine lv_aload_n hx hb dX12_write_150 rfl (lv_at hl 0 rfl) ?_
        refine ng_14 hx hb hts in_x_write hown hK hP (hts _ (List.mem_cons_of_mem _ (List.mem_append_left _ (List.mem_append_left _ (List.mem_of_getElem? (i := 13) rfl))))) dX12_write_151 ?_
        refine lv_iload hx hb dX12_write_154 (lv_at hl 8 rfl) ?_
        obtain ⟨q1, h⟩ := nb_ite1 h
        refine nl_4 hx hb hK hP q1 dX12_write_156 ?_
        refine lv_bipush (v := 23) hx hb dX12_write_157 (by decide) ?_
        refine lv_icmp_ne (tgt := 185) hx hb dX12_write_159 (by decide) (fun c2 => ?_) (fun c2 => ?_)
        · rw [if_neg c2] at h
          exact ih.2.2.2.2.1 (upd L 101 ((L 101))) σ r h H locs ls hP hD hS (lv_sub hl [0, 1, 2, 3, 4, 5, 6, 7, 8, 9] rfl)
        · rw [if_pos c2] at h
          refine lv_aload_n hx hb dX12_write_162 rfl (lv_at hl 0 rfl) ?_
          refine lv_aload_n hx hb dX12_write_163 rfl (lv_at hl 0 rfl) ?_
          refine ng_58 hx hb hts in_x_write hown hK hP (hts _ (List.mem_cons_of_mem _ (List.mem_append_left _ (List.mem_append_left _ (List.mem_of_getElem? (i := 9) rfl))))) dX12_write_164 ?_
          refine lv_iload hx hb dX12_write_167 (lv_at hl 6 rfl) ?_
          obtain ⟨q3, h⟩ := nb_ite1 h
          refine nl_29 hx hb hK hP q3 dX12_write_169 ?_
          refine lv_aload_n hx hb dX12_write_170 rfl (lv_at hl 0 rfl) ?_
          refine ng_58 hx hb hts in_x_write hown hK hP (hts _ (List.mem_cons_of_mem _ (List.mem_append_left _ (List.mem_append_left _ (List.mem_of_getElem? (i := 9) rfl))))) dX12_write_171 ?_
          refine lv_iload hx hb dX12_write_174 (lv_at hl 5 rfl) ?_
          obtain ⟨q4, h⟩ := nb_ite1 h
          refine nl_29 hx hb hK hP q4 dX12_write_176 ?_
          refine lv_iload hx hb dX12_write_177 (lv_at hl 9 rfl) ?_
          obtain ⟨r5, hc5, h⟩ := ob_ex h
          refine nc_Vi (As := [.int (σ.2.2 29 ((L 6)).toNatClampNeg), .int (σ.2.2 29 ((L 5)).toNatClampNeg), .int (L 9)]) (rest := [.ref (a 0), .int (L 101), .ref (a 29)]) ⟨hx, hb, hml, hown, hts⟩ (c_x_putImage l dC dI cy a k (upd (upd (upd (fun _ => 0) 1 ((σ.2.2 29 ((L 6)).toNatClampNeg))) 2 ((σ.2.2 29 ((L 5)).toNatClampNeg))) 3 ((L 9))) σ r5 hc5 H.size) (cwV 3 hts g_x_write_putImage_834 rfl rfl rfl hd_x_putImage ⟨Nat.le_of_ble_eq_true rfl, Nat.le_of_ble_eq_true rfl⟩) hK hG hA hP hD hS rfl hl.1 rfl (Nat.le_of_ble_eq_true rfl) dX12_write_179 ⟨Nat.le_refl _, Nat.le_refl _⟩ (fun H locs hP hD hS => ?_)
          refine lv_goto (tgt := 214) hx hb dX12_write_182 (by decide) ?_
          exact ih.2.2.2.2.2.1 (upd (upd L 100 r5.1) 102 ((L 101))) r5.2 r h H locs ls hP hD hS (lv_sub hl [0, 1, 2, 3, 4, 5, 6, 7, 8, 9] rfl)
      · intro L σ r h H locs ls hP hD hS hl
        rw [x_write] at h
        refine lv_aload_n hx hb dX12_write_185 rfl (lv_at hl 0 rfl) ?_
        refine lv_aload_n hx hb dX12_write_186 rfl (lv_at hl 0 rfl) ?_
        refine ng_58 hx hb hts in_x_write hown hK hP (hts _ (List.mem_cons_of_mem _ (List.mem_append_left _ (List.mem_append_left _ (List.mem_of_getElem? (i := 9) rfl))))) dX12_write_187 ?_
        refine lv_iload hx hb dX12_write_190 (lv_at hl 6 rfl) ?_
        obtain ⟨q1, h⟩ := nb_ite1 h
        refine nl_29 hx hb hK hP q1 dX12_write_192 ?_
        refine lv_aload_n hx hb dX12_write_193 rfl (lv_at hl 0 rfl) ?_
        refine ng_58 hx hb hts in_x_write hown hK hP (hts _ (List.mem_cons_of_mem _ (List.mem_append_left _ (List.mem_append_left _ (List.mem_of_getElem? (i := 9) rfl))))) dX12_write_194 ?_
        refine lv_iload hx hb dX12_write_197 (lv_at hl 5 rfl) ?_
        obtain ⟨q2, h⟩ := nb_ite1 h
        refine nl_29 hx hb hK hP q2 dX12_write_199 ?_
        refine lv_aload_n hx hb dX12_write_200 rfl (lv_at hl 0 rfl) ?_
        refine ng_58 hx hb hts in_x_write hown hK hP (hts _ (List.mem_cons_of_mem _ (List.mem_append_left _ (List.mem_append_left _ (List.mem_of_getElem? (i := 9) rfl))))) dX12_write_201 ?_
        refine lv_iload hx hb dX12_write_204 (lv_at hl 5 rfl) ?_
        refine lv_iconst (v := 1) hx hb dX12_write_206 (by decide) ?_
        refine lv_iadd hx hb dX12_write_207 ?_
        obtain ⟨q3, h⟩ := nb_ite1 h
        refine nl_29 hx hb hK hP q3 dX12_write_208 ?_
        refine lv_iload hx hb dX12_write_209 (lv_at hl 9 rfl) ?_
        obtain ⟨r4, hc4, h⟩ := ob_ex h
        refine nc_Vi (As := [.int (σ.2.2 29 ((L 6)).toNatClampNeg), .int (σ.2.2 29 ((L 5)).toNatClampNeg), .int (σ.2.2 29 ((((L 5)) + 1)).toNatClampNeg), .int (L 9)]) (rest := [.ref (a 0), .int (L 101), .ref (a 29)]) ⟨hx, hb, hml, hown, hts⟩ (c_x_putSlice l dC dI cy a k (upd (upd (upd (upd (fun _ => 0) 1 ((σ.2.2 29 ((L 6)).toNatClampNeg))) 2 ((σ.2.2 29 ((L 5)).toNatClampNeg))) 3 ((σ.2.2 29 ((((L 5)) + 1)).toNatClampNeg))) 4 ((L 9))) σ r4 hc4 H.size) (cwV 4 hts g_x_write_putSlice_837 rfl rfl rfl hd_x_putSlice ⟨Nat.le_of_ble_eq_true rfl, Nat.le_of_ble_eq_true rfl⟩) hK hG hA hP hD hS rfl hl.1 rfl (Nat.le_of_ble_eq_true rfl) dX12_write_211 ⟨Nat.le_refl _, Nat.le_refl _⟩ (fun H locs hP hD hS => ?_)
        exact ih.2.2.2.2.2.1 (upd (upd L 100 r4.1) 102 ((L 101))) r4.2 r h H locs ls hP hD hS (lv_sub hl [0, 1, 2, 3, 4, 5, 6, 7, 8, 9] rfl)
      · intro L σ r h H locs ls hP hD hS hl
        rw [x_write] at h
        obtain ⟨r1, hc1, h⟩ := ob_ex h
        refine nc_Vi (As := [.int (L 100)]) (rest := [.int (L 102), .ref (a 29)]) ⟨hx, hb, hml, hown, hts⟩ (c_x_answer l dC dI cy a k (upd (fun _ => 0) 1 ((L 100))) σ r1 hc1 H.size) (cwV 1 hts g_x_write_answer_591 rfl rfl rfl hd_x_answer ⟨Nat.le_of_ble_eq_true rfl, Nat.le_of_ble_eq_true rfl⟩) hK hG hA hP hD hS rfl hl.1 rfl (Nat.le_of_ble_eq_true rfl) dX12_write_214 ⟨Nat.le_refl _, Nat.le_refl _⟩ (fun H locs hP hD hS => ?_)
        obtain ⟨q2, h⟩ := nb_ite1 h
        refine ns_29 hx hb hK hP hD hS q2 dX12_write_217 (fun H locs hP hD hS => ?_)
        exact ih.2.2.2.2.2.2.1 L (r1.2.1, r1.2.2.1, updG r1.2.2.2 29 (upd (r1.2.2.2 29) ((L 102)).toNatClampNeg r1.1)) r h H locs ls hP hD hS (lv_sub hl [0, 1, 2, 3, 4, 5, 6, 7, 8, 9] rfl)
      · intro L σ r h H locs ls hP hD hS hl
        rw [x_write] at h
        refine lv_aload_n hx hb dX12_write_218 rfl (lv_at hl 0 rfl) ?_
        refine ng_16 hx hb hts in_x_write hown hK hP (hts _ (List.mem_cons_of_mem _ (List.mem_append_left _ (List.mem_append_left _ (List.mem_of_getElem? (i := 32) rfl))))) dX12_write_219 ?_
        refine lv_iload hx hb dX12_write_222 (lv_at hl 8 rfl) ?_
        obtain ⟨q1, h⟩ := nb_ite1 h
        refine nl_6 hx hb hK hP q1 dX12_write_224 ?_
        refine lv_istore (lv' := [(8, .int (σ.2.2 6 ((L 8)).toNatClampNeg)), (0, .ref (a 0)), (1, .int (L 1)), (2, .int (L 2)), (3, .int (L 3)), (4, .int (L 4)), (5, .int (L 5)), (6, .int (L 6)), (7, .int (L 7)), (9, .int (L 9))]) hx hb dX12_write_225 hl (by decide) rfl (fun ls hl => ?_)
        refine lv_goto (tgt := 55) hx hb dX12_write_227 (by decide) ?_
        exact ih.2.2.1 (upd L 8 ((σ.2.2 6 ((L 8)).toNatClampNeg))) σ r h H locs ls hP hD hS (lv_sub hl [1, 2, 3, 4, 5, 6, 7, 8, 0] rfl)
      · intro L σ r h H locs ls hP hD hS hl
        rw [x_write] at h
        refine lv_aload_n hx hb dX12_write_230 rfl (lv_at hl 0 rfl) ?_
        refine lv_iload hx hb dX12_write_231 (lv_at hl 4 rfl) ?_
        refine np_59 hx hb hts in_x_write hown hK hP hD hS (hts _ (List.mem_cons_of_mem _ (List.mem_append_left _ (List.mem_append_left _ (List.mem_of_getElem? (i := 1) rfl))))) dX12_write_233 (fun H locs hP hD hS => ?_)
        exact ih.2.2.2.2.2.2.2.2.1 L (upd σ.1 59 ((L 4)), σ.2.1, σ.2.2) r h H locs ls hP hD hS (lv_sub hl [0, 1, 2, 3, 4, 5, 6, 7, 8] rfl)
      · intro L σ r h H locs ls hP hD hS hl
        rw [x_write] at h
        refine lv_aload_n hx hb dX12_write_236 rfl (lv_at hl 0 rfl) ?_
        refine ng_56 hx hb hts in_x_write hown hK hP (hts _ (List.mem_cons_of_mem _ (List.mem_append_left _ (List.mem_append_left _ (List.mem_of_getElem? (i := 0) rfl))))) dX12_write_237 ?_
        refine lv_if_ne (tgt := 256) hx hb dX12_write_240 (by decide) (fun c1 => ?_) (fun c1 => ?_)
        · rw [if_neg c1] at h
          exact ih.2.2.2.2.2.2.2.2.2 L σ r h H locs ls hP hD hS (lv_sub hl [0, 1, 2, 3, 4, 5, 6, 7, 8] rfl)
        · rw [if_pos c1] at h
          refine lv_aload_n hx hb dX12_write_243 rfl (lv_at hl 0 rfl) ?_
          refine lv_iload hx hb dX12_write_244 (lv_at hl 8 rfl) ?_
          refine lv_aload_n hx hb dX12_write_246 rfl (lv_at hl 0 rfl) ?_
          refine ng_58 hx hb hts in_x_write hown hK hP (hts _ (List.mem_cons_of_mem _ (List.mem_append_left _ (List.mem_append_left _ (List.mem_of_getElem? (i := 9) rfl))))) dX12_write_247 ?_
          refine lv_iload hx hb dX12_write_250 (lv_at hl 7 rfl) ?_
          obtain ⟨q2, h⟩ := nb_ite1 h
          refine nl_29 hx hb hK hP q2 dX12_write_252 ?_
          obtain ⟨r3, hc3, h⟩ := ob_ex h
          refine nc_Vv (As := [.int (L 8), .int (σ.2.2 29 ((L 7)).toNatClampNeg)]) (rest := []) ⟨hx, hb, hml, hown, hts⟩ (c_x_assign l dC dI cy a k (upd (upd (fun _ => 0) 1 ((L 8))) 2 ((σ.2.2 29 ((L 7)).toNatClampNeg))) σ r3 hc3 H.size) (cwV 2 hts g_x_write_assign_840 rfl rfl rfl hd_x_assign ⟨Nat.le_of_ble_eq_true rfl, Nat.le_of_ble_eq_true rfl⟩) hK hG hA hP hD hS rfl hl.1 rfl (Nat.le_of_ble_eq_true rfl) dX12_write_253 ⟨Nat.le_refl _, Nat.le_refl _⟩ (fun H locs hP hD hS => ?_)
          exact ih.2.2.2.2.2.2.2.2.2 L r3.2 r h H locs ls hP hD hS (lv_sub hl [0, 1, 2, 3, 4, 5, 6, 7, 8] rfl)
      · intro L σ r h H locs ls hP hD hS hl
        rw [x_write] at h
        cases h
        exact W.vret hx hb hr (fun t ht hW => ⟨⟨(), rfl, trivial, by rw [ht]; exact hP, va_K.moved hW.alike hK, hD⟩, hS.F ht⟩) hS.2.2 dX12_write_256
  exact (blk k0).1 L0 σ0 r0 h0 s.heap [] ls hP hD hS hl
/-! dropIter -/
def x_dropIter : Nat → Nat → (Nat → Int32) → MS → Option (Int32 × MS)
  | 0, _, _, _ => none
  | k + 1, 0, L, σ => if ¬ ((3 : Int32) < 0 ∨ 11514 ≤ (3 : Int32).toNatClampNeg) then (if ¬ ((3 : Int32) < 0 ∨ 11514 ≤ (3 : Int32).toNatClampNeg) then (x_dropIter k 1 L (σ.1, σ.2.1, updG σ.2.2 30 (upd (σ.2.2 30) (3 : Int32).toNatClampNeg ((((σ.2.2 30 (3 : Int32).toNatClampNeg)) - 1))))) else none) else none
  | k + 1, 1, L, σ => if ¬ ((3 : Int32) < 0 ∨ 11514 ≤ (3 : Int32).toNatClampNeg) then (if ¬ (((5314 + ((σ.2.2 30 (3 : Int32).toNatClampNeg)))) < 0 ∨ 11514 ≤ ((5314 + ((σ.2.2 30 (3 : Int32).toNatClampNeg)))).toNatClampNeg) then (ob (x_size k 0 (upd (fun _ => 0) 1 ((σ.2.2 30 ((5314 + ((σ.2.2 30 (3 : Int32).toNatClampNeg)))).toNatClampNeg))) σ) (fun r3 => some (0, (upd r3.2.1 64 ((((σ.1 64)) - r3.1)), r3.2.2.1, r3.2.2.2)))) else none) else none
  | _ + 1, _ + 2, _, _ => none
def o_x_dropIter : List Cond := [.fieldLink RX12 395 "SetHouseModel" "st" "[I", .fieldLink RX12 852 "SetHouseModel" "total" "I", .methodLink RX12 432 yX12_size, .instanceMethod yX12_size, .selects RX12 yX12_size yX12_size, .initialized RX12]
theorem o_x_dropIter_good : o_x_dropIter.all goodWord = true := by decide +kernel
def p_x_dropIter : List Cond := o_x_dropIter ++ ((.code yX12_size cX12_size 2 (some .int) :: p_x_size) ++ [])
theorem p_x_dropIter_good : p_x_dropIter.all goodWord = true := nb_all2 o_x_dropIter_good (nb_all2 (nb_allc (by decide +kernel) p_x_size_good) rfl)
def w_x_dropIter : List Cond := .code yX12_dropIter cX12_dropIter 1 none :: (p_x_dropIter ++ fM)
theorem w_x_dropIter_good : w_x_dropIter.all goodWord = true := nb_allc (by decide +kernel) (nb_all2 p_x_dropIter_good fM_good)
theorem in_x_dropIter : ∀ w ∈ wsX120, w ∈ w_x_dropIter := fun _ h => List.mem_cons_of_mem _ (List.mem_append_right _ h)
theorem hd_x_dropIter : yX12_dropIter.cls = RX12 ∧ yX12_dropIter.cls ≠ "java/lang/invoke/MethodHandle" ∧ yX12_dropIter.cls ≠ "java/lang/invoke/VarHandle" ∧ (parseMethodDescriptor yX12_dropIter.desc).map (fun d => d.parameters.length) = some 0 := by decide +kernel
theorem gg_x_dropIter_size : GoodIn w_x_dropIter w_x_size := goodIn_sub (fun w h => (List.mem_cons.mp h).elim (fun e => (List.mem_cons_of_mem _ (List.mem_append_left _ (List.mem_append_right _ (List.mem_append_left _ (List.mem_cons.mpr (Or.inl e))))))) (fun h => (List.mem_append.mp h).elim (fun h => (List.mem_cons_of_mem _ (List.mem_append_left _ (List.mem_append_right _ (List.mem_append_left _ (List.mem_cons_of_mem _ h)))))) (fun h => List.mem_cons_of_mem _ (List.mem_append_right _ h)))) w_x_size_good
theorem g_x_dropIter_size_432 : GoodIn w_x_dropIter (wsV RX12 432 RX12 yX12_size w_x_size) := goodIn_app (nb_g4 (List.mem_cons_of_mem _ (List.mem_append_left _ (List.mem_append_left _ (List.mem_of_getElem? (i := 2) rfl)))) (List.mem_cons_of_mem _ (List.mem_append_left _ (List.mem_append_left _ (List.mem_of_getElem? (i := 3) rfl)))) (List.mem_cons_of_mem _ (List.mem_append_left _ (List.mem_append_left _ (List.mem_of_getElem? (i := 4) rfl)))) (List.mem_cons_of_mem _ (List.mem_append_left _ (List.mem_append_left _ (List.mem_of_getElem? (i := 5) rfl)))) (by decide +kernel)) gg_x_dropIter_size
set_option maxHeartbeats 40000000 in
set_option maxRecDepth 100000 in
theorem c_x_dropIter (l : Launch) (dC : Nat → ClassId) (dI : Nat → Nat → Nat) (cy : Nat → ClassId) (a : Nat → Nat) (k0 : Nat) (L0 : Nat → Int32) (σ0 : MS) (r0 : Int32 × MS) (h0 : x_dropIter k0 0 L0 σ0 = some r0) (sz : Nat) : Met l yX12_dropIter w_x_dropIter ({ frames := 1, cells := 0, slots := 0, locals := 21 }) (va_Pc [.ref (a 0)] (nIn (dC, dI) cy sz (vM cy a σ0))) (va_Qv (fun _ : Unit => True) (fun _ t => nOut (dC, dI) cy (va_A (vM cy a σ0) sz) (vM cy a r0.2) t) (va_A (vM cy a σ0) sz)) 0 0 (va_A (vM cy a σ0) sz) := by
  refine Met.ofW (cc := cX12_dropIter) (maxL := 1) (ret := none) (by decide) rfl ?_
  intro p e s m args below meth c s₁ B hml hv
  obtain ⟨rfl, hsz, hP, hK, hD0, hG⟩ := hv
  have hx := B.exec
  have hb := B.bytes
  have hr := B.returns
  have hts := atoms_spec (ws := w_x_dropIter) B.pre
  have hown : s.vm.findClass RX12 = some m.cls := findClass_of_methodNamed B.named
  have hlocks := B.notSynchronized
  subst hsz
  have hD := hD0.self (sz := s.heap.size)
  generalize hAe : va_A (vM cy a σ0) s.heap.size = A at hD ⊢
  have hA : ∀ q : Nat, s.heap.size ≤ q → A q := fun q h => by rw [← hAe]; exact Or.inr h
  have hS : va_S A s.heap s.heap [] := va_S.rf
  have hl := lv_entry ([.ref (a 0)]) (n := 1) (Nat.le_of_ble_eq_true rfl)
  rw [lg_entry_eq]
  generalize (lg_sl ([.ref (a 0)]) ++ List.replicate (1 - (lg_sl ([.ref (a 0)])).length) Slot.unset).toArray = ls at hl ⊢
  have hl : lv_has ls 1 [(0, .ref (a 0))] := hl
  have blk : ∀ k : Nat, (bT p l e (headSpec w_x_dropIter ({ frames := 1, cells := 0, slots := 0, locals := 21 })).room s m #[.ref (a 0)] below meth c dC dI cy a A (qV dC dI cy a A below #[.ref (a 0)] s) 1 (x_dropIter k 0) (fun L => [(0, .ref (a 0))]) 0 (fun L => [])) ∧ (bT p l e (headSpec w_x_dropIter ({ frames := 1, cells := 0, slots := 0, locals := 21 })).room s m #[.ref (a 0)] below meth c dC dI cy a A (qV dC dI cy a A below #[.ref (a 0)] s) 1 (x_dropIter k 1) (fun L => [(0, .ref (a 0))]) 10 (fun L => [])) := by
    intro k
    induction k with
    | zero => exact ⟨fun L σ r h => (by cases h), fun L σ r h => (by cases h)⟩
    | succ k ih =>
      refine ⟨?_, ?_⟩
      · intro L σ r h H locs ls hP hD hS hl
        rw [x_dropIter] at h
        refine lv_aload_n hx hb dX12_dropIter_0 rfl (lv_at hl 0 rfl) ?_
        refine ng_60 hx hb hts in_x_dropIter hown hK hP (hts _ (List.mem_cons_of_mem _ (List.mem_append_left _ (List.mem_append_left _ (List.mem_of_getElem? (i := 0) rfl))))) dX12_dropIter_1 ?_
        refine lv_iconst (v := 3) hx hb dX12_dropIter_4 (by decide) ?_
        refine lv_dup2_11 hx hb dX12_dropIter_5 rfl rfl ?_
        obtain ⟨q1, h⟩ := nb_ite1 h
        refine nl_30 hx hb hK hP q1 dX12_dropIter_6 ?_
        refine lv_iconst (v := 1) hx hb dX12_dropIter_7 (by decide) ?_
        refine lv_isub hx hb dX12_dropIter_8 ?_
        obtain ⟨q2, h⟩ := nb_ite1 h
        refine ns_30 hx hb hK hP hD hS q2 dX12_dropIter_9 (fun H locs hP hD hS => ?_)
        exact ih.2 L (σ.1, σ.2.1, updG σ.2.2 30 (upd (σ.2.2 30) (3 : Int32).toNatClampNeg ((((σ.2.2 30 (3 : Int32).toNatClampNeg)) - 1)))) r h H locs ls hP hD hS (lv_sub hl [0] rfl)
      · intro L σ r h H locs ls hP hD hS hl
        rw [x_dropIter] at h
        refine lv_aload_n hx hb dX12_dropIter_10 rfl (lv_at hl 0 rfl) ?_
        refine lv_dup hx hb dX12_dropIter_11 rfl ?_
        refine ng_64 hx hb hts in_x_dropIter hown hK hP (hts _ (List.mem_cons_of_mem _ (List.mem_append_left _ (List.mem_append_left _ (List.mem_of_getElem? (i := 1) rfl))))) dX12_dropIter_12 ?_
        refine lv_aload_n hx hb dX12_dropIter_15 rfl (lv_at hl 0 rfl) ?_
        refine lv_aload_n hx hb dX12_dropIter_16 rfl (lv_at hl 0 rfl) ?_
        refine ng_60 hx hb hts in_x_dropIter hown hK hP (hts _ (List.mem_cons_of_mem _ (List.mem_append_left _ (List.mem_append_left _ (List.mem_of_getElem? (i := 0) rfl))))) dX12_dropIter_17 ?_
        refine lv_sipush (v := 5314) hx hb dX12_dropIter_20 (by decide) ?_
        refine lv_aload_n hx hb dX12_dropIter_23 rfl (lv_at hl 0 rfl) ?_
        refine ng_60 hx hb hts in_x_dropIter hown hK hP (hts _ (List.mem_cons_of_mem _ (List.mem_append_left _ (List.mem_append_left _ (List.mem_of_getElem? (i := 0) rfl))))) dX12_dropIter_24 ?_
        refine lv_iconst (v := 3) hx hb dX12_dropIter_27 (by decide) ?_
        obtain ⟨q1, h⟩ := nb_ite1 h
        refine nl_30 hx hb hK hP q1 dX12_dropIter_28 ?_
        refine lv_iadd hx hb dX12_dropIter_29 ?_
        obtain ⟨q2, h⟩ := nb_ite1 h
        refine nl_30 hx hb hK hP q2 dX12_dropIter_30 ?_
        obtain ⟨r3, hc3, h⟩ := ob_ex h
        refine nc_Vi (As := [.int (σ.2.2 30 ((5314 + ((σ.2.2 30 (3 : Int32).toNatClampNeg)))).toNatClampNeg)]) (rest := [.int (σ.1 64), .ref (a 0)]) ⟨hx, hb, hml, hown, hts⟩ (c_x_size l dC dI cy a k (upd (fun _ => 0) 1 ((σ.2.2 30 ((5314 + ((σ.2.2 30 (3 : Int32).toNatClampNeg)))).toNatClampNeg))) σ r3 hc3 H.size) (cwV 1 hts g_x_dropIter_size_432 rfl rfl rfl hd_x_size ⟨Nat.le_of_ble_eq_true rfl, Nat.le_of_ble_eq_true rfl⟩) hK hG hA hP hD hS rfl hl.1 rfl (Nat.le_of_ble_eq_true rfl) dX12_dropIter_31 ⟨Nat.le_refl _, Nat.le_refl _⟩ (fun H locs hP hD hS => ?_)
        refine lv_isub hx hb dX12_dropIter_34 ?_
        refine np_64 hx hb hts in_x_dropIter hown hK hP hD hS (hts _ (List.mem_cons_of_mem _ (List.mem_append_left _ (List.mem_append_left _ (List.mem_of_getElem? (i := 1) rfl))))) dX12_dropIter_35 (fun H locs hP hD hS => ?_)
        cases h
        exact W.vret hx hb hr (fun t ht hW => ⟨⟨(), rfl, trivial, by rw [ht]; exact hP, va_K.moved hW.alike hK, hD⟩, hS.F ht⟩) hS.2.2 dX12_dropIter_38
  exact (blk k0).1 L0 σ0 r0 h0 s.heap [] ls hP hD hS hl
/-! closeFor -/
def x_closeFor : Nat → Nat → (Nat → Int32) → MS → Option (Int32 × MS)
  | 0, _, _, _ => none
  | k + 1, 0, L, σ => if ¬ ((2 : Int32) < 0 ∨ 11514 ≤ (2 : Int32).toNatClampNeg) then (x_closeFor k 1 (upd L 1 ((3214 + ((2 * ((((σ.2.2 30 (2 : Int32).toNatClampNeg)) - 1))))))) σ) else none
  | k + 1, 1, L, σ => if ¬ ((3 : Int32) < 0 ∨ 11514 ≤ (3 : Int32).toNatClampNeg) then (if ¬ (((((L 1)) + 1)) < 0 ∨ 11514 ≤ ((((L 1)) + 1)).toNatClampNeg) then (if ((σ.2.2 30 (3 : Int32).toNatClampNeg)) ≤ ((σ.2.2 30 ((((L 1)) + 1)).toNatClampNeg)) then (x_closeFor k 2 L σ) else (ob (x_dropIter k 0 (fun _ => 0) σ) (fun r4 => x_closeFor k 1 L r4.2))) else none) else none
  | k + 1, 2, L, σ => if ¬ ((2 : Int32) < 0 ∨ 11514 ≤ (2 : Int32).toNatClampNeg) then (if ¬ ((2 : Int32) < 0 ∨ 11514 ≤ (2 : Int32).toNatClampNeg) then (x_closeFor k 3 L (σ.1, σ.2.1, updG σ.2.2 30 (upd (σ.2.2 30) (2 : Int32).toNatClampNeg ((((σ.2.2 30 (2 : Int32).toNatClampNeg)) - 1))))) else none) else none
  | k + 1, 3, L, σ => if ¬ (((L 1)) < 0 ∨ 11514 ≤ ((L 1)).toNatClampNeg) then (if ¬ (((σ.2.2 30 ((L 1)).toNatClampNeg)) < 0 ∨ 70000 ≤ ((σ.2.2 30 ((L 1)).toNatClampNeg)).toNatClampNeg) then (x_closeFor k 4 (upd L 2 ((σ.2.2 5 ((σ.2.2 30 ((L 1)).toNatClampNeg)).toNatClampNeg))) σ) else none) else none
  | k + 1, 4, L, σ => if ((L 2)) = ((-1)) then (x_closeFor k 8 L σ) else (if ¬ (((L 2)) < 0 ∨ 70000 ≤ ((L 2)).toNatClampNeg) then (x_closeFor k 5 (upd L 3 ((σ.2.2 6 ((L 2)).toNatClampNeg))) σ) else none)
  | k + 1, 5, L, σ => if ((L 3)) = ((-1)) then (x_closeFor k 7 L σ) else (ob (x_valueOf k 0 (upd (fun _ => 0) 1 ((L 3))) σ) (fun r2 => ob (x_size k 0 (upd (fun _ => 0) 1 r2.1) r2.2) (fun r3 => x_closeFor k 6 L (upd r3.2.1 64 ((((σ.1 64)) + ((1 - r3.1)))), r3.2.2.1, r3.2.2.2))))
  | k + 1, 6, L, σ => ob (x_bindOne k 0 (upd (upd (fun _ => 0) 1 ((L 3))) 2 0) σ) (fun r1 => if ¬ (((L 3)) < 0 ∨ 70000 ≤ ((L 3)).toNatClampNeg) then (x_closeFor k 5 (upd L 3 ((r1.2.2.2 9 ((L 3)).toNatClampNeg))) r1.2) else none)
  | k + 1, 7, L, σ => if ¬ (((L 2)) < 0 ∨ 70000 ≤ ((L 2)).toNatClampNeg) then (x_closeFor k 4 (upd L 2 ((σ.2.2 9 ((L 2)).toNatClampNeg))) σ) else none
  | k + 1, 8, L, σ => some (0, σ)
  | _ + 1, _ + 9, _, _ => none
def o_x_closeFor : List Cond := [.fieldLink RX12 395 "SetHouseModel" "st" "[I", .methodLink RX12 892 yX12_dropIter, .instanceMethod yX12_dropIter, .selects RX12 yX12_dropIter yX12_dropIter, .initialized RX12, .fieldLink RX12 86 "SetHouseModel" "x1" "[I", .fieldLink RX12 89 "SetHouseModel" "x2" "[I", .fieldLink RX12 852 "SetHouseModel" "total" "I", .methodLink RX12 604 yX12_valueOf, .instanceMethod yX12_valueOf, .selects RX12 yX12_valueOf yX12_valueOf, .methodLink RX12 432 yX12_size, .instanceMethod yX12_size, .selects RX12 yX12_size yX12_size, .methodLink RX12 694 yX12_bindOne, .instanceMethod yX12_bindOne, .selects RX12 yX12_bindOne yX12_bindOne, .fieldLink RX12 98 "SetHouseModel" "next" "[I"]
theorem o_x_closeFor_good : o_x_closeFor.all goodWord = true := by decide +kernel
def p_x_closeFor : List Cond := o_x_closeFor ++ ((.code yX12_dropIter cX12_dropIter 1 none :: p_x_dropIter) ++ ((.code yX12_valueOf cX12_valueOf 2 (some .int) :: p_x_valueOf) ++ ((.code yX12_size cX12_size 2 (some .int) :: p_x_size) ++ ((.code yX12_bindOne cX12_bindOne 3 none :: p_x_bindOne) ++ []))))
theorem p_x_closeFor_good : p_x_closeFor.all goodWord = true := nb_all2 o_x_closeFor_good (nb_all2 (nb_allc (by decide +kernel) p_x_dropIter_good) (nb_all2 (nb_allc (by decide +kernel) p_x_valueOf_good) (nb_all2 (nb_allc (by decide +kernel) p_x_size_good) (nb_all2 (nb_allc (by decide +kernel) p_x_bindOne_good) rfl))))
def w_x_closeFor : List Cond := .code yX12_closeFor cX12_closeFor 4 none :: (p_x_closeFor ++ fM)
theorem w_x_closeFor_good : w_x_closeFor.all goodWord = true := nb_allc (by decide +kernel) (nb_all2 p_x_closeFor_good fM_good)
theorem in_x_closeFor : ∀ w ∈ wsX120, w ∈ w_x_closeFor := fun _ h => List.mem_cons_of_mem _ (List.mem_append_right _ h)
theorem hd_x_closeFor : yX12_closeFor.cls = RX12 ∧ yX12_closeFor.cls ≠ "java/lang/invoke/MethodHandle" ∧ yX12_closeFor.cls ≠ "java/lang/invoke/VarHandle" ∧ (parseMethodDescriptor yX12_closeFor.desc).map (fun d => d.parameters.length) = some 0 := by decide +kernel
theorem gg_x_closeFor_bindOne : GoodIn w_x_closeFor w_x_bindOne := goodIn_sub (fun w h => (List.mem_cons.mp h).elim (fun e => (List.mem_cons_of_mem _ (List.mem_append_left _ (List.mem_append_right _ (List.mem_append_right _ (List.mem_append_right _ (List.mem_append_right _ (List.mem_append_left _ (List.mem_cons.mpr (Or.inl e)))))))))) (fun h => (List.mem_append.mp h).elim (fun h => (List.mem_cons_of_mem _ (List.mem_append_left _ (List.mem_append_right _ (List.mem_append_right _ (List.mem_append_right _ (List.mem_append_right _ (List.mem_append_left _ (List.mem_cons_of_mem _ h))))))))) (fun h => List.mem_cons_of_mem _ (List.mem_append_right _ h)))) w_x_bindOne_good
theorem g_x_closeFor_bindOne_694 : GoodIn w_x_closeFor (wsV RX12 694 RX12 yX12_bindOne w_x_bindOne) := goodIn_app (nb_g4 (List.mem_cons_of_mem _ (List.mem_append_left _ (List.mem_append_left _ (List.mem_of_getElem? (i := 14) rfl)))) (List.mem_cons_of_mem _ (List.mem_append_left _ (List.mem_append_left _ (List.mem_of_getElem? (i := 15) rfl)))) (List.mem_cons_of_mem _ (List.mem_append_left _ (List.mem_append_left _ (List.mem_of_getElem? (i := 16) rfl)))) (List.mem_cons_of_mem _ (List.mem_append_left _ (List.mem_append_left _ (List.mem_of_getElem? (i := 4) rfl)))) (by decide +kernel)) gg_x_closeFor_bindOne
theorem gg_x_closeFor_dropIter : GoodIn w_x_closeFor w_x_dropIter := goodIn_sub (fun w h => (List.mem_cons.mp h).elim (fun e => (List.mem_cons_of_mem _ (List.mem_append_left _ (List.mem_append_right _ (List.mem_append_left _ (List.mem_cons.mpr (Or.inl e))))))) (fun h => (List.mem_append.mp h).elim (fun h => (List.mem_cons_of_mem _ (List.mem_append_left _ (List.mem_append_right _ (List.mem_append_left _ (List.mem_cons_of_mem _ h)))))) (fun h => List.mem_cons_of_mem _ (List.mem_append_right _ h)))) w_x_dropIter_good
theorem g_x_closeFor_dropIter_892 : GoodIn w_x_closeFor (wsV RX12 892 RX12 yX12_dropIter w_x_dropIter) := goodIn_app (nb_g4 (List.mem_cons_of_mem _ (List.mem_append_left _ (List.mem_append_left _ (List.mem_of_getElem? (i := 1) rfl)))) (List.mem_cons_of_mem _ (List.mem_append_left _ (List.mem_append_left _ (List.mem_of_getElem? (i := 2) rfl)))) (List.mem_cons_of_mem _ (List.mem_append_left _ (List.mem_append_left _ (List.mem_of_getElem? (i := 3) rfl)))) (List.mem_cons_of_mem _ (List.mem_append_left _ (List.mem_append_left _ (List.mem_of_getElem? (i := 4) rfl)))) (by decide +kernel)) gg_x_closeFor_dropIter
theorem gg_x_closeFor_size : GoodIn w_x_closeFor w_x_size := goodIn_sub (fun w h => (List.mem_cons.mp h).elim (fun e => (List.mem_cons_of_mem _ (List.mem_append_left _ (List.mem_append_right _ (List.mem_append_right _ (List.mem_append_right _ (List.mem_append_left _ (List.mem_cons.mpr (Or.inl e))))))))) (fun h => (List.mem_append.mp h).elim (fun h => (List.mem_cons_of_mem _ (List.mem_append_left _ (List.mem_append_right _ (List.mem_append_right _ (List.mem_append_right _ (List.mem_append_left _ (List.mem_cons_of_mem _ h)))))))) (fun h => List.mem_cons_of_mem _ (List.mem_append_right _ h)))) w_x_size_good
theorem g_x_closeFor_size_432 : GoodIn w_x_closeFor (wsV RX12 432 RX12 yX12_size w_x_size) := goodIn_app (nb_g4 (List.mem_cons_of_mem _ (List.mem_append_left _ (List.mem_append_left _ (List.mem_of_getElem? (i := 11) rfl)))) (List.mem_cons_of_mem _ (List.mem_append_left _ (List.mem_append_left _ (List.mem_of_getElem? (i := 12) rfl)))) (List.mem_cons_of_mem _ (List.mem_append_left _ (List.mem_append_left _ (List.mem_of_getElem? (i := 13) rfl)))) (List.mem_cons_of_mem _ (List.mem_append_left _ (List.mem_append_left _ (List.mem_of_getElem? (i := 4) rfl)))) (by decide +kernel)) gg_x_closeFor_size
theorem gg_x_closeFor_valueOf : GoodIn w_x_closeFor w_x_valueOf := goodIn_sub (fun w h => (List.mem_cons.mp h).elim (fun e => (List.mem_cons_of_mem _ (List.mem_append_left _ (List.mem_append_right _ (List.mem_append_right _ (List.mem_append_left _ (List.mem_cons.mpr (Or.inl e)))))))) (fun h => (List.mem_append.mp h).elim (fun h => (List.mem_cons_of_mem _ (List.mem_append_left _ (List.mem_append_right _ (List.mem_append_right _ (List.mem_append_left _ (List.mem_cons_of_mem _ h))))))) (fun h => List.mem_cons_of_mem _ (List.mem_append_right _ h)))) w_x_valueOf_good
theorem g_x_closeFor_valueOf_604 : GoodIn w_x_closeFor (wsV RX12 604 RX12 yX12_valueOf w_x_valueOf) := goodIn_app (nb_g4 (List.mem_cons_of_mem _ (List.mem_append_left _ (List.mem_append_left _ (List.mem_of_getElem? (i := 8) rfl)))) (List.mem_cons_of_mem _ (List.mem_append_left _ (List.mem_append_left _ (List.mem_of_getElem? (i := 9) rfl)))) (List.mem_cons_of_mem _ (List.mem_append_left _ (List.mem_append_left _ (List.mem_of_getElem? (i := 10) rfl)))) (List.mem_cons_of_mem _ (List.mem_append_left _ (List.mem_append_left _ (List.mem_of_getElem? (i := 4) rfl)))) (by decide +kernel)) gg_x_closeFor_valueOf
set_option maxHeartbeats 40000000 in
set_option maxRecDepth 100000 in
theorem c_x_closeFor (l : Launch) (dC : Nat → ClassId) (dI : Nat → Nat → Nat) (cy : Nat → ClassId) (a : Nat → Nat) (k0 : Nat) (L0 : Nat → Int32) (σ0 : MS) (r0 : Int32 × MS) (h0 : x_closeFor k0 0 L0 σ0 = some r0) (sz : Nat) : Met l yX12_closeFor w_x_closeFor ({ frames := 2, cells := 0, slots := 0, locals := 41 }) (va_Pc [.ref (a 0)] (nIn (dC, dI) cy sz (vM cy a σ0))) (va_Qv (fun _ : Unit => True) (fun _ t => nOut (dC, dI) cy (va_A (vM cy a σ0) sz) (vM cy a r0.2) t) (va_A (vM cy a σ0) sz)) 0 0 (va_A (vM cy a σ0) sz) := by
  refine Met.ofW (cc := cX12_closeFor) (maxL := 4) (ret := none) (by decide) rfl ?_
  intro p e s m args below meth c s₁ B hml hv
  obtain ⟨rfl, hsz, hP, hK, hD0, hG⟩ := hv
  have hx := B.exec
  have hb := B.bytes
  have hr := B.returns
  have hts := atoms_spec (ws := w_x_closeFor) B.pre
  have hown : s.vm.findClass RX12 = some m.cls := findClass_of_methodNamed B.named
  have hlocks := B.notSynchronized
  subst hsz
  have hD := hD0.self (sz := s.heap.size)
  generalize hAe : va_A (vM cy a σ0) s.heap.size = A at hD ⊢
  have hA : ∀ q : Nat, s.heap.size ≤ q → A q := fun q h => by rw [← hAe]; exact Or.inr h
  have hS : va_S A s.heap s.heap [] := va_S.rf
  have hl := lv_entry ([.ref (a 0)]) (n := 4) (Nat.le_of_ble_eq_true rfl)
  rw [lg_entry_eq]
  generalize (lg_sl ([.ref (a 0)]) ++ List.replicate (4 - (lg_sl ([.ref (a 0)])).length) Slot.unset).toArray = ls at hl ⊢
  have hl : lv_has ls 4 [(0, .ref (a 0))] := hl
  have blk : ∀ k : Nat, (bT p l e (headSpec w_x_closeFor ({ frames := 2, cells := 0, slots := 0, locals := 41 })).room s m #[.ref (a 0)] below meth c dC dI cy a A (qV dC dI cy a A below #[.ref (a 0)] s) 4 (x_closeFor k 0) (fun L => [(0, .ref (a 0))]) 0 (fun L => [])) ∧ (bT p l e (headSpec w_x_closeFor ({ frames := 2, cells := 0, slots := 0, locals := 41 })).room s m #[.ref (a 0)] below meth c dC dI cy a A (qV dC dI cy a A below #[.ref (a 0)] s) 4 (x_closeFor k 1) (fun L => [(0, .ref (a 0)), (1, .int (L 1))]) 15 (fun L => [])) ∧ (bT p l e (headSpec w_x_closeFor ({ frames := 2, cells := 0, slots := 0, locals := 41 })).room s m #[.ref (a 0)] below meth c dC dI cy a A (qV dC dI cy a A below #[.ref (a 0)] s) 4 (x_closeFor k 2) (fun L => [(0, .ref (a 0)), (1, .int (L 1))]) 39 (fun L => [])) ∧ (bT p l e (headSpec w_x_closeFor ({ frames := 2, cells := 0, slots := 0, locals := 41 })).room s m #[.ref (a 0)] below meth c dC dI cy a A (qV dC dI cy a A below #[.ref (a 0)] s) 4 (x_closeFor k 3) (fun L => [(0, .ref (a 0)), (1, .int (L 1))]) 49 (fun L => [])) ∧ (bT p l e (headSpec w_x_closeFor ({ frames := 2, cells := 0, slots := 0, locals := 41 })).room s m #[.ref (a 0)] below meth c dC dI cy a A (qV dC dI cy a A below #[.ref (a 0)] s) 4 (x_closeFor k 4) (fun L => [(0, .ref (a 0)), (1, .int (L 1)), (2, .int (L 2))]) 61 (fun L => [])) ∧ (bT p l e (headSpec w_x_closeFor ({ frames := 2, cells := 0, slots := 0, locals := 41 })).room s m #[.ref (a 0)] below meth c dC dI cy a A (qV dC dI cy a A below #[.ref (a 0)] s) 4 (x_closeFor k 5) (fun L => [(0, .ref (a 0)), (1, .int (L 1)), (2, .int (L 2)), (3, .int (L 3))]) 73 (fun L => [])) ∧ (bT p l e (headSpec w_x_closeFor ({ frames := 2, cells := 0, slots := 0, locals := 41 })).room s m #[.ref (a 0)] below meth c dC dI cy a A (qV dC dI cy a A below #[.ref (a 0)] s) 4 (x_closeFor k 6) (fun L => [(0, .ref (a 0)), (1, .int (L 1)), (2, .int (L 2)), (3, .int (L 3))]) 98 (fun L => [])) ∧ (bT p l e (headSpec w_x_closeFor ({ frames := 2, cells := 0, slots := 0, locals := 41 })).room s m #[.ref (a 0)] below meth c dC dI cy a A (qV dC dI cy a A below #[.ref (a 0)] s) 4 (x_closeFor k 7) (fun L => [(0, .ref (a 0)), (1, .int (L 1)), (2, .int (L 2)), (3, .int (L 3))]) 114 (fun L => [])) ∧ (bT p l e (headSpec w_x_closeFor ({ frames := 2, cells := 0, slots := 0, locals := 41 })).room s m #[.ref (a 0)] below meth c dC dI cy a A (qV dC dI cy a A below #[.ref (a 0)] s) 4 (x_closeFor k 8) (fun L => [(0, .ref (a 0)), (1, .int (L 1)), (2, .int (L 2))]) 124 (fun L => [])) := by
    intro k
    induction k with
    | zero => exact ⟨fun L σ r h => (by cases h), fun L σ r h => (by cases h), fun L σ r h => (by cases h), fun L σ r h => (by cases h), fun L σ r h => (by cases h), fun L σ r h => (by cases h), fun L σ r h => (by cases h), fun L σ r h => (by cases h), fun L σ r h => (by cases h)⟩
    | succ k ih =>
      refine ⟨?_, ?_, ?_, ?_, ?_, ?_, ?_, ?_, ?_⟩
      · intro L σ r h H locs ls hP hD hS hl
        rw [x_closeFor] at h
        refine lv_sipush (v := 3214) hx hb dX12_closeFor_0 (by decide) ?_
        refine lv_iconst (v := 2) hx hb dX12_closeFor_3 (by decide) ?_
        refine lv_aload_n hx hb dX12_closeFor_4 rfl (lv_at hl 0 rfl) ?_
        refine ng_60 hx hb hts in_x_closeFor hown hK hP (hts _ (List.mem_cons_of_mem _ (List.mem_append_left _ (List.mem_append_left _ (List.mem_of_getElem? (i := 0) rfl))))) dX12_closeFor_5 ?_
        refine lv_iconst (v := 2) hx hb dX12_closeFor_8 (by decide) ?_
        obtain ⟨q1, h⟩ := nb_ite1 h
        refine nl_30 hx hb hK hP q1 dX12_closeFor_9 ?_
        refine lv_iconst (v := 1) hx hb dX12_closeFor_10 (by decide) ?_
        refine lv_isub hx hb dX12_closeFor_11 ?_
        refine lv_imul hx hb dX12_closeFor_12 ?_
        refine lv_iadd hx hb dX12_closeFor_13 ?_
        refine lv_istore_n (lv' := [(1, .int (3214 + ((2 * ((((σ.2.2 30 (2 : Int32).toNatClampNeg)) - 1)))))), (0, .ref (a 0))]) hx hb dX12_closeFor_14 rfl hl (by decide) rfl (fun ls hl => ?_)
        exact ih.2.1 (upd L 1 ((3214 + ((2 * ((((σ.2.2 30 (2 : Int32).toNatClampNeg)) - 1))))))) σ r h H locs ls hP hD hS (lv_sub hl [1, 0] rfl)
      · intro L σ r h H locs ls hP hD hS hl
        rw [x_closeFor] at h
        refine lv_aload_n hx hb dX12_closeFor_15 rfl (lv_at hl 0 rfl) ?_
        refine ng_60 hx hb hts in_x_closeFor hown hK hP (hts _ (List.mem_cons_of_mem _ (List.mem_append_left _ (List.mem_append_left _ (List.mem_of_getElem? (i := 0) rfl))))) dX12_closeFor_16 ?_
        refine lv_iconst (v := 3) hx hb dX12_closeFor_19 (by decide) ?_
        obtain ⟨q1, h⟩ := nb_ite1 h
        refine nl_30 hx hb hK hP q1 dX12_closeFor_20 ?_
        refine lv_aload_n hx hb dX12_closeFor_21 rfl (lv_at hl 0 rfl) ?_
        refine ng_60 hx hb hts in_x_closeFor hown hK hP (hts _ (List.mem_cons_of_mem _ (List.mem_append_left _ (List.mem_append_left _ (List.mem_of_getElem? (i := 0) rfl))))) dX12_closeFor_22 ?_
        refine lv_iload_n hx hb dX12_closeFor_25 rfl (lv_at hl 1 rfl) ?_
        refine lv_iconst (v := 1) hx hb dX12_closeFor_26 (by decide) ?_
        refine lv_iadd hx hb dX12_closeFor_27 ?_
        obtain ⟨q2, h⟩ := nb_ite1 h
        refine nl_30 hx hb hK hP q2 dX12_closeFor_28 ?_
        refine lv_icmp_le (tgt := 39) hx hb dX12_closeFor_29 (by decide) (fun c3 => ?_) (fun c3 => ?_)
        · rw [if_pos c3] at h
          exact ih.2.2.1 L σ r h H locs ls hP hD hS (lv_sub hl [0, 1] rfl)
        · rw [if_neg c3] at h
          refine lv_aload_n hx hb dX12_closeFor_32 rfl (lv_at hl 0 rfl) ?_
          obtain ⟨r4, hc4, h⟩ := ob_ex h
          refine nc_Vv (As := []) (rest := []) ⟨hx, hb, hml, hown, hts⟩ (c_x_dropIter l dC dI cy a k (fun _ => 0) σ r4 hc4 H.size) (cwV 0 hts g_x_closeFor_dropIter_892 rfl rfl rfl hd_x_dropIter ⟨Nat.le_of_ble_eq_true rfl, Nat.le_of_ble_eq_true rfl⟩) hK hG hA hP hD hS rfl hl.1 rfl (Nat.le_of_ble_eq_true rfl) dX12_closeFor_33 ⟨Nat.le_refl _, Nat.le_refl _⟩ (fun H locs hP hD hS => ?_)
          refine lv_goto (tgt := 15) hx hb dX12_closeFor_36 (by decide) ?_
          exact ih.2.1 L r4.2 r h H locs ls hP hD hS (lv_sub hl [0, 1] rfl)
      · intro L σ r h H locs ls hP hD hS hl
        rw [x_closeFor] at h
        refine lv_aload_n hx hb dX12_closeFor_39 rfl (lv_at hl 0 rfl) ?_
        refine ng_60 hx hb hts in_x_closeFor hown hK hP (hts _ (List.mem_cons_of_mem _ (List.mem_append_left _ (List.mem_append_left _ (List.mem_of_getElem? (i := 0) rfl))))) dX12_closeFor_40 ?_
        refine lv_iconst (v := 2) hx hb dX12_closeFor_43 (by decide) ?_
        refine lv_dup2_11 hx hb dX12_closeFor_44 rfl rfl ?_
        obtain ⟨q1, h⟩ := nb_ite1 h
        refine nl_30 hx hb hK hP q1 dX12_closeFor_45 ?_
        refine lv_iconst (v := 1) hx hb dX12_closeFor_46 (by decide) ?_
        refine lv_isub hx hb dX12_closeFor_47 ?_
        obtain ⟨q2, h⟩ := nb_ite1 h
        refine ns_30 hx hb hK hP hD hS q2 dX12_closeFor_48 (fun H locs hP hD hS => ?_)
        exact ih.2.2.2.1 L (σ.1, σ.2.1, updG σ.2.2 30 (upd (σ.2.2 30) (2 : Int32).toNatClampNeg ((((σ.2.2 30 (2 : Int32).toNatClampNeg)) - 1)))) r h H locs ls hP hD hS (lv_sub hl [0, 1] rfl)
      · intro L σ r h H locs ls hP hD hS hl
        rw [x_closeFor] at h
        refine lv_aload_n hx hb dX12_closeFor_49 rfl (lv_at hl 0 rfl) ?_
        refine ng_15 hx hb hts in_x_closeFor hown hK hP (hts _ (List.mem_cons_of_mem _ (List.mem_append_left _ (List.mem_append_left _ (List.mem_of_getElem? (i := 5) rfl))))) dX12_closeFor_50 ?_
        refine lv_aload_n hx hb dX12_closeFor_53 rfl (lv_at hl 0 rfl) ?_
        refine ng_60 hx hb hts in_x_closeFor hown hK hP (hts _ (List.mem_cons_of_mem _ (List.mem_append_left _ (List.mem_append_left _ (List.mem_of_getElem? (i := 0) rfl))))) dX12_closeFor_54 ?_
        refine lv_iload_n hx hb dX12_closeFor_57 rfl (lv_at hl 1 rfl) ?_
        obtain ⟨q1, h⟩ := nb_ite1 h
        refine nl_30 hx hb hK hP q1 dX12_closeFor_58 ?_
        obtain ⟨q2, h⟩ := nb_ite1 h
        refine nl_5 hx hb hK hP q2 dX12_closeFor_59 ?_
        refine lv_istore_n (lv' := [(2, .int (σ.2.2 5 ((σ.2.2 30 ((L 1)).toNatClampNeg)).toNatClampNeg)), (0, .ref (a 0)), (1, .int (L 1))]) hx hb dX12_closeFor_60 rfl hl (by decide) rfl (fun ls hl => ?_)
        exact ih.2.2.2.2.1 (upd L 2 ((σ.2.2 5 ((σ.2.2 30 ((L 1)).toNatClampNeg)).toNatClampNeg))) σ r h H locs ls hP hD hS (lv_sub hl [1, 2, 0] rfl)
      · intro L σ r h H locs ls hP hD hS hl
        rw [x_closeFor] at h
        refine lv_iload_n hx hb dX12_closeFor_61 rfl (lv_at hl 2 rfl) ?_
        refine lv_iconst (v := (-1)) hx hb dX12_closeFor_62 (by decide) ?_
        refine lv_icmp_eq (tgt := 124) hx hb dX12_closeFor_63 (by decide) (fun c1 => ?_) (fun c1 => ?_)
        · rw [if_pos c1] at h
          exact ih.2.2.2.2.2.2.2.2 L σ r h H locs ls hP hD hS (lv_sub hl [0, 1, 2] rfl)
        · rw [if_neg c1] at h
          refine lv_aload_n hx hb dX12_closeFor_66 rfl (lv_at hl 0 rfl) ?_
          refine ng_16 hx hb hts in_x_closeFor hown hK hP (hts _ (List.mem_cons_of_mem _ (List.mem_append_left _ (List.mem_append_left _ (List.mem_of_getElem? (i := 6) rfl))))) dX12_closeFor_67 ?_
          refine lv_iload_n hx hb dX12_closeFor_70 rfl (lv_at hl 2 rfl) ?_
          obtain ⟨q2, h⟩ := nb_ite1 h
          refine nl_6 hx hb hK hP q2 dX12_closeFor_71 ?_
          refine lv_istore_n (lv' := [(3, .int (σ.2.2 6 ((L 2)).toNatClampNeg)), (0, .ref (a 0)), (1, .int (L 1)), (2, .int (L 2))]) hx hb dX12_closeFor_72 rfl hl (by decide) rfl (fun ls hl => ?_)
          exact ih.2.2.2.2.2.1 (upd L 3 ((σ.2.2 6 ((L 2)).toNatClampNeg))) σ r h H locs ls hP hD hS (lv_sub hl [1, 2, 3, 0] rfl)
      · intro L σ r h H locs ls hP hD hS hl
        rw [x_closeFor] at h
        refine lv_iload_n hx hb dX12_closeFor_73 rfl (lv_at hl 3 rfl) ?_
        refine lv_iconst (v := (-1)) hx hb dX12_closeFor_74 (by decide) ?_
        refine lv_icmp_eq (tgt := 114) hx hb dX12_closeFor_75 (by decide) (fun c1 => ?_) (fun c1 => ?_)
        · rw [if_pos c1] at h
          exact ih.2.2.2.2.2.2.2.1 L σ r h H locs ls hP hD hS (lv_sub hl [0, 1, 2, 3] rfl)
        · rw [if_neg c1] at h
          refine lv_aload_n hx hb dX12_closeFor_78 rfl (lv_at hl 0 rfl) ?_
          refine lv_dup hx hb dX12_closeFor_79 rfl ?_
          refine ng_64 hx hb hts in_x_closeFor hown hK hP (hts _ (List.mem_cons_of_mem _ (List.mem_append_left _ (List.mem_append_left _ (List.mem_of_getElem? (i := 7) rfl))))) dX12_closeFor_80 ?_
          refine lv_iconst (v := 1) hx hb dX12_closeFor_83 (by decide) ?_
          refine lv_aload_n hx hb dX12_closeFor_84 rfl (lv_at hl 0 rfl) ?_
          refine lv_aload_n hx hb dX12_closeFor_85 rfl (lv_at hl 0 rfl) ?_
          refine lv_iload_n hx hb dX12_closeFor_86 rfl (lv_at hl 3 rfl) ?_
          obtain ⟨r2, hc2, h⟩ := ob_ex h
          refine nc_Vi (As := [.int (L 3)]) (rest := [.ref (a 0), .int 1, .int (σ.1 64), .ref (a 0)]) ⟨hx, hb, hml, hown, hts⟩ (c_x_valueOf l dC dI cy a k (upd (fun _ => 0) 1 ((L 3))) σ r2 hc2 H.size) (cwV 1 hts g_x_closeFor_valueOf_604 rfl rfl rfl hd_x_valueOf ⟨Nat.le_of_ble_eq_true rfl, Nat.le_of_ble_eq_true rfl⟩) hK hG hA hP hD hS rfl hl.1 rfl (Nat.le_of_ble_eq_true rfl) dX12_closeFor_87 ⟨Nat.le_refl _, Nat.le_refl _⟩ (fun H locs hP hD hS => ?_)
          obtain ⟨r3, hc3, h⟩ := ob_ex h
          refine nc_Vi (As := [.int r2.1]) (rest := [.int 1, .int (σ.1 64), .ref (a 0)]) ⟨hx, hb, hml, hown, hts⟩ (c_x_size l dC dI cy a k (upd (fun _ => 0) 1 r2.1) r2.2 r3 hc3 H.size) (cwV 1 hts g_x_closeFor_size_432 rfl rfl rfl hd_x_size ⟨Nat.le_of_ble_eq_true rfl, Nat.le_of_ble_eq_true rfl⟩) hK hG hA hP hD hS rfl hl.1 rfl (Nat.le_of_ble_eq_true rfl) dX12_closeFor_90 ⟨Nat.le_refl _, Nat.le_refl _⟩ (fun H locs hP hD hS => ?_)
          refine lv_isub hx hb dX12_closeFor_93 ?_
          refine lv_iadd hx hb dX12_closeFor_94 ?_
          refine np_64 hx hb hts in_x_closeFor hown hK hP hD hS (hts _ (List.mem_cons_of_mem _ (List.mem_append_left _ (List.mem_append_left _ (List.mem_of_getElem? (i := 7) rfl))))) dX12_closeFor_95 (fun H locs hP hD hS => ?_)
          exact ih.2.2.2.2.2.2.1 L (upd r3.2.1 64 ((((σ.1 64)) + ((1 - r3.1)))), r3.2.2.1, r3.2.2.2) r h H locs ls hP hD hS (lv_sub hl [0, 1, 2, 3] rfl)
      · intro L σ r h H locs ls hP hD hS hl
        rw [x_closeFor] at h
        refine lv_aload_n hx hb dX12_closeFor_98 rfl (lv_at hl 0 rfl) ?_
        refine lv_iload_n hx hb dX12_closeFor_99 rfl (lv_at hl 3 rfl) ?_
        refine lv_iconst (v := 0) hx hb dX12_closeFor_100 (by decide) ?_
        obtain ⟨r1, hc1, h⟩ := ob_ex h
        refine nc_Vv (As := [.int (L 3), .int 0]) (rest := []) ⟨hx, hb, hml, hown, hts⟩ (c_x_bindOne l dC dI cy a k (upd (upd (fun _ => 0) 1 ((L 3))) 2 0) σ r1 hc1 H.size) (cwV 2 hts g_x_closeFor_bindOne_694 rfl rfl rfl hd_x_bindOne ⟨Nat.le_of_ble_eq_true rfl, Nat.le_of_ble_eq_true rfl⟩) hK hG hA hP hD hS rfl hl.1 rfl (Nat.le_of_ble_eq_true rfl) dX12_closeFor_101 ⟨Nat.le_refl _, Nat.le_refl _⟩ (fun H locs hP hD hS => ?_)
        refine lv_aload_n hx hb dX12_closeFor_104 rfl (lv_at hl 0 rfl) ?_
        refine ng_19 hx hb hts in_x_closeFor hown hK hP (hts _ (List.mem_cons_of_mem _ (List.mem_append_left _ (List.mem_append_left _ (List.mem_of_getElem? (i := 17) rfl))))) dX12_closeFor_105 ?_
        refine lv_iload_n hx hb dX12_closeFor_108 rfl (lv_at hl 3 rfl) ?_
        obtain ⟨q2, h⟩ := nb_ite1 h
        refine nl_9 hx hb hK hP q2 dX12_closeFor_109 ?_
        refine lv_istore_n (lv' := [(3, .int (r1.2.2.2 9 ((L 3)).toNatClampNeg)), (0, .ref (a 0)), (1, .int (L 1)), (2, .int (L 2))]) hx hb dX12_closeFor_110 rfl hl (by decide) rfl (fun ls hl => ?_)
        refine lv_goto (tgt := 73) hx hb dX12_closeFor_111 (by decide) ?_
        exact ih.2.2.2.2.2.1 (upd L 3 ((r1.2.2.2 9 ((L 3)).toNatClampNeg))) r1.2 r h H locs ls hP hD hS (lv_sub hl [1, 2, 3, 0] rfl)
      · intro L σ r h H locs ls hP hD hS hl
        rw [x_closeFor] at h
        refine lv_aload_n hx hb dX12_closeFor_114 rfl (lv_at hl 0 rfl) ?_
        refine ng_19 hx hb hts in_x_closeFor hown hK hP (hts _ (List.mem_cons_of_mem _ (List.mem_append_left _ (List.mem_append_left _ (List.mem_of_getElem? (i := 17) rfl))))) dX12_closeFor_115 ?_
        refine lv_iload_n hx hb dX12_closeFor_118 rfl (lv_at hl 2 rfl) ?_
        obtain ⟨q1, h⟩ := nb_ite1 h
        refine nl_9 hx hb hK hP q1 dX12_closeFor_119 ?_
        refine lv_istore_n (lv' := [(2, .int (σ.2.2 9 ((L 2)).toNatClampNeg)), (0, .ref (a 0)), (1, .int (L 1)), (3, .int (L 3))]) hx hb dX12_closeFor_120 rfl hl (by decide) rfl (fun ls hl => ?_)
        refine lv_goto (tgt := 61) hx hb dX12_closeFor_121 (by decide) ?_
        exact ih.2.2.2.2.1 (upd L 2 ((σ.2.2 9 ((L 2)).toNatClampNeg))) σ r h H locs ls hP hD hS (lv_sub hl [1, 2, 0] rfl)
      · intro L σ r h H locs ls hP hD hS hl
        rw [x_closeFor] at h
        cases h
        exact W.vret hx hb hr (fun t ht hW => ⟨⟨(), rfl, trivial, by rw [ht]; exact hP, va_K.moved hW.alike hK, hD⟩, hS.F ht⟩) hS.2.2 dX12_closeFor_124
  exact (blk k0).1 L0 σ0 r0 h0 s.heap [] ls hP hD hS hl
/-! writeWorked -/
def x_writeWorked : Nat → Nat → (Nat → Int32) → MS → Option (Int32 × MS)
  | 0, _, _, _ => none
  | k + 1, 0, L, σ => ob (x_workParts k 0 (upd (fun _ => 0) 1 ((L 1))) σ) (fun r1 => ob (x_write k 0 (upd (upd (upd (fun _ => 0) 1 ((L 1))) 2 ((σ.1 59))) 3 ((L 2))) r1.2) (fun r2 => some (0, (upd r2.2.1 59 ((σ.1 59)), r2.2.2.1, r2.2.2.2))))
  | _ + 1, _ + 1, _, _ => none
def o_x_writeWorked : List Cond := [.fieldLink RX12 385 "SetHouseModel" "top" "I", .methodLink RX12 901 yX12_workParts, .instanceMethod yX12_workParts, .selects RX12 yX12_workParts yX12_workParts, .initialized RX12, .methodLink RX12 904 yX12_write, .instanceMethod yX12_write, .selects RX12 yX12_write yX12_write]
theorem o_x_writeWorked_good : o_x_writeWorked.all goodWord = true := by decide +kernel
def p_x_writeWorked : List Cond := o_x_writeWorked ++ ((.code yX12_workParts cX12_workParts 3 none :: p_x_workParts) ++ ((.code yX12_write cX12_write 10 none :: p_x_write) ++ []))
theorem p_x_writeWorked_good : p_x_writeWorked.all goodWord = true := nb_all2 o_x_writeWorked_good (nb_all2 (nb_allc (by decide +kernel) p_x_workParts_good) (nb_all2 (nb_allc (by decide +kernel) p_x_write_good) rfl))
def w_x_writeWorked : List Cond := .code yX12_writeWorked cX12_writeWorked 4 none :: (p_x_writeWorked ++ fM)
theorem w_x_writeWorked_good : w_x_writeWorked.all goodWord = true := nb_allc (by decide +kernel) (nb_all2 p_x_writeWorked_good fM_good)
theorem in_x_writeWorked : ∀ w ∈ wsX120, w ∈ w_x_writeWorked := fun _ h => List.mem_cons_of_mem _ (List.mem_append_right _ h)
theorem hd_x_writeWorked : yX12_writeWorked.cls = RX12 ∧ yX12_writeWorked.cls ≠ "java/lang/invoke/MethodHandle" ∧ yX12_writeWorked.cls ≠ "java/lang/invoke/VarHandle" ∧ (parseMethodDescriptor yX12_writeWorked.desc).map (fun d => d.parameters.length) = some 2 := by decide +kernel
theorem gg_x_writeWorked_workParts : GoodIn w_x_writeWorked w_x_workParts := goodIn_sub (fun w h => (List.mem_cons.mp h).elim (fun e => (List.mem_cons_of_mem _ (List.mem_append_left _ (List.mem_append_right _ (List.mem_append_left _ (List.mem_cons.mpr (Or.inl e))))))) (fun h => (List.mem_append.mp h).elim (fun h => (List.mem_cons_of_mem _ (List.mem_append_left _ (List.mem_append_right _ (List.mem_append_left _ (List.mem_cons_of_mem _ h)))))) (fun h => List.mem_cons_of_mem _ (List.mem_append_right _ h)))) w_x_workParts_good
theorem g_x_writeWorked_workParts_901 : GoodIn w_x_writeWorked (wsV RX12 901 RX12 yX12_workParts w_x_workParts) := goodIn_app (nb_g4 (List.mem_cons_of_mem _ (List.mem_append_left _ (List.mem_append_left _ (List.mem_of_getElem? (i := 1) rfl)))) (List.mem_cons_of_mem _ (List.mem_append_left _ (List.mem_append_left _ (List.mem_of_getElem? (i := 2) rfl)))) (List.mem_cons_of_mem _ (List.mem_append_left _ (List.mem_append_left _ (List.mem_of_getElem? (i := 3) rfl)))) (List.mem_cons_of_mem _ (List.mem_append_left _ (List.mem_append_left _ (List.mem_of_getElem? (i := 4) rfl)))) (by decide +kernel)) gg_x_writeWorked_workParts
theorem gg_x_writeWorked_write : GoodIn w_x_writeWorked w_x_write := goodIn_sub (fun w h => (List.mem_cons.mp h).elim (fun e => (List.mem_cons_of_mem _ (List.mem_append_left _ (List.mem_append_right _ (List.mem_append_right _ (List.mem_append_left _ (List.mem_cons.mpr (Or.inl e)))))))) (fun h => (List.mem_append.mp h).elim (fun h => (List.mem_cons_of_mem _ (List.mem_append_left _ (List.mem_append_right _ (List.mem_append_right _ (List.mem_append_left _ (List.mem_cons_of_mem _ h))))))) (fun h => List.mem_cons_of_mem _ (List.mem_append_right _ h)))) w_x_write_good
theorem g_x_writeWorked_write_904 : GoodIn w_x_writeWorked (wsV RX12 904 RX12 yX12_write w_x_write) := goodIn_app (nb_g4 (List.mem_cons_of_mem _ (List.mem_append_left _ (List.mem_append_left _ (List.mem_of_getElem? (i := 5) rfl)))) (List.mem_cons_of_mem _ (List.mem_append_left _ (List.mem_append_left _ (List.mem_of_getElem? (i := 6) rfl)))) (List.mem_cons_of_mem _ (List.mem_append_left _ (List.mem_append_left _ (List.mem_of_getElem? (i := 7) rfl)))) (List.mem_cons_of_mem _ (List.mem_append_left _ (List.mem_append_left _ (List.mem_of_getElem? (i := 4) rfl)))) (by decide +kernel)) gg_x_writeWorked_write
set_option maxHeartbeats 40000000 in
set_option maxRecDepth 100000 in
theorem c_x_writeWorked (l : Launch) (dC : Nat → ClassId) (dI : Nat → Nat → Nat) (cy : Nat → ClassId) (a : Nat → Nat) (k0 : Nat) (L0 : Nat → Int32) (σ0 : MS) (r0 : Int32 × MS) (h0 : x_writeWorked k0 0 L0 σ0 = some r0) (sz : Nat) : Met l yX12_writeWorked w_x_writeWorked ({ frames := 1359, cells := 0, slots := 0, locals := 36519 }) (va_Pc [.ref (a 0), .int (L0 1), .int (L0 2)] (nIn (dC, dI) cy sz (vM cy a σ0))) (va_Qv (fun _ : Unit => True) (fun _ t => nOut (dC, dI) cy (va_A (vM cy a σ0) sz) (vM cy a r0.2) t) (va_A (vM cy a σ0) sz)) 0 0 (va_A (vM cy a σ0) sz) := by
  refine Met.ofW (cc := cX12_writeWorked) (maxL := 4) (ret := none) (by decide) rfl ?_
  intro p e s m args below meth c s₁ B hml hv
  obtain ⟨rfl, hsz, hP, hK, hD0, hG⟩ := hv
  have hx := B.exec
  have hb := B.bytes
  have hr := B.returns
  have hts := atoms_spec (ws := w_x_writeWorked) B.pre
  have hown : s.vm.findClass RX12 = some m.cls := findClass_of_methodNamed B.named
  have hlocks := B.notSynchronized
  subst hsz
  have hD := hD0.self (sz := s.heap.size)
  generalize hAe : va_A (vM cy a σ0) s.heap.size = A at hD ⊢
  have hA : ∀ q : Nat, s.heap.size ≤ q → A q := fun q h => by rw [← hAe]; exact Or.inr h
  have hS : va_S A s.heap s.heap [] := va_S.rf
  have hl := lv_entry ([.ref (a 0), .int (L0 1), .int (L0 2)]) (n := 4) (Nat.le_of_ble_eq_true rfl)
  rw [lg_entry_eq]
  generalize (lg_sl ([.ref (a 0), .int (L0 1), .int (L0 2)]) ++ List.replicate (4 - (lg_sl ([.ref (a 0), .int (L0 1), .int (L0 2)])).length) Slot.unset).toArray = ls at hl ⊢
  have hl : lv_has ls 4 [(0, .ref (a 0)), (1, .int (L0 1)), (2, .int (L0 2))] := hl
  have blk : ∀ k : Nat, (bT p l e (headSpec w_x_writeWorked ({ frames := 1359, cells := 0, slots := 0, locals := 36519 })).room s m #[.ref (a 0), .int (L0 1), .int (L0 2)] below meth c dC dI cy a A (qV dC dI cy a A below #[.ref (a 0), .int (L0 1), .int (L0 2)] s) 4 (x_writeWorked k 0) (fun L => [(0, .ref (a 0)), (1, .int (L 1)), (2, .int (L 2))]) 0 (fun L => [])) := by
    intro k
    induction k with
    | zero => exact fun L σ r h => (by cases h)
    | succ k ih =>
      skip
      · intro L σ r h H locs ls hP hD hS hl
        rw [x_writeWorked] at h
        refine lv_aload_n hx hb dX12_writeWorked_0 rfl (lv_at hl 0 rfl) ?_
        refine ng_59 hx hb hts in_x_writeWorked hown hK hP (hts _ (List.mem_cons_of_mem _ (List.mem_append_left _ (List.mem_append_left _ (List.mem_of_getElem? (i := 0) rfl))))) dX12_writeWorked_1 ?_
        refine lv_istore_n (lv' := [(3, .int (σ.1 59)), (0, .ref (a 0)), (1, .int (L 1)), (2, .int (L 2))]) hx hb dX12_writeWorked_4 rfl hl (by decide) rfl (fun ls hl => ?_)
        refine lv_aload_n hx hb dX12_writeWorked_5 rfl (lv_at hl 1 rfl) ?_
        refine lv_iload_n hx hb dX12_writeWorked_6 rfl (lv_at hl 2 rfl) ?_
        obtain ⟨r1, hc1, h⟩ := ob_ex h
        refine nc_Vv (As := [.int (L 1)]) (rest := []) ⟨hx, hb, hml, hown, hts⟩ (c_x_workParts l dC dI cy a k (upd (fun _ => 0) 1 ((L 1))) σ r1 hc1 H.size) (cwV 1 hts g_x_writeWorked_workParts_901 rfl rfl rfl hd_x_workParts ⟨Nat.le_of_ble_eq_true rfl, Nat.le_of_ble_eq_true rfl⟩) hK hG hA hP hD hS rfl hl.1 rfl (Nat.le_of_ble_eq_true rfl) dX12_writeWorked_7 ⟨Nat.le_refl _, Nat.le_refl _⟩ (fun H locs hP hD hS => ?_)
        refine lv_aload_n hx hb dX12_writeWorked_10 rfl (lv_at hl 1 rfl) ?_
        refine lv_iload_n hx hb dX12_writeWorked_11 rfl (lv_at hl 2 rfl) ?_
        refine lv_iload_n hx hb dX12_writeWorked_12 rfl (lv_at hl 0 rfl) ?_
        refine lv_iload_n hx hb dX12_writeWorked_13 rfl (lv_at hl 3 rfl) ?_
        obtain ⟨r2, hc2, h⟩ := ob_ex h
        refine nc_Vv (As := [.int (L 1), .int (σ.1 59), .int (L 2)]) (rest := []) ⟨hx, hb, hml, hown, hts⟩ (c_x_write l dC dI cy a k (upd (upd (upd (fun _ => 0) 1 ((L 1))) 2 ((σ.1 59))) 3 ((L 2))) r1.2 r2 hc2 H.size) (cwV 3 hts g_x_writeWorked_write_904 rfl rfl rfl hd_x_write ⟨Nat.le_of_ble_eq_true rfl, Nat.le_of_ble_eq_true rfl⟩) hK hG hA hP hD hS rfl hl.1 rfl (Nat.le_of_ble_eq_true rfl) dX12_writeWorked_14 ⟨Nat.le_refl _, Nat.le_refl _⟩ (fun H locs hP hD hS => ?_)
        refine lv_aload_n hx hb dX12_writeWorked_17 rfl (lv_at hl 1 rfl) ?_
        refine lv_iload_n hx hb dX12_writeWorked_18 rfl (lv_at hl 0 rfl) ?_
        refine np_59 hx hb hts in_x_writeWorked hown hK hP hD hS (hts _ (List.mem_cons_of_mem _ (List.mem_append_left _ (List.mem_append_left _ (List.mem_of_getElem? (i := 0) rfl))))) dX12_writeWorked_19 (fun H locs hP hD hS => ?_)
        cases h
        exact W.vret hx hb hr (fun t ht hW => ⟨⟨(), rfl, trivial, by rw [ht]; exact hP, va_K.moved hW.alike hK, hD⟩, hS.F ht⟩) hS.2.2 dX12_writeWorked_22
  exact (blk k0) L0 σ0 r0 h0 s.heap [] ls hP hD hS hl
/-! giveBack -/
def x_giveBack : Nat → Nat → (Nat → Int32) → MS → Option (Int32 × MS)
  | 0, _, _, _ => none
  | k + 1, 0, L, σ => if ¬ ((1 : Int32) < 0 ∨ 11514 ≤ (1 : Int32).toNatClampNeg) then (if ¬ (((64 + ((3 * ((((σ.2.2 30 (1 : Int32).toNatClampNeg)) - 1)))))) < 0 ∨ 11514 ≤ ((64 + ((3 * ((((σ.2.2 30 (1 : Int32).toNatClampNeg)) - 1)))))).toNatClampNeg) then (if ¬ (((((64 + ((3 * ((((σ.2.2 30 (1 : Int32).toNatClampNeg)) - 1)))))) + 1)) < 0 ∨ 11514 ≤ ((((64 + ((3 * ((((σ.2.2 30 (1 : Int32).toNatClampNeg)) - 1)))))) + 1)).toNatClampNeg) then (x_giveBack k 1 (upd (upd (upd L 2 ((((σ.2.2 30 (1 : Int32).toNatClampNeg)) - 1))) 3 ((σ.2.2 30 ((64 + ((3 * ((((σ.2.2 30 (1 : Int32).toNatClampNeg)) - 1)))))).toNatClampNeg))) 4 ((σ.2.2 30 ((((64 + ((3 * ((((σ.2.2 30 (1 : Int32).toNatClampNeg)) - 1)))))) + 1)).toNatClampNeg))) σ) else none) else none) else none
  | k + 1, 1, L, σ => if ¬ ((2 : Int32) < 0 ∨ 11514 ≤ (2 : Int32).toNatClampNeg) then (if ¬ (((((64 + ((3 * ((L 2)))))) + 2)) < 0 ∨ 11514 ≤ ((((64 + ((3 * ((L 2)))))) + 2)).toNatClampNeg) then (if ((σ.2.2 30 (2 : Int32).toNatClampNeg)) ≤ ((σ.2.2 30 ((((64 + ((3 * ((L 2)))))) + 2)).toNatClampNeg)) then (x_giveBack k 2 L σ) else (ob (x_closeFor k 0 (fun _ => 0) σ) (fun r4 => x_giveBack k 1 L r4.2))) else none) else none
  | k + 1, 2, L, σ => x_giveBack k 3 (upd (upd L 5 ((σ.1 59))) 6 0) σ
  | k + 1, 3, L, σ => if ¬ (((L 4)) < 0 ∨ 41 ≤ ((L 4)).toNatClampNeg) then (if ((σ.2.2 18 ((L 4)).toNatClampNeg)) ≤ ((L 6)) then (x_giveBack k 4 L σ) else (if ¬ (((((214 + ((60 * ((L 2)))))) + ((L 6)))) < 0 ∨ 11514 ≤ ((((214 + ((60 * ((L 2)))))) + ((L 6)))).toNatClampNeg) then (ob (x_push k 0 (upd (fun _ => 0) 1 ((σ.2.2 30 ((((214 + ((60 * ((L 2)))))) + ((L 6)))).toNatClampNeg))) σ) (fun r4 => x_giveBack k 3 (upd L 6 (((L 6)) + 1)) r4.2)) else none)) else none
  | k + 1, 4, L, σ => ob (x_push k 0 (upd (fun _ => 0) 1 ((L 1))) σ) (fun r1 => x_giveBack k 5 (upd L 6 0) r1.2)
  | k + 1, 5, L, σ => if ¬ (((1 + ((L 4)))) < 0 ∨ 43 ≤ ((1 + ((L 4)))).toNatClampNeg) then (if ((σ.2.2 21 ((1 + ((L 4)))).toNatClampNeg)) ≤ ((L 6)) then (x_giveBack k 9 L σ) else (if ¬ (((((60 * ((1 + ((L 4)))))) + ((L 6)))) < 0 ∨ 2580 ≤ ((((60 * ((1 + ((L 4)))))) + ((L 6)))).toNatClampNeg) then (if ((σ.2.2 20 ((((60 * ((1 + ((L 4)))))) + ((L 6)))).toNatClampNeg)) = 0 then (x_giveBack k 6 (upd L 100 ((σ.1 64))) σ) else (if ¬ (((((214 + ((60 * ((L 2)))))) + ((L 6)))) < 0 ∨ 11514 ≤ ((((214 + ((60 * ((L 2)))))) + ((L 6)))).toNatClampNeg) then (ob (x_size k 0 (upd (fun _ => 0) 1 ((σ.2.2 30 ((((214 + ((60 * ((L 2)))))) + ((L 6)))).toNatClampNeg))) σ) (fun r6 => x_giveBack k 7 (upd (upd L 100 r6.1) 101 ((σ.1 64))) r6.2)) else none)) else none)) else none
  | k + 1, 6, L, σ => x_giveBack k 7 (upd (upd L 100 0) 101 ((L 100))) σ
  | k + 1, 7, L, σ => x_giveBack k 8 L (upd σ.1 64 ((((L 101)) - ((L 100)))), σ.2.1, σ.2.2)
  | k + 1, 8, L, σ => x_giveBack k 5 (upd L 6 (((L 6)) + 1)) σ
  | k + 1, 9, L, σ => if ¬ ((1 : Int32) < 0 ∨ 11514 ≤ (1 : Int32).toNatClampNeg) then (if ¬ ((1 : Int32) < 0 ∨ 11514 ≤ (1 : Int32).toNatClampNeg) then (x_giveBack k 10 L (σ.1, σ.2.1, updG σ.2.2 30 (upd (σ.2.2 30) (1 : Int32).toNatClampNeg ((((σ.2.2 30 (1 : Int32).toNatClampNeg)) - 1))))) else none) else none
  | k + 1, 10, L, σ => if ¬ (((L 3)) < 0 ∨ 70000 ≤ ((L 3)).toNatClampNeg) then (x_giveBack k 11 (upd (upd L 6 0) 7 ((σ.2.2 6 ((L 3)).toNatClampNeg))) σ) else none
  | k + 1, 11, L, σ => if ((L 7)) = ((-1)) then (x_giveBack k 13 L σ) else (if ((σ.1 56)) = 0 then (if ¬ (((((8 * ((L 4)))) + ((L 6)))) < 0 ∨ 328 ≤ ((((8 * ((L 4)))) + ((L 6)))).toNatClampNeg) then (if ((σ.2.2 19 ((((8 * ((L 4)))) + ((L 6)))).toNatClampNeg)) ≤ 0 then (x_giveBack k 12 L σ) else (ob (x_writeWorked k 0 (upd (upd (fun _ => 0) 1 ((L 7))) 2 ((((L 5)) + ((L 6))))) σ) (fun r5 => x_giveBack k 12 L r5.2))) else none) else (x_giveBack k 13 L σ))
  | k + 1, 12, L, σ => if ¬ (((L 7)) < 0 ∨ 70000 ≤ ((L 7)).toNatClampNeg) then (x_giveBack k 11 (upd (upd L 6 (((L 6)) + 1)) 7 ((σ.2.2 9 ((L 7)).toNatClampNeg))) σ) else none
  | k + 1, 13, L, σ => if ((σ.1 56)) = 0 then (if ¬ (((L 3)) < 0 ∨ 70000 ≤ ((L 3)).toNatClampNeg) then (if ((σ.2.2 5 ((L 3)).toNatClampNeg)) = ((-1)) then (x_giveBack k 14 L σ) else (if ¬ (((L 3)) < 0 ∨ 70000 ≤ ((L 3)).toNatClampNeg) then (if ¬ (((L 4)) < 0 ∨ 41 ≤ ((L 4)).toNatClampNeg) then (ob (x_writeWorked k 0 (upd (upd (fun _ => 0) 1 ((σ.2.2 5 ((L 3)).toNatClampNeg))) 2 ((((L 5)) + ((σ.2.2 18 ((L 4)).toNatClampNeg))))) σ) (fun r6 => x_giveBack k 14 L r6.2)) else none) else none)) else none) else (x_giveBack k 14 L σ)
  | k + 1, 14, L, σ => x_giveBack k 15 L (upd σ.1 59 ((L 5)), σ.2.1, σ.2.2)
  | k + 1, 15, L, σ => if ((σ.1 56)) = 0 then (x_giveBack k 17 (upd L 100 ((L 3))) σ) else (x_giveBack k 16 L σ)
  | k + 1, 16, L, σ => x_giveBack k 17 (upd L 100 ((-1))) σ
  | k + 1, 17, L, σ => some ((L 100), σ)
  | _ + 1, _ + 18, _, _ => none
def o_x_giveBack : List Cond := [.fieldLink RX12 395 "SetHouseModel" "st" "[I", .methodLink RX12 880 yX12_closeFor, .instanceMethod yX12_closeFor, .selects RX12 yX12_closeFor yX12_closeFor, .initialized RX12, .fieldLink RX12 385 "SetHouseModel" "top" "I", .fieldLink RX12 239 "SetHouseModel" "params" "[I", .methodLink RX12 594 yX12_push, .instanceMethod yX12_push, .selects RX12 yX12_push yX12_push, .fieldLink RX12 157 "SetHouseModel" "held" "[I", .fieldLink RX12 852 "SetHouseModel" "total" "I", .fieldLink RX12 160 "SetHouseModel" "counts" "[Z", .methodLink RX12 432 yX12_size, .instanceMethod yX12_size, .selects RX12 yX12_size yX12_size, .fieldLink RX12 89 "SetHouseModel" "x2" "[I", .fieldLink RX12 362 "SetHouseModel" "err" "I", .fieldLink RX12 330 "SetHouseModel" "modes" "[I", .methodLink RX12 898 yX12_writeWorked, .instanceMethod yX12_writeWorked, .selects RX12 yX12_writeWorked yX12_writeWorked, .fieldLink RX12 98 "SetHouseModel" "next" "[I", .fieldLink RX12 86 "SetHouseModel" "x1" "[I"]
theorem o_x_giveBack_good : o_x_giveBack.all goodWord = true := by decide +kernel
def p_x_giveBack : List Cond := o_x_giveBack ++ ((.code yX12_closeFor cX12_closeFor 4 none :: p_x_closeFor) ++ ((.code yX12_push cX12_push 2 none :: p_x_push) ++ ((.code yX12_size cX12_size 2 (some .int) :: p_x_size) ++ ((.code yX12_writeWorked cX12_writeWorked 4 none :: p_x_writeWorked) ++ []))))
theorem p_x_giveBack_good : p_x_giveBack.all goodWord = true := nb_all2 o_x_giveBack_good (nb_all2 (nb_allc (by decide +kernel) p_x_closeFor_good) (nb_all2 (nb_allc (by decide +kernel) p_x_push_good) (nb_all2 (nb_allc (by decide +kernel) p_x_size_good) (nb_all2 (nb_allc (by decide +kernel) p_x_writeWorked_good) rfl))))
def w_x_giveBack : List Cond := .code yX12_giveBack cX12_giveBack 8 (some .int) :: (p_x_giveBack ++ fM)
theorem w_x_giveBack_good : w_x_giveBack.all goodWord = true := nb_allc (by decide +kernel) (nb_all2 p_x_giveBack_good fM_good)
theorem in_x_giveBack : ∀ w ∈ wsX120, w ∈ w_x_giveBack := fun _ h => List.mem_cons_of_mem _ (List.mem_append_right _ h)
theorem hd_x_giveBack : yX12_giveBack.cls = RX12 ∧ yX12_giveBack.cls ≠ "java/lang/invoke/MethodHandle" ∧ yX12_giveBack.cls ≠ "java/lang/invoke/VarHandle" ∧ (parseMethodDescriptor yX12_giveBack.desc).map (fun d => d.parameters.length) = some 1 := by decide +kernel
theorem gg_x_giveBack_closeFor : GoodIn w_x_giveBack w_x_closeFor := goodIn_sub (fun w h => (List.mem_cons.mp h).elim (fun e => (List.mem_cons_of_mem _ (List.mem_append_left _ (List.mem_append_right _ (List.mem_append_left _ (List.mem_cons.mpr (Or.inl e))))))) (fun h => (List.mem_append.mp h).elim (fun h => (List.mem_cons_of_mem _ (List.mem_append_left _ (List.mem_append_right _ (List.mem_append_left _ (List.mem_cons_of_mem _ h)))))) (fun h => List.mem_cons_of_mem _ (List.mem_append_right _ h)))) w_x_closeFor_good
theorem g_x_giveBack_closeFor_880 : GoodIn w_x_giveBack (wsV RX12 880 RX12 yX12_closeFor w_x_closeFor) := goodIn_app (nb_g4 (List.mem_cons_of_mem _ (List.mem_append_left _ (List.mem_append_left _ (List.mem_of_getElem? (i := 1) rfl)))) (List.mem_cons_of_mem _ (List.mem_append_left _ (List.mem_append_left _ (List.mem_of_getElem? (i := 2) rfl)))) (List.mem_cons_of_mem _ (List.mem_append_left _ (List.mem_append_left _ (List.mem_of_getElem? (i := 3) rfl)))) (List.mem_cons_of_mem _ (List.mem_append_left _ (List.mem_append_left _ (List.mem_of_getElem? (i := 4) rfl)))) (by decide +kernel)) gg_x_giveBack_closeFor
theorem gg_x_giveBack_push : GoodIn w_x_giveBack w_x_push := goodIn_sub (fun w h => (List.mem_cons.mp h).elim (fun e => (List.mem_cons_of_mem _ (List.mem_append_left _ (List.mem_append_right _ (List.mem_append_right _ (List.mem_append_left _ (List.mem_cons.mpr (Or.inl e)))))))) (fun h => (List.mem_append.mp h).elim (fun h => (List.mem_cons_of_mem _ (List.mem_append_left _ (List.mem_append_right _ (List.mem_append_right _ (List.mem_append_left _ (List.mem_cons_of_mem _ h))))))) (fun h => List.mem_cons_of_mem _ (List.mem_append_right _ h)))) w_x_push_good
theorem g_x_giveBack_push_594 : GoodIn w_x_giveBack (wsV RX12 594 RX12 yX12_push w_x_push) := goodIn_app (nb_g4 (List.mem_cons_of_mem _ (List.mem_append_left _ (List.mem_append_left _ (List.mem_of_getElem? (i := 7) rfl)))) (List.mem_cons_of_mem _ (List.mem_append_left _ (List.mem_append_left _ (List.mem_of_getElem? (i := 8) rfl)))) (List.mem_cons_of_mem _ (List.mem_append_left _ (List.mem_append_left _ (List.mem_of_getElem? (i := 9) rfl)))) (List.mem_cons_of_mem _ (List.mem_append_left _ (List.mem_append_left _ (List.mem_of_getElem? (i := 4) rfl)))) (by decide +kernel)) gg_x_giveBack_push
theorem gg_x_giveBack_size : GoodIn w_x_giveBack w_x_size := goodIn_sub (fun w h => (List.mem_cons.mp h).elim (fun e => (List.mem_cons_of_mem _ (List.mem_append_left _ (List.mem_append_right _ (List.mem_append_right _ (List.mem_append_right _ (List.mem_append_left _ (List.mem_cons.mpr (Or.inl e))))))))) (fun h => (List.mem_append.mp h).elim (fun h => (List.mem_cons_of_mem _ (List.mem_append_left _ (List.mem_append_right _ (List.mem_append_right _ (List.mem_append_right _ (List.mem_append_left _ (List.mem_cons_of_mem _ h)))))))) (fun h => List.mem_cons_of_mem _ (List.mem_append_right _ h)))) w_x_size_good
theorem g_x_giveBack_size_432 : GoodIn w_x_giveBack (wsV RX12 432 RX12 yX12_size w_x_size) := goodIn_app (nb_g4 (List.mem_cons_of_mem _ (List.mem_append_left _ (List.mem_append_left _ (List.mem_of_getElem? (i := 13) rfl)))) (List.mem_cons_of_mem _ (List.mem_append_left _ (List.mem_append_left _ (List.mem_of_getElem? (i := 14) rfl)))) (List.mem_cons_of_mem _ (List.mem_append_left _ (List.mem_append_left _ (List.mem_of_getElem? (i := 15) rfl)))) (List.mem_cons_of_mem _ (List.mem_append_left _ (List.mem_append_left _ (List.mem_of_getElem? (i := 4) rfl)))) (by decide +kernel)) gg_x_giveBack_size
theorem gg_x_giveBack_writeWorked : GoodIn w_x_giveBack w_x_writeWorked := goodIn_sub (fun w h => (List.mem_cons.mp h).elim (fun e => (List.mem_cons_of_mem _ (List.mem_append_left _ (List.mem_append_right _ (List.mem_append_right _ (List.mem_append_right _ (List.mem_append_right _ (List.mem_append_left _ (List.mem_cons.mpr (Or.inl e)))))))))) (fun h => (List.mem_append.mp h).elim (fun h => (List.mem_cons_of_mem _ (List.mem_append_left _ (List.mem_append_right _ (List.mem_append_right _ (List.mem_append_right _ (List.mem_append_right _ (List.mem_append_left _ (List.mem_cons_of_mem _ h))))))))) (fun h => List.mem_cons_of_mem _ (List.mem_append_right _ h)))) w_x_writeWorked_good
theorem g_x_giveBack_writeWorked_898 : GoodIn w_x_giveBack (wsV RX12 898 RX12 yX12_writeWorked w_x_writeWorked) := goodIn_app (nb_g4 (List.mem_cons_of_mem _ (List.mem_append_left _ (List.mem_append_left _ (List.mem_of_getElem? (i := 19) rfl)))) (List.mem_cons_of_mem _ (List.mem_append_left _ (List.mem_append_left _ (List.mem_of_getElem? (i := 20) rfl)))) (List.mem_cons_of_mem _ (List.mem_append_left _ (List.mem_append_left _ (List.mem_of_getElem? (i := 21) rfl)))) (List.mem_cons_of_mem _ (List.mem_append_left _ (List.mem_append_left _ (List.mem_of_getElem? (i := 4) rfl)))) (by decide +kernel)) gg_x_giveBack_writeWorked
set_option maxHeartbeats 40000000 in
set_option maxRecDepth 100000 in
theorem c_x_giveBack (l : Launch) (dC : Nat → ClassId) (dI : Nat → Nat → Nat) (cy : Nat → ClassId) (a : Nat → Nat) (k0 : Nat) (L0 : Nat → Int32) (σ0 : MS) (r0 : Int32 × MS) (h0 : x_giveBack k0 0 L0 σ0 = some r0) (sz : Nat) : Met l yX12_giveBack w_x_giveBack ({ frames := 1360, cells := 0, slots := 0, locals := 36542 }) (va_Pc [.ref (a 0), .int (L0 1)] (nIn (dC, dI) cy sz (vM cy a σ0))) (va_Qi (fun (z : Int32) (_ : Unit) => z = r0.1) (fun _ t => nOut (dC, dI) cy (va_A (vM cy a σ0) sz) (vM cy a r0.2) t) (va_A (vM cy a σ0) sz)) 0 0 (va_A (vM cy a σ0) sz) := by
  refine Met.ofW (cc := cX12_giveBack) (maxL := 8) (ret := (some .int)) (by decide) rfl ?_
  intro p e s m args below meth c s₁ B hml hv
  obtain ⟨rfl, hsz, hP, hK, hD0, hG⟩ := hv
  have hx := B.exec
  have hb := B.bytes
  have hr := B.returns
  have hts := atoms_spec (ws := w_x_giveBack) B.pre
  have hown : s.vm.findClass RX12 = some m.cls := findClass_of_methodNamed B.named
  have hlocks := B.notSynchronized
  subst hsz
  have hD := hD0.self (sz := s.heap.size)
  generalize hAe : va_A (vM cy a σ0) s.heap.size = A at hD ⊢
  have hA : ∀ q : Nat, s.heap.size ≤ q → A q := fun q h => by rw [← hAe]; exact Or.inr h
  have hS : va_S A s.heap s.heap [] := va_S.rf
  have hl := lv_entry ([.ref (a 0), .int (L0 1)]) (n := 8) (Nat.le_of_ble_eq_true rfl)
  rw [lg_entry_eq]
  generalize (lg_sl ([.ref (a 0), .int (L0 1)]) ++ List.replicate (8 - (lg_sl ([.ref (a 0), .int (L0 1)])).length) Slot.unset).toArray = ls at hl ⊢
  have hl : lv_has ls 8 [(0, .ref (a 0)), (1, .int (L0 1))] := hl
  have blk : ∀ k : Nat, (bT p l e (headSpec w_x_giveBack ({ frames := 1360, cells := 0, slots := 0, locals := 36542 })).room s m #[.ref (a 0), .int (L0 1)] below meth c dC dI cy a A (qI dC dI cy a A below #[.ref (a 0), .int (L0 1)] s) 8 (x_giveBack k 0) (fun L => [(0, .ref (a 0)), (1, .int (L 1))]) 0 (fun L => [])) ∧ (bT p l e (headSpec w_x_giveBack ({ frames := 1360, cells := 0, slots := 0, locals := 36542 })).room s m #[.ref (a 0), .int (L0 1)] below meth c dC dI cy a A (qI dC dI cy a A below #[.ref (a 0), .int (L0 1)] s) 8 (x_giveBack k 1) (fun L => [(0, .ref (a 0)), (1, .int (L 1)), (2, .int (L 2)), (3, .int (L 3)), (4, .int (L 4))]) 36 (fun L => [])) ∧ (bT p l e (headSpec w_x_giveBack ({ frames := 1360, cells := 0, slots := 0, locals := 36542 })).room s m #[.ref (a 0), .int (L0 1)] below meth c dC dI cy a A (qI dC dI cy a A below #[.ref (a 0), .int (L0 1)] s) 8 (x_giveBack k 2) (fun L => [(0, .ref (a 0)), (1, .int (L 1)), (2, .int (L 2)), (3, .int (L 3)), (4, .int (L 4))]) 65 (fun L => [])) ∧ (bT p l e (headSpec w_x_giveBack ({ frames := 1360, cells := 0, slots := 0, locals := 36542 })).room s m #[.ref (a 0), .int (L0 1)] below meth c dC dI cy a A (qI dC dI cy a A below #[.ref (a 0), .int (L0 1)] s) 8 (x_giveBack k 3) (fun L => [(0, .ref (a 0)), (1, .int (L 1)), (2, .int (L 2)), (3, .int (L 3)), (4, .int (L 4)), (5, .int (L 5)), (6, .int (L 6))]) 74 (fun L => [])) ∧ (bT p l e (headSpec w_x_giveBack ({ frames := 1360, cells := 0, slots := 0, locals := 36542 })).room s m #[.ref (a 0), .int (L0 1)] below meth c dC dI cy a A (qI dC dI cy a A below #[.ref (a 0), .int (L0 1)] s) 8 (x_giveBack k 4) (fun L => [(0, .ref (a 0)), (1, .int (L 1)), (2, .int (L 2)), (3, .int (L 3)), (4, .int (L 4)), (5, .int (L 5)), (6, .int (L 6))]) 112 (fun L => [])) ∧ (bT p l e (headSpec w_x_giveBack ({ frames := 1360, cells := 0, slots := 0, locals := 36542 })).room s m #[.ref (a 0), .int (L0 1)] below meth c dC dI cy a A (qI dC dI cy a A below #[.ref (a 0), .int (L0 1)] s) 8 (x_giveBack k 5) (fun L => [(0, .ref (a 0)), (1, .int (L 1)), (2, .int (L 2)), (3, .int (L 3)), (4, .int (L 4)), (5, .int (L 5)), (6, .int (L 6))]) 120 (fun L => [])) ∧ (bT p l e (headSpec w_x_giveBack ({ frames := 1360, cells := 0, slots := 0, locals := 36542 })).room s m #[.ref (a 0), .int (L0 1)] below meth c dC dI cy a A (qI dC dI cy a A below #[.ref (a 0), .int (L0 1)] s) 8 (x_giveBack k 6) (fun L => [(0, .ref (a 0)), (1, .int (L 1)), (2, .int (L 2)), (3, .int (L 3)), (4, .int (L 4)), (5, .int (L 5)), (6, .int (L 6))]) 180 (fun L => [.int (L 100), .ref (a 0)])) ∧ (bT p l e (headSpec w_x_giveBack ({ frames := 1360, cells := 0, slots := 0, locals := 36542 })).room s m #[.ref (a 0), .int (L0 1)] below meth c dC dI cy a A (qI dC dI cy a A below #[.ref (a 0), .int (L0 1)] s) 8 (x_giveBack k 7) (fun L => [(0, .ref (a 0)), (1, .int (L 1)), (2, .int (L 2)), (3, .int (L 3)), (4, .int (L 4)), (5, .int (L 5)), (6, .int (L 6))]) 181 (fun L => [.int (L 100), .int (L 101), .ref (a 0)])) ∧ (bT p l e (headSpec w_x_giveBack ({ frames := 1360, cells := 0, slots := 0, locals := 36542 })).room s m #[.ref (a 0), .int (L0 1)] below meth c dC dI cy a A (qI dC dI cy a A below #[.ref (a 0), .int (L0 1)] s) 8 (x_giveBack k 8) (fun L => [(0, .ref (a 0)), (1, .int (L 1)), (2, .int (L 2)), (3, .int (L 3)), (4, .int (L 4)), (5, .int (L 5)), (6, .int (L 6))]) 185 (fun L => [])) ∧ (bT p l e (headSpec w_x_giveBack ({ frames := 1360, cells := 0, slots := 0, locals := 36542 })).room s m #[.ref (a 0), .int (L0 1)] below meth c dC dI cy a A (qI dC dI cy a A below #[.ref (a 0), .int (L0 1)] s) 8 (x_giveBack k 9) (fun L => [(0, .ref (a 0)), (1, .int (L 1)), (2, .int (L 2)), (3, .int (L 3)), (4, .int (L 4)), (5, .int (L 5)), (6, .int (L 6))]) 191 (fun L => [])) ∧ (bT p l e (headSpec w_x_giveBack ({ frames := 1360, cells := 0, slots := 0, locals := 36542 })).room s m #[.ref (a 0), .int (L0 1)] below meth c dC dI cy a A (qI dC dI cy a A below #[.ref (a 0), .int (L0 1)] s) 8 (x_giveBack k 10) (fun L => [(0, .ref (a 0)), (1, .int (L 1)), (2, .int (L 2)), (3, .int (L 3)), (4, .int (L 4)), (5, .int (L 5)), (6, .int (L 6))]) 201 (fun L => [])) ∧ (bT p l e (headSpec w_x_giveBack ({ frames := 1360, cells := 0, slots := 0, locals := 36542 })).room s m #[.ref (a 0), .int (L0 1)] below meth c dC dI cy a A (qI dC dI cy a A below #[.ref (a 0), .int (L0 1)] s) 8 (x_giveBack k 11) (fun L => [(0, .ref (a 0)), (1, .int (L 1)), (2, .int (L 2)), (3, .int (L 3)), (4, .int (L 4)), (5, .int (L 5)), (6, .int (L 6)), (7, .int (L 7))]) 212 (fun L => [])) ∧ (bT p l e (headSpec w_x_giveBack ({ frames := 1360, cells := 0, slots := 0, locals := 36542 })).room s m #[.ref (a 0), .int (L0 1)] below meth c dC dI cy a A (qI dC dI cy a A below #[.ref (a 0), .int (L0 1)] s) 8 (x_giveBack k 12) (fun L => [(0, .ref (a 0)), (1, .int (L 1)), (2, .int (L 2)), (3, .int (L 3)), (4, .int (L 4)), (5, .int (L 5)), (6, .int (L 6)), (7, .int (L 7))]) 252 (fun L => [])) ∧ (bT p l e (headSpec w_x_giveBack ({ frames := 1360, cells := 0, slots := 0, locals := 36542 })).room s m #[.ref (a 0), .int (L0 1)] below meth c dC dI cy a A (qI dC dI cy a A below #[.ref (a 0), .int (L0 1)] s) 8 (x_giveBack k 13) (fun L => [(0, .ref (a 0)), (1, .int (L 1)), (2, .int (L 2)), (3, .int (L 3)), (4, .int (L 4)), (5, .int (L 5)), (6, .int (L 6)), (7, .int (L 7))]) 267 (fun L => [])) ∧ (bT p l e (headSpec w_x_giveBack ({ frames := 1360, cells := 0, slots := 0, locals := 36542 })).room s m #[.ref (a 0), .int (L0 1)] below meth c dC dI cy a A (qI dC dI cy a A below #[.ref (a 0), .int (L0 1)] s) 8 (x_giveBack k 14) (fun L => [(0, .ref (a 0)), (1, .int (L 1)), (2, .int (L 2)), (3, .int (L 3)), (4, .int (L 4)), (5, .int (L 5)), (6, .int (L 6)), (7, .int (L 7))]) 304 (fun L => [])) ∧ (bT p l e (headSpec w_x_giveBack ({ frames := 1360, cells := 0, slots := 0, locals := 36542 })).room s m #[.ref (a 0), .int (L0 1)] below meth c dC dI cy a A (qI dC dI cy a A below #[.ref (a 0), .int (L0 1)] s) 8 (x_giveBack k 15) (fun L => [(0, .ref (a 0)), (1, .int (L 1)), (2, .int (L 2)), (3, .int (L 3)), (4, .int (L 4)), (5, .int (L 5)), (6, .int (L 6)), (7, .int (L 7))]) 310 (fun L => [])) ∧ (bT p l e (headSpec w_x_giveBack ({ frames := 1360, cells := 0, slots := 0, locals := 36542 })).room s m #[.ref (a 0), .int (L0 1)] below meth c dC dI cy a A (qI dC dI cy a A below #[.ref (a 0), .int (L0 1)] s) 8 (x_giveBack k 16) (fun L => [(0, .ref (a 0)), (1, .int (L 1)), (2, .int (L 2)), (3, .int (L 3)), (4, .int (L 4)), (5, .int (L 5)), (6, .int (L 6)), (7, .int (L 7))]) 321 (fun L => [])) ∧ (bT p l e (headSpec w_x_giveBack ({ frames := 1360, cells := 0, slots := 0, locals := 36542 })).room s m #[.ref (a 0), .int (L0 1)] below meth c dC dI cy a A (qI dC dI cy a A below #[.ref (a 0), .int (L0 1)] s) 8 (x_giveBack k 17) (fun L => [(0, .ref (a 0)), (1, .int (L 1)), (2, .int (L 2)), (3, .int (L 3)), (4, .int (L 4)), (5, .int (L 5)), (6, .int (L 6)), (7, .int (L 7))]) 322 (fun L => [.int (L 100)])) := by
    intro k
    induction k with
    | zero => exact ⟨fun L σ r h => (by cases h), fun L σ r h => (by cases h), fun L σ r h => (by cases h), fun L σ r h => (by cases h), fun L σ r h => (by cases h), fun L σ r h => (by cases h), fun L σ r h => (by cases h), fun L σ r h => (by cases h), fun L σ r h => (by cases h), fun L σ r h => (by cases h), fun L σ r h => (by cases h), fun L σ r h => (by cases h), fun L σ r h => (by cases h), fun L σ r h => (by cases h), fun L σ r h => (by cases h), fun L σ r h => (by cases h), fun L σ r h => (by cases h), fun L σ r h => (by cases h)⟩
    | succ k ih =>
      refine ⟨?_, ?_, ?_, ?_, ?_, ?_, ?_, ?_, ?_, ?_, ?_, ?_, ?_, ?_, ?_, ?_, ?_, ?_⟩
      · intro L σ r h H locs ls hP hD hS hl
        rw [x_giveBack] at h
        refine lv_aload_n hx hb dX12_giveBack_0 rfl (lv_at hl 0 rfl) ?_
        refine ng_60 hx hb hts in_x_giveBack hown hK hP (hts _ (List.mem_cons_of_mem _ (List.mem_append_left _ (List.mem_append_left _ (List.mem_of_getElem? (i := 0) rfl))))) dX12_giveBack_1 ?_
        refine lv_iconst (v := 1) hx hb dX12_giveBack_4 (by decide) ?_
        obtain ⟨q1, h⟩ := nb_ite1 h
        refine nl_30 hx hb hK hP q1 dX12_giveBack_5 ?_
        refine lv_iconst (v := 1) hx hb dX12_giveBack_6 (by decide) ?_
        refine lv_isub hx hb dX12_giveBack_7 ?_
        refine lv_istore_n (lv' := [(2, .int (((σ.2.2 30 (1 : Int32).toNatClampNeg)) - 1)), (0, .ref (a 0)), (1, .int (L 1))]) hx hb dX12_giveBack_8 rfl hl (by decide) rfl (fun ls hl => ?_)
        refine lv_aload_n hx hb dX12_giveBack_9 rfl (lv_at hl 1 rfl) ?_
        refine ng_60 hx hb hts in_x_giveBack hown hK hP (hts _ (List.mem_cons_of_mem _ (List.mem_append_left _ (List.mem_append_left _ (List.mem_of_getElem? (i := 0) rfl))))) dX12_giveBack_10 ?_
        refine lv_bipush (v := 64) hx hb dX12_giveBack_13 (by decide) ?_
        refine lv_iconst (v := 3) hx hb dX12_giveBack_15 (by decide) ?_
        refine lv_iload_n hx hb dX12_giveBack_16 rfl (lv_at hl 0 rfl) ?_
        refine lv_imul hx hb dX12_giveBack_17 ?_
        refine lv_iadd hx hb dX12_giveBack_18 ?_
        obtain ⟨q2, h⟩ := nb_ite1 h
        refine nl_30 hx hb hK hP q2 dX12_giveBack_19 ?_
        refine lv_istore_n (lv' := [(3, .int (σ.2.2 30 ((64 + ((3 * ((((σ.2.2 30 (1 : Int32).toNatClampNeg)) - 1)))))).toNatClampNeg)), (2, .int (((σ.2.2 30 (1 : Int32).toNatClampNeg)) - 1)), (0, .ref (a 0)), (1, .int (L 1))]) hx hb dX12_giveBack_20 rfl hl (by decide) rfl (fun ls hl => ?_)
        refine lv_aload_n hx hb dX12_giveBack_21 rfl (lv_at hl 2 rfl) ?_
        refine ng_60 hx hb hts in_x_giveBack hown hK hP (hts _ (List.mem_cons_of_mem _ (List.mem_append_left _ (List.mem_append_left _ (List.mem_of_getElem? (i := 0) rfl))))) dX12_giveBack_22 ?_
        refine lv_bipush (v := 64) hx hb dX12_giveBack_25 (by decide) ?_
        refine lv_iconst (v := 3) hx hb dX12_giveBack_27 (by decide) ?_
        refine lv_iload_n hx hb dX12_giveBack_28 rfl (lv_at hl 1 rfl) ?_
        refine lv_imul hx hb dX12_giveBack_29 ?_
        refine lv_iadd hx hb dX12_giveBack_30 ?_
        refine lv_iconst (v := 1) hx hb dX12_giveBack_31 (by decide) ?_
        refine lv_iadd hx hb dX12_giveBack_32 ?_
        obtain ⟨q3, h⟩ := nb_ite1 h
        refine nl_30 hx hb hK hP q3 dX12_giveBack_33 ?_
        refine lv_istore (lv' := [(4, .int (σ.2.2 30 ((((64 + ((3 * ((((σ.2.2 30 (1 : Int32).toNatClampNeg)) - 1)))))) + 1)).toNatClampNeg)), (3, .int (σ.2.2 30 ((64 + ((3 * ((((σ.2.2 30 (1 : Int32).toNatClampNeg)) - 1)))))).toNatClampNeg)), (2, .int (((σ.2.2 30 (1 : Int32).toNatClampNeg)) - 1)), (0, .ref (a 0)), (1, .int (L 1))]) hx hb dX12_giveBack_34 hl (by decide) rfl (fun ls hl => ?_)
        exact ih.2.1 (upd (upd (upd L 2 ((((σ.2.2 30 (1 : Int32).toNatClampNeg)) - 1))) 3 ((σ.2.2 30 ((64 + ((3 * ((((σ.2.2 30 (1 : Int32).toNatClampNeg)) - 1)))))).toNatClampNeg))) 4 ((σ.2.2 30 ((((64 + ((3 * ((((σ.2.2 30 (1 : Int32).toNatClampNeg)) - 1)))))) + 1)).toNatClampNeg))) σ r h H locs ls hP hD hS (lv_sub hl [3, 4, 2, 1, 0] rfl)
      · intro L σ r h H locs ls hP hD hS hl
        rw [x_giveBack] at h
        refine lv_aload_n hx hb dX12_giveBack_36 rfl (lv_at hl 0 rfl) ?_
        refine ng_60 hx hb hts in_x_giveBack hown hK hP (hts _ (List.mem_cons_of_mem _ (List.mem_append_left _ (List.mem_append_left _ (List.mem_of_getElem? (i := 0) rfl))))) dX12_giveBack_37 ?_
        refine lv_iconst (v := 2) hx hb dX12_giveBack_40 (by decide) ?_
        obtain ⟨q1, h⟩ := nb_ite1 h
        refine nl_30 hx hb hK hP q1 dX12_giveBack_41 ?_
        refine lv_aload_n hx hb dX12_giveBack_42 rfl (lv_at hl 0 rfl) ?_
        refine ng_60 hx hb hts in_x_giveBack hown hK hP (hts _ (List.mem_cons_of_mem _ (List.mem_append_left _ (List.mem_append_left _ (List.mem_of_getElem? (i := 0) rfl))))) dX12_giveBack_43 ?_
        refine lv_bipush (v := 64) hx hb dX12_giveBack_46 (by decide) ?_
        refine lv_iconst (v := 3) hx hb dX12_giveBack_48 (by decide) ?_
        refine lv_iload_n hx hb dX12_giveBack_49 rfl (lv_at hl 2 rfl) ?_
        refine lv_imul hx hb dX12_giveBack_50 ?_
        refine lv_iadd hx hb dX12_giveBack_51 ?_
        refine lv_iconst (v := 2) hx hb dX12_giveBack_52 (by decide) ?_
        refine lv_iadd hx hb dX12_giveBack_53 ?_
        obtain ⟨q2, h⟩ := nb_ite1 h
        refine nl_30 hx hb hK hP q2 dX12_giveBack_54 ?_
        refine lv_icmp_le (tgt := 65) hx hb dX12_giveBack_55 (by decide) (fun c3 => ?_) (fun c3 => ?_)
        · rw [if_pos c3] at h
          exact ih.2.2.1 L σ r h H locs ls hP hD hS (lv_sub hl [0, 1, 2, 3, 4] rfl)
        · rw [if_neg c3] at h
          refine lv_aload_n hx hb dX12_giveBack_58 rfl (lv_at hl 0 rfl) ?_
          obtain ⟨r4, hc4, h⟩ := ob_ex h
          refine nc_Vv (As := []) (rest := []) ⟨hx, hb, hml, hown, hts⟩ (c_x_closeFor l dC dI cy a k (fun _ => 0) σ r4 hc4 H.size) (cwV 0 hts g_x_giveBack_closeFor_880 rfl rfl rfl hd_x_closeFor ⟨Nat.le_of_ble_eq_true rfl, Nat.le_of_ble_eq_true rfl⟩) hK hG hA hP hD hS rfl hl.1 rfl (Nat.le_of_ble_eq_true rfl) dX12_giveBack_59 ⟨Nat.le_refl _, Nat.le_refl _⟩ (fun H locs hP hD hS => ?_)
          refine lv_goto (tgt := 36) hx hb dX12_giveBack_62 (by decide) ?_
          exact ih.2.1 L r4.2 r h H locs ls hP hD hS (lv_sub hl [0, 1, 2, 3, 4] rfl)
      · intro L σ r h H locs ls hP hD hS hl
        rw [x_giveBack] at h
        refine lv_aload_n hx hb dX12_giveBack_65 rfl (lv_at hl 0 rfl) ?_
        refine ng_59 hx hb hts in_x_giveBack hown hK hP (hts _ (List.mem_cons_of_mem _ (List.mem_append_left _ (List.mem_append_left _ (List.mem_of_getElem? (i := 5) rfl))))) dX12_giveBack_66 ?_
        refine lv_istore (lv' := [(5, .int (σ.1 59)), (0, .ref (a 0)), (1, .int (L 1)), (2, .int (L 2)), (3, .int (L 3)), (4, .int (L 4))]) hx hb dX12_giveBack_69 hl (by decide) rfl (fun ls hl => ?_)
        refine lv_iconst (v := 0) hx hb dX12_giveBack_71 (by decide) ?_
        refine lv_istore (lv' := [(6, .int 0), (5, .int (σ.1 59)), (0, .ref (a 0)), (1, .int (L 1)), (2, .int (L 2)), (3, .int (L 3)), (4, .int (L 4))]) hx hb dX12_giveBack_72 hl (by decide) rfl (fun ls hl => ?_)
        exact ih.2.2.2.1 (upd (upd L 5 ((σ.1 59))) 6 0) σ r h H locs ls hP hD hS (lv_sub hl [2, 3, 4, 5, 6, 1, 0] rfl)
      · intro L σ r h H locs ls hP hD hS hl
        rw [x_giveBack] at h
        refine lv_iload hx hb dX12_giveBack_74 (lv_at hl 6 rfl) ?_
        refine lv_aload_n hx hb dX12_giveBack_76 rfl (lv_at hl 0 rfl) ?_
        refine ng_33 hx hb hts in_x_giveBack hown hK hP (hts _ (List.mem_cons_of_mem _ (List.mem_append_left _ (List.mem_append_left _ (List.mem_of_getElem? (i := 6) rfl))))) dX12_giveBack_77 ?_
        refine lv_iload hx hb dX12_giveBack_80 (lv_at hl 4 rfl) ?_
        obtain ⟨q1, h⟩ := nb_ite1 h
        refine nl_18 hx hb hK hP q1 dX12_giveBack_82 ?_
        refine lv_icmp_ge (tgt := 112) hx hb dX12_giveBack_83 (by decide) (fun c2 => ?_) (fun c2 => ?_)
        · rw [if_pos c2] at h
          exact ih.2.2.2.2.1 L σ r h H locs ls hP hD hS (lv_sub hl [0, 1, 2, 3, 4, 5, 6] rfl)
        · rw [if_neg c2] at h
          refine lv_aload_n hx hb dX12_giveBack_86 rfl (lv_at hl 0 rfl) ?_
          refine lv_aload_n hx hb dX12_giveBack_87 rfl (lv_at hl 0 rfl) ?_
          refine ng_60 hx hb hts in_x_giveBack hown hK hP (hts _ (List.mem_cons_of_mem _ (List.mem_append_left _ (List.mem_append_left _ (List.mem_of_getElem? (i := 0) rfl))))) dX12_giveBack_88 ?_
          refine lv_sipush (v := 214) hx hb dX12_giveBack_91 (by decide) ?_
          refine lv_bipush (v := 60) hx hb dX12_giveBack_94 (by decide) ?_
          refine lv_iload_n hx hb dX12_giveBack_96 rfl (lv_at hl 2 rfl) ?_
          refine lv_imul hx hb dX12_giveBack_97 ?_
          refine lv_iadd hx hb dX12_giveBack_98 ?_
          refine lv_iload hx hb dX12_giveBack_99 (lv_at hl 6 rfl) ?_
          refine lv_iadd hx hb dX12_giveBack_101 ?_
          obtain ⟨q3, h⟩ := nb_ite1 h
          refine nl_30 hx hb hK hP q3 dX12_giveBack_102 ?_
          obtain ⟨r4, hc4, h⟩ := ob_ex h
          refine nc_Vv (As := [.int (σ.2.2 30 ((((214 + ((60 * ((L 2)))))) + ((L 6)))).toNatClampNeg)]) (rest := []) ⟨hx, hb, hml, hown, hts⟩ (c_x_push l dC dI cy a k (upd (fun _ => 0) 1 ((σ.2.2 30 ((((214 + ((60 * ((L 2)))))) + ((L 6)))).toNatClampNeg))) σ r4 hc4 H.size) (cwV 1 hts g_x_giveBack_push_594 rfl rfl rfl hd_x_push ⟨Nat.le_of_ble_eq_true rfl, Nat.le_of_ble_eq_true rfl⟩) hK hG hA hP hD hS rfl hl.1 rfl (Nat.le_of_ble_eq_true rfl) dX12_giveBack_103 ⟨Nat.le_refl _, Nat.le_refl _⟩ (fun H locs hP hD hS => ?_)
          refine lv_iinc (v := ((L 6)) + 1) (lv' := [(6, .int (((L 6)) + 1)), (0, .ref (a 0)), (1, .int (L 1)), (2, .int (L 2)), (3, .int (L 3)), (4, .int (L 4)), (5, .int (L 5))]) hx hb dX12_giveBack_106 hl (k := 6) rfl rfl (by decide) rfl (fun ls hl => ?_)
          refine lv_goto (tgt := 74) hx hb dX12_giveBack_109 (by decide) ?_
          exact ih.2.2.2.1 (upd L 6 (((L 6)) + 1)) r4.2 r h H locs ls hP hD hS (lv_sub hl [1, 2, 3, 4, 5, 6, 0] rfl)
      · intro L σ r h H locs ls hP hD hS hl
        rw [x_giveBack] at h
        refine lv_aload_n hx hb dX12_giveBack_112 rfl (lv_at hl 0 rfl) ?_
        refine lv_iload_n hx hb dX12_giveBack_113 rfl (lv_at hl 1 rfl) ?_
        obtain ⟨r1, hc1, h⟩ := ob_ex h
        refine nc_Vv (As := [.int (L 1)]) (rest := []) ⟨hx, hb, hml, hown, hts⟩ (c_x_push l dC dI cy a k (upd (fun _ => 0) 1 ((L 1))) σ r1 hc1 H.size) (cwV 1 hts g_x_giveBack_push_594 rfl rfl rfl hd_x_push ⟨Nat.le_of_ble_eq_true rfl, Nat.le_of_ble_eq_true rfl⟩) hK hG hA hP hD hS rfl hl.1 rfl (Nat.le_of_ble_eq_true rfl) dX12_giveBack_114 ⟨Nat.le_refl _, Nat.le_refl _⟩ (fun H locs hP hD hS => ?_)
        refine lv_iconst (v := 0) hx hb dX12_giveBack_117 (by decide) ?_
        refine lv_istore (lv' := [(6, .int 0), (0, .ref (a 0)), (1, .int (L 1)), (2, .int (L 2)), (3, .int (L 3)), (4, .int (L 4)), (5, .int (L 5))]) hx hb dX12_giveBack_118 hl (by decide) rfl (fun ls hl => ?_)
        exact ih.2.2.2.2.2.1 (upd L 6 0) r1.2 r h H locs ls hP hD hS (lv_sub hl [1, 2, 3, 4, 5, 6, 0] rfl)
      · intro L σ r h H locs ls hP hD hS hl
        rw [x_giveBack] at h
        refine lv_iload hx hb dX12_giveBack_120 (lv_at hl 6 rfl) ?_
        refine lv_aload_n hx hb dX12_giveBack_122 rfl (lv_at hl 0 rfl) ?_
        refine ng_36 hx hb hts in_x_giveBack hown hK hP (hts _ (List.mem_cons_of_mem _ (List.mem_append_left _ (List.mem_append_left _ (List.mem_of_getElem? (i := 10) rfl))))) dX12_giveBack_123 ?_
        refine lv_iconst (v := 1) hx hb dX12_giveBack_126 (by decide) ?_
        refine lv_iload hx hb dX12_giveBack_127 (lv_at hl 4 rfl) ?_
        refine lv_iadd hx hb dX12_giveBack_129 ?_
        obtain ⟨q1, h⟩ := nb_ite1 h
        refine nl_21 hx hb hK hP q1 dX12_giveBack_130 ?_
        refine lv_icmp_ge (tgt := 191) hx hb dX12_giveBack_131 (by decide) (fun c2 => ?_) (fun c2 => ?_)
        · rw [if_pos c2] at h
          exact ih.2.2.2.2.2.2.2.2.2.1 L σ r h H locs ls hP hD hS (lv_sub hl [0, 1, 2, 3, 4, 5, 6] rfl)
        · rw [if_neg c2] at h
          refine lv_aload_n hx hb dX12_giveBack_134 rfl (lv_at hl 0 rfl) ?_
          refine lv_dup hx hb dX12_giveBack_135 rfl ?_
          refine ng_64 hx hb hts in_x_giveBack hown hK hP (hts _ (List.mem_cons_of_mem _ (List.mem_append_left _ (List.mem_append_left _ (List.mem_of_getElem? (i := 11) rfl))))) dX12_giveBack_136 ?_
          refine lv_aload_n hx hb dX12_giveBack_139 rfl (lv_at hl 0 rfl) ?_
          refine ng_35 hx hb hts in_x_giveBack hown hK hP (hts _ (List.mem_cons_of_mem _ (List.mem_append_left _ (List.mem_append_left _ (List.mem_of_getElem? (i := 12) rfl))))) dX12_giveBack_140 ?_
          refine lv_bipush (v := 60) hx hb dX12_giveBack_143 (by decide) ?_
          refine lv_iconst (v := 1) hx hb dX12_giveBack_145 (by decide) ?_
          refine lv_iload hx hb dX12_giveBack_146 (lv_at hl 4 rfl) ?_
          refine lv_iadd hx hb dX12_giveBack_148 ?_
          refine lv_imul hx hb dX12_giveBack_149 ?_
          refine lv_iload hx hb dX12_giveBack_150 (lv_at hl 6 rfl) ?_
          refine lv_iadd hx hb dX12_giveBack_152 ?_
          obtain ⟨q3, h⟩ := nb_ite1 h
          refine nl_20 hx hb hK hP q3 dX12_giveBack_153 ?_
          refine lv_if_eq (tgt := 180) hx hb dX12_giveBack_154 (by decide) (fun c4 => ?_) (fun c4 => ?_)
          · rw [if_pos c4] at h
            exact ih.2.2.2.2.2.2.1 (upd L 100 ((σ.1 64))) σ r h H locs ls hP hD hS (lv_sub hl [0, 1, 2, 3, 4, 5, 6] rfl)
          · rw [if_neg c4] at h
            refine lv_aload_n hx hb dX12_giveBack_157 rfl (lv_at hl 0 rfl) ?_
            refine lv_aload_n hx hb dX12_giveBack_158 rfl (lv_at hl 0 rfl) ?_
            refine ng_60 hx hb hts in_x_giveBack hown hK hP (hts _ (List.mem_cons_of_mem _ (List.mem_append_left _ (List.mem_append_left _ (List.mem_of_getElem? (i := 0) rfl))))) dX12_giveBack_159 ?_
            refine lv_sipush (v := 214) hx hb dX12_giveBack_162 (by decide) ?_
            refine lv_bipush (v := 60) hx hb dX12_giveBack_165 (by decide) ?_
            refine lv_iload_n hx hb dX12_giveBack_167 rfl (lv_at hl 2 rfl) ?_
            refine lv_imul hx hb dX12_giveBack_168 ?_
            refine lv_iadd hx hb dX12_giveBack_169 ?_
            refine lv_iload hx hb dX12_giveBack_170 (lv_at hl 6 rfl) ?_
            refine lv_iadd hx hb dX12_giveBack_172 ?_
            obtain ⟨q5, h⟩ := nb_ite1 h
            refine nl_30 hx hb hK hP q5 dX12_giveBack_173 ?_
            obtain ⟨r6, hc6, h⟩ := ob_ex h
            refine nc_Vi (As := [.int (σ.2.2 30 ((((214 + ((60 * ((L 2)))))) + ((L 6)))).toNatClampNeg)]) (rest := [.int (σ.1 64), .ref (a 0)]) ⟨hx, hb, hml, hown, hts⟩ (c_x_size l dC dI cy a k (upd (fun _ => 0) 1 ((σ.2.2 30 ((((214 + ((60 * ((L 2)))))) + ((L 6)))).toNatClampNeg))) σ r6 hc6 H.size) (cwV 1 hts g_x_giveBack_size_432 rfl rfl rfl hd_x_size ⟨Nat.le_of_ble_eq_true rfl, Nat.le_of_ble_eq_true rfl⟩) hK hG hA hP hD hS rfl hl.1 rfl (Nat.le_of_ble_eq_true rfl) dX12_giveBack_174 ⟨Nat.le_refl _, Nat.le_refl _⟩ (fun H locs hP hD hS => ?_)
            refine lv_goto (tgt := 181) hx hb dX12_giveBack_177 (by decide) ?_
            exact ih.2.2.2.2.2.2.2.1 (upd (upd L 100 r6.1) 101 ((σ.1 64))) r6.2 r h H locs ls hP hD hS (lv_sub hl [0, 1, 2, 3, 4, 5, 6] rfl)
      · intro L σ r h H locs ls hP hD hS hl
        rw [x_giveBack] at h
        refine lv_iconst (v := 0) hx hb dX12_giveBack_180 (by decide) ?_
        exact ih.2.2.2.2.2.2.2.1 (upd (upd L 100 0) 101 ((L 100))) σ r h H locs ls hP hD hS (lv_sub hl [0, 1, 2, 3, 4, 5, 6] rfl)
      · intro L σ r h H locs ls hP hD hS hl
        rw [x_giveBack] at h
        refine lv_isub hx hb dX12_giveBack_181 ?_
        refine np_64 hx hb hts in_x_giveBack hown hK hP hD hS (hts _ (List.mem_cons_of_mem _ (List.mem_append_left _ (List.mem_append_left _ (List.mem_of_getElem? (i := 11) rfl))))) dX12_giveBack_182 (fun H locs hP hD hS => ?_)
        exact ih.2.2.2.2.2.2.2.2.1 L (upd σ.1 64 ((((L 101)) - ((L 100)))), σ.2.1, σ.2.2) r h H locs ls hP hD hS (lv_sub hl [0, 1, 2, 3, 4, 5, 6] rfl)
      · intro L σ r h H locs ls hP hD hS hl
        rw [x_giveBack] at h
        refine lv_iinc (v := ((L 6)) + 1) (lv' := [(6, .int (((L 6)) + 1)), (0, .ref (a 0)), (1, .int (L 1)), (2, .int (L 2)), (3, .int (L 3)), (4, .int (L 4)), (5, .int (L 5))]) hx hb dX12_giveBack_185 hl (k := 6) rfl rfl (by decide) rfl (fun ls hl => ?_)
        refine lv_goto (tgt := 120) hx hb dX12_giveBack_188 (by decide) ?_
        exact ih.2.2.2.2.2.1 (upd L 6 (((L 6)) + 1)) σ r h H locs ls hP hD hS (lv_sub hl [1, 2, 3, 4, 5, 6, 0] rfl)
      · intro L σ r h H locs ls hP hD hS hl
        rw [x_giveBack] at h
        refine lv_aload_n hx hb dX12_giveBack_191 rfl (lv_at hl 0 rfl) ?_
        refine ng_60 hx hb hts in_x_giveBack hown hK hP (hts _ (List.mem_cons_of_mem _ (List.mem_append_left _ (List.mem_append_left _ (List.mem_of_getElem? (i := 0) rfl))))) dX12_giveBack_192 ?_
        refine lv_iconst (v := 1) hx hb dX12_giveBack_195 (by decide) ?_
        refine lv_dup2_11 hx hb dX12_giveBack_196 rfl rfl ?_
        obtain ⟨q1, h⟩ := nb_ite1 h
        refine nl_30 hx hb hK hP q1 dX12_giveBack_197 ?_
        refine lv_iconst (v := 1) hx hb dX12_giveBack_198 (by decide) ?_
        refine lv_isub hx hb dX12_giveBack_199 ?_
        obtain ⟨q2, h⟩ := nb_ite1 h
        refine ns_30 hx hb hK hP hD hS q2 dX12_giveBack_200 (fun H locs hP hD hS => ?_)
        exact ih.2.2.2.2.2.2.2.2.2.2.1 L (σ.1, σ.2.1, updG σ.2.2 30 (upd (σ.2.2 30) (1 : Int32).toNatClampNeg ((((σ.2.2 30 (1 : Int32).toNatClampNeg)) - 1)))) r h H locs ls hP hD hS (lv_sub hl [0, 1, 2, 3, 4, 5, 6] rfl)
      · intro L σ r h H locs ls hP hD hS hl
        rw [x_giveBack] at h
        refine lv_iconst (v := 0) hx hb dX12_giveBack_201 (by decide) ?_
        refine lv_istore (lv' := [(6, .int 0), (0, .ref (a 0)), (1, .int (L 1)), (2, .int (L 2)), (3, .int (L 3)), (4, .int (L 4)), (5, .int (L 5))]) hx hb dX12_giveBack_202 hl (by decide) rfl (fun ls hl => ?_)
        refine lv_aload_n hx hb dX12_giveBack_204 rfl (lv_at hl 1 rfl) ?_
        refine ng_16 hx hb hts in_x_giveBack hown hK hP (hts _ (List.mem_cons_of_mem _ (List.mem_append_left _ (List.mem_append_left _ (List.mem_of_getElem? (i := 16) rfl))))) dX12_giveBack_205 ?_
        refine lv_iload_n hx hb dX12_giveBack_208 rfl (lv_at hl 4 rfl) ?_
        obtain ⟨q1, h⟩ := nb_ite1 h
        refine nl_6 hx hb hK hP q1 dX12_giveBack_209 ?_
        refine lv_istore (lv' := [(7, .int (σ.2.2 6 ((L 3)).toNatClampNeg)), (6, .int 0), (0, .ref (a 0)), (1, .int (L 1)), (2, .int (L 2)), (3, .int (L 3)), (4, .int (L 4)), (5, .int (L 5))]) hx hb dX12_giveBack_210 hl (by decide) rfl (fun ls hl => ?_)
        exact ih.2.2.2.2.2.2.2.2.2.2.2.1 (upd (upd L 6 0) 7 ((σ.2.2 6 ((L 3)).toNatClampNeg))) σ r h H locs ls hP hD hS (lv_sub hl [2, 3, 4, 5, 6, 7, 1, 0] rfl)
      · intro L σ r h H locs ls hP hD hS hl
        rw [x_giveBack] at h
        refine lv_iload hx hb dX12_giveBack_212 (lv_at hl 7 rfl) ?_
        refine lv_iconst (v := (-1)) hx hb dX12_giveBack_214 (by decide) ?_
        refine lv_icmp_eq (tgt := 267) hx hb dX12_giveBack_215 (by decide) (fun c1 => ?_) (fun c1 => ?_)
        · rw [if_pos c1] at h
          exact ih.2.2.2.2.2.2.2.2.2.2.2.2.2.1 L σ r h H locs ls hP hD hS (lv_sub hl [0, 1, 2, 3, 4, 5, 6, 7] rfl)
        · rw [if_neg c1] at h
          refine lv_aload_n hx hb dX12_giveBack_218 rfl (lv_at hl 0 rfl) ?_
          refine ng_56 hx hb hts in_x_giveBack hown hK hP (hts _ (List.mem_cons_of_mem _ (List.mem_append_left _ (List.mem_append_left _ (List.mem_of_getElem? (i := 17) rfl))))) dX12_giveBack_219 ?_
          refine lv_if_ne (tgt := 267) hx hb dX12_giveBack_222 (by decide) (fun c2 => ?_) (fun c2 => ?_)
          · rw [if_neg c2] at h
            exact ih.2.2.2.2.2.2.2.2.2.2.2.2.2.1 L σ r h H locs ls hP hD hS (lv_sub hl [0, 1, 2, 3, 4, 5, 6, 7] rfl)
          · rw [if_pos c2] at h
            refine lv_aload_n hx hb dX12_giveBack_225 rfl (lv_at hl 0 rfl) ?_
            refine ng_34 hx hb hts in_x_giveBack hown hK hP (hts _ (List.mem_cons_of_mem _ (List.mem_append_left _ (List.mem_append_left _ (List.mem_of_getElem? (i := 18) rfl))))) dX12_giveBack_226 ?_
            refine lv_bipush (v := 8) hx hb dX12_giveBack_229 (by decide) ?_
            refine lv_iload hx hb dX12_giveBack_231 (lv_at hl 4 rfl) ?_
            refine lv_imul hx hb dX12_giveBack_233 ?_
            refine lv_iload hx hb dX12_giveBack_234 (lv_at hl 6 rfl) ?_
            refine lv_iadd hx hb dX12_giveBack_236 ?_
            obtain ⟨q3, h⟩ := nb_ite1 h
            refine nl_19 hx hb hK hP q3 dX12_giveBack_237 ?_
            refine lv_if_le (tgt := 252) hx hb dX12_giveBack_238 (by decide) (fun c4 => ?_) (fun c4 => ?_)
            · rw [if_pos c4] at h
              exact ih.2.2.2.2.2.2.2.2.2.2.2.2.1 L σ r h H locs ls hP hD hS (lv_sub hl [0, 1, 2, 3, 4, 5, 6, 7] rfl)
            · rw [if_neg c4] at h
              refine lv_aload_n hx hb dX12_giveBack_241 rfl (lv_at hl 0 rfl) ?_
              refine lv_iload hx hb dX12_giveBack_242 (lv_at hl 7 rfl) ?_
              refine lv_iload hx hb dX12_giveBack_244 (lv_at hl 5 rfl) ?_
              refine lv_iload hx hb dX12_giveBack_246 (lv_at hl 6 rfl) ?_
              refine lv_iadd hx hb dX12_giveBack_248 ?_
              obtain ⟨r5, hc5, h⟩ := ob_ex h
              refine nc_Vv (As := [.int (L 7), .int (((L 5)) + ((L 6)))]) (rest := []) ⟨hx, hb, hml, hown, hts⟩ (c_x_writeWorked l dC dI cy a k (upd (upd (fun _ => 0) 1 ((L 7))) 2 ((((L 5)) + ((L 6))))) σ r5 hc5 H.size) (cwV 2 hts g_x_giveBack_writeWorked_898 rfl rfl rfl hd_x_writeWorked ⟨Nat.le_of_ble_eq_true rfl, Nat.le_of_ble_eq_true rfl⟩) hK hG hA hP hD hS rfl hl.1 rfl (Nat.le_of_ble_eq_true rfl) dX12_giveBack_249 ⟨Nat.le_refl _, Nat.le_refl _⟩ (fun H locs hP hD hS => ?_)
              exact ih.2.2.2.2.2.2.2.2.2.2.2.2.1 L r5.2 r h H locs ls hP hD hS (lv_sub hl [0, 1, 2, 3, 4, 5, 6, 7] rfl)
      · intro L σ r h H locs ls hP hD hS hl
        rw [x_giveBack] at h
        refine lv_iinc (v := ((L 6)) + 1) (lv' := [(6, .int (((L 6)) + 1)), (0, .ref (a 0)), (1, .int (L 1)), (2, .int (L 2)), (3, .int (L 3)), (4, .int (L 4)), (5, .int (L 5)), (7, .int (L 7))]) hx hb dX12_giveBack_252 hl (k := 6) rfl rfl (by decide) rfl (fun ls hl => ?_)
        refine lv_aload_n hx hb dX12_giveBack_255 rfl (lv_at hl 1 rfl) ?_
        refine ng_19 hx hb hts in_x_giveBack hown hK hP (hts _ (List.mem_cons_of_mem _ (List.mem_append_left _ (List.mem_append_left _ (List.mem_of_getElem? (i := 22) rfl))))) dX12_giveBack_256 ?_
        refine lv_iload hx hb dX12_giveBack_259 (lv_at hl 7 rfl) ?_
        obtain ⟨q1, h⟩ := nb_ite1 h
        refine nl_9 hx hb hK hP q1 dX12_giveBack_261 ?_
        refine lv_istore (lv' := [(7, .int (σ.2.2 9 ((L 7)).toNatClampNeg)), (6, .int (((L 6)) + 1)), (0, .ref (a 0)), (1, .int (L 1)), (2, .int (L 2)), (3, .int (L 3)), (4, .int (L 4)), (5, .int (L 5))]) hx hb dX12_giveBack_262 hl (by decide) rfl (fun ls hl => ?_)
        refine lv_goto (tgt := 212) hx hb dX12_giveBack_264 (by decide) ?_
        exact ih.2.2.2.2.2.2.2.2.2.2.2.1 (upd (upd L 6 (((L 6)) + 1)) 7 ((σ.2.2 9 ((L 7)).toNatClampNeg))) σ r h H locs ls hP hD hS (lv_sub hl [2, 3, 4, 5, 6, 7, 1, 0] rfl)
      · intro L σ r h H locs ls hP hD hS hl
        rw [x_giveBack] at h
        refine lv_aload_n hx hb dX12_giveBack_267 rfl (lv_at hl 0 rfl) ?_
        refine ng_56 hx hb hts in_x_giveBack hown hK hP (hts _ (List.mem_cons_of_mem _ (List.mem_append_left _ (List.mem_append_left _ (List.mem_of_getElem? (i := 17) rfl))))) dX12_giveBack_268 ?_
        refine lv_if_ne (tgt := 304) hx hb dX12_giveBack_271 (by decide) (fun c1 => ?_) (fun c1 => ?_)
        · rw [if_neg c1] at h
          exact ih.2.2.2.2.2.2.2.2.2.2.2.2.2.2.1 L σ r h H locs ls hP hD hS (lv_sub hl [0, 1, 2, 3, 4, 5, 6, 7] rfl)
        · rw [if_pos c1] at h
          refine lv_aload_n hx hb dX12_giveBack_274 rfl (lv_at hl 0 rfl) ?_
          refine ng_15 hx hb hts in_x_giveBack hown hK hP (hts _ (List.mem_cons_of_mem _ (List.mem_append_left _ (List.mem_append_left _ (List.mem_of_getElem? (i := 23) rfl))))) dX12_giveBack_275 ?_
          refine lv_iload_n hx hb dX12_giveBack_278 rfl (lv_at hl 3 rfl) ?_
          obtain ⟨q2, h⟩ := nb_ite1 h
          refine nl_5 hx hb hK hP q2 dX12_giveBack_279 ?_
          refine lv_iconst (v := (-1)) hx hb dX12_giveBack_280 (by decide) ?_
          refine lv_icmp_eq (tgt := 304) hx hb dX12_giveBack_281 (by decide) (fun c3 => ?_) (fun c3 => ?_)
          · rw [if_pos c3] at h
            exact ih.2.2.2.2.2.2.2.2.2.2.2.2.2.2.1 L σ r h H locs ls hP hD hS (lv_sub hl [0, 1, 2, 3, 4, 5, 6, 7] rfl)
          · rw [if_neg c3] at h
            refine lv_aload_n hx hb dX12_giveBack_284 rfl (lv_at hl 0 rfl) ?_
            refine lv_aload_n hx hb dX12_giveBack_285 rfl (lv_at hl 0 rfl) ?_
            refine ng_15 hx hb hts in_x_giveBack hown hK hP (hts _ (List.mem_cons_of_mem _ (List.mem_append_left _ (List.mem_append_left _ (List.mem_of_getElem? (i := 23) rfl))))) dX12_giveBack_286 ?_
            refine lv_iload_n hx hb dX12_giveBack_289 rfl (lv_at hl 3 rfl) ?_
            obtain ⟨q4, h⟩ := nb_ite1 h
            refine nl_5 hx hb hK hP q4 dX12_giveBack_290 ?_
            refine lv_iload hx hb dX12_giveBack_291 (lv_at hl 5 rfl) ?_
            refine lv_aload_n hx hb dX12_giveBack_293 rfl (lv_at hl 0 rfl) ?_
            refine ng_33 hx hb hts in_x_giveBack hown hK hP (hts _ (List.mem_cons_of_mem _ (List.mem_append_left _ (List.mem_append_left _ (List.mem_of_getElem? (i := 6) rfl))))) dX12_giveBack_294 ?_
            refine lv_iload hx hb dX12_giveBack_297 (lv_at hl 4 rfl) ?_
            obtain ⟨q5, h⟩ := nb_ite1 h
            refine nl_18 hx hb hK hP q5 dX12_giveBack_299 ?_
            refine lv_iadd hx hb dX12_giveBack_300 ?_
            obtain ⟨r6, hc6, h⟩ := ob_ex h
            refine nc_Vv (As := [.int (σ.2.2 5 ((L 3)).toNatClampNeg), .int (((L 5)) + ((σ.2.2 18 ((L 4)).toNatClampNeg)))]) (rest := []) ⟨hx, hb, hml, hown, hts⟩ (c_x_writeWorked l dC dI cy a k (upd (upd (fun _ => 0) 1 ((σ.2.2 5 ((L 3)).toNatClampNeg))) 2 ((((L 5)) + ((σ.2.2 18 ((L 4)).toNatClampNeg))))) σ r6 hc6 H.size) (cwV 2 hts g_x_giveBack_writeWorked_898 rfl rfl rfl hd_x_writeWorked ⟨Nat.le_of_ble_eq_true rfl, Nat.le_of_ble_eq_true rfl⟩) hK hG hA hP hD hS rfl hl.1 rfl (Nat.le_of_ble_eq_true rfl) dX12_giveBack_301 ⟨Nat.le_refl _, Nat.le_refl _⟩ (fun H locs hP hD hS => ?_)
            exact ih.2.2.2.2.2.2.2.2.2.2.2.2.2.2.1 L r6.2 r h H locs ls hP hD hS (lv_sub hl [0, 1, 2, 3, 4, 5, 6, 7] rfl)
      · intro L σ r h H locs ls hP hD hS hl
        rw [x_giveBack] at h
        refine lv_aload_n hx hb dX12_giveBack_304 rfl (lv_at hl 0 rfl) ?_
        refine lv_iload hx hb dX12_giveBack_305 (lv_at hl 5 rfl) ?_
        refine np_59 hx hb hts in_x_giveBack hown hK hP hD hS (hts _ (List.mem_cons_of_mem _ (List.mem_append_left _ (List.mem_append_left _ (List.mem_of_getElem? (i := 5) rfl))))) dX12_giveBack_307 (fun H locs hP hD hS => ?_)
        exact ih.2.2.2.2.2.2.2.2.2.2.2.2.2.2.2.1 L (upd σ.1 59 ((L 5)), σ.2.1, σ.2.2) r h H locs ls hP hD hS (lv_sub hl [0, 1, 2, 3, 4, 5, 6, 7] rfl)
      · intro L σ r h H locs ls hP hD hS hl
        rw [x_giveBack] at h
        refine lv_aload_n hx hb dX12_giveBack_310 rfl (lv_at hl 0 rfl) ?_
        refine ng_56 hx hb hts in_x_giveBack hown hK hP (hts _ (List.mem_cons_of_mem _ (List.mem_append_left _ (List.mem_append_left _ (List.mem_of_getElem? (i := 17) rfl))))) dX12_giveBack_311 ?_
        refine lv_if_ne (tgt := 321) hx hb dX12_giveBack_314 (by decide) (fun c1 => ?_) (fun c1 => ?_)
        · rw [if_neg c1] at h
          exact ih.2.2.2.2.2.2.2.2.2.2.2.2.2.2.2.2.1 L σ r h H locs ls hP hD hS (lv_sub hl [0, 1, 2, 3, 4, 5, 6, 7] rfl)
        · rw [if_pos c1] at h
          refine lv_iload_n hx hb dX12_giveBack_317 rfl (lv_at hl 3 rfl) ?_
          refine lv_goto (tgt := 322) hx hb dX12_giveBack_318 (by decide) ?_
          exact ih.2.2.2.2.2.2.2.2.2.2.2.2.2.2.2.2.2 (upd L 100 ((L 3))) σ r h H locs ls hP hD hS (lv_sub hl [0, 1, 2, 3, 4, 5, 6, 7] rfl)
      · intro L σ r h H locs ls hP hD hS hl
        rw [x_giveBack] at h
        refine lv_iconst (v := (-1)) hx hb dX12_giveBack_321 (by decide) ?_
        exact ih.2.2.2.2.2.2.2.2.2.2.2.2.2.2.2.2.2 (upd L 100 ((-1))) σ r h H locs ls hP hD hS (lv_sub hl [0, 1, 2, 3, 4, 5, 6, 7] rfl)
      · intro L σ r h H locs ls hP hD hS hl
        rw [x_giveBack] at h
        cases h
        exact W.iret (v := (L 100)) hx hb hr (fun t ht hW => ⟨⟨(L 100), (), rfl, rfl, by rw [ht]; exact hP, va_K.moved hW.alike hK, hD⟩, hS.F ht⟩) hS.2.2 dX12_giveBack_322
  exact (blk k0).1 L0 σ0 r0 h0 s.heap [] ls hP hD hS hl
/-! iterOf -/
def x_iterOf : Nat → Nat → (Nat → Int32) → MS → Option (Int32 × MS)
  | 0, _, _, _ => none
  | k + 1, 0, L, σ => if ¬ (((L 1)) < 0 ∨ 70000 ≤ ((L 1)).toNatClampNeg) then (x_iterOf k 1 (upd (upd L 3 ((σ.2.2 5 ((L 1)).toNatClampNeg))) 4 0) σ) else none
  | k + 1, 1, L, σ => if ((L 2)) ≤ ((L 4)) then (x_iterOf k 2 L σ) else (if ¬ (((L 3)) < 0 ∨ 70000 ≤ ((L 3)).toNatClampNeg) then (x_iterOf k 1 (upd (upd L 3 ((σ.2.2 9 ((L 3)).toNatClampNeg))) 4 (((L 4)) + 1)) σ) else none)
  | k + 1, 2, L, σ => some ((L 3), σ)
  | _ + 1, _ + 3, _, _ => none
def o_x_iterOf : List Cond := [.fieldLink RX12 86 "SetHouseModel" "x1" "[I", .fieldLink RX12 98 "SetHouseModel" "next" "[I"]
theorem o_x_iterOf_good : o_x_iterOf.all goodWord = true := by decide +kernel
def p_x_iterOf : List Cond := o_x_iterOf ++ []
theorem p_x_iterOf_good : p_x_iterOf.all goodWord = true := nb_all2 o_x_iterOf_good rfl
def w_x_iterOf : List Cond := .code yX12_iterOf cX12_iterOf 5 (some .int) :: (p_x_iterOf ++ fM)
theorem w_x_iterOf_good : w_x_iterOf.all goodWord = true := nb_allc (by decide +kernel) (nb_all2 p_x_iterOf_good fM_good)
theorem in_x_iterOf : ∀ w ∈ wsX120, w ∈ w_x_iterOf := fun _ h => List.mem_cons_of_mem _ (List.mem_append_right _ h)
theorem hd_x_iterOf : yX12_iterOf.cls = RX12 ∧ yX12_iterOf.cls ≠ "java/lang/invoke/MethodHandle" ∧ yX12_iterOf.cls ≠ "java/lang/invoke/VarHandle" ∧ (parseMethodDescriptor yX12_iterOf.desc).map (fun d => d.parameters.length) = some 2 := by decide +kernel
set_option maxHeartbeats 40000000 in
set_option maxRecDepth 100000 in
theorem c_x_iterOf (l : Launch) (dC : Nat → ClassId) (dI : Nat → Nat → Nat) (cy : Nat → ClassId) (a : Nat → Nat) (k0 : Nat) (L0 : Nat → Int32) (σ0 : MS) (r0 : Int32 × MS) (h0 : x_iterOf k0 0 L0 σ0 = some r0) (sz : Nat) : Met l yX12_iterOf w_x_iterOf ({ frames := 0, cells := 0, slots := 0, locals := 0 }) (va_Pc [.ref (a 0), .int (L0 1), .int (L0 2)] (nIn (dC, dI) cy sz (vM cy a σ0))) (va_Qi (fun (z : Int32) (_ : Unit) => z = r0.1) (fun _ t => nOut (dC, dI) cy (va_A (vM cy a σ0) sz) (vM cy a r0.2) t) (va_A (vM cy a σ0) sz)) 0 0 (va_A (vM cy a σ0) sz) := by
  refine Met.ofW (cc := cX12_iterOf) (maxL := 5) (ret := (some .int)) (by decide) rfl ?_
  intro p e s m args below meth c s₁ B hml hv
  obtain ⟨rfl, hsz, hP, hK, hD0, hG⟩ := hv
  have hx := B.exec
  have hb := B.bytes
  have hr := B.returns
  have hts := atoms_spec (ws := w_x_iterOf) B.pre
  have hown : s.vm.findClass RX12 = some m.cls := findClass_of_methodNamed B.named
  have hlocks := B.notSynchronized
  subst hsz
  have hD := hD0.self (sz := s.heap.size)
  generalize hAe : va_A (vM cy a σ0) s.heap.size = A at hD ⊢
  have hA : ∀ q : Nat, s.heap.size ≤ q → A q := fun q h => by rw [← hAe]; exact Or.inr h
  have hS : va_S A s.heap s.heap [] := va_S.rf
  have hl := lv_entry ([.ref (a 0), .int (L0 1), .int (L0 2)]) (n := 5) (Nat.le_of_ble_eq_true rfl)
  rw [lg_entry_eq]
  generalize (lg_sl ([.ref (a 0), .int (L0 1), .int (L0 2)]) ++ List.replicate (5 - (lg_sl ([.ref (a 0), .int (L0 1), .int (L0 2)])).length) Slot.unset).toArray = ls at hl ⊢
  have hl : lv_has ls 5 [(0, .ref (a 0)), (1, .int (L0 1)), (2, .int (L0 2))] := hl
  have blk : ∀ k : Nat, (bT p l e (headSpec w_x_iterOf ({ frames := 0, cells := 0, slots := 0, locals := 0 })).room s m #[.ref (a 0), .int (L0 1), .int (L0 2)] below meth c dC dI cy a A (qI dC dI cy a A below #[.ref (a 0), .int (L0 1), .int (L0 2)] s) 5 (x_iterOf k 0) (fun L => [(0, .ref (a 0)), (1, .int (L 1)), (2, .int (L 2))]) 0 (fun L => [])) ∧ (bT p l e (headSpec w_x_iterOf ({ frames := 0, cells := 0, slots := 0, locals := 0 })).room s m #[.ref (a 0), .int (L0 1), .int (L0 2)] below meth c dC dI cy a A (qI dC dI cy a A below #[.ref (a 0), .int (L0 1), .int (L0 2)] s) 5 (x_iterOf k 1) (fun L => [(0, .ref (a 0)), (1, .int (L 1)), (2, .int (L 2)), (3, .int (L 3)), (4, .int (L 4))]) 10 (fun L => [])) ∧ (bT p l e (headSpec w_x_iterOf ({ frames := 0, cells := 0, slots := 0, locals := 0 })).room s m #[.ref (a 0), .int (L0 1), .int (L0 2)] below meth c dC dI cy a A (qI dC dI cy a A below #[.ref (a 0), .int (L0 1), .int (L0 2)] s) 5 (x_iterOf k 2) (fun L => [(0, .ref (a 0)), (1, .int (L 1)), (2, .int (L 2)), (3, .int (L 3)), (4, .int (L 4))]) 29 (fun L => [])) := by
    intro k
    induction k with
    | zero => exact ⟨fun L σ r h => (by cases h), fun L σ r h => (by cases h), fun L σ r h => (by cases h)⟩
    | succ k ih =>
      refine ⟨?_, ?_, ?_⟩
      · intro L σ r h H locs ls hP hD hS hl
        rw [x_iterOf] at h
        refine lv_aload_n hx hb dX12_iterOf_0 rfl (lv_at hl 0 rfl) ?_
        refine ng_15 hx hb hts in_x_iterOf hown hK hP (hts _ (List.mem_cons_of_mem _ (List.mem_append_left _ (List.mem_append_left _ (List.mem_of_getElem? (i := 0) rfl))))) dX12_iterOf_1 ?_
        refine lv_iload_n hx hb dX12_iterOf_4 rfl (lv_at hl 1 rfl) ?_
        obtain ⟨q1, h⟩ := nb_ite1 h
        refine nl_5 hx hb hK hP q1 dX12_iterOf_5 ?_
        refine lv_istore_n (lv' := [(3, .int (σ.2.2 5 ((L 1)).toNatClampNeg)), (0, .ref (a 0)), (1, .int (L 1)), (2, .int (L 2))]) hx hb dX12_iterOf_6 rfl hl (by decide) rfl (fun ls hl => ?_)
        refine lv_iconst (v := 0) hx hb dX12_iterOf_7 (by decide) ?_
        refine lv_istore (lv' := [(4, .int 0), (3, .int (σ.2.2 5 ((L 1)).toNatClampNeg)), (0, .ref (a 0)), (1, .int (L 1)), (2, .int (L 2))]) hx hb dX12_iterOf_8 hl (by decide) rfl (fun ls hl => ?_)
        exact ih.2.1 (upd (upd L 3 ((σ.2.2 5 ((L 1)).toNatClampNeg))) 4 0) σ r h H locs ls hP hD hS (lv_sub hl [2, 3, 4, 1, 0] rfl)
      · intro L σ r h H locs ls hP hD hS hl
        rw [x_iterOf] at h
        refine lv_iload hx hb dX12_iterOf_10 (lv_at hl 4 rfl) ?_
        refine lv_iload_n hx hb dX12_iterOf_12 rfl (lv_at hl 2 rfl) ?_
        refine lv_icmp_ge (tgt := 29) hx hb dX12_iterOf_13 (by decide) (fun c1 => ?_) (fun c1 => ?_)
        · rw [if_pos c1] at h
          exact ih.2.2 L σ r h H locs ls hP hD hS (lv_sub hl [0, 1, 2, 3, 4] rfl)
        · rw [if_neg c1] at h
          refine lv_aload_n hx hb dX12_iterOf_16 rfl (lv_at hl 0 rfl) ?_
          refine ng_19 hx hb hts in_x_iterOf hown hK hP (hts _ (List.mem_cons_of_mem _ (List.mem_append_left _ (List.mem_append_left _ (List.mem_of_getElem? (i := 1) rfl))))) dX12_iterOf_17 ?_
          refine lv_iload_n hx hb dX12_iterOf_20 rfl (lv_at hl 3 rfl) ?_
          obtain ⟨q2, h⟩ := nb_ite1 h
          refine nl_9 hx hb hK hP q2 dX12_iterOf_21 ?_
          refine lv_istore_n (lv' := [(3, .int (σ.2.2 9 ((L 3)).toNatClampNeg)), (0, .ref (a 0)), (1, .int (L 1)), (2, .int (L 2)), (4, .int (L 4))]) hx hb dX12_iterOf_22 rfl hl (by decide) rfl (fun ls hl => ?_)
          refine lv_iinc (v := ((L 4)) + 1) (lv' := [(4, .int (((L 4)) + 1)), (3, .int (σ.2.2 9 ((L 3)).toNatClampNeg)), (0, .ref (a 0)), (1, .int (L 1)), (2, .int (L 2))]) hx hb dX12_iterOf_23 hl (k := 4) rfl rfl (by decide) rfl (fun ls hl => ?_)
          refine lv_goto (tgt := 10) hx hb dX12_iterOf_26 (by decide) ?_
          exact ih.2.1 (upd (upd L 3 ((σ.2.2 9 ((L 3)).toNatClampNeg))) 4 (((L 4)) + 1)) σ r h H locs ls hP hD hS (lv_sub hl [2, 3, 4, 1, 0] rfl)
      · intro L σ r h H locs ls hP hD hS hl
        rw [x_iterOf] at h
        refine lv_iload_n hx hb dX12_iterOf_29 rfl (lv_at hl 3 rfl) ?_
        cases h
        exact W.iret (v := (L 3)) hx hb hr (fun t ht hW => ⟨⟨(L 3), (), rfl, rfl, by rw [ht]; exact hP, va_K.moved hW.alike hK, hD⟩, hS.F ht⟩) hS.2.2 dX12_iterOf_30
  exact (blk k0).1 L0 σ0 r0 h0 s.heap [] ls hP hD hS hl
/-! openFor -/
def x_openFor : Nat → Nat → (Nat → Int32) → MS → Option (Int32 × MS)
  | 0, _, _, _ => none
  | k + 1, 0, L, σ => if ¬ (((L 1)) < 0 ∨ 70000 ≤ ((L 1)).toNatClampNeg) then (ob (x_eval k 0 (upd (fun _ => 0) 1 ((σ.2.2 7 ((L 1)).toNatClampNeg))) σ) (fun r2 => if ((r2.2.1 56)) ≤ 0 then (x_openFor k 1 L r2.2) else (some (0, r2.2)))) else none
  | k + 1, 1, L, σ => ob (x_pop k 0 (fun _ => 0) σ) (fun r1 => ob (x_isRow k 0 (upd (fun _ => 0) 1 r1.1) r1.2) (fun r2 => if r2.1 = 0 then (ob (x_fail k 0 (upd (fun _ => 0) 1 1) r2.2) (fun r4 => some (0, r4.2))) else (x_openFor k 2 (upd L 2 r1.1) r2.2)))
  | k + 1, 2, L, σ => ob (x_size k 0 (upd (fun _ => 0) 1 ((L 2))) σ) (fun r1 => if ((((((σ.1 64)) + ((σ.1 65)))) + r1.1)) ≤ 40000 then (x_openFor k 3 L r1.2) else (ob (x_fail k 0 (upd (fun _ => 0) 1 6) r1.2) (fun r3 => some (0, r3.2))))
  | k + 1, 3, L, σ => ob (x_size k 0 (upd (fun _ => 0) 1 ((L 2))) σ) (fun r1 => x_openFor k 4 L (upd r1.2.1 64 ((((σ.1 64)) + r1.1)), r1.2.2.1, r1.2.2.2))
  | k + 1, 4, L, σ => if ¬ ((3 : Int32) < 0 ∨ 11514 ≤ (3 : Int32).toNatClampNeg) then (if ¬ (((5314 + ((σ.2.2 30 (3 : Int32).toNatClampNeg)))) < 0 ∨ 11514 ≤ ((5314 + ((σ.2.2 30 (3 : Int32).toNatClampNeg)))).toNatClampNeg) then (x_openFor k 5 L (σ.1, σ.2.1, updG σ.2.2 30 (upd (σ.2.2 30) ((5314 + ((σ.2.2 30 (3 : Int32).toNatClampNeg)))).toNatClampNeg ((L 2))))) else none) else none
  | k + 1, 5, L, σ => if ¬ ((3 : Int32) < 0 ∨ 11514 ≤ (3 : Int32).toNatClampNeg) then (if ¬ (((8414 + ((σ.2.2 30 (3 : Int32).toNatClampNeg)))) < 0 ∨ 11514 ≤ ((8414 + ((σ.2.2 30 (3 : Int32).toNatClampNeg)))).toNatClampNeg) then (x_openFor k 6 L (σ.1, σ.2.1, updG σ.2.2 30 (upd (σ.2.2 30) ((8414 + ((σ.2.2 30 (3 : Int32).toNatClampNeg)))).toNatClampNeg 0))) else none) else none
  | k + 1, 6, L, σ => if ¬ ((3 : Int32) < 0 ∨ 11514 ≤ (3 : Int32).toNatClampNeg) then (if ¬ ((3 : Int32) < 0 ∨ 11514 ≤ (3 : Int32).toNatClampNeg) then (some (0, (σ.1, σ.2.1, updG σ.2.2 30 (upd (σ.2.2 30) (3 : Int32).toNatClampNeg ((((σ.2.2 30 (3 : Int32).toNatClampNeg)) + 1)))))) else none) else none
  | _ + 1, _ + 7, _, _ => none
def o_x_openFor : List Cond := [.fieldLink RX12 92 "SetHouseModel" "x3" "[I", .methodLink RX12 566 yX12_eval, .instanceMethod yX12_eval, .selects RX12 yX12_eval yX12_eval, .initialized RX12, .fieldLink RX12 362 "SetHouseModel" "err" "I", .methodLink RX12 572 yX12_pop, .instanceMethod yX12_pop, .selects RX12 yX12_pop yX12_pop, .methodLink RX12 697 yX12_isRow, .instanceMethod yX12_isRow, .selects RX12 yX12_isRow yX12_isRow, .methodLink RX12 369 yX12_fail, .instanceMethod yX12_fail, .selects RX12 yX12_fail yX12_fail, .fieldLink RX12 852 "SetHouseModel" "total" "I", .fieldLink RX12 855 "SetHouseModel" "pointsTotal" "I", .methodLink RX12 432 yX12_size, .instanceMethod yX12_size, .selects RX12 yX12_size yX12_size, .constant RX12 858 (40000), .fieldLink RX12 395 "SetHouseModel" "st" "[I"]
theorem o_x_openFor_good : o_x_openFor.all goodWord = true := by decide +kernel
def p_x_openFor : List Cond := o_x_openFor ++ ((.code yX12_eval cX12_eval 3 none :: p_x_GV) ++ ((.code yX12_pop cX12_pop 1 (some .int) :: p_x_pop) ++ ((.code yX12_isRow cX12_isRow 2 (some .boolean) :: p_x_isRow) ++ ((.code yX12_fail cX12_fail 2 none :: p_x_fail) ++ ((.code yX12_size cX12_size 2 (some .int) :: p_x_size) ++ [])))))
theorem p_x_openFor_good : p_x_openFor.all goodWord = true := nb_all2 o_x_openFor_good (nb_all2 (nb_allc (by decide +kernel) p_x_GV_good) (nb_all2 (nb_allc (by decide +kernel) p_x_pop_good) (nb_all2 (nb_allc (by decide +kernel) p_x_isRow_good) (nb_all2 (nb_allc (by decide +kernel) p_x_fail_good) (nb_all2 (nb_allc (by decide +kernel) p_x_size_good) rfl)))))
def w_x_openFor : List Cond := .code yX12_openFor cX12_openFor 3 none :: (p_x_openFor ++ fM)
theorem w_x_openFor_good : w_x_openFor.all goodWord = true := nb_allc (by decide +kernel) (nb_all2 p_x_openFor_good fM_good)
theorem in_x_openFor : ∀ w ∈ wsX120, w ∈ w_x_openFor := fun _ h => List.mem_cons_of_mem _ (List.mem_append_right _ h)
theorem hd_x_openFor : yX12_openFor.cls = RX12 ∧ yX12_openFor.cls ≠ "java/lang/invoke/MethodHandle" ∧ yX12_openFor.cls ≠ "java/lang/invoke/VarHandle" ∧ (parseMethodDescriptor yX12_openFor.desc).map (fun d => d.parameters.length) = some 1 := by decide +kernel
theorem gg_x_openFor_eval : GoodIn w_x_openFor w_x_eval := goodIn_sub (fun w h => (List.mem_cons.mp h).elim (fun e => (List.mem_cons_of_mem _ (List.mem_append_left _ (List.mem_append_right _ (List.mem_append_left _ (List.mem_cons.mpr (Or.inl e))))))) (fun h => (List.mem_append.mp h).elim (fun h => (List.mem_cons_of_mem _ (List.mem_append_left _ (List.mem_append_right _ (List.mem_append_left _ (List.mem_cons_of_mem _ h)))))) (fun h => List.mem_cons_of_mem _ (List.mem_append_right _ h)))) w_x_eval_good
theorem g_x_openFor_eval_566 : GoodIn w_x_openFor (wsV RX12 566 RX12 yX12_eval w_x_eval) := goodIn_app (nb_g4 (List.mem_cons_of_mem _ (List.mem_append_left _ (List.mem_append_left _ (List.mem_of_getElem? (i := 1) rfl)))) (List.mem_cons_of_mem _ (List.mem_append_left _ (List.mem_append_left _ (List.mem_of_getElem? (i := 2) rfl)))) (List.mem_cons_of_mem _ (List.mem_append_left _ (List.mem_append_left _ (List.mem_of_getElem? (i := 3) rfl)))) (List.mem_cons_of_mem _ (List.mem_append_left _ (List.mem_append_left _ (List.mem_of_getElem? (i := 4) rfl)))) (by decide +kernel)) gg_x_openFor_eval
theorem gg_x_openFor_fail : GoodIn w_x_openFor w_x_fail := goodIn_sub (fun w h => (List.mem_cons.mp h).elim (fun e => (List.mem_cons_of_mem _ (List.mem_append_left _ (List.mem_append_right _ (List.mem_append_right _ (List.mem_append_right _ (List.mem_append_right _ (List.mem_append_left _ (List.mem_cons.mpr (Or.inl e)))))))))) (fun h => (List.mem_append.mp h).elim (fun h => (List.mem_cons_of_mem _ (List.mem_append_left _ (List.mem_append_right _ (List.mem_append_right _ (List.mem_append_right _ (List.mem_append_right _ (List.mem_append_left _ (List.mem_cons_of_mem _ h))))))))) (fun h => List.mem_cons_of_mem _ (List.mem_append_right _ h)))) w_x_fail_good
theorem g_x_openFor_fail_369 : GoodIn w_x_openFor (wsV RX12 369 RX12 yX12_fail w_x_fail) := goodIn_app (nb_g4 (List.mem_cons_of_mem _ (List.mem_append_left _ (List.mem_append_left _ (List.mem_of_getElem? (i := 12) rfl)))) (List.mem_cons_of_mem _ (List.mem_append_left _ (List.mem_append_left _ (List.mem_of_getElem? (i := 13) rfl)))) (List.mem_cons_of_mem _ (List.mem_append_left _ (List.mem_append_left _ (List.mem_of_getElem? (i := 14) rfl)))) (List.mem_cons_of_mem _ (List.mem_append_left _ (List.mem_append_left _ (List.mem_of_getElem? (i := 4) rfl)))) (by decide +kernel)) gg_x_openFor_fail
theorem gg_x_openFor_isRow : GoodIn w_x_openFor w_x_isRow := goodIn_sub (fun w h => (List.mem_cons.mp h).elim (fun e => (List.mem_cons_of_mem _ (List.mem_append_left _ (List.mem_append_right _ (List.mem_append_right _ (List.mem_append_right _ (List.mem_append_left _ (List.mem_cons.mpr (Or.inl e))))))))) (fun h => (List.mem_append.mp h).elim (fun h => (List.mem_cons_of_mem _ (List.mem_append_left _ (List.mem_append_right _ (List.mem_append_right _ (List.mem_append_right _ (List.mem_append_left _ (List.mem_cons_of_mem _ h)))))))) (fun h => List.mem_cons_of_mem _ (List.mem_append_right _ h)))) w_x_isRow_good
theorem g_x_openFor_isRow_697 : GoodIn w_x_openFor (wsV RX12 697 RX12 yX12_isRow w_x_isRow) := goodIn_app (nb_g4 (List.mem_cons_of_mem _ (List.mem_append_left _ (List.mem_append_left _ (List.mem_of_getElem? (i := 9) rfl)))) (List.mem_cons_of_mem _ (List.mem_append_left _ (List.mem_append_left _ (List.mem_of_getElem? (i := 10) rfl)))) (List.mem_cons_of_mem _ (List.mem_append_left _ (List.mem_append_left _ (List.mem_of_getElem? (i := 11) rfl)))) (List.mem_cons_of_mem _ (List.mem_append_left _ (List.mem_append_left _ (List.mem_of_getElem? (i := 4) rfl)))) (by decide +kernel)) gg_x_openFor_isRow
theorem gg_x_openFor_pop : GoodIn w_x_openFor w_x_pop := goodIn_sub (fun w h => (List.mem_cons.mp h).elim (fun e => (List.mem_cons_of_mem _ (List.mem_append_left _ (List.mem_append_right _ (List.mem_append_right _ (List.mem_append_left _ (List.mem_cons.mpr (Or.inl e)))))))) (fun h => (List.mem_append.mp h).elim (fun h => (List.mem_cons_of_mem _ (List.mem_append_left _ (List.mem_append_right _ (List.mem_append_right _ (List.mem_append_left _ (List.mem_cons_of_mem _ h))))))) (fun h => List.mem_cons_of_mem _ (List.mem_append_right _ h)))) w_x_pop_good
theorem g_x_openFor_pop_572 : GoodIn w_x_openFor (wsV RX12 572 RX12 yX12_pop w_x_pop) := goodIn_app (nb_g4 (List.mem_cons_of_mem _ (List.mem_append_left _ (List.mem_append_left _ (List.mem_of_getElem? (i := 6) rfl)))) (List.mem_cons_of_mem _ (List.mem_append_left _ (List.mem_append_left _ (List.mem_of_getElem? (i := 7) rfl)))) (List.mem_cons_of_mem _ (List.mem_append_left _ (List.mem_append_left _ (List.mem_of_getElem? (i := 8) rfl)))) (List.mem_cons_of_mem _ (List.mem_append_left _ (List.mem_append_left _ (List.mem_of_getElem? (i := 4) rfl)))) (by decide +kernel)) gg_x_openFor_pop
theorem gg_x_openFor_size : GoodIn w_x_openFor w_x_size := goodIn_sub (fun w h => (List.mem_cons.mp h).elim (fun e => (List.mem_cons_of_mem _ (List.mem_append_left _ (List.mem_append_right _ (List.mem_append_right _ (List.mem_append_right _ (List.mem_append_right _ (List.mem_append_right _ (List.mem_append_left _ (List.mem_cons.mpr (Or.inl e))))))))))) (fun h => (List.mem_append.mp h).elim (fun h => (List.mem_cons_of_mem _ (List.mem_append_left _ (List.mem_append_right _ (List.mem_append_right _ (List.mem_append_right _ (List.mem_append_right _ (List.mem_append_right _ (List.mem_append_left _ (List.mem_cons_of_mem _ h)))))))))) (fun h => List.mem_cons_of_mem _ (List.mem_append_right _ h)))) w_x_size_good
theorem g_x_openFor_size_432 : GoodIn w_x_openFor (wsV RX12 432 RX12 yX12_size w_x_size) := goodIn_app (nb_g4 (List.mem_cons_of_mem _ (List.mem_append_left _ (List.mem_append_left _ (List.mem_of_getElem? (i := 17) rfl)))) (List.mem_cons_of_mem _ (List.mem_append_left _ (List.mem_append_left _ (List.mem_of_getElem? (i := 18) rfl)))) (List.mem_cons_of_mem _ (List.mem_append_left _ (List.mem_append_left _ (List.mem_of_getElem? (i := 19) rfl)))) (List.mem_cons_of_mem _ (List.mem_append_left _ (List.mem_append_left _ (List.mem_of_getElem? (i := 4) rfl)))) (by decide +kernel)) gg_x_openFor_size
set_option maxHeartbeats 40000000 in
set_option maxRecDepth 100000 in
theorem c_x_openFor (l : Launch) (dC : Nat → ClassId) (dI : Nat → Nat → Nat) (cy : Nat → ClassId) (a : Nat → Nat) (k0 : Nat) (L0 : Nat → Int32) (σ0 : MS) (r0 : Int32 × MS) (h0 : x_openFor k0 0 L0 σ0 = some r0) (sz : Nat) : Met l yX12_openFor w_x_openFor ({ frames := 1358, cells := 0, slots := 0, locals := 36497 }) (va_Pc [.ref (a 0), .int (L0 1)] (nIn (dC, dI) cy sz (vM cy a σ0))) (va_Qv (fun _ : Unit => True) (fun _ t => nOut (dC, dI) cy (va_A (vM cy a σ0) sz) (vM cy a r0.2) t) (va_A (vM cy a σ0) sz)) 0 0 (va_A (vM cy a σ0) sz) := by
  refine Met.ofW (cc := cX12_openFor) (maxL := 3) (ret := none) (by decide) rfl ?_
  intro p e s m args below meth c s₁ B hml hv
  obtain ⟨rfl, hsz, hP, hK, hD0, hG⟩ := hv
  have hx := B.exec
  have hb := B.bytes
  have hr := B.returns
  have hts := atoms_spec (ws := w_x_openFor) B.pre
  have hown : s.vm.findClass RX12 = some m.cls := findClass_of_methodNamed B.named
  have hlocks := B.notSynchronized
  subst hsz
  have hD := hD0.self (sz := s.heap.size)
  generalize hAe : va_A (vM cy a σ0) s.heap.size = A at hD ⊢
  have hA : ∀ q : Nat, s.heap.size ≤ q → A q := fun q h => by rw [← hAe]; exact Or.inr h
  have hS : va_S A s.heap s.heap [] := va_S.rf
  have hl := lv_entry ([.ref (a 0), .int (L0 1)]) (n := 3) (Nat.le_of_ble_eq_true rfl)
  rw [lg_entry_eq]
  generalize (lg_sl ([.ref (a 0), .int (L0 1)]) ++ List.replicate (3 - (lg_sl ([.ref (a 0), .int (L0 1)])).length) Slot.unset).toArray = ls at hl ⊢
  have hl : lv_has ls 3 [(0, .ref (a 0)), (1, .int (L0 1))] := hl
  have blk : ∀ k : Nat, (bT p l e (headSpec w_x_openFor ({ frames := 1358, cells := 0, slots := 0, locals := 36497 })).room s m #[.ref (a 0), .int (L0 1)] below meth c dC dI cy a A (qV dC dI cy a A below #[.ref (a 0), .int (L0 1)] s) 3 (x_openFor k 0) (fun L => [(0, .ref (a 0)), (1, .int (L 1))]) 0 (fun L => [])) ∧ (bT p l e (headSpec w_x_openFor ({ frames := 1358, cells := 0, slots := 0, locals := 36497 })).room s m #[.ref (a 0), .int (L0 1)] below meth c dC dI cy a A (qV dC dI cy a A below #[.ref (a 0), .int (L0 1)] s) 3 (x_openFor k 1) (fun L => [(0, .ref (a 0)), (1, .int (L 1))]) 18 (fun L => [])) ∧ (bT p l e (headSpec w_x_openFor ({ frames := 1358, cells := 0, slots := 0, locals := 36497 })).room s m #[.ref (a 0), .int (L0 1)] below meth c dC dI cy a A (qV dC dI cy a A below #[.ref (a 0), .int (L0 1)] s) 3 (x_openFor k 2) (fun L => [(0, .ref (a 0)), (1, .int (L 1)), (2, .int (L 2))]) 37 (fun L => [])) ∧ (bT p l e (headSpec w_x_openFor ({ frames := 1358, cells := 0, slots := 0, locals := 36497 })).room s m #[.ref (a 0), .int (L0 1)] below meth c dC dI cy a A (qV dC dI cy a A below #[.ref (a 0), .int (L0 1)] s) 3 (x_openFor k 3) (fun L => [(0, .ref (a 0)), (1, .int (L 1)), (2, .int (L 2))]) 65 (fun L => [])) ∧ (bT p l e (headSpec w_x_openFor ({ frames := 1358, cells := 0, slots := 0, locals := 36497 })).room s m #[.ref (a 0), .int (L0 1)] below meth c dC dI cy a A (qV dC dI cy a A below #[.ref (a 0), .int (L0 1)] s) 3 (x_openFor k 4) (fun L => [(0, .ref (a 0)), (1, .int (L 1)), (2, .int (L 2))]) 79 (fun L => [])) ∧ (bT p l e (headSpec w_x_openFor ({ frames := 1358, cells := 0, slots := 0, locals := 36497 })).room s m #[.ref (a 0), .int (L0 1)] below meth c dC dI cy a A (qV dC dI cy a A below #[.ref (a 0), .int (L0 1)] s) 3 (x_openFor k 5) (fun L => [(0, .ref (a 0)), (1, .int (L 1)), (2, .int (L 2))]) 95 (fun L => [])) ∧ (bT p l e (headSpec w_x_openFor ({ frames := 1358, cells := 0, slots := 0, locals := 36497 })).room s m #[.ref (a 0), .int (L0 1)] below meth c dC dI cy a A (qV dC dI cy a A below #[.ref (a 0), .int (L0 1)] s) 3 (x_openFor k 6) (fun L => [(0, .ref (a 0)), (1, .int (L 1)), (2, .int (L 2))]) 111 (fun L => [])) := by
    intro k
    induction k with
    | zero => exact ⟨fun L σ r h => (by cases h), fun L σ r h => (by cases h), fun L σ r h => (by cases h), fun L σ r h => (by cases h), fun L σ r h => (by cases h), fun L σ r h => (by cases h), fun L σ r h => (by cases h)⟩
    | succ k ih =>
      refine ⟨?_, ?_, ?_, ?_, ?_, ?_, ?_⟩
      · intro L σ r h H locs ls hP hD hS hl
        rw [x_openFor] at h
        refine lv_aload_n hx hb dX12_openFor_0 rfl (lv_at hl 0 rfl) ?_
        refine lv_aload_n hx hb dX12_openFor_1 rfl (lv_at hl 0 rfl) ?_
        refine ng_17 hx hb hts in_x_openFor hown hK hP (hts _ (List.mem_cons_of_mem _ (List.mem_append_left _ (List.mem_append_left _ (List.mem_of_getElem? (i := 0) rfl))))) dX12_openFor_2 ?_
        refine lv_iload_n hx hb dX12_openFor_5 rfl (lv_at hl 1 rfl) ?_
        obtain ⟨q1, h⟩ := nb_ite1 h
        refine nl_7 hx hb hK hP q1 dX12_openFor_6 ?_
        obtain ⟨r2, hc2, h⟩ := ob_ex h
        refine nc_Vv (As := [.int (σ.2.2 7 ((L 1)).toNatClampNeg)]) (rest := []) ⟨hx, hb, hml, hown, hts⟩ (c_x_eval l dC dI cy a k (upd (fun _ => 0) 1 ((σ.2.2 7 ((L 1)).toNatClampNeg))) σ r2 hc2 H.size) (cwV 1 hts g_x_openFor_eval_566 rfl rfl rfl hd_x_eval ⟨Nat.le_of_ble_eq_true rfl, Nat.le_of_ble_eq_true rfl⟩) hK hG hA hP hD hS rfl hl.1 rfl (Nat.le_of_ble_eq_true rfl) dX12_openFor_7 ⟨Nat.le_refl _, Nat.le_refl _⟩ (fun H locs hP hD hS => ?_)
        refine lv_aload_n hx hb dX12_openFor_10 rfl (lv_at hl 0 rfl) ?_
        refine ng_56 hx hb hts in_x_openFor hown hK hP (hts _ (List.mem_cons_of_mem _ (List.mem_append_left _ (List.mem_append_left _ (List.mem_of_getElem? (i := 5) rfl))))) dX12_openFor_11 ?_
        refine lv_if_le (tgt := 18) hx hb dX12_openFor_14 (by decide) (fun c3 => ?_) (fun c3 => ?_)
        · rw [if_pos c3] at h
          exact ih.2.1 L r2.2 r h H locs ls hP hD hS (lv_sub hl [0, 1] rfl)
        · rw [if_neg c3] at h
          cases h
          exact W.vret hx hb hr (fun t ht hW => ⟨⟨(), rfl, trivial, by rw [ht]; exact hP, va_K.moved hW.alike hK, hD⟩, hS.F ht⟩) hS.2.2 dX12_openFor_17
      · intro L σ r h H locs ls hP hD hS hl
        rw [x_openFor] at h
        refine lv_aload_n hx hb dX12_openFor_18 rfl (lv_at hl 0 rfl) ?_
        obtain ⟨r1, hc1, h⟩ := ob_ex h
        refine nc_Vi (As := []) (rest := []) ⟨hx, hb, hml, hown, hts⟩ (c_x_pop l dC dI cy a k (fun _ => 0) σ r1 hc1 H.size) (cwV 0 hts g_x_openFor_pop_572 rfl rfl rfl hd_x_pop ⟨Nat.le_of_ble_eq_true rfl, Nat.le_of_ble_eq_true rfl⟩) hK hG hA hP hD hS rfl hl.1 rfl (Nat.le_of_ble_eq_true rfl) dX12_openFor_19 ⟨Nat.le_refl _, Nat.le_refl _⟩ (fun H locs hP hD hS => ?_)
        refine lv_istore_n (lv' := [(2, .int r1.1), (0, .ref (a 0)), (1, .int (L 1))]) hx hb dX12_openFor_22 rfl hl (by decide) rfl (fun ls hl => ?_)
        refine lv_aload_n hx hb dX12_openFor_23 rfl (lv_at hl 1 rfl) ?_
        refine lv_iload_n hx hb dX12_openFor_24 rfl (lv_at hl 0 rfl) ?_
        obtain ⟨r2, hc2, h⟩ := ob_ex h
        refine nc_Vi (As := [.int r1.1]) (rest := []) ⟨hx, hb, hml, hown, hts⟩ (c_x_isRow l dC dI cy a k (upd (fun _ => 0) 1 r1.1) r1.2 r2 hc2 H.size) (cwV 1 hts g_x_openFor_isRow_697 rfl rfl rfl hd_x_isRow ⟨Nat.le_of_ble_eq_true rfl, Nat.le_of_ble_eq_true rfl⟩) hK hG hA hP hD hS rfl hl.1 rfl (Nat.le_of_ble_eq_true rfl) dX12_openFor_25 ⟨Nat.le_refl _, Nat.le_refl _⟩ (fun H locs hP hD hS => ?_)
        refine lv_if_ne (tgt := 37) hx hb dX12_openFor_28 (by decide) (fun c3 => ?_) (fun c3 => ?_)
        · rw [if_neg c3] at h
          exact ih.2.2.1 (upd L 2 r1.1) r2.2 r h H locs ls hP hD hS (lv_sub hl [1, 2, 0] rfl)
        · rw [if_pos c3] at h
          refine lv_aload_n hx hb dX12_openFor_31 rfl (lv_at hl 1 rfl) ?_
          refine lv_iconst (v := 1) hx hb dX12_openFor_32 (by decide) ?_
          obtain ⟨r4, hc4, h⟩ := ob_ex h
          refine nc_Vv (As := [.int 1]) (rest := []) ⟨hx, hb, hml, hown, hts⟩ (c_x_fail l dC dI cy a k (upd (fun _ => 0) 1 1) r2.2 r4 hc4 H.size) (cwV 1 hts g_x_openFor_fail_369 rfl rfl rfl hd_x_fail ⟨Nat.le_of_ble_eq_true rfl, Nat.le_of_ble_eq_true rfl⟩) hK hG hA hP hD hS rfl hl.1 rfl (Nat.le_of_ble_eq_true rfl) dX12_openFor_33 ⟨Nat.le_refl _, Nat.le_refl _⟩ (fun H locs hP hD hS => ?_)
          cases h
          exact W.vret hx hb hr (fun t ht hW => ⟨⟨(), rfl, trivial, by rw [ht]; exact hP, va_K.moved hW.alike hK, hD⟩, hS.F ht⟩) hS.2.2 dX12_openFor_36
      · intro L σ r h H locs ls hP hD hS hl
        rw [x_openFor] at h
        refine lv_aload_n hx hb dX12_openFor_37 rfl (lv_at hl 0 rfl) ?_
        refine ng_64 hx hb hts in_x_openFor hown hK hP (hts _ (List.mem_cons_of_mem _ (List.mem_append_left _ (List.mem_append_left _ (List.mem_of_getElem? (i := 15) rfl))))) dX12_openFor_38 ?_
        refine lv_aload_n hx hb dX12_openFor_41 rfl (lv_at hl 0 rfl) ?_
        refine ng_65 hx hb hts in_x_openFor hown hK hP (hts _ (List.mem_cons_of_mem _ (List.mem_append_left _ (List.mem_append_left _ (List.mem_of_getElem? (i := 16) rfl))))) dX12_openFor_42 ?_
        refine lv_iadd hx hb dX12_openFor_45 ?_
        refine lv_aload_n hx hb dX12_openFor_46 rfl (lv_at hl 0 rfl) ?_
        refine lv_iload_n hx hb dX12_openFor_47 rfl (lv_at hl 2 rfl) ?_
        obtain ⟨r1, hc1, h⟩ := ob_ex h
        refine nc_Vi (As := [.int (L 2)]) (rest := [.int (((σ.1 64)) + ((σ.1 65)))]) ⟨hx, hb, hml, hown, hts⟩ (c_x_size l dC dI cy a k (upd (fun _ => 0) 1 ((L 2))) σ r1 hc1 H.size) (cwV 1 hts g_x_openFor_size_432 rfl rfl rfl hd_x_size ⟨Nat.le_of_ble_eq_true rfl, Nat.le_of_ble_eq_true rfl⟩) hK hG hA hP hD hS rfl hl.1 rfl (Nat.le_of_ble_eq_true rfl) dX12_openFor_48 ⟨Nat.le_refl _, Nat.le_refl _⟩ (fun H locs hP hD hS => ?_)
        refine lv_iadd hx hb dX12_openFor_51 ?_
        refine lv_ldcw (v := 40000) hx hb hown (hts _ (List.mem_cons_of_mem _ (List.mem_append_left _ (List.mem_append_left _ (List.mem_of_getElem? (i := 20) rfl))))) dX12_openFor_52 ?_
        refine lv_icmp_le (tgt := 65) hx hb dX12_openFor_55 (by decide) (fun c2 => ?_) (fun c2 => ?_)
        · rw [if_pos c2] at h
          exact ih.2.2.2.1 L r1.2 r h H locs ls hP hD hS (lv_sub hl [0, 1, 2] rfl)
        · rw [if_neg c2] at h
          refine lv_aload_n hx hb dX12_openFor_58 rfl (lv_at hl 0 rfl) ?_
          refine lv_bipush (v := 6) hx hb dX12_openFor_59 (by decide) ?_
          obtain ⟨r3, hc3, h⟩ := ob_ex h
          refine nc_Vv (As := [.int 6]) (rest := []) ⟨hx, hb, hml, hown, hts⟩ (c_x_fail l dC dI cy a k (upd (fun _ => 0) 1 6) r1.2 r3 hc3 H.size) (cwV 1 hts g_x_openFor_fail_369 rfl rfl rfl hd_x_fail ⟨Nat.le_of_ble_eq_true rfl, Nat.le_of_ble_eq_true rfl⟩) hK hG hA hP hD hS rfl hl.1 rfl (Nat.le_of_ble_eq_true rfl) dX12_openFor_61 ⟨Nat.le_refl _, Nat.le_refl _⟩ (fun H locs hP hD hS => ?_)
          cases h
          exact W.vret hx hb hr (fun t ht hW => ⟨⟨(), rfl, trivial, by rw [ht]; exact hP, va_K.moved hW.alike hK, hD⟩, hS.F ht⟩) hS.2.2 dX12_openFor_64
      · intro L σ r h H locs ls hP hD hS hl
        rw [x_openFor] at h
        refine lv_aload_n hx hb dX12_openFor_65 rfl (lv_at hl 0 rfl) ?_
        refine lv_dup hx hb dX12_openFor_66 rfl ?_
        refine ng_64 hx hb hts in_x_openFor hown hK hP (hts _ (List.mem_cons_of_mem _ (List.mem_append_left _ (List.mem_append_left _ (List.mem_of_getElem? (i := 15) rfl))))) dX12_openFor_67 ?_
        refine lv_aload_n hx hb dX12_openFor_70 rfl (lv_at hl 0 rfl) ?_
        refine lv_iload_n hx hb dX12_openFor_71 rfl (lv_at hl 2 rfl) ?_
        obtain ⟨r1, hc1, h⟩ := ob_ex h
        refine nc_Vi (As := [.int (L 2)]) (rest := [.int (σ.1 64), .ref (a 0)]) ⟨hx, hb, hml, hown, hts⟩ (c_x_size l dC dI cy a k (upd (fun _ => 0) 1 ((L 2))) σ r1 hc1 H.size) (cwV 1 hts g_x_openFor_size_432 rfl rfl rfl hd_x_size ⟨Nat.le_of_ble_eq_true rfl, Nat.le_of_ble_eq_true rfl⟩) hK hG hA hP hD hS rfl hl.1 rfl (Nat.le_of_ble_eq_true rfl) dX12_openFor_72 ⟨Nat.le_refl _, Nat.le_refl _⟩ (fun H locs hP hD hS => ?_)
        refine lv_iadd hx hb dX12_openFor_75 ?_
        refine np_64 hx hb hts in_x_openFor hown hK hP hD hS (hts _ (List.mem_cons_of_mem _ (List.mem_append_left _ (List.mem_append_left _ (List.mem_of_getElem? (i := 15) rfl))))) dX12_openFor_76 (fun H locs hP hD hS => ?_)
        exact ih.2.2.2.2.1 L (upd r1.2.1 64 ((((σ.1 64)) + r1.1)), r1.2.2.1, r1.2.2.2) r h H locs ls hP hD hS (lv_sub hl [0, 1, 2] rfl)
      · intro L σ r h H locs ls hP hD hS hl
        rw [x_openFor] at h
        refine lv_aload_n hx hb dX12_openFor_79 rfl (lv_at hl 0 rfl) ?_
        refine ng_60 hx hb hts in_x_openFor hown hK hP (hts _ (List.mem_cons_of_mem _ (List.mem_append_left _ (List.mem_append_left _ (List.mem_of_getElem? (i := 21) rfl))))) dX12_openFor_80 ?_
        refine lv_sipush (v := 5314) hx hb dX12_openFor_83 (by decide) ?_
        refine lv_aload_n hx hb dX12_openFor_86 rfl (lv_at hl 0 rfl) ?_
        refine ng_60 hx hb hts in_x_openFor hown hK hP (hts _ (List.mem_cons_of_mem _ (List.mem_append_left _ (List.mem_append_left _ (List.mem_of_getElem? (i := 21) rfl))))) dX12_openFor_87 ?_
        refine lv_iconst (v := 3) hx hb dX12_openFor_90 (by decide) ?_
        obtain ⟨q1, h⟩ := nb_ite1 h
        refine nl_30 hx hb hK hP q1 dX12_openFor_91 ?_
        refine lv_iadd hx hb dX12_openFor_92 ?_
        refine lv_iload_n hx hb dX12_openFor_93 rfl (lv_at hl 2 rfl) ?_
        obtain ⟨q2, h⟩ := nb_ite1 h
        refine ns_30 hx hb hK hP hD hS q2 dX12_openFor_94 (fun H locs hP hD hS => ?_)
        exact ih.2.2.2.2.2.1 L (σ.1, σ.2.1, updG σ.2.2 30 (upd (σ.2.2 30) ((5314 + ((σ.2.2 30 (3 : Int32).toNatClampNeg)))).toNatClampNeg ((L 2)))) r h H locs ls hP hD hS (lv_sub hl [0, 1, 2] rfl)
      · intro L σ r h H locs ls hP hD hS hl
        rw [x_openFor] at h
        refine lv_aload_n hx hb dX12_openFor_95 rfl (lv_at hl 0 rfl) ?_
        refine ng_60 hx hb hts in_x_openFor hown hK hP (hts _ (List.mem_cons_of_mem _ (List.mem_append_left _ (List.mem_append_left _ (List.mem_of_getElem? (i := 21) rfl))))) dX12_openFor_96 ?_
        refine lv_sipush (v := 8414) hx hb dX12_openFor_99 (by decide) ?_
        refine lv_aload_n hx hb dX12_openFor_102 rfl (lv_at hl 0 rfl) ?_
        refine ng_60 hx hb hts in_x_openFor hown hK hP (hts _ (List.mem_cons_of_mem _ (List.mem_append_left _ (List.mem_append_left _ (List.mem_of_getElem? (i := 21) rfl))))) dX12_openFor_103 ?_
        refine lv_iconst (v := 3) hx hb dX12_openFor_106 (by decide) ?_
        obtain ⟨q1, h⟩ := nb_ite1 h
        refine nl_30 hx hb hK hP q1 dX12_openFor_107 ?_
        refine lv_iadd hx hb dX12_openFor_108 ?_
        refine lv_iconst (v := 0) hx hb dX12_openFor_109 (by decide) ?_
        obtain ⟨q2, h⟩ := nb_ite1 h
        refine ns_30 hx hb hK hP hD hS q2 dX12_openFor_110 (fun H locs hP hD hS => ?_)
        exact ih.2.2.2.2.2.2 L (σ.1, σ.2.1, updG σ.2.2 30 (upd (σ.2.2 30) ((8414 + ((σ.2.2 30 (3 : Int32).toNatClampNeg)))).toNatClampNeg 0)) r h H locs ls hP hD hS (lv_sub hl [0, 1, 2] rfl)
      · intro L σ r h H locs ls hP hD hS hl
        rw [x_openFor] at h
        refine lv_aload_n hx hb dX12_openFor_111 rfl (lv_at hl 0 rfl) ?_
        refine ng_60 hx hb hts in_x_openFor hown hK hP (hts _ (List.mem_cons_of_mem _ (List.mem_append_left _ (List.mem_append_left _ (List.mem_of_getElem? (i := 21) rfl))))) dX12_openFor_112 ?_
        refine lv_iconst (v := 3) hx hb dX12_openFor_115 (by decide) ?_
        refine lv_dup2_11 hx hb dX12_openFor_116 rfl rfl ?_
        obtain ⟨q1, h⟩ := nb_ite1 h
        refine nl_30 hx hb hK hP q1 dX12_openFor_117 ?_
        refine lv_iconst (v := 1) hx hb dX12_openFor_118 (by decide) ?_
        refine lv_iadd hx hb dX12_openFor_119 ?_
        obtain ⟨q2, h⟩ := nb_ite1 h
        refine ns_30 hx hb hK hP hD hS q2 dX12_openFor_120 (fun H locs hP hD hS => ?_)
        cases h
        exact W.vret hx hb hr (fun t ht hW => ⟨⟨(), rfl, trivial, by rw [ht]; exact hP, va_K.moved hW.alike hK, hD⟩, hS.F ht⟩) hS.2.2 dX12_openFor_121
  exact (blk k0).1 L0 σ0 r0 h0 s.heap [] ls hP hD hS hl

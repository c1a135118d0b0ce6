/-! divide -/
def x_divide : Nat → Nat → (Nat → Int32) → MS → Option (Int32 × MS)
  | 0, _, _, _ => none
  | k + 1, 0, L, σ => ob (x_signOf k 0 (upd (fun _ => 0) 1 ((L 2))) σ) (fun r1 => if r1.1 = 0 then (ob (x_fail k 0 (upd (fun _ => 0) 1 2) r1.2) (fun r3 => some (0, r3.2))) else (x_divide k 1 L r1.2))
  | k + 1, 1, L, σ => ob (x_loadA k 0 (upd (fun _ => 0) 1 ((L 1))) σ) (fun r1 => ob (x_loadB k 0 (upd (fun _ => 0) 1 ((L 2))) r1.2) (fun r2 => ob (x_divideRows k 0 (fun _ => 0) r2.2) (fun r3 => ob (x_signOf k 0 (upd (fun _ => 0) 1 ((L 1))) r3.2) (fun r4 => if 0 ≤ r4.1 then (x_divide k 2 L r4.2) else (if ((r4.2.1 90)) ≤ 0 then (x_divide k 2 L r4.2) else (x_divide k 3 (upd L 100 1) r4.2))))))
  | k + 1, 2, L, σ => x_divide k 3 (upd L 100 0) σ
  | k + 1, 3, L, σ => if ((L 3)) = 0 then (x_divide k 16 (upd L 4 ((L 100))) σ) else (if ((L 100)) = 0 then (x_divide k 4 (upd L 4 ((L 100))) σ) else (x_divide k 5 (upd (upd L 4 ((L 100))) 100 ((σ.1 85))) σ))
  | k + 1, 4, L, σ => x_divide k 5 (upd L 100 ((σ.1 90))) σ
  | k + 1, 5, L, σ => x_divide k 6 L (upd σ.1 86 ((L 100)), σ.2.1, σ.2.2)
  | k + 1, 6, L, σ => x_divide k 7 (upd (upd L 5 0) 6 0) σ
  | k + 1, 7, L, σ => if ((σ.1 86)) ≤ ((L 6)) then (x_divide k 15 L σ) else (if ((σ.1 90)) ≤ ((L 6)) then (x_divide k 8 L σ) else (if ¬ (((L 6)) < 0 ∨ 140 ≤ ((L 6)).toNatClampNeg) then (x_divide k 9 (upd L 100 ((σ.2.2 46 ((L 6)).toNatClampNeg))) σ) else none))
  | k + 1, 8, L, σ => x_divide k 9 (upd L 100 0) σ
  | k + 1, 9, L, σ => if ((L 4)) = 0 then (x_divide k 10 (upd L 7 ((L 100))) σ) else (if ¬ (((L 6)) < 0 ∨ 140 ≤ ((L 6)).toNatClampNeg) then (x_divide k 11 (upd (upd L 7 ((L 100))) 100 ((((((σ.2.2 43 ((L 6)).toNatClampNeg)) - ((L 100)))) - ((L 5))))) σ) else none)
  | k + 1, 10, L, σ => x_divide k 11 (upd L 100 ((L 7))) σ
  | k + 1, 11, L, σ => if ((L 4)) = 0 then (x_divide k 12 (upd L 8 ((L 100))) σ) else (if 0 ≤ ((L 100)) then (x_divide k 12 (upd L 8 ((L 100))) σ) else (x_divide k 13 (upd (upd L 8 ((L 100))) 100 1) σ))
  | k + 1, 12, L, σ => x_divide k 13 (upd L 100 0) σ
  | k + 1, 13, L, σ => if ¬ (((L 6)) < 0 ∨ 300 ≤ ((L 6)).toNatClampNeg) then (x_divide k 14 (upd L 5 ((L 100))) (σ.1, σ.2.1, updG σ.2.2 44 (upd (σ.2.2 44) ((L 6)).toNatClampNeg ((((L 8)) &&& 65535))))) else none
  | k + 1, 14, L, σ => x_divide k 7 (upd L 6 (((L 6)) + 1)) σ
  | k + 1, 15, L, σ => ob (x_wholeOf k 0 (upd (fun _ => 0) 1 1) σ) (fun r1 => some (r1.1, r1.2))
  | k + 1, 16, L, σ => x_divide k 17 L (upd σ.1 86 ((σ.1 89)), σ.2.1, σ.2.2)
  | k + 1, 17, L, σ => if ((L 4)) = 0 then (x_divide k 18 L σ) else (x_divide k 19 (upd L 100 1) σ)
  | k + 1, 18, L, σ => x_divide k 19 (upd L 100 0) σ
  | k + 1, 19, L, σ => x_divide k 20 (upd (upd L 5 ((L 100))) 6 0) σ
  | k + 1, 20, L, σ => if ((σ.1 86)) ≤ ((L 6)) then (x_divide k 22 L σ) else (if ¬ (((L 6)) < 0 ∨ 140 ≤ ((L 6)).toNatClampNeg) then (if ¬ (((L 6)) < 0 ∨ 300 ≤ ((L 6)).toNatClampNeg) then (x_divide k 21 (upd L 7 ((((σ.2.2 45 ((L 6)).toNatClampNeg)) + ((L 5))))) (σ.1, σ.2.1, updG σ.2.2 44 (upd (σ.2.2 44) ((L 6)).toNatClampNeg ((((((σ.2.2 45 ((L 6)).toNatClampNeg)) + ((L 5)))) &&& 65535))))) else none) else none)
  | k + 1, 21, L, σ => x_divide k 20 (upd (upd L 5 ((((L 7)) >>> ((16 : Int32) &&& 31)))) 6 (((L 6)) + 1)) σ
  | k + 1, 22, L, σ => if ((L 5)) ≤ 0 then (x_divide k 24 L σ) else (if ¬ (((σ.1 86)) < 0 ∨ 300 ≤ ((σ.1 86)).toNatClampNeg) then (x_divide k 23 L (σ.1, σ.2.1, updG σ.2.2 44 (upd (σ.2.2 44) ((σ.1 86)).toNatClampNeg ((L 5))))) else none)
  | k + 1, 23, L, σ => x_divide k 24 L (upd σ.1 86 ((((σ.1 86)) + 1)), σ.2.1, σ.2.2)
  | k + 1, 24, L, σ => ob (x_signOf k 0 (upd (fun _ => 0) 1 ((L 1))) σ) (fun r1 => ob (x_signOf k 0 (upd (fun _ => 0) 1 ((L 2))) r1.2) (fun r2 => ob (x_wholeOf k 0 (upd (fun _ => 0) 1 ((r1.1 * r2.1))) r2.2) (fun r3 => some (r3.1, r3.2))))
  | _ + 1, _ + 25, _, _ => none
def o_x_divide : List Cond := [.methodLink RX12 463 yX12_signOf, .instanceMethod yX12_signOf, .selects RX12 yX12_signOf yX12_signOf, .initialized RX12, .methodLink RX12 369 yX12_fail, .instanceMethod yX12_fail, .selects RX12 yX12_fail yX12_fail, .methodLink RX12 488 yX12_loadA, .instanceMethod yX12_loadA, .selects RX12 yX12_loadA yX12_loadA, .methodLink RX12 491 yX12_loadB, .instanceMethod yX12_loadB, .selects RX12 yX12_loadB yX12_loadB, .methodLink RX12 512 yX12_divideRows, .instanceMethod yX12_divideRows, .selects RX12 yX12_divideRows yX12_divideRows, .fieldLink RX12 503 "SetHouseModel" "nr" "I", .fieldLink RX12 472 "SetHouseModel" "nb" "I", .fieldLink RX12 478 "SetHouseModel" "nc" "I", .fieldLink RX12 509 "SetHouseModel" "rest" "[I", .fieldLink RX12 475 "SetHouseModel" "rb" "[I", .fieldLink RX12 481 "SetHouseModel" "rc" "[I", .constant RX12 484 (65535), .methodLink RX12 485 yX12_wholeOf, .instanceMethod yX12_wholeOf, .selects RX12 yX12_wholeOf yX12_wholeOf, .fieldLink RX12 500 "SetHouseModel" "nq" "I", .fieldLink RX12 506 "SetHouseModel" "quotient" "[I"]
theorem o_x_divide_good : o_x_divide.all goodWord = true := by decide +kernel
def p_x_divide : List Cond := o_x_divide ++ ((.code yX12_signOf cX12_signOf 2 (some .int) :: p_x_signOf) ++ ((.code yX12_fail cX12_fail 2 none :: p_x_fail) ++ ((.code yX12_loadA cX12_loadA 3 none :: p_x_loadA) ++ ((.code yX12_loadB cX12_loadB 3 none :: p_x_loadB) ++ ((.code yX12_divideRows cX12_divideRows 6 none :: p_x_divideRows) ++ ((.code yX12_wholeOf cX12_wholeOf 4 (some .int) :: p_x_wholeOf) ++ []))))))
theorem p_x_divide_good : p_x_divide.all goodWord = true := nb_all2 o_x_divide_good (nb_all2 (nb_allc (by decide +kernel) p_x_signOf_good) (nb_all2 (nb_allc (by decide +kernel) p_x_fail_good) (nb_all2 (nb_allc (by decide +kernel) p_x_loadA_good) (nb_all2 (nb_allc (by decide +kernel) p_x_loadB_good) (nb_all2 (nb_allc (by decide +kernel) p_x_divideRows_good) (nb_all2 (nb_allc (by decide +kernel) p_x_wholeOf_good) rfl))))))
def w_x_divide : List Cond := .code yX12_divide cX12_divide 9 (some .int) :: (p_x_divide ++ fM)
theorem w_x_divide_good : w_x_divide.all goodWord = true := nb_allc (by decide +kernel) (nb_all2 p_x_divide_good fM_good)
theorem in_x_divide : ∀ w ∈ wsX120, w ∈ w_x_divide := fun _ h => List.mem_cons_of_mem _ (List.mem_append_right _ h)
theorem hd_x_divide : yX12_divide.cls = RX12 ∧ yX12_divide.cls ≠ "java/lang/invoke/MethodHandle" ∧ yX12_divide.cls ≠ "java/lang/invoke/VarHandle" ∧ (parseMethodDescriptor yX12_divide.desc).map (fun d => d.parameters.length) = some 3 := by decide +kernel
theorem gg_x_divide_divideRows : GoodIn w_x_divide w_x_divideRows := goodIn_sub (fun w h => (List.mem_cons.mp h).elim (fun e => (List.mem_cons_of_mem _ (List.mem_append_left _ (List.mem_append_right _ (List.mem_append_right _ (List.mem_append_right _ (List.mem_append_right _ (List.mem_append_right _ (List.mem_append_left _ (List.mem_cons.mpr (Or.inl e))))))))))) (fun h => (List.mem_append.mp h).elim (fun h => (List.mem_cons_of_mem _ (List.mem_append_left _ (List.mem_append_right _ (List.mem_append_right _ (List.mem_append_right _ (List.mem_append_right _ (List.mem_append_right _ (List.mem_append_left _ (List.mem_cons_of_mem _ h)))))))))) (fun h => List.mem_cons_of_mem _ (List.mem_append_right _ h)))) w_x_divideRows_good
theorem g_x_divide_divideRows_512 : GoodIn w_x_divide (wsV RX12 512 RX12 yX12_divideRows w_x_divideRows) := goodIn_app (nb_g4 (List.mem_cons_of_mem _ (List.mem_append_left _ (List.mem_append_left _ (List.mem_of_getElem? (i := 13) rfl)))) (List.mem_cons_of_mem _ (List.mem_append_left _ (List.mem_append_left _ (List.mem_of_getElem? (i := 14) rfl)))) (List.mem_cons_of_mem _ (List.mem_append_left _ (List.mem_append_left _ (List.mem_of_getElem? (i := 15) rfl)))) (List.mem_cons_of_mem _ (List.mem_append_left _ (List.mem_append_left _ (List.mem_of_getElem? (i := 3) rfl)))) (by decide +kernel)) gg_x_divide_divideRows
theorem gg_x_divide_fail : GoodIn w_x_divide w_x_fail := goodIn_sub (fun w h => (List.mem_cons.mp h).elim (fun e => (List.mem_cons_of_mem _ (List.mem_append_left _ (List.mem_append_right _ (List.mem_append_right _ (List.mem_append_left _ (List.mem_cons.mpr (Or.inl e)))))))) (fun h => (List.mem_append.mp h).elim (fun h => (List.mem_cons_of_mem _ (List.mem_append_left _ (List.mem_append_right _ (List.mem_append_right _ (List.mem_append_left _ (List.mem_cons_of_mem _ h))))))) (fun h => List.mem_cons_of_mem _ (List.mem_append_right _ h)))) w_x_fail_good
theorem g_x_divide_fail_369 : GoodIn w_x_divide (wsV RX12 369 RX12 yX12_fail w_x_fail) := goodIn_app (nb_g4 (List.mem_cons_of_mem _ (List.mem_append_left _ (List.mem_append_left _ (List.mem_of_getElem? (i := 4) rfl)))) (List.mem_cons_of_mem _ (List.mem_append_left _ (List.mem_append_left _ (List.mem_of_getElem? (i := 5) rfl)))) (List.mem_cons_of_mem _ (List.mem_append_left _ (List.mem_append_left _ (List.mem_of_getElem? (i := 6) rfl)))) (List.mem_cons_of_mem _ (List.mem_append_left _ (List.mem_append_left _ (List.mem_of_getElem? (i := 3) rfl)))) (by decide +kernel)) gg_x_divide_fail
theorem gg_x_divide_loadA : GoodIn w_x_divide w_x_loadA := goodIn_sub (fun w h => (List.mem_cons.mp h).elim (fun e => (List.mem_cons_of_mem _ (List.mem_append_left _ (List.mem_append_right _ (List.mem_append_right _ (List.mem_append_right _ (List.mem_append_left _ (List.mem_cons.mpr (Or.inl e))))))))) (fun h => (List.mem_append.mp h).elim (fun h => (List.mem_cons_of_mem _ (List.mem_append_left _ (List.mem_append_right _ (List.mem_append_right _ (List.mem_append_right _ (List.mem_append_left _ (List.mem_cons_of_mem _ h)))))))) (fun h => List.mem_cons_of_mem _ (List.mem_append_right _ h)))) w_x_loadA_good
theorem g_x_divide_loadA_488 : GoodIn w_x_divide (wsV RX12 488 RX12 yX12_loadA w_x_loadA) := goodIn_app (nb_g4 (List.mem_cons_of_mem _ (List.mem_append_left _ (List.mem_append_left _ (List.mem_of_getElem? (i := 7) rfl)))) (List.mem_cons_of_mem _ (List.mem_append_left _ (List.mem_append_left _ (List.mem_of_getElem? (i := 8) rfl)))) (List.mem_cons_of_mem _ (List.mem_append_left _ (List.mem_append_left _ (List.mem_of_getElem? (i := 9) rfl)))) (List.mem_cons_of_mem _ (List.mem_append_left _ (List.mem_append_left _ (List.mem_of_getElem? (i := 3) rfl)))) (by decide +kernel)) gg_x_divide_loadA
theorem gg_x_divide_loadB : GoodIn w_x_divide w_x_loadB := goodIn_sub (fun w h => (List.mem_cons.mp h).elim (fun e => (List.mem_cons_of_mem _ (List.mem_append_left _ (List.mem_append_right _ (List.mem_append_right _ (List.mem_append_right _ (List.mem_append_right _ (List.mem_append_left _ (List.mem_cons.mpr (Or.inl e)))))))))) (fun h => (List.mem_append.mp h).elim (fun h => (List.mem_cons_of_mem _ (List.mem_append_left _ (List.mem_append_right _ (List.mem_append_right _ (List.mem_append_right _ (List.mem_append_right _ (List.mem_append_left _ (List.mem_cons_of_mem _ h))))))))) (fun h => List.mem_cons_of_mem _ (List.mem_append_right _ h)))) w_x_loadB_good
theorem g_x_divide_loadB_491 : GoodIn w_x_divide (wsV RX12 491 RX12 yX12_loadB w_x_loadB) := goodIn_app (nb_g4 (List.mem_cons_of_mem _ (List.mem_append_left _ (List.mem_append_left _ (List.mem_of_getElem? (i := 10) rfl)))) (List.mem_cons_of_mem _ (List.mem_append_left _ (List.mem_append_left _ (List.mem_of_getElem? (i := 11) rfl)))) (List.mem_cons_of_mem _ (List.mem_append_left _ (List.mem_append_left _ (List.mem_of_getElem? (i := 12) rfl)))) (List.mem_cons_of_mem _ (List.mem_append_left _ (List.mem_append_left _ (List.mem_of_getElem? (i := 3) rfl)))) (by decide +kernel)) gg_x_divide_loadB
theorem gg_x_divide_signOf : GoodIn w_x_divide w_x_signOf := goodIn_sub (fun w h => (List.mem_cons.mp h).elim (fun e => (List.mem_cons_of_mem _ (List.mem_append_left _ (List.mem_append_right _ (List.mem_append_left _ (List.mem_cons.mpr (Or.inl e))))))) (fun h => (List.mem_append.mp h).elim (fun h => (List.mem_cons_of_mem _ (List.mem_append_left _ (List.mem_append_right _ (List.mem_append_left _ (List.mem_cons_of_mem _ h)))))) (fun h => List.mem_cons_of_mem _ (List.mem_append_right _ h)))) w_x_signOf_good
theorem g_x_divide_signOf_463 : GoodIn w_x_divide (wsV RX12 463 RX12 yX12_signOf w_x_signOf) := goodIn_app (nb_g4 (List.mem_cons_of_mem _ (List.mem_append_left _ (List.mem_append_left _ (List.mem_of_getElem? (i := 0) rfl)))) (List.mem_cons_of_mem _ (List.mem_append_left _ (List.mem_append_left _ (List.mem_of_getElem? (i := 1) rfl)))) (List.mem_cons_of_mem _ (List.mem_append_left _ (List.mem_append_left _ (List.mem_of_getElem? (i := 2) rfl)))) (List.mem_cons_of_mem _ (List.mem_append_left _ (List.mem_append_left _ (List.mem_of_getElem? (i := 3) rfl)))) (by decide +kernel)) gg_x_divide_signOf
theorem gg_x_divide_wholeOf : GoodIn w_x_divide w_x_wholeOf := goodIn_sub (fun w h => (List.mem_cons.mp h).elim (fun e => (List.mem_cons_of_mem _ (List.mem_append_left _ (List.mem_append_right _ (List.mem_append_right _ (List.mem_append_right _ (List.mem_append_right _ (List.mem_append_right _ (List.mem_append_right _ (List.mem_append_left _ (List.mem_cons.mpr (Or.inl e)))))))))))) (fun h => (List.mem_append.mp h).elim (fun h => (List.mem_cons_of_mem _ (List.mem_append_left _ (List.mem_append_right _ (List.mem_append_right _ (List.mem_append_right _ (List.mem_append_right _ (List.mem_append_right _ (List.mem_append_right _ (List.mem_append_left _ (List.mem_cons_of_mem _ h))))))))))) (fun h => List.mem_cons_of_mem _ (List.mem_append_right _ h)))) w_x_wholeOf_good
theorem g_x_divide_wholeOf_485 : GoodIn w_x_divide (wsV RX12 485 RX12 yX12_wholeOf w_x_wholeOf) := goodIn_app (nb_g4 (List.mem_cons_of_mem _ (List.mem_append_left _ (List.mem_append_left _ (List.mem_of_getElem? (i := 23) rfl)))) (List.mem_cons_of_mem _ (List.mem_append_left _ (List.mem_append_left _ (List.mem_of_getElem? (i := 24) rfl)))) (List.mem_cons_of_mem _ (List.mem_append_left _ (List.mem_append_left _ (List.mem_of_getElem? (i := 25) rfl)))) (List.mem_cons_of_mem _ (List.mem_append_left _ (List.mem_append_left _ (List.mem_of_getElem? (i := 3) rfl)))) (by decide +kernel)) gg_x_divide_wholeOf
set_option maxHeartbeats 40000000 in
set_option maxRecDepth 100000 in
theorem c_x_divide (l : Launch) (dC : Nat → ClassId) (dI : Nat → Nat → Nat) (cy : Nat → ClassId) (a : Nat → Nat) (k0 : Nat) (L0 : Nat → Int32) (σ0 : MS) (r0 : Int32 × MS) (h0 : x_divide k0 0 L0 σ0 = some r0) (sz : Nat) : Met l yX12_divide w_x_divide ({ frames := 3, cells := 0, slots := 0, locals := 67 }) (va_Pc [.ref (a 0), .int (L0 1), .int (L0 2), .int (L0 3)] (nIn (dC, dI) cy sz (vM cy a σ0))) (va_Qi (fun (z : Int32) (_ : Unit) => z = r0.1) (fun _ t => nOut (dC, dI) cy (va_A (vM cy a σ0) sz) (vM cy a r0.2) t) (va_A (vM cy a σ0) sz)) 0 0 (va_A (vM cy a σ0) sz) := by
  refine Met.ofW (cc := cX12_divide) (maxL := 9) (ret := (some .int)) (by decide) rfl ?_
  intro p e s m args below meth c s₁ B hml hv
  obtain ⟨rfl, hsz, hP, hK, hD0, hG⟩ := hv
  have hx := B.exec
  have hb := B.bytes
  have hr := B.returns
  have hts := atoms_spec (ws := w_x_divide) B.pre
  have hown : s.vm.findClass RX12 = some m.cls := findClass_of_methodNamed B.named
  have hlocks := B.notSynchronized
  subst hsz
  have hD := hD0.self (sz := s.heap.size)
  generalize hAe : va_A (vM cy a σ0) s.heap.size = A at hD ⊢
  have hA : ∀ q : Nat, s.heap.size ≤ q → A q := fun q h => by rw [← hAe]; exact Or.inr h
  have hS : va_S A s.heap s.heap [] := va_S.rf
  have hl := lv_entry ([.ref (a 0), .int (L0 1), .int (L0 2), .int (L0 3)]) (n := 9) (Nat.le_of_ble_eq_true rfl)
  rw [lg_entry_eq]
  generalize (lg_sl ([.ref (a 0), .int (L0 1), .int (L0 2), .int (L0 3)]) ++ List.replicate (9 - (lg_sl ([.ref (a 0), .int (L0 1), .int (L0 2), .int (L0 3)])).length) Slot.unset).toArray = ls at hl ⊢
  have hl : lv_has ls 9 [(0, .ref (a 0)), (1, .int (L0 1)), (2, .int (L0 2)), (3, .int (L0 3))] := hl
  have blk : ∀ k : Nat, (bT p l e (headSpec w_x_divide ({ frames := 3, cells := 0, slots := 0, locals := 67 })).room s m #[.ref (a 0), .int (L0 1), .int (L0 2), .int (L0 3)] below meth c dC dI cy a A (qI dC dI cy a A below #[.ref (a 0), .int (L0 1), .int (L0 2), .int (L0 3)] s) 9 (x_divide k 0) (fun L => [(0, .ref (a 0)), (1, .int (L 1)), (2, .int (L 2)), (3, .int (L 3))]) 0 (fun L => [])) ∧ (bT p l e (headSpec w_x_divide ({ frames := 3, cells := 0, slots := 0, locals := 67 })).room s m #[.ref (a 0), .int (L0 1), .int (L0 2), .int (L0 3)] below meth c dC dI cy a A (qI dC dI cy a A below #[.ref (a 0), .int (L0 1), .int (L0 2), .int (L0 3)] s) 9 (x_divide k 1) (fun L => [(0, .ref (a 0)), (1, .int (L 1)), (2, .int (L 2)), (3, .int (L 3))]) 15 (fun L => [])) ∧ (bT p l e (headSpec w_x_divide ({ frames := 3, cells := 0, slots := 0, locals := 67 })).room s m #[.ref (a 0), .int (L0 1), .int (L0 2), .int (L0 3)] below meth c dC dI cy a A (qI dC dI cy a A below #[.ref (a 0), .int (L0 1), .int (L0 2), .int (L0 3)] s) 9 (x_divide k 2) (fun L => [(0, .ref (a 0)), (1, .int (L 1)), (2, .int (L 2)), (3, .int (L 3))]) 48 (fun L => [])) ∧ (bT p l e (headSpec w_x_divide ({ frames := 3, cells := 0, slots := 0, locals := 67 })).room s m #[.ref (a 0), .int (L0 1), .int (L0 2), .int (L0 3)] below meth c dC dI cy a A (qI dC dI cy a A below #[.ref (a 0), .int (L0 1), .int (L0 2), .int (L0 3)] s) 9 (x_divide k 3) (fun L => [(0, .ref (a 0)), (1, .int (L 1)), (2, .int (L 2)), (3, .int (L 3))]) 49 (fun L => [.int (L 100)])) ∧ (bT p l e (headSpec w_x_divide ({ frames := 3, cells := 0, slots := 0, locals := 67 })).room s m #[.ref (a 0), .int (L0 1), .int (L0 2), .int (L0 3)] below meth c dC dI cy a A (qI dC dI cy a A below #[.ref (a 0), .int (L0 1), .int (L0 2), .int (L0 3)] s) 9 (x_divide k 4) (fun L => [(0, .ref (a 0)), (1, .int (L 1)), (2, .int (L 2)), (3, .int (L 3)), (4, .int (L 4))]) 68 (fun L => [.ref (a 0)])) ∧ (bT p l e (headSpec w_x_divide ({ frames := 3, cells := 0, slots := 0, locals := 67 })).room s m #[.ref (a 0), .int (L0 1), .int (L0 2), .int (L0 3)] below meth c dC dI cy a A (qI dC dI cy a A below #[.ref (a 0), .int (L0 1), .int (L0 2), .int (L0 3)] s) 9 (x_divide k 5) (fun L => [(0, .ref (a 0)), (1, .int (L 1)), (2, .int (L 2)), (3, .int (L 3)), (4, .int (L 4))]) 72 (fun L => [.int (L 100), .ref (a 0)])) ∧ (bT p l e (headSpec w_x_divide ({ frames := 3, cells := 0, slots := 0, locals := 67 })).room s m #[.ref (a 0), .int (L0 1), .int (L0 2), .int (L0 3)] below meth c dC dI cy a A (qI dC dI cy a A below #[.ref (a 0), .int (L0 1), .int (L0 2), .int (L0 3)] s) 9 (x_divide k 6) (fun L => [(0, .ref (a 0)), (1, .int (L 1)), (2, .int (L 2)), (3, .int (L 3)), (4, .int (L 4))]) 75 (fun L => [])) ∧ (bT p l e (headSpec w_x_divide ({ frames := 3, cells := 0, slots := 0, locals := 67 })).room s m #[.ref (a 0), .int (L0 1), .int (L0 2), .int (L0 3)] below meth c dC dI cy a A (qI dC dI cy a A below #[.ref (a 0), .int (L0 1), .int (L0 2), .int (L0 3)] s) 9 (x_divide k 7) (fun L => [(0, .ref (a 0)), (1, .int (L 1)), (2, .int (L 2)), (3, .int (L 3)), (4, .int (L 4)), (5, .int (L 5)), (6, .int (L 6))]) 81 (fun L => [])) ∧ (bT p l e (headSpec w_x_divide ({ frames := 3, cells := 0, slots := 0, locals := 67 })).room s m #[.ref (a 0), .int (L0 1), .int (L0 2), .int (L0 3)] below meth c dC dI cy a A (qI dC dI cy a A below #[.ref (a 0), .int (L0 1), .int (L0 2), .int (L0 3)] s) 9 (x_divide k 8) (fun L => [(0, .ref (a 0)), (1, .int (L 1)), (2, .int (L 2)), (3, .int (L 3)), (4, .int (L 4)), (5, .int (L 5)), (6, .int (L 6))]) 109 (fun L => [])) ∧ (bT p l e (headSpec w_x_divide ({ frames := 3, cells := 0, slots := 0, locals := 67 })).room s m #[.ref (a 0), .int (L0 1), .int (L0 2), .int (L0 3)] below meth c dC dI cy a A (qI dC dI cy a A below #[.ref (a 0), .int (L0 1), .int (L0 2), .int (L0 3)] s) 9 (x_divide k 9) (fun L => [(0, .ref (a 0)), (1, .int (L 1)), (2, .int (L 2)), (3, .int (L 3)), (4, .int (L 4)), (5, .int (L 5)), (6, .int (L 6))]) 110 (fun L => [.int (L 100)])) ∧ (bT p l e (headSpec w_x_divide ({ frames := 3, cells := 0, slots := 0, locals := 67 })).room s m #[.ref (a 0), .int (L0 1), .int (L0 2), .int (L0 3)] below meth c dC dI cy a A (qI dC dI cy a A below #[.ref (a 0), .int (L0 1), .int (L0 2), .int (L0 3)] s) 9 (x_divide k 10) (fun L => [(0, .ref (a 0)), (1, .int (L 1)), (2, .int (L 2)), (3, .int (L 3)), (4, .int (L 4)), (5, .int (L 5)), (6, .int (L 6)), (7, .int (L 7))]) 133 (fun L => [])) ∧ (bT p l e (headSpec w_x_divide ({ frames := 3, cells := 0, slots := 0, locals := 67 })).room s m #[.ref (a 0), .int (L0 1), .int (L0 2), .int (L0 3)] below meth c dC dI cy a A (qI dC dI cy a A below #[.ref (a 0), .int (L0 1), .int (L0 2), .int (L0 3)] s) 9 (x_divide k 11) (fun L => [(0, .ref (a 0)), (1, .int (L 1)), (2, .int (L 2)), (3, .int (L 3)), (4, .int (L 4)), (5, .int (L 5)), (6, .int (L 6)), (7, .int (L 7))]) 135 (fun L => [.int (L 100)])) ∧ (bT p l e (headSpec w_x_divide ({ frames := 3, cells := 0, slots := 0, locals := 67 })).room s m #[.ref (a 0), .int (L0 1), .int (L0 2), .int (L0 3)] below meth c dC dI cy a A (qI dC dI cy a A below #[.ref (a 0), .int (L0 1), .int (L0 2), .int (L0 3)] s) 9 (x_divide k 12) (fun L => [(0, .ref (a 0)), (1, .int (L 1)), (2, .int (L 2)), (3, .int (L 3)), (4, .int (L 4)), (5, .int (L 5)), (6, .int (L 6)), (7, .int (L 7)), (8, .int (L 8))]) 151 (fun L => [])) ∧ (bT p l e (headSpec w_x_divide ({ frames := 3, cells := 0, slots := 0, locals := 67 })).room s m #[.ref (a 0), .int (L0 1), .int (L0 2), .int (L0 3)] below meth c dC dI cy a A (qI dC dI cy a A below #[.ref (a 0), .int (L0 1), .int (L0 2), .int (L0 3)] s) 9 (x_divide k 13) (fun L => [(0, .ref (a 0)), (1, .int (L 1)), (2, .int (L 2)), (3, .int (L 3)), (4, .int (L 4)), (5, .int (L 5)), (6, .int (L 6)), (7, .int (L 7)), (8, .int (L 8))]) 152 (fun L => [.int (L 100)])) ∧ (bT p l e (headSpec w_x_divide ({ frames := 3, cells := 0, slots := 0, locals := 67 })).room s m #[.ref (a 0), .int (L0 1), .int (L0 2), .int (L0 3)] below meth c dC dI cy a A (qI dC dI cy a A below #[.ref (a 0), .int (L0 1), .int (L0 2), .int (L0 3)] s) 9 (x_divide k 14) (fun L => [(0, .ref (a 0)), (1, .int (L 1)), (2, .int (L 2)), (3, .int (L 3)), (4, .int (L 4)), (5, .int (L 5)), (6, .int (L 6)), (7, .int (L 7)), (8, .int (L 8))]) 167 (fun L => [])) ∧ (bT p l e (headSpec w_x_divide ({ frames := 3, cells := 0, slots := 0, locals := 67 })).room s m #[.ref (a 0), .int (L0 1), .int (L0 2), .int (L0 3)] below meth c dC dI cy a A (qI dC dI cy a A below #[.ref (a 0), .int (L0 1), .int (L0 2), .int (L0 3)] s) 9 (x_divide k 15) (fun L => [(0, .ref (a 0)), (1, .int (L 1)), (2, .int (L 2)), (3, .int (L 3)), (4, .int (L 4)), (5, .int (L 5)), (6, .int (L 6))]) 173 (fun L => [])) ∧ (bT p l e (headSpec w_x_divide ({ frames := 3, cells := 0, slots := 0, locals := 67 })).room s m #[.ref (a 0), .int (L0 1), .int (L0 2), .int (L0 3)] below meth c dC dI cy a A (qI dC dI cy a A below #[.ref (a 0), .int (L0 1), .int (L0 2), .int (L0 3)] s) 9 (x_divide k 16) (fun L => [(0, .ref (a 0)), (1, .int (L 1)), (2, .int (L 2)), (3, .int (L 3)), (4, .int (L 4))]) 179 (fun L => [])) ∧ (bT p l e (headSpec w_x_divide ({ frames := 3, cells := 0, slots := 0, locals := 67 })).room s m #[.ref (a 0), .int (L0 1), .int (L0 2), .int (L0 3)] below meth c dC dI cy a A (qI dC dI cy a A below #[.ref (a 0), .int (L0 1), .int (L0 2), .int (L0 3)] s) 9 (x_divide k 17) (fun L => [(0, .ref (a 0)), (1, .int (L 1)), (2, .int (L 2)), (3, .int (L 3)), (4, .int (L 4))]) 187 (fun L => [])) ∧ (bT p l e (headSpec w_x_divide ({ frames := 3, cells := 0, slots := 0, locals := 67 })).room s m #[.ref (a 0), .int (L0 1), .int (L0 2), .int (L0 3)] below meth c dC dI cy a A (qI dC dI cy a A below #[.ref (a 0), .int (L0 1), .int (L0 2), .int (L0 3)] s) 9 (x_divide k 18) (fun L => [(0, .ref (a 0)), (1, .int (L 1)), (2, .int (L 2)), (3, .int (L 3)), (4, .int (L 4))]) 196 (fun L => [])) ∧ (bT p l e (headSpec w_x_divide ({ frames := 3, cells := 0, slots := 0, locals := 67 })).room s m #[.ref (a 0), .int (L0 1), .int (L0 2), .int (L0 3)] below meth c dC dI cy a A (qI dC dI cy a A below #[.ref (a 0), .int (L0 1), .int (L0 2), .int (L0 3)] s) 9 (x_divide k 19) (fun L => [(0, .ref (a 0)), (1, .int (L 1)), (2, .int (L 2)), (3, .int (L 3)), (4, .int (L 4))]) 197 (fun L => [.int (L 100)])) ∧ (bT p l e (headSpec w_x_divide ({ frames := 3, cells := 0, slots := 0, locals := 67 })).room s m #[.ref (a 0), .int (L0 1), .int (L0 2), .int (L0 3)] below meth c dC dI cy a A (qI dC dI cy a A below #[.ref (a 0), .int (L0 1), .int (L0 2), .int (L0 3)] s) 9 (x_divide k 20) (fun L => [(0, .ref (a 0)), (1, .int (L 1)), (2, .int (L 2)), (3, .int (L 3)), (4, .int (L 4)), (5, .int (L 5)), (6, .int (L 6))]) 202 (fun L => [])) ∧ (bT p l e (headSpec w_x_divide ({ frames := 3, cells := 0, slots := 0, locals := 67 })).room s m #[.ref (a 0), .int (L0 1), .int (L0 2), .int (L0 3)] below meth c dC dI cy a A (qI dC dI cy a A below #[.ref (a 0), .int (L0 1), .int (L0 2), .int (L0 3)] s) 9 (x_divide k 21) (fun L => [(0, .ref (a 0)), (1, .int (L 1)), (2, .int (L 2)), (3, .int (L 3)), (4, .int (L 4)), (5, .int (L 5)), (6, .int (L 6)), (7, .int (L 7))]) 236 (fun L => [])) ∧ (bT p l e (headSpec w_x_divide ({ frames := 3, cells := 0, slots := 0, locals := 67 })).room s m #[.ref (a 0), .int (L0 1), .int (L0 2), .int (L0 3)] below meth c dC dI cy a A (qI dC dI cy a A below #[.ref (a 0), .int (L0 1), .int (L0 2), .int (L0 3)] s) 9 (x_divide k 22) (fun L => [(0, .ref (a 0)), (1, .int (L 1)), (2, .int (L 2)), (3, .int (L 3)), (4, .int (L 4)), (5, .int (L 5)), (6, .int (L 6))]) 249 (fun L => [])) ∧ (bT p l e (headSpec w_x_divide ({ frames := 3, cells := 0, slots := 0, locals := 67 })).room s m #[.ref (a 0), .int (L0 1), .int (L0 2), .int (L0 3)] below meth c dC dI cy a A (qI dC dI cy a A below #[.ref (a 0), .int (L0 1), .int (L0 2), .int (L0 3)] s) 9 (x_divide k 23) (fun L => [(0, .ref (a 0)), (1, .int (L 1)), (2, .int (L 2)), (3, .int (L 3)), (4, .int (L 4)), (5, .int (L 5)), (6, .int (L 6))]) 265 (fun L => [])) ∧ (bT p l e (headSpec w_x_divide ({ frames := 3, cells := 0, slots := 0, locals := 67 })).room s m #[.ref (a 0), .int (L0 1), .int (L0 2), .int (L0 3)] below meth c dC dI cy a A (qI dC dI cy a A below #[.ref (a 0), .int (L0 1), .int (L0 2), .int (L0 3)] s) 9 (x_divide k 24) (fun L => [(0, .ref (a 0)), (1, .int (L 1)), (2, .int (L 2)), (3, .int (L 3)), (4, .int (L 4)), (5, .int (L 5)), (6, .int (L 6))]) 275 (fun L => [])) := by
    intro k
    induction k with
    | zero => exact ⟨fun L σ r h => (by cases h), fun L σ r h => (by cases h), fun L σ r h => (by cases h), fun L σ r h => (by cases h), fun L σ r h => (by cases h), fun L σ r h => (by cases h), fun L σ r h => (by cases h), fun L σ r h => (by cases h), fun L σ r h => (by cases h), fun L σ r h => (by cases h), fun L σ r h => (by cases h), fun L σ r h => (by cases h), fun L σ r h => (by cases h), fun L σ r h => (by cases h), fun L σ r h => (by cases h), fun L σ r h => (by cases h), fun L σ r h => (by cases h), fun L σ r h => (by cases h), fun L σ r h => (by cases h), fun L σ r h => (by cases h), fun L σ r h => (by cases h), fun L σ r h => (by cases h), fun L σ r h => (by cases h), fun L σ r h => (by cases h), fun L σ r h => (by cases h)⟩
    | succ k ih =>
      refine ⟨?_, ?_, ?_, ?_, ?_, ?_, ?_, ?_, ?_, ?_, ?_, ?_, ?_, ?_, ?_, ?_, ?_, ?_, ?_, ?_, ?_, ?_, ?_, ?_, ?_⟩
      · intro L σ r h H locs ls hP hD hS hl
        rw [x_divide] at h
        refine lv_aload_n hx hb dX12_divide_0 rfl (lv_at hl 0 rfl) ?_
        refine lv_iload_n hx hb dX12_divide_1 rfl (lv_at hl 2 rfl) ?_
        obtain ⟨r1, hc1, h⟩ := ob_ex h
        refine nc_Vi (As := [.int (L 2)]) (rest := []) ⟨hx, hb, hml, hown, hts⟩ (c_x_signOf l dC dI cy a k (upd (fun _ => 0) 1 ((L 2))) σ r1 hc1 H.size) (cwV 1 hts g_x_divide_signOf_463 rfl rfl rfl hd_x_signOf ⟨Nat.le_of_ble_eq_true rfl, Nat.le_of_ble_eq_true rfl⟩) hK hG hA hP hD hS rfl hl.1 rfl (Nat.le_of_ble_eq_true rfl) dX12_divide_2 ⟨Nat.le_refl _, Nat.le_refl _⟩ (fun H locs hP hD hS => ?_)
        refine lv_if_ne (tgt := 15) hx hb dX12_divide_5 (by decide) (fun c2 => ?_) (fun c2 => ?_)
        · rw [if_neg c2] at h
          exact ih.2.1 L r1.2 r h H locs ls hP hD hS (lv_sub hl [0, 1, 2, 3] rfl)
        · rw [if_pos c2] at h
          refine lv_aload_n hx hb dX12_divide_8 rfl (lv_at hl 0 rfl) ?_
          refine lv_iconst (v := 2) hx hb dX12_divide_9 (by decide) ?_
          obtain ⟨r3, hc3, h⟩ := ob_ex h
          refine nc_Vv (As := [.int 2]) (rest := []) ⟨hx, hb, hml, hown, hts⟩ (c_x_fail l dC dI cy a k (upd (fun _ => 0) 1 2) r1.2 r3 hc3 H.size) (cwV 1 hts g_x_divide_fail_369 rfl rfl rfl hd_x_fail ⟨Nat.le_of_ble_eq_true rfl, Nat.le_of_ble_eq_true rfl⟩) hK hG hA hP hD hS rfl hl.1 rfl (Nat.le_of_ble_eq_true rfl) dX12_divide_10 ⟨Nat.le_refl _, Nat.le_refl _⟩ (fun H locs hP hD hS => ?_)
          refine lv_iconst (v := 0) hx hb dX12_divide_13 (by decide) ?_
          cases h
          exact W.iret (v := 0) hx hb hr (fun t ht hW => ⟨⟨0, (), rfl, rfl, by rw [ht]; exact hP, va_K.moved hW.alike hK, hD⟩, hS.F ht⟩) hS.2.2 dX12_divide_14
      · intro L σ r h H locs ls hP hD hS hl
        rw [x_divide] at h
        refine lv_aload_n hx hb dX12_divide_15 rfl (lv_at hl 0 rfl) ?_
        refine lv_iload_n hx hb dX12_divide_16 rfl (lv_at hl 1 rfl) ?_
        obtain ⟨r1, hc1, h⟩ := ob_ex h
        refine nc_Vv (As := [.int (L 1)]) (rest := []) ⟨hx, hb, hml, hown, hts⟩ (c_x_loadA l dC dI cy a k (upd (fun _ => 0) 1 ((L 1))) σ r1 hc1 H.size) (cwV 1 hts g_x_divide_loadA_488 rfl rfl rfl hd_x_loadA ⟨Nat.le_of_ble_eq_true rfl, Nat.le_of_ble_eq_true rfl⟩) hK hG hA hP hD hS rfl hl.1 rfl (Nat.le_of_ble_eq_true rfl) dX12_divide_17 ⟨Nat.le_refl _, Nat.le_refl _⟩ (fun H locs hP hD hS => ?_)
        refine lv_aload_n hx hb dX12_divide_20 rfl (lv_at hl 0 rfl) ?_
        refine lv_iload_n hx hb dX12_divide_21 rfl (lv_at hl 2 rfl) ?_
        obtain ⟨r2, hc2, h⟩ := ob_ex h
        refine nc_Vv (As := [.int (L 2)]) (rest := []) ⟨hx, hb, hml, hown, hts⟩ (c_x_loadB l dC dI cy a k (upd (fun _ => 0) 1 ((L 2))) r1.2 r2 hc2 H.size) (cwV 1 hts g_x_divide_loadB_491 rfl rfl rfl hd_x_loadB ⟨Nat.le_of_ble_eq_true rfl, Nat.le_of_ble_eq_true rfl⟩) hK hG hA hP hD hS rfl hl.1 rfl (Nat.le_of_ble_eq_true rfl) dX12_divide_22 ⟨Nat.le_refl _, Nat.le_refl _⟩ (fun H locs hP hD hS => ?_)
        refine lv_aload_n hx hb dX12_divide_25 rfl (lv_at hl 0 rfl) ?_
        obtain ⟨r3, hc3, h⟩ := ob_ex h
        refine nc_Vv (As := []) (rest := []) ⟨hx, hb, hml, hown, hts⟩ (c_x_divideRows l dC dI cy a k (fun _ => 0) r2.2 r3 hc3 H.size) (cwV 0 hts g_x_divide_divideRows_512 rfl rfl rfl hd_x_divideRows ⟨Nat.le_of_ble_eq_true rfl, Nat.le_of_ble_eq_true rfl⟩) hK hG hA hP hD hS rfl hl.1 rfl (Nat.le_of_ble_eq_true rfl) dX12_divide_26 ⟨Nat.le_refl _, Nat.le_refl _⟩ (fun H locs hP hD hS => ?_)
        refine lv_aload_n hx hb dX12_divide_29 rfl (lv_at hl 0 rfl) ?_
        refine lv_iload_n hx hb dX12_divide_30 rfl (lv_at hl 1 rfl) ?_
        obtain ⟨r4, hc4, h⟩ := ob_ex h
        refine nc_Vi (As := [.int (L 1)]) (rest := []) ⟨hx, hb, hml, hown, hts⟩ (c_x_signOf l dC dI cy a k (upd (fun _ => 0) 1 ((L 1))) r3.2 r4 hc4 H.size) (cwV 1 hts g_x_divide_signOf_463 rfl rfl rfl hd_x_signOf ⟨Nat.le_of_ble_eq_true rfl, Nat.le_of_ble_eq_true rfl⟩) hK hG hA hP hD hS rfl hl.1 rfl (Nat.le_of_ble_eq_true rfl) dX12_divide_31 ⟨Nat.le_refl _, Nat.le_refl _⟩ (fun H locs hP hD hS => ?_)
        refine lv_if_ge (tgt := 48) hx hb dX12_divide_34 (by decide) (fun c5 => ?_) (fun c5 => ?_)
        · rw [if_pos c5] at h
          exact ih.2.2.1 L r4.2 r h H locs ls hP hD hS (lv_sub hl [0, 1, 2, 3] rfl)
        · rw [if_neg c5] at h
          refine lv_aload_n hx hb dX12_divide_37 rfl (lv_at hl 0 rfl) ?_
          refine ng_90 hx hb hts in_x_divide hown hK hP (hts _ (List.mem_cons_of_mem _ (List.mem_append_left _ (List.mem_append_left _ (List.mem_of_getElem? (i := 16) rfl))))) dX12_divide_38 ?_
          refine lv_if_le (tgt := 48) hx hb dX12_divide_41 (by decide) (fun c6 => ?_) (fun c6 => ?_)
          · rw [if_pos c6] at h
            exact ih.2.2.1 L r4.2 r h H locs ls hP hD hS (lv_sub hl [0, 1, 2, 3] rfl)
          · rw [if_neg c6] at h
            refine lv_iconst (v := 1) hx hb dX12_divide_44 (by decide) ?_
            refine lv_goto (tgt := 49) hx hb dX12_divide_45 (by decide) ?_
            exact ih.2.2.2.1 (upd L 100 1) r4.2 r h H locs ls hP hD hS (lv_sub hl [0, 1, 2, 3] rfl)
      · intro L σ r h H locs ls hP hD hS hl
        rw [x_divide] at h
        refine lv_iconst (v := 0) hx hb dX12_divide_48 (by decide) ?_
        exact ih.2.2.2.1 (upd L 100 0) σ r h H locs ls hP hD hS (lv_sub hl [0, 1, 2, 3] rfl)
      · intro L σ r h H locs ls hP hD hS hl
        rw [x_divide] at h
        refine lv_istore (lv' := [(4, .int (L 100)), (0, .ref (a 0)), (1, .int (L 1)), (2, .int (L 2)), (3, .int (L 3))]) hx hb dX12_divide_49 hl (by decide) rfl (fun ls hl => ?_)
        refine lv_iload_n hx hb dX12_divide_51 rfl (lv_at hl 4 rfl) ?_
        refine lv_if_eq (tgt := 179) hx hb dX12_divide_52 (by decide) (fun c1 => ?_) (fun c1 => ?_)
        · rw [if_pos c1] at h
          exact ih.2.2.2.2.2.2.2.2.2.2.2.2.2.2.2.2.1 (upd L 4 ((L 100))) σ r h H locs ls hP hD hS (lv_sub hl [1, 2, 3, 4, 0] rfl)
        · rw [if_neg c1] at h
          refine lv_aload_n hx hb dX12_divide_55 rfl (lv_at hl 1 rfl) ?_
          refine lv_iload hx hb dX12_divide_56 (lv_at hl 0 rfl) ?_
          refine lv_if_eq (tgt := 68) hx hb dX12_divide_58 (by decide) (fun c2 => ?_) (fun c2 => ?_)
          · rw [if_pos c2] at h
            exact ih.2.2.2.2.1 (upd L 4 ((L 100))) σ r h H locs ls hP hD hS (lv_sub hl [1, 2, 3, 4, 0] rfl)
          · rw [if_neg c2] at h
            refine lv_aload_n hx hb dX12_divide_61 rfl (lv_at hl 1 rfl) ?_
            refine ng_85 hx hb hts in_x_divide hown hK hP (hts _ (List.mem_cons_of_mem _ (List.mem_append_left _ (List.mem_append_left _ (List.mem_of_getElem? (i := 17) rfl))))) dX12_divide_62 ?_
            refine lv_goto (tgt := 72) hx hb dX12_divide_65 (by decide) ?_
            exact ih.2.2.2.2.2.1 (upd (upd L 4 ((L 100))) 100 ((σ.1 85))) σ r h H locs ls hP hD hS (lv_sub hl [1, 2, 3, 4, 0] rfl)
      · intro L σ r h H locs ls hP hD hS hl
        rw [x_divide] at h
        refine lv_aload_n hx hb dX12_divide_68 rfl (lv_at hl 0 rfl) ?_
        refine ng_90 hx hb hts in_x_divide hown hK hP (hts _ (List.mem_cons_of_mem _ (List.mem_append_left _ (List.mem_append_left _ (List.mem_of_getElem? (i := 16) rfl))))) dX12_divide_69 ?_
        exact ih.2.2.2.2.2.1 (upd L 100 ((σ.1 90))) σ r h H locs ls hP hD hS (lv_sub hl [0, 1, 2, 3, 4] rfl)
      · intro L σ r h H locs ls hP hD hS hl
        rw [x_divide] at h
        refine np_86 hx hb hts in_x_divide hown hK hP hD hS (hts _ (List.mem_cons_of_mem _ (List.mem_append_left _ (List.mem_append_left _ (List.mem_of_getElem? (i := 18) rfl))))) dX12_divide_72 (fun H locs hP hD hS => ?_)
        exact ih.2.2.2.2.2.2.1 L (upd σ.1 86 ((L 100)), σ.2.1, σ.2.2) r h H locs ls hP hD hS (lv_sub hl [0, 1, 2, 3, 4] rfl)
      · intro L σ r h H locs ls hP hD hS hl
        rw [x_divide] at h
        refine lv_iconst (v := 0) hx hb dX12_divide_75 (by decide) ?_
        refine lv_istore (lv' := [(5, .int 0), (0, .ref (a 0)), (1, .int (L 1)), (2, .int (L 2)), (3, .int (L 3)), (4, .int (L 4))]) hx hb dX12_divide_76 hl (by decide) rfl (fun ls hl => ?_)
        refine lv_iconst (v := 0) hx hb dX12_divide_78 (by decide) ?_
        refine lv_istore (lv' := [(6, .int 0), (5, .int 0), (0, .ref (a 0)), (1, .int (L 1)), (2, .int (L 2)), (3, .int (L 3)), (4, .int (L 4))]) hx hb dX12_divide_79 hl (by decide) rfl (fun ls hl => ?_)
        exact ih.2.2.2.2.2.2.2.1 (upd (upd L 5 0) 6 0) σ r h H locs ls hP hD hS (lv_sub hl [2, 3, 4, 5, 6, 1, 0] rfl)
      · intro L σ r h H locs ls hP hD hS hl
        rw [x_divide] at h
        refine lv_iload hx hb dX12_divide_81 (lv_at hl 6 rfl) ?_
        refine lv_aload_n hx hb dX12_divide_83 rfl (lv_at hl 0 rfl) ?_
        refine ng_86 hx hb hts in_x_divide hown hK hP (hts _ (List.mem_cons_of_mem _ (List.mem_append_left _ (List.mem_append_left _ (List.mem_of_getElem? (i := 18) rfl))))) dX12_divide_84 ?_
        refine lv_icmp_ge (tgt := 173) hx hb dX12_divide_87 (by decide) (fun c1 => ?_) (fun c1 => ?_)
        · rw [if_pos c1] at h
          exact ih.2.2.2.2.2.2.2.2.2.2.2.2.2.2.2.1 L σ r h H locs ls hP hD hS (lv_sub hl [0, 1, 2, 3, 4, 5, 6] rfl)
        · rw [if_neg c1] at h
          refine lv_iload hx hb dX12_divide_90 (lv_at hl 6 rfl) ?_
          refine lv_aload_n hx hb dX12_divide_92 rfl (lv_at hl 0 rfl) ?_
          refine ng_90 hx hb hts in_x_divide hown hK hP (hts _ (List.mem_cons_of_mem _ (List.mem_append_left _ (List.mem_append_left _ (List.mem_of_getElem? (i := 16) rfl))))) dX12_divide_93 ?_
          refine lv_icmp_ge (tgt := 109) hx hb dX12_divide_96 (by decide) (fun c2 => ?_) (fun c2 => ?_)
          · rw [if_pos c2] at h
            exact ih.2.2.2.2.2.2.2.2.1 L σ r h H locs ls hP hD hS (lv_sub hl [0, 1, 2, 3, 4, 5, 6] rfl)
          · rw [if_neg c2] at h
            refine lv_aload_n hx hb dX12_divide_99 rfl (lv_at hl 0 rfl) ?_
            refine ng_88 hx hb hts in_x_divide hown hK hP (hts _ (List.mem_cons_of_mem _ (List.mem_append_left _ (List.mem_append_left _ (List.mem_of_getElem? (i := 19) rfl))))) dX12_divide_100 ?_
            refine lv_iload hx hb dX12_divide_103 (lv_at hl 6 rfl) ?_
            obtain ⟨q3, h⟩ := nb_ite1 h
            refine nl_46 hx hb hK hP q3 dX12_divide_105 ?_
            refine lv_goto (tgt := 110) hx hb dX12_divide_106 (by decide) ?_
            exact ih.2.2.2.2.2.2.2.2.2.1 (upd L 100 ((σ.2.2 46 ((L 6)).toNatClampNeg))) σ r h H locs ls hP hD hS (lv_sub hl [0, 1, 2, 3, 4, 5, 6] rfl)
      · intro L σ r h H locs ls hP hD hS hl
        rw [x_divide] at h
        refine lv_iconst (v := 0) hx hb dX12_divide_109 (by decide) ?_
        exact ih.2.2.2.2.2.2.2.2.2.1 (upd L 100 0) σ r h H locs ls hP hD hS (lv_sub hl [0, 1, 2, 3, 4, 5, 6] rfl)
      · intro L σ r h H locs ls hP hD hS hl
        rw [x_divide] at h
        refine lv_istore (lv' := [(7, .int (L 100)), (0, .ref (a 0)), (1, .int (L 1)), (2, .int (L 2)), (3, .int (L 3)), (4, .int (L 4)), (5, .int (L 5)), (6, .int (L 6))]) hx hb dX12_divide_110 hl (by decide) rfl (fun ls hl => ?_)
        refine lv_iload hx hb dX12_divide_112 (lv_at hl 5 rfl) ?_
        refine lv_if_eq (tgt := 133) hx hb dX12_divide_114 (by decide) (fun c1 => ?_) (fun c1 => ?_)
        · rw [if_pos c1] at h
          exact ih.2.2.2.2.2.2.2.2.2.2.1 (upd L 7 ((L 100))) σ r h H locs ls hP hD hS (lv_sub hl [1, 2, 3, 4, 5, 6, 7, 0] rfl)
        · rw [if_neg c1] at h
          refine lv_aload_n hx hb dX12_divide_117 rfl (lv_at hl 1 rfl) ?_
          refine ng_82 hx hb hts in_x_divide hown hK hP (hts _ (List.mem_cons_of_mem _ (List.mem_append_left _ (List.mem_append_left _ (List.mem_of_getElem? (i := 20) rfl))))) dX12_divide_118 ?_
          refine lv_iload hx hb dX12_divide_121 (lv_at hl 7 rfl) ?_
          obtain ⟨q2, h⟩ := nb_ite1 h
          refine nl_43 hx hb hK hP q2 dX12_divide_123 ?_
          refine lv_iload hx hb dX12_divide_124 (lv_at hl 0 rfl) ?_
          refine lv_isub hx hb dX12_divide_126 ?_
          refine lv_iload hx hb dX12_divide_127 (lv_at hl 6 rfl) ?_
          refine lv_isub hx hb dX12_divide_129 ?_
          refine lv_goto (tgt := 135) hx hb dX12_divide_130 (by decide) ?_
          exact ih.2.2.2.2.2.2.2.2.2.2.2.1 (upd (upd L 7 ((L 100))) 100 ((((((σ.2.2 43 ((L 6)).toNatClampNeg)) - ((L 100)))) - ((L 5))))) σ r h H locs ls hP hD hS (lv_sub hl [1, 2, 3, 4, 5, 6, 7, 0] rfl)
      · intro L σ r h H locs ls hP hD hS hl
        rw [x_divide] at h
        refine lv_iload hx hb dX12_divide_133 (lv_at hl 7 rfl) ?_
        exact ih.2.2.2.2.2.2.2.2.2.2.2.1 (upd L 100 ((L 7))) σ r h H locs ls hP hD hS (lv_sub hl [0, 1, 2, 3, 4, 5, 6, 7] rfl)
      · intro L σ r h H locs ls hP hD hS hl
        rw [x_divide] at h
        refine lv_istore (lv' := [(8, .int (L 100)), (0, .ref (a 0)), (1, .int (L 1)), (2, .int (L 2)), (3, .int (L 3)), (4, .int (L 4)), (5, .int (L 5)), (6, .int (L 6)), (7, .int (L 7))]) hx hb dX12_divide_135 hl (by decide) rfl (fun ls hl => ?_)
        refine lv_iload hx hb dX12_divide_137 (lv_at hl 5 rfl) ?_
        refine lv_if_eq (tgt := 151) hx hb dX12_divide_139 (by decide) (fun c1 => ?_) (fun c1 => ?_)
        · rw [if_pos c1] at h
          exact ih.2.2.2.2.2.2.2.2.2.2.2.2.1 (upd L 8 ((L 100))) σ r h H locs ls hP hD hS (lv_sub hl [1, 2, 3, 4, 5, 6, 7, 8, 0] rfl)
        · rw [if_neg c1] at h
          refine lv_iload hx hb dX12_divide_142 (lv_at hl 0 rfl) ?_
          refine lv_if_ge (tgt := 151) hx hb dX12_divide_144 (by decide) (fun c2 => ?_) (fun c2 => ?_)
          · rw [if_pos c2] at h
            exact ih.2.2.2.2.2.2.2.2.2.2.2.2.1 (upd L 8 ((L 100))) σ r h H locs ls hP hD hS (lv_sub hl [1, 2, 3, 4, 5, 6, 7, 8, 0] rfl)
          · rw [if_neg c2] at h
            refine lv_iconst (v := 1) hx hb dX12_divide_147 (by decide) ?_
            refine lv_goto (tgt := 152) hx hb dX12_divide_148 (by decide) ?_
            exact ih.2.2.2.2.2.2.2.2.2.2.2.2.2.1 (upd (upd L 8 ((L 100))) 100 1) σ r h H locs ls hP hD hS (lv_sub hl [1, 2, 3, 4, 5, 6, 7, 8, 0] rfl)
      · intro L σ r h H locs ls hP hD hS hl
        rw [x_divide] at h
        refine lv_iconst (v := 0) hx hb dX12_divide_151 (by decide) ?_
        exact ih.2.2.2.2.2.2.2.2.2.2.2.2.2.1 (upd L 100 0) σ r h H locs ls hP hD hS (lv_sub hl [0, 1, 2, 3, 4, 5, 6, 7, 8] rfl)
      · intro L σ r h H locs ls hP hD hS hl
        rw [x_divide] at h
        refine lv_istore (lv' := [(5, .int (L 100)), (0, .ref (a 0)), (1, .int (L 1)), (2, .int (L 2)), (3, .int (L 3)), (4, .int (L 4)), (6, .int (L 6)), (7, .int (L 7)), (8, .int (L 8))]) hx hb dX12_divide_152 hl (by decide) rfl (fun ls hl => ?_)
        refine lv_aload_n hx hb dX12_divide_154 rfl (lv_at hl 1 rfl) ?_
        refine ng_83 hx hb hts in_x_divide hown hK hP (hts _ (List.mem_cons_of_mem _ (List.mem_append_left _ (List.mem_append_left _ (List.mem_of_getElem? (i := 21) rfl))))) dX12_divide_155 ?_
        refine lv_iload hx hb dX12_divide_158 (lv_at hl 6 rfl) ?_
        refine lv_iload hx hb dX12_divide_160 (lv_at hl 8 rfl) ?_
        refine lv_ldcw (v := 65535) hx hb hown (hts _ (List.mem_cons_of_mem _ (List.mem_append_left _ (List.mem_append_left _ (List.mem_of_getElem? (i := 22) rfl))))) dX12_divide_162 ?_
        refine lv_iand hx hb dX12_divide_165 ?_
        obtain ⟨q1, h⟩ := nb_ite1 h
        refine ns_44 hx hb hK hP hD hS q1 dX12_divide_166 (fun H locs hP hD hS => ?_)
        exact ih.2.2.2.2.2.2.2.2.2.2.2.2.2.2.1 (upd L 5 ((L 100))) (σ.1, σ.2.1, updG σ.2.2 44 (upd (σ.2.2 44) ((L 6)).toNatClampNeg ((((L 8)) &&& 65535)))) r h H locs ls hP hD hS (lv_sub hl [1, 2, 3, 4, 5, 0, 6, 7, 8] rfl)
      · intro L σ r h H locs ls hP hD hS hl
        rw [x_divide] at h
        refine lv_iinc (v := ((L 6)) + 1) (lv' := [(6, .int (((L 6)) + 1)), (0, .ref (a 0)), (1, .int (L 1)), (2, .int (L 2)), (3, .int (L 3)), (4, .int (L 4)), (5, .int (L 5)), (7, .int (L 7)), (8, .int (L 8))]) hx hb dX12_divide_167 hl (k := 6) rfl rfl (by decide) rfl (fun ls hl => ?_)
        refine lv_goto (tgt := 81) hx hb dX12_divide_170 (by decide) ?_
        exact ih.2.2.2.2.2.2.2.1 (upd L 6 (((L 6)) + 1)) σ r h H locs ls hP hD hS (lv_sub hl [1, 2, 3, 4, 5, 6, 0] rfl)
      · intro L σ r h H locs ls hP hD hS hl
        rw [x_divide] at h
        refine lv_aload_n hx hb dX12_divide_173 rfl (lv_at hl 0 rfl) ?_
        refine lv_iconst (v := 1) hx hb dX12_divide_174 (by decide) ?_
        obtain ⟨r1, hc1, h⟩ := ob_ex h
        refine nc_Vi (As := [.int 1]) (rest := []) ⟨hx, hb, hml, hown, hts⟩ (c_x_wholeOf l dC dI cy a k (upd (fun _ => 0) 1 1) σ r1 hc1 H.size) (cwV 1 hts g_x_divide_wholeOf_485 rfl rfl rfl hd_x_wholeOf ⟨Nat.le_of_ble_eq_true rfl, Nat.le_of_ble_eq_true rfl⟩) hK hG hA hP hD hS rfl hl.1 rfl (Nat.le_of_ble_eq_true rfl) dX12_divide_175 ⟨Nat.le_refl _, Nat.le_refl _⟩ (fun H locs hP hD hS => ?_)
        cases h
        exact W.iret (v := r1.1) hx hb hr (fun t ht hW => ⟨⟨r1.1, (), rfl, rfl, by rw [ht]; exact hP, va_K.moved hW.alike hK, hD⟩, hS.F ht⟩) hS.2.2 dX12_divide_178
      · intro L σ r h H locs ls hP hD hS hl
        rw [x_divide] at h
        refine lv_aload_n hx hb dX12_divide_179 rfl (lv_at hl 0 rfl) ?_
        refine lv_aload_n hx hb dX12_divide_180 rfl (lv_at hl 0 rfl) ?_
        refine ng_89 hx hb hts in_x_divide hown hK hP (hts _ (List.mem_cons_of_mem _ (List.mem_append_left _ (List.mem_append_left _ (List.mem_of_getElem? (i := 26) rfl))))) dX12_divide_181 ?_
        refine np_86 hx hb hts in_x_divide hown hK hP hD hS (hts _ (List.mem_cons_of_mem _ (List.mem_append_left _ (List.mem_append_left _ (List.mem_of_getElem? (i := 18) rfl))))) dX12_divide_184 (fun H locs hP hD hS => ?_)
        exact ih.2.2.2.2.2.2.2.2.2.2.2.2.2.2.2.2.2.1 L (upd σ.1 86 ((σ.1 89)), σ.2.1, σ.2.2) r h H locs ls hP hD hS (lv_sub hl [0, 1, 2, 3, 4] rfl)
      · intro L σ r h H locs ls hP hD hS hl
        rw [x_divide] at h
        refine lv_iload hx hb dX12_divide_187 (lv_at hl 4 rfl) ?_
        refine lv_if_eq (tgt := 196) hx hb dX12_divide_189 (by decide) (fun c1 => ?_) (fun c1 => ?_)
        · rw [if_pos c1] at h
          exact ih.2.2.2.2.2.2.2.2.2.2.2.2.2.2.2.2.2.2.1 L σ r h H locs ls hP hD hS (lv_sub hl [0, 1, 2, 3, 4] rfl)
        · rw [if_neg c1] at h
          refine lv_iconst (v := 1) hx hb dX12_divide_192 (by decide) ?_
          refine lv_goto (tgt := 197) hx hb dX12_divide_193 (by decide) ?_
          exact ih.2.2.2.2.2.2.2.2.2.2.2.2.2.2.2.2.2.2.2.1 (upd L 100 1) σ r h H locs ls hP hD hS (lv_sub hl [0, 1, 2, 3, 4] rfl)
      · intro L σ r h H locs ls hP hD hS hl
        rw [x_divide] at h
        refine lv_iconst (v := 0) hx hb dX12_divide_196 (by decide) ?_
        exact ih.2.2.2.2.2.2.2.2.2.2.2.2.2.2.2.2.2.2.2.1 (upd L 100 0) σ r h H locs ls hP hD hS (lv_sub hl [0, 1, 2, 3, 4] rfl)
      · intro L σ r h H locs ls hP hD hS hl
        rw [x_divide] at h
        refine lv_istore (lv' := [(5, .int (L 100)), (0, .ref (a 0)), (1, .int (L 1)), (2, .int (L 2)), (3, .int (L 3)), (4, .int (L 4))]) hx hb dX12_divide_197 hl (by decide) rfl (fun ls hl => ?_)
        refine lv_iconst (v := 0) hx hb dX12_divide_199 (by decide) ?_
        refine lv_istore (lv' := [(6, .int 0), (5, .int (L 100)), (0, .ref (a 0)), (1, .int (L 1)), (2, .int (L 2)), (3, .int (L 3)), (4, .int (L 4))]) hx hb dX12_divide_200 hl (by decide) rfl (fun ls hl => ?_)
        exact ih.2.2.2.2.2.2.2.2.2.2.2.2.2.2.2.2.2.2.2.2.1 (upd (upd L 5 ((L 100))) 6 0) σ r h H locs ls hP hD hS (lv_sub hl [2, 3, 4, 5, 6, 1, 0] rfl)
      · intro L σ r h H locs ls hP hD hS hl
        rw [x_divide] at h
        refine lv_iload hx hb dX12_divide_202 (lv_at hl 6 rfl) ?_
        refine lv_aload_n hx hb dX12_divide_204 rfl (lv_at hl 0 rfl) ?_
        refine ng_86 hx hb hts in_x_divide hown hK hP (hts _ (List.mem_cons_of_mem _ (List.mem_append_left _ (List.mem_append_left _ (List.mem_of_getElem? (i := 18) rfl))))) dX12_divide_205 ?_
        refine lv_icmp_ge (tgt := 249) hx hb dX12_divide_208 (by decide) (fun c1 => ?_) (fun c1 => ?_)
        · rw [if_pos c1] at h
          exact ih.2.2.2.2.2.2.2.2.2.2.2.2.2.2.2.2.2.2.2.2.2.2.1 L σ r h H locs ls hP hD hS (lv_sub hl [0, 1, 2, 3, 4, 5, 6] rfl)
        · rw [if_neg c1] at h
          refine lv_aload_n hx hb dX12_divide_211 rfl (lv_at hl 0 rfl) ?_
          refine ng_87 hx hb hts in_x_divide hown hK hP (hts _ (List.mem_cons_of_mem _ (List.mem_append_left _ (List.mem_append_left _ (List.mem_of_getElem? (i := 27) rfl))))) dX12_divide_212 ?_
          refine lv_iload hx hb dX12_divide_215 (lv_at hl 6 rfl) ?_
          obtain ⟨q2, h⟩ := nb_ite1 h
          refine nl_45 hx hb hK hP q2 dX12_divide_217 ?_
          refine lv_iload hx hb dX12_divide_218 (lv_at hl 5 rfl) ?_
          refine lv_iadd hx hb dX12_divide_220 ?_
          refine lv_istore (lv' := [(7, .int (((σ.2.2 45 ((L 6)).toNatClampNeg)) + ((L 5)))), (0, .ref (a 0)), (1, .int (L 1)), (2, .int (L 2)), (3, .int (L 3)), (4, .int (L 4)), (5, .int (L 5)), (6, .int (L 6))]) hx hb dX12_divide_221 hl (by decide) rfl (fun ls hl => ?_)
          refine lv_aload_n hx hb dX12_divide_223 rfl (lv_at hl 1 rfl) ?_
          refine ng_83 hx hb hts in_x_divide hown hK hP (hts _ (List.mem_cons_of_mem _ (List.mem_append_left _ (List.mem_append_left _ (List.mem_of_getElem? (i := 21) rfl))))) dX12_divide_224 ?_
          refine lv_iload hx hb dX12_divide_227 (lv_at hl 7 rfl) ?_
          refine lv_iload hx hb dX12_divide_229 (lv_at hl 0 rfl) ?_
          refine lv_ldcw (v := 65535) hx hb hown (hts _ (List.mem_cons_of_mem _ (List.mem_append_left _ (List.mem_append_left _ (List.mem_of_getElem? (i := 22) rfl))))) dX12_divide_231 ?_
          refine lv_iand hx hb dX12_divide_234 ?_
          obtain ⟨q3, h⟩ := nb_ite1 h
          refine ns_44 hx hb hK hP hD hS q3 dX12_divide_235 (fun H locs hP hD hS => ?_)
          exact ih.2.2.2.2.2.2.2.2.2.2.2.2.2.2.2.2.2.2.2.2.2.1 (upd L 7 ((((σ.2.2 45 ((L 6)).toNatClampNeg)) + ((L 5))))) (σ.1, σ.2.1, updG σ.2.2 44 (upd (σ.2.2 44) ((L 6)).toNatClampNeg ((((((σ.2.2 45 ((L 6)).toNatClampNeg)) + ((L 5)))) &&& 65535)))) r h H locs ls hP hD hS (lv_sub hl [1, 2, 3, 4, 5, 6, 7, 0] rfl)
      · intro L σ r h H locs ls hP hD hS hl
        rw [x_divide] at h
        refine lv_iload hx hb dX12_divide_236 (lv_at hl 7 rfl) ?_
        refine lv_bipush (v := 16) hx hb dX12_divide_238 (by decide) ?_
        refine lv_ishr hx hb dX12_divide_240 ?_
        refine lv_istore (lv' := [(5, .int (((L 7)) >>> ((16 : Int32) &&& 31))), (0, .ref (a 0)), (1, .int (L 1)), (2, .int (L 2)), (3, .int (L 3)), (4, .int (L 4)), (6, .int (L 6)), (7, .int (L 7))]) hx hb dX12_divide_241 hl (by decide) rfl (fun ls hl => ?_)
        refine lv_iinc (v := ((L 6)) + 1) (lv' := [(6, .int (((L 6)) + 1)), (5, .int (((L 7)) >>> ((16 : Int32) &&& 31))), (0, .ref (a 0)), (1, .int (L 1)), (2, .int (L 2)), (3, .int (L 3)), (4, .int (L 4)), (7, .int (L 7))]) hx hb dX12_divide_243 hl (k := 6) rfl rfl (by decide) rfl (fun ls hl => ?_)
        refine lv_goto (tgt := 202) hx hb dX12_divide_246 (by decide) ?_
        exact ih.2.2.2.2.2.2.2.2.2.2.2.2.2.2.2.2.2.2.2.2.1 (upd (upd L 5 ((((L 7)) >>> ((16 : Int32) &&& 31)))) 6 (((L 6)) + 1)) σ r h H locs ls hP hD hS (lv_sub hl [2, 3, 4, 5, 6, 1, 0] rfl)
      · intro L σ r h H locs ls hP hD hS hl
        rw [x_divide] at h
        refine lv_iload hx hb dX12_divide_249 (lv_at hl 5 rfl) ?_
        refine lv_if_le (tgt := 275) hx hb dX12_divide_251 (by decide) (fun c1 => ?_) (fun c1 => ?_)
        · rw [if_pos c1] at h
          exact ih.2.2.2.2.2.2.2.2.2.2.2.2.2.2.2.2.2.2.2.2.2.2.2.2 L σ r h H locs ls hP hD hS (lv_sub hl [0, 1, 2, 3, 4, 5, 6] rfl)
        · rw [if_neg c1] at h
          refine lv_aload_n hx hb dX12_divide_254 rfl (lv_at hl 0 rfl) ?_
          refine ng_83 hx hb hts in_x_divide hown hK hP (hts _ (List.mem_cons_of_mem _ (List.mem_append_left _ (List.mem_append_left _ (List.mem_of_getElem? (i := 21) rfl))))) dX12_divide_255 ?_
          refine lv_aload_n hx hb dX12_divide_258 rfl (lv_at hl 0 rfl) ?_
          refine ng_86 hx hb hts in_x_divide hown hK hP (hts _ (List.mem_cons_of_mem _ (List.mem_append_left _ (List.mem_append_left _ (List.mem_of_getElem? (i := 18) rfl))))) dX12_divide_259 ?_
          refine lv_iload hx hb dX12_divide_262 (lv_at hl 5 rfl) ?_
          obtain ⟨q2, h⟩ := nb_ite1 h
          refine ns_44 hx hb hK hP hD hS q2 dX12_divide_264 (fun H locs hP hD hS => ?_)
          exact ih.2.2.2.2.2.2.2.2.2.2.2.2.2.2.2.2.2.2.2.2.2.2.2.1 L (σ.1, σ.2.1, updG σ.2.2 44 (upd (σ.2.2 44) ((σ.1 86)).toNatClampNeg ((L 5)))) r h H locs ls hP hD hS (lv_sub hl [0, 1, 2, 3, 4, 5, 6] rfl)
      · intro L σ r h H locs ls hP hD hS hl
        rw [x_divide] at h
        refine lv_aload_n hx hb dX12_divide_265 rfl (lv_at hl 0 rfl) ?_
        refine lv_dup hx hb dX12_divide_266 rfl ?_
        refine ng_86 hx hb hts in_x_divide hown hK hP (hts _ (List.mem_cons_of_mem _ (List.mem_append_left _ (List.mem_append_left _ (List.mem_of_getElem? (i := 18) rfl))))) dX12_divide_267 ?_
        refine lv_iconst (v := 1) hx hb dX12_divide_270 (by decide) ?_
        refine lv_iadd hx hb dX12_divide_271 ?_
        refine np_86 hx hb hts in_x_divide hown hK hP hD hS (hts _ (List.mem_cons_of_mem _ (List.mem_append_left _ (List.mem_append_left _ (List.mem_of_getElem? (i := 18) rfl))))) dX12_divide_272 (fun H locs hP hD hS => ?_)
        exact ih.2.2.2.2.2.2.2.2.2.2.2.2.2.2.2.2.2.2.2.2.2.2.2.2 L (upd σ.1 86 ((((σ.1 86)) + 1)), σ.2.1, σ.2.2) r h H locs ls hP hD hS (lv_sub hl [0, 1, 2, 3, 4, 5, 6] rfl)
      · intro L σ r h H locs ls hP hD hS hl
        rw [x_divide] at h
        refine lv_aload_n hx hb dX12_divide_275 rfl (lv_at hl 0 rfl) ?_
        refine lv_aload_n hx hb dX12_divide_276 rfl (lv_at hl 0 rfl) ?_
        refine lv_iload_n hx hb dX12_divide_277 rfl (lv_at hl 1 rfl) ?_
        obtain ⟨r1, hc1, h⟩ := ob_ex h
        refine nc_Vi (As := [.int (L 1)]) (rest := [.ref (a 0)]) ⟨hx, hb, hml, hown, hts⟩ (c_x_signOf l dC dI cy a k (upd (fun _ => 0) 1 ((L 1))) σ r1 hc1 H.size) (cwV 1 hts g_x_divide_signOf_463 rfl rfl rfl hd_x_signOf ⟨Nat.le_of_ble_eq_true rfl, Nat.le_of_ble_eq_true rfl⟩) hK hG hA hP hD hS rfl hl.1 rfl (Nat.le_of_ble_eq_true rfl) dX12_divide_278 ⟨Nat.le_refl _, Nat.le_refl _⟩ (fun H locs hP hD hS => ?_)
        refine lv_aload_n hx hb dX12_divide_281 rfl (lv_at hl 0 rfl) ?_
        refine lv_iload_n hx hb dX12_divide_282 rfl (lv_at hl 2 rfl) ?_
        obtain ⟨r2, hc2, h⟩ := ob_ex h
        refine nc_Vi (As := [.int (L 2)]) (rest := [.int r1.1, .ref (a 0)]) ⟨hx, hb, hml, hown, hts⟩ (c_x_signOf l dC dI cy a k (upd (fun _ => 0) 1 ((L 2))) r1.2 r2 hc2 H.size) (cwV 1 hts g_x_divide_signOf_463 rfl rfl rfl hd_x_signOf ⟨Nat.le_of_ble_eq_true rfl, Nat.le_of_ble_eq_true rfl⟩) hK hG hA hP hD hS rfl hl.1 rfl (Nat.le_of_ble_eq_true rfl) dX12_divide_283 ⟨Nat.le_refl _, Nat.le_refl _⟩ (fun H locs hP hD hS => ?_)
        refine lv_imul hx hb dX12_divide_286 ?_
        obtain ⟨r3, hc3, h⟩ := ob_ex h
        refine nc_Vi (As := [.int (r1.1 * r2.1)]) (rest := []) ⟨hx, hb, hml, hown, hts⟩ (c_x_wholeOf l dC dI cy a k (upd (fun _ => 0) 1 ((r1.1 * r2.1))) r2.2 r3 hc3 H.size) (cwV 1 hts g_x_divide_wholeOf_485 rfl rfl rfl hd_x_wholeOf ⟨Nat.le_of_ble_eq_true rfl, Nat.le_of_ble_eq_true rfl⟩) hK hG hA hP hD hS rfl hl.1 rfl (Nat.le_of_ble_eq_true rfl) dX12_divide_287 ⟨Nat.le_refl _, Nat.le_refl _⟩ (fun H locs hP hD hS => ?_)
        cases h
        exact W.iret (v := r3.1) hx hb hr (fun t ht hW => ⟨⟨r3.1, (), rfl, rfl, by rw [ht]; exact hP, va_K.moved hW.alike hK, hD⟩, hS.F ht⟩) hS.2.2 dX12_divide_290
  exact (blk k0).1 L0 σ0 r0 h0 s.heap [] ls hP hD hS hl
/-! intOf -/
def x_intOf : Nat → Nat → (Nat → Int32) → (Nat → Int64) → MS → Option (Int32 × MS)
  | 0, _, _, _, _ => none
  | k + 1, 0, L, J, σ => if ¬ (((((L 1)) + 1)) < 0 ∨ 1740000 ≤ ((((L 1)) + 1)).toNatClampNeg) then (x_intOf k 1 (upd (upd L 3 ((((σ.2.2 28 ((((L 1)) + 1)).toNatClampNeg)) - 1))) 6 ((((((σ.2.2 28 ((((L 1)) + 1)).toNatClampNeg)) - 1)) - 1))) (updW J 4 0) σ) else none
  | k + 1, 1, L, J, σ => if ((L 6)) < 0 then (x_intOf k 4 L J σ) else (if ((nbCmp ((J 4)) ((((L 2)).toInt64)))) ≤ 0 then (x_intOf k 2 L J σ) else (x_intOf k 3 L (updW J 100 ((J 4))) σ))
  | k + 1, 2, L, J, σ => if ¬ (((((((L 1)) + 5)) + ((L 6)))) < 0 ∨ 1740000 ≤ ((((((L 1)) + 5)) + ((L 6)))).toNatClampNeg) then (x_intOf k 3 L (updW J 100 ((((((J 4)) <<< ((16 : Int32).toInt64 &&& 63))) ||| ((((σ.2.2 28 ((((((L 1)) + 5)) + ((L 6)))).toNatClampNeg)).toInt64))))) σ) else none
  | k + 1, 3, L, J, σ => x_intOf k 1 (upd L 6 (((L 6)) + (-1))) (updW J 4 ((J 100))) σ
  | k + 1, 4, L, J, σ => if ((nbCmp ((J 4)) ((((L 2)).toInt64)))) ≤ 0 then (x_intOf k 5 L J σ) else (x_intOf k 6 (upd L 100 ((((L 2)) + 1))) J σ)
  | k + 1, 5, L, J, σ => x_intOf k 6 (upd L 100 ((((J 4)).toInt32))) J σ
  | k + 1, 6, L, J, σ => ob (x_signOf k 0 (upd (fun _ => 0) 1 ((L 1))) σ) (fun r1 => if 0 ≤ r1.1 then (x_intOf k 7 (upd L 6 ((L 100))) J r1.2) else (x_intOf k 8 (upd (upd L 6 ((L 100))) 100 ((- ((L 100))))) J r1.2))
  | k + 1, 7, L, J, σ => x_intOf k 8 (upd L 100 ((L 6))) J σ
  | k + 1, 8, L, J, σ => some ((L 100), σ)
  | _ + 1, _ + 9, _, _, _ => none
def o_x_intOf : List Cond := [.fieldLink RX12 372 "SetHouseModel" "heap" "[I", .methodLink RX12 463 yX12_signOf, .instanceMethod yX12_signOf, .selects RX12 yX12_signOf yX12_signOf, .initialized RX12]
theorem o_x_intOf_good : o_x_intOf.all goodWord = true := by decide +kernel
def p_x_intOf : List Cond := o_x_intOf ++ ((.code yX12_signOf cX12_signOf 2 (some .int) :: p_x_signOf) ++ [])
theorem p_x_intOf_good : p_x_intOf.all goodWord = true := nb_all2 o_x_intOf_good (nb_all2 (nb_allc (by decide +kernel) p_x_signOf_good) rfl)
def w_x_intOf : List Cond := .code yX12_intOf cX12_intOf 7 (some .int) :: (p_x_intOf ++ fM)
theorem w_x_intOf_good : w_x_intOf.all goodWord = true := nb_allc (by decide +kernel) (nb_all2 p_x_intOf_good fM_good)
theorem in_x_intOf : ∀ w ∈ wsX120, w ∈ w_x_intOf := fun _ h => List.mem_cons_of_mem _ (List.mem_append_right _ h)
theorem hd_x_intOf : yX12_intOf.cls = RX12 ∧ yX12_intOf.cls ≠ "java/lang/invoke/MethodHandle" ∧ yX12_intOf.cls ≠ "java/lang/invoke/VarHandle" ∧ (parseMethodDescriptor yX12_intOf.desc).map (fun d => d.parameters.length) = some 2 := by decide +kernel
theorem gg_x_intOf_signOf : GoodIn w_x_intOf w_x_signOf := goodIn_sub (fun w h => (List.mem_cons.mp h).elim (fun e => (List.mem_cons_of_mem _ (List.mem_append_left _ (List.mem_append_right _ (List.mem_append_left _ (List.mem_cons.mpr (Or.inl e))))))) (fun h => (List.mem_append.mp h).elim (fun h => (List.mem_cons_of_mem _ (List.mem_append_left _ (List.mem_append_right _ (List.mem_append_left _ (List.mem_cons_of_mem _ h)))))) (fun h => List.mem_cons_of_mem _ (List.mem_append_right _ h)))) w_x_signOf_good
theorem g_x_intOf_signOf_463 : GoodIn w_x_intOf (wsV RX12 463 RX12 yX12_signOf w_x_signOf) := goodIn_app (nb_g4 (List.mem_cons_of_mem _ (List.mem_append_left _ (List.mem_append_left _ (List.mem_of_getElem? (i := 1) rfl)))) (List.mem_cons_of_mem _ (List.mem_append_left _ (List.mem_append_left _ (List.mem_of_getElem? (i := 2) rfl)))) (List.mem_cons_of_mem _ (List.mem_append_left _ (List.mem_append_left _ (List.mem_of_getElem? (i := 3) rfl)))) (List.mem_cons_of_mem _ (List.mem_append_left _ (List.mem_append_left _ (List.mem_of_getElem? (i := 4) rfl)))) (by decide +kernel)) gg_x_intOf_signOf
set_option maxHeartbeats 40000000 in
set_option maxRecDepth 100000 in
theorem c_x_intOf (l : Launch) (dC : Nat → ClassId) (dI : Nat → Nat → Nat) (cy : Nat → ClassId) (a : Nat → Nat) (k0 : Nat) (L0 : Nat → Int32) (J0 : Nat → Int64) (σ0 : MS) (r0 : Int32 × MS) (h0 : x_intOf k0 0 L0 J0 σ0 = some r0) (sz : Nat) : Met l yX12_intOf w_x_intOf ({ frames := 1, cells := 0, slots := 0, locals := 21 }) (va_Pc [.ref (a 0), .int (L0 1), .int (L0 2)] (nIn (dC, dI) cy sz (vM cy a σ0))) (va_Qi (fun (z : Int32) (_ : Unit) => z = r0.1) (fun _ t => nOut (dC, dI) cy (va_A (vM cy a σ0) sz) (vM cy a r0.2) t) (va_A (vM cy a σ0) sz)) 0 0 (va_A (vM cy a σ0) sz) := by
  refine Met.ofW (cc := cX12_intOf) (maxL := 7) (ret := (some .int)) (by decide) rfl ?_
  intro p e s m args below meth c s₁ B hml hv
  obtain ⟨rfl, hsz, hP, hK, hD0, hG⟩ := hv
  have hx := B.exec
  have hb := B.bytes
  have hr := B.returns
  have hts := atoms_spec (ws := w_x_intOf) B.pre
  have hown : s.vm.findClass RX12 = some m.cls := findClass_of_methodNamed B.named
  have hlocks := B.notSynchronized
  subst hsz
  have hD := hD0.self (sz := s.heap.size)
  generalize hAe : va_A (vM cy a σ0) s.heap.size = A at hD ⊢
  have hA : ∀ q : Nat, s.heap.size ≤ q → A q := fun q h => by rw [← hAe]; exact Or.inr h
  have hS : va_S A s.heap s.heap [] := va_S.rf
  have hl := lv_entry ([.ref (a 0), .int (L0 1), .int (L0 2)]) (n := 7) (Nat.le_of_ble_eq_true rfl)
  rw [lg_entry_eq]
  generalize (lg_sl ([.ref (a 0), .int (L0 1), .int (L0 2)]) ++ List.replicate (7 - (lg_sl ([.ref (a 0), .int (L0 1), .int (L0 2)])).length) Slot.unset).toArray = ls at hl ⊢
  have hl : lv_has ls 7 [(0, .ref (a 0)), (1, .int (L0 1)), (2, .int (L0 2))] := hl
  have blk : ∀ k : Nat, (bTJ p l e (headSpec w_x_intOf ({ frames := 1, cells := 0, slots := 0, locals := 21 })).room s m #[.ref (a 0), .int (L0 1), .int (L0 2)] below meth c dC dI cy a A (qI dC dI cy a A below #[.ref (a 0), .int (L0 1), .int (L0 2)] s) 7 (x_intOf k 0) (fun L J => [(0, .ref (a 0)), (1, .int (L 1)), (2, .int (L 2))]) 0 (fun L J => [])) ∧ (bTJ p l e (headSpec w_x_intOf ({ frames := 1, cells := 0, slots := 0, locals := 21 })).room s m #[.ref (a 0), .int (L0 1), .int (L0 2)] below meth c dC dI cy a A (qI dC dI cy a A below #[.ref (a 0), .int (L0 1), .int (L0 2)] s) 7 (x_intOf k 1) (fun L J => [(0, .ref (a 0)), (1, .int (L 1)), (2, .int (L 2)), (3, .int (L 3)), (4, .long (J 4)), (6, .int (L 6))]) 19 (fun L J => [])) ∧ (bTJ p l e (headSpec w_x_intOf ({ frames := 1, cells := 0, slots := 0, locals := 21 })).room s m #[.ref (a 0), .int (L0 1), .int (L0 2)] below meth c dC dI cy a A (qI dC dI cy a A below #[.ref (a 0), .int (L0 1), .int (L0 2)] s) 7 (x_intOf k 2) (fun L J => [(0, .ref (a 0)), (1, .int (L 1)), (2, .int (L 2)), (3, .int (L 3)), (4, .long (J 4)), (6, .int (L 6))]) 37 (fun L J => [])) ∧ (bTJ p l e (headSpec w_x_intOf ({ frames := 1, cells := 0, slots := 0, locals := 21 })).room s m #[.ref (a 0), .int (L0 1), .int (L0 2)] below meth c dC dI cy a A (qI dC dI cy a A below #[.ref (a 0), .int (L0 1), .int (L0 2)] s) 7 (x_intOf k 3) (fun L J => [(0, .ref (a 0)), (1, .int (L 1)), (2, .int (L 2)), (3, .int (L 3)), (4, .long (J 4)), (6, .int (L 6))]) 55 (fun L J => [.long (J 100)])) ∧ (bTJ p l e (headSpec w_x_intOf ({ frames := 1, cells := 0, slots := 0, locals := 21 })).room s m #[.ref (a 0), .int (L0 1), .int (L0 2)] below meth c dC dI cy a A (qI dC dI cy a A below #[.ref (a 0), .int (L0 1), .int (L0 2)] s) 7 (x_intOf k 4) (fun L J => [(0, .ref (a 0)), (1, .int (L 1)), (2, .int (L 2)), (3, .int (L 3)), (4, .long (J 4)), (6, .int (L 6))]) 63 (fun L J => [])) ∧ (bTJ p l e (headSpec w_x_intOf ({ frames := 1, cells := 0, slots := 0, locals := 21 })).room s m #[.ref (a 0), .int (L0 1), .int (L0 2)] below meth c dC dI cy a A (qI dC dI cy a A below #[.ref (a 0), .int (L0 1), .int (L0 2)] s) 7 (x_intOf k 5) (fun L J => [(0, .ref (a 0)), (1, .int (L 1)), (2, .int (L 2)), (3, .int (L 3)), (4, .long (J 4)), (6, .int (L 6))]) 77 (fun L J => [])) ∧ (bTJ p l e (headSpec w_x_intOf ({ frames := 1, cells := 0, slots := 0, locals := 21 })).room s m #[.ref (a 0), .int (L0 1), .int (L0 2)] below meth c dC dI cy a A (qI dC dI cy a A below #[.ref (a 0), .int (L0 1), .int (L0 2)] s) 7 (x_intOf k 6) (fun L J => [(0, .ref (a 0)), (1, .int (L 1)), (2, .int (L 2)), (3, .int (L 3)), (4, .long (J 4)), (6, .int (L 6))]) 80 (fun L J => [.int (L 100)])) ∧ (bTJ p l e (headSpec w_x_intOf ({ frames := 1, cells := 0, slots := 0, locals := 21 })).room s m #[.ref (a 0), .int (L0 1), .int (L0 2)] below meth c dC dI cy a A (qI dC dI cy a A below #[.ref (a 0), .int (L0 1), .int (L0 2)] s) 7 (x_intOf k 7) (fun L J => [(0, .ref (a 0)), (1, .int (L 1)), (2, .int (L 2)), (3, .int (L 3)), (4, .long (J 4)), (6, .int (L 6))]) 96 (fun L J => [])) ∧ (bTJ p l e (headSpec w_x_intOf ({ frames := 1, cells := 0, slots := 0, locals := 21 })).room s m #[.ref (a 0), .int (L0 1), .int (L0 2)] below meth c dC dI cy a A (qI dC dI cy a A below #[.ref (a 0), .int (L0 1), .int (L0 2)] s) 7 (x_intOf k 8) (fun L J => [(0, .ref (a 0)), (1, .int (L 1)), (2, .int (L 2)), (3, .int (L 3)), (4, .long (J 4)), (6, .int (L 6))]) 98 (fun L J => [.int (L 100)])) := by
    intro k
    induction k with
    | zero => exact ⟨fun L J σ r h => (by cases h), fun L J σ r h => (by cases h), fun L J σ r h => (by cases h), fun L J σ r h => (by cases h), fun L J σ r h => (by cases h), fun L J σ r h => (by cases h), fun L J σ r h => (by cases h), fun L J σ r h => (by cases h), fun L J σ r h => (by cases h)⟩
    | succ k ih =>
      refine ⟨?_, ?_, ?_, ?_, ?_, ?_, ?_, ?_, ?_⟩
      · intro L J σ r h H locs ls hP hD hS hl
        rw [x_intOf] at h
        refine lv_aload_n hx hb dX12_intOf_0 rfl (lv_at hl 0 rfl) ?_
        refine ng_53 hx hb hts in_x_intOf hown hK hP (hts _ (List.mem_cons_of_mem _ (List.mem_append_left _ (List.mem_append_left _ (List.mem_of_getElem? (i := 0) rfl))))) dX12_intOf_1 ?_
        refine lv_iload_n hx hb dX12_intOf_4 rfl (lv_at hl 1 rfl) ?_
        refine lv_iconst (v := 1) hx hb dX12_intOf_5 (by decide) ?_
        refine lv_iadd hx hb dX12_intOf_6 ?_
        obtain ⟨q1, h⟩ := nb_ite1 h
        refine nl_28 hx hb hK hP q1 dX12_intOf_7 ?_
        refine lv_iconst (v := 1) hx hb dX12_intOf_8 (by decide) ?_
        refine lv_isub hx hb dX12_intOf_9 ?_
        refine lv_istore_n (lv' := [(3, .int (((σ.2.2 28 ((((L 1)) + 1)).toNatClampNeg)) - 1)), (0, .ref (a 0)), (1, .int (L 1)), (2, .int (L 2))]) hx hb dX12_intOf_10 rfl hl (by decide) rfl (fun ls hl => ?_)
        refine lv_lconst (v := 0) hx hb dX12_intOf_11 (by decide) ?_
        refine lv_lstore (lv' := [(4, .long 0), (3, .int (((σ.2.2 28 ((((L 1)) + 1)).toNatClampNeg)) - 1)), (0, .ref (a 0)), (1, .int (L 1)), (2, .int (L 2))]) hx hb dX12_intOf_12 hl (by decide) rfl (fun ls hl => ?_)
        refine lv_iload_n hx hb dX12_intOf_14 rfl (lv_at hl 1 rfl) ?_
        refine lv_iconst (v := 1) hx hb dX12_intOf_15 (by decide) ?_
        refine lv_isub hx hb dX12_intOf_16 ?_
        refine lv_istore (lv' := [(6, .int (((((σ.2.2 28 ((((L 1)) + 1)).toNatClampNeg)) - 1)) - 1)), (4, .long 0), (3, .int (((σ.2.2 28 ((((L 1)) + 1)).toNatClampNeg)) - 1)), (0, .ref (a 0)), (1, .int (L 1)), (2, .int (L 2))]) hx hb dX12_intOf_17 hl (by decide) rfl (fun ls hl => ?_)
        exact ih.2.1 (upd (upd L 3 ((((σ.2.2 28 ((((L 1)) + 1)).toNatClampNeg)) - 1))) 6 ((((((σ.2.2 28 ((((L 1)) + 1)).toNatClampNeg)) - 1)) - 1))) (updW J 4 0) σ r h H locs ls hP hD hS (lv_sub hl [3, 4, 5, 2, 1, 0] rfl)
      · intro L J σ r h H locs ls hP hD hS hl
        rw [x_intOf] at h
        refine lv_iload hx hb dX12_intOf_19 (lv_at hl 5 rfl) ?_
        refine lv_if_lt (tgt := 63) hx hb dX12_intOf_21 (by decide) (fun c1 => ?_) (fun c1 => ?_)
        · rw [if_pos c1] at h
          exact ih.2.2.2.2.1 L J σ r h H locs ls hP hD hS (lv_sub hl [0, 1, 2, 3, 4, 5] rfl)
        · rw [if_neg c1] at h
          refine lv_lload hx hb dX12_intOf_24 (lv_at hl 4 rfl) ?_
          refine lv_iload_n hx hb dX12_intOf_26 rfl (lv_at hl 2 rfl) ?_
          refine lv_i2l (v := ((L 2)).toInt64) hx hb dX12_intOf_27 rfl ?_
          refine nb_lcmp hx hb dX12_intOf_28 ?_
          refine lv_if_le (tgt := 37) hx hb dX12_intOf_29 (by decide) (fun c2 => ?_) (fun c2 => ?_)
          · rw [if_pos c2] at h
            exact ih.2.2.1 L J σ r h H locs ls hP hD hS (lv_sub hl [0, 1, 2, 3, 4, 5] rfl)
          · rw [if_neg c2] at h
            refine lv_lload hx hb dX12_intOf_32 (lv_at hl 4 rfl) ?_
            refine lv_goto (tgt := 55) hx hb dX12_intOf_34 (by decide) ?_
            exact ih.2.2.2.1 L (updW J 100 ((J 4))) σ r h H locs ls hP hD hS (lv_sub hl [0, 1, 2, 3, 4, 5] rfl)
      · intro L J σ r h H locs ls hP hD hS hl
        rw [x_intOf] at h
        refine lv_lload hx hb dX12_intOf_37 (lv_at hl 4 rfl) ?_
        refine lv_bipush (v := 16) hx hb dX12_intOf_39 (by decide) ?_
        refine lv_lshl (v := ((J 4)) <<< ((16 : Int32).toInt64 &&& 63)) hx hb dX12_intOf_41 rfl ?_
        refine lv_aload_n hx hb dX12_intOf_42 rfl (lv_at hl 0 rfl) ?_
        refine ng_53 hx hb hts in_x_intOf hown hK hP (hts _ (List.mem_cons_of_mem _ (List.mem_append_left _ (List.mem_append_left _ (List.mem_of_getElem? (i := 0) rfl))))) dX12_intOf_43 ?_
        refine lv_iload_n hx hb dX12_intOf_46 rfl (lv_at hl 1 rfl) ?_
        refine lv_iconst (v := 5) hx hb dX12_intOf_47 (by decide) ?_
        refine lv_iadd hx hb dX12_intOf_48 ?_
        refine lv_iload hx hb dX12_intOf_49 (lv_at hl 5 rfl) ?_
        refine lv_iadd hx hb dX12_intOf_51 ?_
        obtain ⟨q1, h⟩ := nb_ite1 h
        refine nl_28 hx hb hK hP q1 dX12_intOf_52 ?_
        refine lv_i2l (v := ((σ.2.2 28 ((((((L 1)) + 5)) + ((L 6)))).toNatClampNeg)).toInt64) hx hb dX12_intOf_53 rfl ?_
        refine lv_lor hx hb dX12_intOf_54 ?_
        exact ih.2.2.2.1 L (updW J 100 ((((((J 4)) <<< ((16 : Int32).toInt64 &&& 63))) ||| ((((σ.2.2 28 ((((((L 1)) + 5)) + ((L 6)))).toNatClampNeg)).toInt64))))) σ r h H locs ls hP hD hS (lv_sub hl [0, 1, 2, 3, 4, 5] rfl)
      · intro L J σ r h H locs ls hP hD hS hl
        rw [x_intOf] at h
        refine lv_lstore (lv' := [(4, .long (J 100)), (0, .ref (a 0)), (1, .int (L 1)), (2, .int (L 2)), (3, .int (L 3)), (6, .int (L 6))]) hx hb dX12_intOf_55 hl (by decide) rfl (fun ls hl => ?_)
        refine lv_iinc (v := ((L 6)) + (-1)) (lv' := [(6, .int (((L 6)) + (-1))), (4, .long (J 100)), (0, .ref (a 0)), (1, .int (L 1)), (2, .int (L 2)), (3, .int (L 3))]) hx hb dX12_intOf_57 hl (k := 5) rfl rfl (by decide) rfl (fun ls hl => ?_)
        refine lv_goto (tgt := 19) hx hb dX12_intOf_60 (by decide) ?_
        exact ih.2.1 (upd L 6 (((L 6)) + (-1))) (updW J 4 ((J 100))) σ r h H locs ls hP hD hS (lv_sub hl [2, 3, 4, 5, 1, 0] rfl)
      · intro L J σ r h H locs ls hP hD hS hl
        rw [x_intOf] at h
        refine lv_lload hx hb dX12_intOf_63 (lv_at hl 4 rfl) ?_
        refine lv_iload_n hx hb dX12_intOf_65 rfl (lv_at hl 2 rfl) ?_
        refine lv_i2l (v := ((L 2)).toInt64) hx hb dX12_intOf_66 rfl ?_
        refine nb_lcmp hx hb dX12_intOf_67 ?_
        refine lv_if_le (tgt := 77) hx hb dX12_intOf_68 (by decide) (fun c1 => ?_) (fun c1 => ?_)
        · rw [if_pos c1] at h
          exact ih.2.2.2.2.2.1 L J σ r h H locs ls hP hD hS (lv_sub hl [0, 1, 2, 3, 4, 5] rfl)
        · rw [if_neg c1] at h
          refine lv_iload_n hx hb dX12_intOf_71 rfl (lv_at hl 2 rfl) ?_
          refine lv_iconst (v := 1) hx hb dX12_intOf_72 (by decide) ?_
          refine lv_iadd hx hb dX12_intOf_73 ?_
          refine lv_goto (tgt := 80) hx hb dX12_intOf_74 (by decide) ?_
          exact ih.2.2.2.2.2.2.1 (upd L 100 ((((L 2)) + 1))) J σ r h H locs ls hP hD hS (lv_sub hl [0, 1, 2, 3, 4, 5] rfl)
      · intro L J σ r h H locs ls hP hD hS hl
        rw [x_intOf] at h
        refine lv_lload hx hb dX12_intOf_77 (lv_at hl 4 rfl) ?_
        refine lv_l2i (v := ((J 4)).toInt32) hx hb dX12_intOf_79 rfl ?_
        exact ih.2.2.2.2.2.2.1 (upd L 100 ((((J 4)).toInt32))) J σ r h H locs ls hP hD hS (lv_sub hl [0, 1, 2, 3, 4, 5] rfl)
      · intro L J σ r h H locs ls hP hD hS hl
        rw [x_intOf] at h
        refine lv_istore (lv' := [(6, .int (L 100)), (0, .ref (a 0)), (1, .int (L 1)), (2, .int (L 2)), (3, .int (L 3)), (4, .long (J 4))]) hx hb dX12_intOf_80 hl (by decide) rfl (fun ls hl => ?_)
        refine lv_aload_n hx hb dX12_intOf_82 rfl (lv_at hl 1 rfl) ?_
        refine lv_iload_n hx hb dX12_intOf_83 rfl (lv_at hl 2 rfl) ?_
        obtain ⟨r1, hc1, h⟩ := ob_ex h
        refine nc_Vi (As := [.int (L 1)]) (rest := []) ⟨hx, hb, hml, hown, hts⟩ (c_x_signOf l dC dI cy a k (upd (fun _ => 0) 1 ((L 1))) σ r1 hc1 H.size) (cwV 1 hts g_x_intOf_signOf_463 rfl rfl rfl hd_x_signOf ⟨Nat.le_of_ble_eq_true rfl, Nat.le_of_ble_eq_true rfl⟩) hK hG hA hP hD hS rfl hl.1 rfl (Nat.le_of_ble_eq_true rfl) dX12_intOf_84 ⟨Nat.le_refl _, Nat.le_refl _⟩ (fun H locs hP hD hS => ?_)
        refine lv_if_ge (tgt := 96) hx hb dX12_intOf_87 (by decide) (fun c2 => ?_) (fun c2 => ?_)
        · rw [if_pos c2] at h
          exact ih.2.2.2.2.2.2.2.1 (upd L 6 ((L 100))) J r1.2 r h H locs ls hP hD hS (lv_sub hl [1, 2, 3, 4, 5, 0] rfl)
        · rw [if_neg c2] at h
          refine lv_iload hx hb dX12_intOf_90 (lv_at hl 0 rfl) ?_
          refine lv_ineg hx hb dX12_intOf_92 ?_
          refine lv_goto (tgt := 98) hx hb dX12_intOf_93 (by decide) ?_
          exact ih.2.2.2.2.2.2.2.2 (upd (upd L 6 ((L 100))) 100 ((- ((L 100))))) J r1.2 r h H locs ls hP hD hS (lv_sub hl [1, 2, 3, 4, 5, 0] rfl)
      · intro L J σ r h H locs ls hP hD hS hl
        rw [x_intOf] at h
        refine lv_iload hx hb dX12_intOf_96 (lv_at hl 5 rfl) ?_
        exact ih.2.2.2.2.2.2.2.2 (upd L 100 ((L 6))) J σ r h H locs ls hP hD hS (lv_sub hl [0, 1, 2, 3, 4, 5] rfl)
      · intro L J σ r h H locs ls hP hD hS hl
        rw [x_intOf] at h
        cases h
        exact W.iret (v := (L 100)) hx hb hr (fun t ht hW => ⟨⟨(L 100), (), rfl, rfl, by rw [ht]; exact hP, va_K.moved hW.alike hK, hD⟩, hS.F ht⟩) hS.2.2 dX12_intOf_98
  exact (blk k0).1 L0 J0 σ0 r0 h0 s.heap [] ls hP hD hS hl
/-! rowsTimes -/
def x_rowsTimes : Nat → Nat → (Nat → Int32) → (Nat → Int64) → MS → Option (Int32 × MS)
  | 0, _, _, _, _ => none
  | k + 1, 0, L, J, σ => x_rowsTimes k 1 L J (upd σ.1 86 ((((L 1)) + ((σ.1 84)))), σ.2.1, σ.2.2)
  | k + 1, 1, L, J, σ => x_rowsTimes k 2 (upd L 2 0) J σ
  | k + 1, 2, L, J, σ => if ((σ.1 86)) ≤ ((L 2)) then (x_rowsTimes k 4 L J σ) else (if ¬ (((L 2)) < 0 ∨ 300 ≤ ((L 2)).toNatClampNeg) then (x_rowsTimes k 3 L J (σ.1, σ.2.1, updG σ.2.2 44 (upd (σ.2.2 44) ((L 2)).toNatClampNeg 0))) else none)
  | k + 1, 3, L, J, σ => x_rowsTimes k 2 (upd L 2 (((L 2)) + 1)) J σ
  | k + 1, 4, L, J, σ => x_rowsTimes k 5 (upd L 2 0) J σ
  | k + 1, 5, L, J, σ => if ((L 1)) ≤ ((L 2)) then (x_rowsTimes k 10 L J σ) else (x_rowsTimes k 6 (upd L 5 0) (updW J 3 0) σ)
  | k + 1, 6, L, J, σ => if ((σ.1 84)) ≤ ((L 5)) then (x_rowsTimes k 8 L J σ) else (if ¬ (((((L 2)) + ((L 5)))) < 0 ∨ 300 ≤ ((((L 2)) + ((L 5)))).toNatClampNeg) then (if ¬ (((L 2)) < 0 ∨ 140 ≤ ((L 2)).toNatClampNeg) then (if ¬ (((L 5)) < 0 ∨ 140 ≤ ((L 5)).toNatClampNeg) then (if ¬ (((((L 2)) + ((L 5)))) < 0 ∨ 300 ≤ ((((L 2)) + ((L 5)))).toNatClampNeg) then (x_rowsTimes k 7 L (updW J 3 ((((J 3)) + ((((((σ.2.2 44 ((((L 2)) + ((L 5)))).toNatClampNeg)).toInt64)) + ((((((σ.2.2 47 ((L 2)).toNatClampNeg)).toInt64)) * ((((σ.2.2 42 ((L 5)).toNatClampNeg)).toInt64))))))))) (σ.1, σ.2.1, updG σ.2.2 44 (upd (σ.2.2 44) ((((L 2)) + ((L 5)))).toNatClampNeg ((((((((J 3)) + ((((((σ.2.2 44 ((((L 2)) + ((L 5)))).toNatClampNeg)).toInt64)) + ((((((σ.2.2 47 ((L 2)).toNatClampNeg)).toInt64)) * ((((σ.2.2 42 ((L 5)).toNatClampNeg)).toInt64)))))))) &&& 65535)).toInt32))))) else none) else none) else none) else none)
  | k + 1, 7, L, J, σ => x_rowsTimes k 6 (upd L 5 (((L 5)) + 1)) (updW J 3 ((((J 3)) >>> ((16 : Int32).toInt64 &&& 63)))) σ
  | k + 1, 8, L, J, σ => if ¬ (((((L 2)) + ((σ.1 84)))) < 0 ∨ 300 ≤ ((((L 2)) + ((σ.1 84)))).toNatClampNeg) then (x_rowsTimes k 9 L J (σ.1, σ.2.1, updG σ.2.2 44 (upd (σ.2.2 44) ((((L 2)) + ((σ.1 84)))).toNatClampNeg ((((J 3)).toInt32))))) else none
  | k + 1, 9, L, J, σ => x_rowsTimes k 5 (upd L 2 (((L 2)) + 1)) J σ
  | k + 1, 10, L, J, σ => if ((σ.1 86)) ≤ 0 then (x_rowsTimes k 11 L J σ) else (if ¬ (((((σ.1 86)) - 1)) < 0 ∨ 300 ≤ ((((σ.1 86)) - 1)).toNatClampNeg) then (if ((σ.2.2 44 ((((σ.1 86)) - 1)).toNatClampNeg)) = 0 then (x_rowsTimes k 10 L J (upd σ.1 86 ((((σ.1 86)) - 1)), σ.2.1, σ.2.2)) else (x_rowsTimes k 11 L J σ)) else none)
  | k + 1, 11, L, J, σ => some (0, σ)
  | _ + 1, _ + 12, _, _, _ => none
def o_x_rowsTimes : List Cond := [.fieldLink RX12 466 "SetHouseModel" "na" "I", .fieldLink RX12 478 "SetHouseModel" "nc" "I", .fieldLink RX12 481 "SetHouseModel" "rc" "[I", .fieldLink RX12 521 "SetHouseModel" "rp" "[I", .fieldLink RX12 469 "SetHouseModel" "ra" "[I", .constantLong RX12 498 (65535)]
theorem o_x_rowsTimes_good : o_x_rowsTimes.all goodWord = true := by decide +kernel
def p_x_rowsTimes : List Cond := o_x_rowsTimes ++ []
theorem p_x_rowsTimes_good : p_x_rowsTimes.all goodWord = true := nb_all2 o_x_rowsTimes_good rfl
def w_x_rowsTimes : List Cond := .code yX12_rowsTimes cX12_rowsTimes 6 none :: (p_x_rowsTimes ++ fM)
theorem w_x_rowsTimes_good : w_x_rowsTimes.all goodWord = true := nb_allc (by decide +kernel) (nb_all2 p_x_rowsTimes_good fM_good)
theorem in_x_rowsTimes : ∀ w ∈ wsX120, w ∈ w_x_rowsTimes := fun _ h => List.mem_cons_of_mem _ (List.mem_append_right _ h)
theorem hd_x_rowsTimes : yX12_rowsTimes.cls = RX12 ∧ yX12_rowsTimes.cls ≠ "java/lang/invoke/MethodHandle" ∧ yX12_rowsTimes.cls ≠ "java/lang/invoke/VarHandle" ∧ (parseMethodDescriptor yX12_rowsTimes.desc).map (fun d => d.parameters.length) = some 1 := by decide +kernel
set_option maxHeartbeats 40000000 in
set_option maxRecDepth 100000 in
theorem c_x_rowsTimes (l : Launch) (dC : Nat → ClassId) (dI : Nat → Nat → Nat) (cy : Nat → ClassId) (a : Nat → Nat) (k0 : Nat) (L0 : Nat → Int32) (J0 : Nat → Int64) (σ0 : MS) (r0 : Int32 × MS) (h0 : x_rowsTimes k0 0 L0 J0 σ0 = some r0) (sz : Nat) : Met l yX12_rowsTimes w_x_rowsTimes ({ frames := 0, cells := 0, slots := 0, locals := 0 }) (va_Pc [.ref (a 0), .int (L0 1)] (nIn (dC, dI) cy sz (vM cy a σ0))) (va_Qv (fun _ : Unit => True) (fun _ t => nOut (dC, dI) cy (va_A (vM cy a σ0) sz) (vM cy a r0.2) t) (va_A (vM cy a σ0) sz)) 0 0 (va_A (vM cy a σ0) sz) := by
  refine Met.ofW (cc := cX12_rowsTimes) (maxL := 6) (ret := none) (by decide) rfl ?_
  intro p e s m args below meth c s₁ B hml hv
  obtain ⟨rfl, hsz, hP, hK, hD0, hG⟩ := hv
  have hx := B.exec
  have hb := B.bytes
  have hr := B.returns
  have hts := atoms_spec (ws := w_x_rowsTimes) B.pre
  have hown : s.vm.findClass RX12 = some m.cls := findClass_of_methodNamed B.named
  have hlocks := B.notSynchronized
  subst hsz
  have hD := hD0.self (sz := s.heap.size)
  generalize hAe : va_A (vM cy a σ0) s.heap.size = A at hD ⊢
  have hA : ∀ q : Nat, s.heap.size ≤ q → A q := fun q h => by rw [← hAe]; exact Or.inr h
  have hS : va_S A s.heap s.heap [] := va_S.rf
  have hl := lv_entry ([.ref (a 0), .int (L0 1)]) (n := 6) (Nat.le_of_ble_eq_true rfl)
  rw [lg_entry_eq]
  generalize (lg_sl ([.ref (a 0), .int (L0 1)]) ++ List.replicate (6 - (lg_sl ([.ref (a 0), .int (L0 1)])).length) Slot.unset).toArray = ls at hl ⊢
  have hl : lv_has ls 6 [(0, .ref (a 0)), (1, .int (L0 1))] := hl
  have blk : ∀ k : Nat, (bTJ p l e (headSpec w_x_rowsTimes ({ frames := 0, cells := 0, slots := 0, locals := 0 })).room s m #[.ref (a 0), .int (L0 1)] below meth c dC dI cy a A (qV dC dI cy a A below #[.ref (a 0), .int (L0 1)] s) 6 (x_rowsTimes k 0) (fun L J => [(0, .ref (a 0)), (1, .int (L 1))]) 0 (fun L J => [])) ∧ (bTJ p l e (headSpec w_x_rowsTimes ({ frames := 0, cells := 0, slots := 0, locals := 0 })).room s m #[.ref (a 0), .int (L0 1)] below meth c dC dI cy a A (qV dC dI cy a A below #[.ref (a 0), .int (L0 1)] s) 6 (x_rowsTimes k 1) (fun L J => [(0, .ref (a 0)), (1, .int (L 1))]) 10 (fun L J => [])) ∧ (bTJ p l e (headSpec w_x_rowsTimes ({ frames := 0, cells := 0, slots := 0, locals := 0 })).room s m #[.ref (a 0), .int (L0 1)] below meth c dC dI cy a A (qV dC dI cy a A below #[.ref (a 0), .int (L0 1)] s) 6 (x_rowsTimes k 2) (fun L J => [(0, .ref (a 0)), (1, .int (L 1)), (2, .int (L 2))]) 12 (fun L J => [])) ∧ (bTJ p l e (headSpec w_x_rowsTimes ({ frames := 0, cells := 0, slots := 0, locals := 0 })).room s m #[.ref (a 0), .int (L0 1)] below meth c dC dI cy a A (qV dC dI cy a A below #[.ref (a 0), .int (L0 1)] s) 6 (x_rowsTimes k 3) (fun L J => [(0, .ref (a 0)), (1, .int (L 1)), (2, .int (L 2))]) 27 (fun L J => [])) ∧ (bTJ p l e (headSpec w_x_rowsTimes ({ frames := 0, cells := 0, slots := 0, locals := 0 })).room s m #[.ref (a 0), .int (L0 1)] below meth c dC dI cy a A (qV dC dI cy a A below #[.ref (a 0), .int (L0 1)] s) 6 (x_rowsTimes k 4) (fun L J => [(0, .ref (a 0)), (1, .int (L 1)), (2, .int (L 2))]) 33 (fun L J => [])) ∧ (bTJ p l e (headSpec w_x_rowsTimes ({ frames := 0, cells := 0, slots := 0, locals := 0 })).room s m #[.ref (a 0), .int (L0 1)] below meth c dC dI cy a A (qV dC dI cy a A below #[.ref (a 0), .int (L0 1)] s) 6 (x_rowsTimes k 5) (fun L J => [(0, .ref (a 0)), (1, .int (L 1)), (2, .int (L 2))]) 35 (fun L J => [])) ∧ (bTJ p l e (headSpec w_x_rowsTimes ({ frames := 0, cells := 0, slots := 0, locals := 0 })).room s m #[.ref (a 0), .int (L0 1)] below meth c dC dI cy a A (qV dC dI cy a A below #[.ref (a 0), .int (L0 1)] s) 6 (x_rowsTimes k 6) (fun L J => [(0, .ref (a 0)), (1, .int (L 1)), (2, .int (L 2)), (3, .long (J 3)), (5, .int (L 5))]) 45 (fun L J => [])) ∧ (bTJ p l e (headSpec w_x_rowsTimes ({ frames := 0, cells := 0, slots := 0, locals := 0 })).room s m #[.ref (a 0), .int (L0 1)] below meth c dC dI cy a A (qV dC dI cy a A below #[.ref (a 0), .int (L0 1)] s) 6 (x_rowsTimes k 7) (fun L J => [(0, .ref (a 0)), (1, .int (L 1)), (2, .int (L 2)), (3, .long (J 3)), (5, .int (L 5))]) 99 (fun L J => [])) ∧ (bTJ p l e (headSpec w_x_rowsTimes ({ frames := 0, cells := 0, slots := 0, locals := 0 })).room s m #[.ref (a 0), .int (L0 1)] below meth c dC dI cy a A (qV dC dI cy a A below #[.ref (a 0), .int (L0 1)] s) 6 (x_rowsTimes k 8) (fun L J => [(0, .ref (a 0)), (1, .int (L 1)), (2, .int (L 2)), (3, .long (J 3)), (5, .int (L 5))]) 110 (fun L J => [])) ∧ (bTJ p l e (headSpec w_x_rowsTimes ({ frames := 0, cells := 0, slots := 0, locals := 0 })).room s m #[.ref (a 0), .int (L0 1)] below meth c dC dI cy a A (qV dC dI cy a A below #[.ref (a 0), .int (L0 1)] s) 6 (x_rowsTimes k 9) (fun L J => [(0, .ref (a 0)), (1, .int (L 1)), (2, .int (L 2)), (3, .long (J 3)), (5, .int (L 5))]) 123 (fun L J => [])) ∧ (bTJ p l e (headSpec w_x_rowsTimes ({ frames := 0, cells := 0, slots := 0, locals := 0 })).room s m #[.ref (a 0), .int (L0 1)] below meth c dC dI cy a A (qV dC dI cy a A below #[.ref (a 0), .int (L0 1)] s) 6 (x_rowsTimes k 10) (fun L J => [(0, .ref (a 0)), (1, .int (L 1)), (2, .int (L 2))]) 129 (fun L J => [])) ∧ (bTJ p l e (headSpec w_x_rowsTimes ({ frames := 0, cells := 0, slots := 0, locals := 0 })).room s m #[.ref (a 0), .int (L0 1)] below meth c dC dI cy a A (qV dC dI cy a A below #[.ref (a 0), .int (L0 1)] s) 6 (x_rowsTimes k 11) (fun L J => [(0, .ref (a 0)), (1, .int (L 1)), (2, .int (L 2))]) 163 (fun L J => [])) := by
    intro k
    induction k with
    | zero => exact ⟨fun L J σ r h => (by cases h), fun L J σ r h => (by cases h), fun L J σ r h => (by cases h), fun L J σ r h => (by cases h), fun L J σ r h => (by cases h), fun L J σ r h => (by cases h), fun L J σ r h => (by cases h), fun L J σ r h => (by cases h), fun L J σ r h => (by cases h), fun L J σ r h => (by cases h), fun L J σ r h => (by cases h), fun L J σ r h => (by cases h)⟩
    | succ k ih =>
      refine ⟨?_, ?_, ?_, ?_, ?_, ?_, ?_, ?_, ?_, ?_, ?_, ?_⟩
      · intro L J σ r h H locs ls hP hD hS hl
        rw [x_rowsTimes] at h
        refine lv_aload_n hx hb dX12_rowsTimes_0 rfl (lv_at hl 0 rfl) ?_
        refine lv_iload_n hx hb dX12_rowsTimes_1 rfl (lv_at hl 1 rfl) ?_
        refine lv_aload_n hx hb dX12_rowsTimes_2 rfl (lv_at hl 0 rfl) ?_
        refine ng_84 hx hb hts in_x_rowsTimes hown hK hP (hts _ (List.mem_cons_of_mem _ (List.mem_append_left _ (List.mem_append_left _ (List.mem_of_getElem? (i := 0) rfl))))) dX12_rowsTimes_3 ?_
        refine lv_iadd hx hb dX12_rowsTimes_6 ?_
        refine np_86 hx hb hts in_x_rowsTimes hown hK hP hD hS (hts _ (List.mem_cons_of_mem _ (List.mem_append_left _ (List.mem_append_left _ (List.mem_of_getElem? (i := 1) rfl))))) dX12_rowsTimes_7 (fun H locs hP hD hS => ?_)
        exact ih.2.1 L J (upd σ.1 86 ((((L 1)) + ((σ.1 84)))), σ.2.1, σ.2.2) r h H locs ls hP hD hS (lv_sub hl [0, 1] rfl)
      · intro L J σ r h H locs ls hP hD hS hl
        rw [x_rowsTimes] at h
        refine lv_iconst (v := 0) hx hb dX12_rowsTimes_10 (by decide) ?_
        refine lv_istore_n (lv' := [(2, .int 0), (0, .ref (a 0)), (1, .int (L 1))]) hx hb dX12_rowsTimes_11 rfl hl (by decide) rfl (fun ls hl => ?_)
        exact ih.2.2.1 (upd L 2 0) J σ r h H locs ls hP hD hS (lv_sub hl [1, 2, 0] rfl)
      · intro L J σ r h H locs ls hP hD hS hl
        rw [x_rowsTimes] at h
        refine lv_iload_n hx hb dX12_rowsTimes_12 rfl (lv_at hl 2 rfl) ?_
        refine lv_aload_n hx hb dX12_rowsTimes_13 rfl (lv_at hl 0 rfl) ?_
        refine ng_86 hx hb hts in_x_rowsTimes hown hK hP (hts _ (List.mem_cons_of_mem _ (List.mem_append_left _ (List.mem_append_left _ (List.mem_of_getElem? (i := 1) rfl))))) dX12_rowsTimes_14 ?_
        refine lv_icmp_ge (tgt := 33) hx hb dX12_rowsTimes_17 (by decide) (fun c1 => ?_) (fun c1 => ?_)
        · rw [if_pos c1] at h
          exact ih.2.2.2.2.1 L J σ r h H locs ls hP hD hS (lv_sub hl [0, 1, 2] rfl)
        · rw [if_neg c1] at h
          refine lv_aload_n hx hb dX12_rowsTimes_20 rfl (lv_at hl 0 rfl) ?_
          refine ng_83 hx hb hts in_x_rowsTimes hown hK hP (hts _ (List.mem_cons_of_mem _ (List.mem_append_left _ (List.mem_append_left _ (List.mem_of_getElem? (i := 2) rfl))))) dX12_rowsTimes_21 ?_
          refine lv_iload_n hx hb dX12_rowsTimes_24 rfl (lv_at hl 2 rfl) ?_
          refine lv_iconst (v := 0) hx hb dX12_rowsTimes_25 (by decide) ?_
          obtain ⟨q2, h⟩ := nb_ite1 h
          refine ns_44 hx hb hK hP hD hS q2 dX12_rowsTimes_26 (fun H locs hP hD hS => ?_)
          exact ih.2.2.2.1 L J (σ.1, σ.2.1, updG σ.2.2 44 (upd (σ.2.2 44) ((L 2)).toNatClampNeg 0)) r h H locs ls hP hD hS (lv_sub hl [0, 1, 2] rfl)
      · intro L J σ r h H locs ls hP hD hS hl
        rw [x_rowsTimes] at h
        refine lv_iinc (v := ((L 2)) + 1) (lv' := [(2, .int (((L 2)) + 1)), (0, .ref (a 0)), (1, .int (L 1))]) hx hb dX12_rowsTimes_27 hl (k := 2) rfl rfl (by decide) rfl (fun ls hl => ?_)
        refine lv_goto (tgt := 12) hx hb dX12_rowsTimes_30 (by decide) ?_
        exact ih.2.2.1 (upd L 2 (((L 2)) + 1)) J σ r h H locs ls hP hD hS (lv_sub hl [1, 2, 0] rfl)
      · intro L J σ r h H locs ls hP hD hS hl
        rw [x_rowsTimes] at h
        refine lv_iconst (v := 0) hx hb dX12_rowsTimes_33 (by decide) ?_
        refine lv_istore_n (lv' := [(2, .int 0), (0, .ref (a 0)), (1, .int (L 1))]) hx hb dX12_rowsTimes_34 rfl hl (by decide) rfl (fun ls hl => ?_)
        exact ih.2.2.2.2.2.1 (upd L 2 0) J σ r h H locs ls hP hD hS (lv_sub hl [1, 2, 0] rfl)
      · intro L J σ r h H locs ls hP hD hS hl
        rw [x_rowsTimes] at h
        refine lv_iload_n hx hb dX12_rowsTimes_35 rfl (lv_at hl 2 rfl) ?_
        refine lv_iload_n hx hb dX12_rowsTimes_36 rfl (lv_at hl 1 rfl) ?_
        refine lv_icmp_ge (tgt := 129) hx hb dX12_rowsTimes_37 (by decide) (fun c1 => ?_) (fun c1 => ?_)
        · rw [if_pos c1] at h
          exact ih.2.2.2.2.2.2.2.2.2.2.1 L J σ r h H locs ls hP hD hS (lv_sub hl [0, 1, 2] rfl)
        · rw [if_neg c1] at h
          refine lv_lconst (v := 0) hx hb dX12_rowsTimes_40 (by decide) ?_
          refine lv_lstore_n (lv' := [(3, .long 0), (0, .ref (a 0)), (1, .int (L 1)), (2, .int (L 2))]) hx hb dX12_rowsTimes_41 rfl hl (by decide) rfl (fun ls hl => ?_)
          refine lv_iconst (v := 0) hx hb dX12_rowsTimes_42 (by decide) ?_
          refine lv_istore (lv' := [(5, .int 0), (3, .long 0), (0, .ref (a 0)), (1, .int (L 1)), (2, .int (L 2))]) hx hb dX12_rowsTimes_43 hl (by decide) rfl (fun ls hl => ?_)
          exact ih.2.2.2.2.2.2.1 (upd L 5 0) (updW J 3 0) σ r h H locs ls hP hD hS (lv_sub hl [2, 3, 4, 1, 0] rfl)
      · intro L J σ r h H locs ls hP hD hS hl
        rw [x_rowsTimes] at h
        refine lv_iload hx hb dX12_rowsTimes_45 (lv_at hl 4 rfl) ?_
        refine lv_aload_n hx hb dX12_rowsTimes_47 rfl (lv_at hl 0 rfl) ?_
        refine ng_84 hx hb hts in_x_rowsTimes hown hK hP (hts _ (List.mem_cons_of_mem _ (List.mem_append_left _ (List.mem_append_left _ (List.mem_of_getElem? (i := 0) rfl))))) dX12_rowsTimes_48 ?_
        refine lv_icmp_ge (tgt := 110) hx hb dX12_rowsTimes_51 (by decide) (fun c1 => ?_) (fun c1 => ?_)
        · rw [if_pos c1] at h
          exact ih.2.2.2.2.2.2.2.2.1 L J σ r h H locs ls hP hD hS (lv_sub hl [0, 1, 2, 3, 4] rfl)
        · rw [if_neg c1] at h
          refine lv_lload_n hx hb dX12_rowsTimes_54 rfl (lv_at hl 3 rfl) ?_
          refine lv_aload_n hx hb dX12_rowsTimes_55 rfl (lv_at hl 0 rfl) ?_
          refine ng_83 hx hb hts in_x_rowsTimes hown hK hP (hts _ (List.mem_cons_of_mem _ (List.mem_append_left _ (List.mem_append_left _ (List.mem_of_getElem? (i := 2) rfl))))) dX12_rowsTimes_56 ?_
          refine lv_iload_n hx hb dX12_rowsTimes_59 rfl (lv_at hl 2 rfl) ?_
          refine lv_iload hx hb dX12_rowsTimes_60 (lv_at hl 4 rfl) ?_
          refine lv_iadd hx hb dX12_rowsTimes_62 ?_
          obtain ⟨q2, h⟩ := nb_ite1 h
          refine nl_44 hx hb hK hP q2 dX12_rowsTimes_63 ?_
          refine lv_i2l (v := ((σ.2.2 44 ((((L 2)) + ((L 5)))).toNatClampNeg)).toInt64) hx hb dX12_rowsTimes_64 rfl ?_
          refine lv_aload_n hx hb dX12_rowsTimes_65 rfl (lv_at hl 0 rfl) ?_
          refine ng_91 hx hb hts in_x_rowsTimes hown hK hP (hts _ (List.mem_cons_of_mem _ (List.mem_append_left _ (List.mem_append_left _ (List.mem_of_getElem? (i := 3) rfl))))) dX12_rowsTimes_66 ?_
          refine lv_iload_n hx hb dX12_rowsTimes_69 rfl (lv_at hl 2 rfl) ?_
          obtain ⟨q3, h⟩ := nb_ite1 h
          refine nl_47 hx hb hK hP q3 dX12_rowsTimes_70 ?_
          refine lv_i2l (v := ((σ.2.2 47 ((L 2)).toNatClampNeg)).toInt64) hx hb dX12_rowsTimes_71 rfl ?_
          refine lv_aload_n hx hb dX12_rowsTimes_72 rfl (lv_at hl 0 rfl) ?_
          refine ng_81 hx hb hts in_x_rowsTimes hown hK hP (hts _ (List.mem_cons_of_mem _ (List.mem_append_left _ (List.mem_append_left _ (List.mem_of_getElem? (i := 4) rfl))))) dX12_rowsTimes_73 ?_
          refine lv_iload hx hb dX12_rowsTimes_76 (lv_at hl 4 rfl) ?_
          obtain ⟨q4, h⟩ := nb_ite1 h
          refine nl_42 hx hb hK hP q4 dX12_rowsTimes_78 ?_
          refine lv_i2l (v := ((σ.2.2 42 ((L 5)).toNatClampNeg)).toInt64) hx hb dX12_rowsTimes_79 rfl ?_
          refine lv_lmul hx hb dX12_rowsTimes_80 ?_
          refine lv_ladd hx hb dX12_rowsTimes_81 ?_
          refine lv_ladd hx hb dX12_rowsTimes_82 ?_
          refine lv_lstore_n (lv' := [(3, .long (((J 3)) + ((((((σ.2.2 44 ((((L 2)) + ((L 5)))).toNatClampNeg)).toInt64)) + ((((((σ.2.2 47 ((L 2)).toNatClampNeg)).toInt64)) * ((((σ.2.2 42 ((L 5)).toNatClampNeg)).toInt64)))))))), (0, .ref (a 0)), (1, .int (L 1)), (2, .int (L 2)), (5, .int (L 5))]) hx hb dX12_rowsTimes_83 rfl hl (by decide) rfl (fun ls hl => ?_)
          refine lv_aload_n hx hb dX12_rowsTimes_84 rfl (lv_at hl 1 rfl) ?_
          refine ng_83 hx hb hts in_x_rowsTimes hown hK hP (hts _ (List.mem_cons_of_mem _ (List.mem_append_left _ (List.mem_append_left _ (List.mem_of_getElem? (i := 2) rfl))))) dX12_rowsTimes_85 ?_
          refine lv_iload_n hx hb dX12_rowsTimes_88 rfl (lv_at hl 3 rfl) ?_
          refine lv_iload hx hb dX12_rowsTimes_89 (lv_at hl 4 rfl) ?_
          refine lv_iadd hx hb dX12_rowsTimes_91 ?_
          refine lv_lload_n hx hb dX12_rowsTimes_92 rfl (lv_at hl 0 rfl) ?_
          refine lv_ldc2 (v := 65535) hx hb hown (hts _ (List.mem_cons_of_mem _ (List.mem_append_left _ (List.mem_append_left _ (List.mem_of_getElem? (i := 5) rfl))))) dX12_rowsTimes_93 ?_
          refine lv_land hx hb dX12_rowsTimes_96 ?_
          refine lv_l2i (v := ((((((J 3)) + ((((((σ.2.2 44 ((((L 2)) + ((L 5)))).toNatClampNeg)).toInt64)) + ((((((σ.2.2 47 ((L 2)).toNatClampNeg)).toInt64)) * ((((σ.2.2 42 ((L 5)).toNatClampNeg)).toInt64)))))))) &&& 65535)).toInt32) hx hb dX12_rowsTimes_97 rfl ?_
          obtain ⟨q5, h⟩ := nb_ite1 h
          refine ns_44 hx hb hK hP hD hS q5 dX12_rowsTimes_98 (fun H locs hP hD hS => ?_)
          exact ih.2.2.2.2.2.2.2.1 L (updW J 3 ((((J 3)) + ((((((σ.2.2 44 ((((L 2)) + ((L 5)))).toNatClampNeg)).toInt64)) + ((((((σ.2.2 47 ((L 2)).toNatClampNeg)).toInt64)) * ((((σ.2.2 42 ((L 5)).toNatClampNeg)).toInt64))))))))) (σ.1, σ.2.1, updG σ.2.2 44 (upd (σ.2.2 44) ((((L 2)) + ((L 5)))).toNatClampNeg ((((((((J 3)) + ((((((σ.2.2 44 ((((L 2)) + ((L 5)))).toNatClampNeg)).toInt64)) + ((((((σ.2.2 47 ((L 2)).toNatClampNeg)).toInt64)) * ((((σ.2.2 42 ((L 5)).toNatClampNeg)).toInt64)))))))) &&& 65535)).toInt32)))) r h H locs ls hP hD hS (lv_sub hl [1, 2, 3, 0, 4] rfl)
      · intro L J σ r h H locs ls hP hD hS hl
        rw [x_rowsTimes] at h
        refine lv_lload_n hx hb dX12_rowsTimes_99 rfl (lv_at hl 3 rfl) ?_
        refine lv_bipush (v := 16) hx hb dX12_rowsTimes_100 (by decide) ?_
        refine lv_lshr (v := ((J 3)) >>> ((16 : Int32).toInt64 &&& 63)) hx hb dX12_rowsTimes_102 rfl ?_
        refine lv_lstore_n (lv' := [(3, .long (((J 3)) >>> ((16 : Int32).toInt64 &&& 63))), (0, .ref (a 0)), (1, .int (L 1)), (2, .int (L 2)), (5, .int (L 5))]) hx hb dX12_rowsTimes_103 rfl hl (by decide) rfl (fun ls hl => ?_)
        refine lv_iinc (v := ((L 5)) + 1) (lv' := [(5, .int (((L 5)) + 1)), (3, .long (((J 3)) >>> ((16 : Int32).toInt64 &&& 63))), (0, .ref (a 0)), (1, .int (L 1)), (2, .int (L 2))]) hx hb dX12_rowsTimes_104 hl (k := 4) rfl rfl (by decide) rfl (fun ls hl => ?_)
        refine lv_goto (tgt := 45) hx hb dX12_rowsTimes_107 (by decide) ?_
        exact ih.2.2.2.2.2.2.1 (upd L 5 (((L 5)) + 1)) (updW J 3 ((((J 3)) >>> ((16 : Int32).toInt64 &&& 63)))) σ r h H locs ls hP hD hS (lv_sub hl [2, 3, 4, 1, 0] rfl)
      · intro L J σ r h H locs ls hP hD hS hl
        rw [x_rowsTimes] at h
        refine lv_aload_n hx hb dX12_rowsTimes_110 rfl (lv_at hl 0 rfl) ?_
        refine ng_83 hx hb hts in_x_rowsTimes hown hK hP (hts _ (List.mem_cons_of_mem _ (List.mem_append_left _ (List.mem_append_left _ (List.mem_of_getElem? (i := 2) rfl))))) dX12_rowsTimes_111 ?_
        refine lv_iload_n hx hb dX12_rowsTimes_114 rfl (lv_at hl 2 rfl) ?_
        refine lv_aload_n hx hb dX12_rowsTimes_115 rfl (lv_at hl 0 rfl) ?_
        refine ng_84 hx hb hts in_x_rowsTimes hown hK hP (hts _ (List.mem_cons_of_mem _ (List.mem_append_left _ (List.mem_append_left _ (List.mem_of_getElem? (i := 0) rfl))))) dX12_rowsTimes_116 ?_
        refine lv_iadd hx hb dX12_rowsTimes_119 ?_
        refine lv_lload_n hx hb dX12_rowsTimes_120 rfl (lv_at hl 3 rfl) ?_
        refine lv_l2i (v := ((J 3)).toInt32) hx hb dX12_rowsTimes_121 rfl ?_
        obtain ⟨q1, h⟩ := nb_ite1 h
        refine ns_44 hx hb hK hP hD hS q1 dX12_rowsTimes_122 (fun H locs hP hD hS => ?_)
        exact ih.2.2.2.2.2.2.2.2.2.1 L J (σ.1, σ.2.1, updG σ.2.2 44 (upd (σ.2.2 44) ((((L 2)) + ((σ.1 84)))).toNatClampNeg ((((J 3)).toInt32)))) r h H locs ls hP hD hS (lv_sub hl [0, 1, 2, 3, 4] rfl)
      · intro L J σ r h H locs ls hP hD hS hl
        rw [x_rowsTimes] at h
        refine lv_iinc (v := ((L 2)) + 1) (lv' := [(2, .int (((L 2)) + 1)), (0, .ref (a 0)), (1, .int (L 1)), (3, .long (J 3)), (5, .int (L 5))]) hx hb dX12_rowsTimes_123 hl (k := 2) rfl rfl (by decide) rfl (fun ls hl => ?_)
        refine lv_goto (tgt := 35) hx hb dX12_rowsTimes_126 (by decide) ?_
        exact ih.2.2.2.2.2.1 (upd L 2 (((L 2)) + 1)) J σ r h H locs ls hP hD hS (lv_sub hl [1, 2, 0] rfl)
      · intro L J σ r h H locs ls hP hD hS hl
        rw [x_rowsTimes] at h
        refine lv_aload_n hx hb dX12_rowsTimes_129 rfl (lv_at hl 0 rfl) ?_
        refine ng_86 hx hb hts in_x_rowsTimes hown hK hP (hts _ (List.mem_cons_of_mem _ (List.mem_append_left _ (List.mem_append_left _ (List.mem_of_getElem? (i := 1) rfl))))) dX12_rowsTimes_130 ?_
        refine lv_if_le (tgt := 163) hx hb dX12_rowsTimes_133 (by decide) (fun c1 => ?_) (fun c1 => ?_)
        · rw [if_pos c1] at h
          exact ih.2.2.2.2.2.2.2.2.2.2.2 L J σ r h H locs ls hP hD hS (lv_sub hl [0, 1, 2] rfl)
        · rw [if_neg c1] at h
          refine lv_aload_n hx hb dX12_rowsTimes_136 rfl (lv_at hl 0 rfl) ?_
          refine ng_83 hx hb hts in_x_rowsTimes hown hK hP (hts _ (List.mem_cons_of_mem _ (List.mem_append_left _ (List.mem_append_left _ (List.mem_of_getElem? (i := 2) rfl))))) dX12_rowsTimes_137 ?_
          refine lv_aload_n hx hb dX12_rowsTimes_140 rfl (lv_at hl 0 rfl) ?_
          refine ng_86 hx hb hts in_x_rowsTimes hown hK hP (hts _ (List.mem_cons_of_mem _ (List.mem_append_left _ (List.mem_append_left _ (List.mem_of_getElem? (i := 1) rfl))))) dX12_rowsTimes_141 ?_
          refine lv_iconst (v := 1) hx hb dX12_rowsTimes_144 (by decide) ?_
          refine lv_isub hx hb dX12_rowsTimes_145 ?_
          obtain ⟨q2, h⟩ := nb_ite1 h
          refine nl_44 hx hb hK hP q2 dX12_rowsTimes_146 ?_
          refine lv_if_ne (tgt := 163) hx hb dX12_rowsTimes_147 (by decide) (fun c3 => ?_) (fun c3 => ?_)
          · rw [if_neg c3] at h
            exact ih.2.2.2.2.2.2.2.2.2.2.2 L J σ r h H locs ls hP hD hS (lv_sub hl [0, 1, 2] rfl)
          · rw [if_pos c3] at h
            refine lv_aload_n hx hb dX12_rowsTimes_150 rfl (lv_at hl 0 rfl) ?_
            refine lv_dup hx hb dX12_rowsTimes_151 rfl ?_
            refine ng_86 hx hb hts in_x_rowsTimes hown hK hP (hts _ (List.mem_cons_of_mem _ (List.mem_append_left _ (List.mem_append_left _ (List.mem_of_getElem? (i := 1) rfl))))) dX12_rowsTimes_152 ?_
            refine lv_iconst (v := 1) hx hb dX12_rowsTimes_155 (by decide) ?_
            refine lv_isub hx hb dX12_rowsTimes_156 ?_
            refine np_86 hx hb hts in_x_rowsTimes hown hK hP hD hS (hts _ (List.mem_cons_of_mem _ (List.mem_append_left _ (List.mem_append_left _ (List.mem_of_getElem? (i := 1) rfl))))) dX12_rowsTimes_157 (fun H locs hP hD hS => ?_)
            refine lv_goto (tgt := 129) hx hb dX12_rowsTimes_160 (by decide) ?_
            exact ih.2.2.2.2.2.2.2.2.2.2.1 L J (upd σ.1 86 ((((σ.1 86)) - 1)), σ.2.1, σ.2.2) r h H locs ls hP hD hS (lv_sub hl [0, 1, 2] rfl)
      · intro L J σ r h H locs ls hP hD hS hl
        rw [x_rowsTimes] at h
        cases h
        exact W.vret hx hb hr (fun t ht hW => ⟨⟨(), rfl, trivial, by rw [ht]; exact hP, va_K.moved hW.alike hK, hD⟩, hS.F ht⟩) hS.2.2 dX12_rowsTimes_163
  exact (blk k0).1 L0 J0 σ0 r0 h0 s.heap [] ls hP hD hS hl
/-! raise -/
def x_raise : Nat → Nat → (Nat → Int32) → MS → Option (Int32 × MS)
  | 0, _, _, _ => none
  | k + 1, 0, L, σ => ob (x_signOf k 0 (upd (fun _ => 0) 1 ((L 2))) σ) (fun r1 => if 0 ≤ r1.1 then (x_raise k 1 L r1.2) else (ob (x_fail k 0 (upd (fun _ => 0) 1 4) r1.2) (fun r3 => some (0, r3.2))))
  | k + 1, 1, L, σ => ob (x_intOf k 0 (upd (upd (fun _ => 0) 1 ((L 2))) 2 5000) (fun _ => 0) σ) (fun r1 => if r1.1 = 0 then (ob (x_small k 0 (upd (fun _ => 0) 1 1) r1.2) (fun r3 => some (r3.1, r3.2))) else (x_raise k 2 (upd L 3 r1.1) r1.2))
  | k + 1, 2, L, σ => if ¬ (((((L 2)) + 1)) < 0 ∨ 1740000 ≤ ((((L 2)) + 1)).toNatClampNeg) then (if ((σ.2.2 28 ((((L 2)) + 1)).toNatClampNeg)) ≤ 1 then (x_raise k 3 L σ) else (if ¬ (((((L 2)) + 5)) < 0 ∨ 1740000 ≤ ((((L 2)) + 5)).toNatClampNeg) then (if ((((σ.2.2 28 ((((L 2)) + 5)).toNatClampNeg)) &&& 1)) = 1 then (x_raise k 4 (upd L 100 1) σ) else (x_raise k 3 L σ)) else none)) else none
  | k + 1, 3, L, σ => x_raise k 4 (upd L 100 0) σ
  | k + 1, 4, L, σ => if ¬ (((((L 1)) + 1)) < 0 ∨ 1740000 ≤ ((((L 1)) + 1)).toNatClampNeg) then (if ((σ.2.2 28 ((((L 1)) + 1)).toNatClampNeg)) = 1 then (x_raise k 5 (upd L 4 ((L 100))) σ) else (if ¬ (((((L 1)) + 1)) < 0 ∨ 1740000 ≤ ((((L 1)) + 1)).toNatClampNeg) then (if ((σ.2.2 28 ((((L 1)) + 1)).toNatClampNeg)) = 2 then (if ¬ (((((L 1)) + 5)) < 0 ∨ 1740000 ≤ ((((L 1)) + 5)).toNatClampNeg) then (if ((σ.2.2 28 ((((L 1)) + 5)).toNatClampNeg)) = 1 then (x_raise k 5 (upd L 4 ((L 100))) σ) else (x_raise k 9 (upd L 4 ((L 100))) σ)) else none) else (x_raise k 9 (upd L 4 ((L 100))) σ)) else none)) else none
  | k + 1, 5, L, σ => ob (x_signOf k 0 (upd (fun _ => 0) 1 ((L 1))) σ) (fun r1 => if 0 ≤ r1.1 then (x_raise k 6 L r1.2) else (if ((L 4)) = 0 then (x_raise k 7 L r1.2) else (x_raise k 6 L r1.2)))
  | k + 1, 6, L, σ => x_raise k 8 (upd L 100 ((L 1))) σ
  | k + 1, 7, L, σ => ob (x_small k 0 (upd (fun _ => 0) 1 1) σ) (fun r1 => x_raise k 8 (upd L 100 r1.1) r1.2)
  | k + 1, 8, L, σ => some ((L 100), σ)
  | k + 1, 9, L, σ => ob (x_loadA k 0 (upd (fun _ => 0) 1 ((L 1))) σ) (fun r1 => x_raise k 10 (upd (upd L 5 ((r1.2.1 84))) 6 0) r1.2)
  | k + 1, 10, L, σ => if ((σ.1 84)) ≤ ((L 6)) then (x_raise k 12 L σ) else (if ¬ (((L 6)) < 0 ∨ 140 ≤ ((L 6)).toNatClampNeg) then (if ¬ (((L 6)) < 0 ∨ 140 ≤ ((L 6)).toNatClampNeg) then (x_raise k 11 L (σ.1, σ.2.1, updG σ.2.2 47 (upd (σ.2.2 47) ((L 6)).toNatClampNeg ((σ.2.2 42 ((L 6)).toNatClampNeg))))) else none) else none)
  | k + 1, 11, L, σ => x_raise k 10 (upd L 6 (((L 6)) + 1)) σ
  | k + 1, 12, L, σ => x_raise k 13 (upd L 6 1) σ
  | k + 1, 13, L, σ => if ((L 3)) ≤ ((L 6)) then (x_raise k 18 L σ) else (if ((σ.1 56)) = 0 then (ob (x_rowsTimes k 0 (upd (fun _ => 0) 1 ((L 5))) (fun _ => 0) σ) (fun r3 => if ((r3.2.1 86)) ≤ 64 then (x_raise k 14 L r3.2) else (ob (x_fail k 0 (upd (fun _ => 0) 1 5) r3.2) (fun r5 => x_raise k 14 L r5.2)))) else (x_raise k 18 L σ))
  | k + 1, 14, L, σ => x_raise k 15 (upd (upd L 5 ((σ.1 86))) 7 0) σ
  | k + 1, 15, L, σ => if ((σ.1 86)) ≤ ((L 7)) then (x_raise k 17 L σ) else (if ¬ (((L 7)) < 0 ∨ 300 ≤ ((L 7)).toNatClampNeg) then (if ¬ (((L 7)) < 0 ∨ 140 ≤ ((L 7)).toNatClampNeg) then (x_raise k 16 L (σ.1, σ.2.1, updG σ.2.2 47 (upd (σ.2.2 47) ((L 7)).toNatClampNeg ((σ.2.2 44 ((L 7)).toNatClampNeg))))) else none) else none)
  | k + 1, 16, L, σ => x_raise k 15 (upd L 7 (((L 7)) + 1)) σ
  | k + 1, 17, L, σ => x_raise k 13 (upd L 6 (((L 6)) + 1)) σ
  | k + 1, 18, L, σ => if ((σ.1 56)) ≤ 0 then (x_raise k 19 L σ) else (some (0, σ))
  | k + 1, 19, L, σ => x_raise k 20 L (upd σ.1 86 ((L 5)), σ.2.1, σ.2.2)
  | k + 1, 20, L, σ => x_raise k 21 (upd L 6 0) σ
  | k + 1, 21, L, σ => if ((L 5)) ≤ ((L 6)) then (x_raise k 23 L σ) else (if ¬ (((L 6)) < 0 ∨ 140 ≤ ((L 6)).toNatClampNeg) then (if ¬ (((L 6)) < 0 ∨ 300 ≤ ((L 6)).toNatClampNeg) then (x_raise k 22 L (σ.1, σ.2.1, updG σ.2.2 44 (upd (σ.2.2 44) ((L 6)).toNatClampNeg ((σ.2.2 47 ((L 6)).toNatClampNeg))))) else none) else none)
  | k + 1, 22, L, σ => x_raise k 21 (upd L 6 (((L 6)) + 1)) σ
  | k + 1, 23, L, σ => ob (x_signOf k 0 (upd (fun _ => 0) 1 ((L 1))) σ) (fun r1 => if 0 ≤ r1.1 then (x_raise k 24 L r1.2) else (if ((L 4)) = 0 then (x_raise k 24 L r1.2) else (x_raise k 25 (upd L 100 ((-1))) r1.2)))
  | k + 1, 24, L, σ => x_raise k 25 (upd L 100 1) σ
  | k + 1, 25, L, σ => ob (x_wholeOf k 0 (upd (fun _ => 0) 1 ((L 100))) σ) (fun r1 => some (r1.1, r1.2))
  | _ + 1, _ + 26, _, _ => none
def o_x_raise : List Cond := [.methodLink RX12 463 yX12_signOf, .instanceMethod yX12_signOf, .selects RX12 yX12_signOf yX12_signOf, .initialized RX12, .methodLink RX12 369 yX12_fail, .instanceMethod yX12_fail, .selects RX12 yX12_fail yX12_fail, .methodLink RX12 515 yX12_intOf, .instanceMethod yX12_intOf, .selects RX12 yX12_intOf yX12_intOf, .methodLink RX12 518 yX12_small, .instanceMethod yX12_small, .selects RX12 yX12_small yX12_small, .fieldLink RX12 372 "SetHouseModel" "heap" "[I", .methodLink RX12 488 yX12_loadA, .instanceMethod yX12_loadA, .selects RX12 yX12_loadA yX12_loadA, .fieldLink RX12 466 "SetHouseModel" "na" "I", .fieldLink RX12 521 "SetHouseModel" "rp" "[I", .fieldLink RX12 469 "SetHouseModel" "ra" "[I", .fieldLink RX12 362 "SetHouseModel" "err" "I", .methodLink RX12 524 yX12_rowsTimes, .instanceMethod yX12_rowsTimes, .selects RX12 yX12_rowsTimes yX12_rowsTimes, .fieldLink RX12 478 "SetHouseModel" "nc" "I", .fieldLink RX12 481 "SetHouseModel" "rc" "[I", .methodLink RX12 485 yX12_wholeOf, .instanceMethod yX12_wholeOf, .selects RX12 yX12_wholeOf yX12_wholeOf]
theorem o_x_raise_good : o_x_raise.all goodWord = true := by decide +kernel
def p_x_raise : List Cond := o_x_raise ++ ((.code yX12_signOf cX12_signOf 2 (some .int) :: p_x_signOf) ++ ((.code yX12_fail cX12_fail 2 none :: p_x_fail) ++ ((.code yX12_intOf cX12_intOf 7 (some .int) :: p_x_intOf) ++ ((.code yX12_small cX12_small 3 (some .int) :: p_x_small) ++ ((.code yX12_loadA cX12_loadA 3 none :: p_x_loadA) ++ ((.code yX12_rowsTimes cX12_rowsTimes 6 none :: p_x_rowsTimes) ++ ((.code yX12_wholeOf cX12_wholeOf 4 (some .int) :: p_x_wholeOf) ++ [])))))))
theorem p_x_raise_good : p_x_raise.all goodWord = true := nb_all2 o_x_raise_good (nb_all2 (nb_allc (by decide +kernel) p_x_signOf_good) (nb_all2 (nb_allc (by decide +kernel) p_x_fail_good) (nb_all2 (nb_allc (by decide +kernel) p_x_intOf_good) (nb_all2 (nb_allc (by decide +kernel) p_x_small_good) (nb_all2 (nb_allc (by decide +kernel) p_x_loadA_good) (nb_all2 (nb_allc (by decide +kernel) p_x_rowsTimes_good) (nb_all2 (nb_allc (by decide +kernel) p_x_wholeOf_good) rfl)))))))
def w_x_raise : List Cond := .code yX12_raise cX12_raise 8 (some .int) :: (p_x_raise ++ fM)
theorem w_x_raise_good : w_x_raise.all goodWord = true := nb_allc (by decide +kernel) (nb_all2 p_x_raise_good fM_good)
theorem in_x_raise : ∀ w ∈ wsX120, w ∈ w_x_raise := fun _ h => List.mem_cons_of_mem _ (List.mem_append_right _ h)
theorem hd_x_raise : yX12_raise.cls = RX12 ∧ yX12_raise.cls ≠ "java/lang/invoke/MethodHandle" ∧ yX12_raise.cls ≠ "java/lang/invoke/VarHandle" ∧ (parseMethodDescriptor yX12_raise.desc).map (fun d => d.parameters.length) = some 2 := by decide +kernel
theorem gg_x_raise_fail : GoodIn w_x_raise w_x_fail := goodIn_sub (fun w h => (List.mem_cons.mp h).elim (fun e => (List.mem_cons_of_mem _ (List.mem_append_left _ (List.mem_append_right _ (List.mem_append_right _ (List.mem_append_left _ (List.mem_cons.mpr (Or.inl e)))))))) (fun h => (List.mem_append.mp h).elim (fun h => (List.mem_cons_of_mem _ (List.mem_append_left _ (List.mem_append_right _ (List.mem_append_right _ (List.mem_append_left _ (List.mem_cons_of_mem _ h))))))) (fun h => List.mem_cons_of_mem _ (List.mem_append_right _ h)))) w_x_fail_good
theorem g_x_raise_fail_369 : GoodIn w_x_raise (wsV RX12 369 RX12 yX12_fail w_x_fail) := goodIn_app (nb_g4 (List.mem_cons_of_mem _ (List.mem_append_left _ (List.mem_append_left _ (List.mem_of_getElem? (i := 4) rfl)))) (List.mem_cons_of_mem _ (List.mem_append_left _ (List.mem_append_left _ (List.mem_of_getElem? (i := 5) rfl)))) (List.mem_cons_of_mem _ (List.mem_append_left _ (List.mem_append_left _ (List.mem_of_getElem? (i := 6) rfl)))) (List.mem_cons_of_mem _ (List.mem_append_left _ (List.mem_append_left _ (List.mem_of_getElem? (i := 3) rfl)))) (by decide +kernel)) gg_x_raise_fail
theorem gg_x_raise_intOf : GoodIn w_x_raise w_x_intOf := goodIn_sub (fun w h => (List.mem_cons.mp h).elim (fun e => (List.mem_cons_of_mem _ (List.mem_append_left _ (List.mem_append_right _ (List.mem_append_right _ (List.mem_append_right _ (List.mem_append_left _ (List.mem_cons.mpr (Or.inl e))))))))) (fun h => (List.mem_append.mp h).elim (fun h => (List.mem_cons_of_mem _ (List.mem_append_left _ (List.mem_append_right _ (List.mem_append_right _ (List.mem_append_right _ (List.mem_append_left _ (List.mem_cons_of_mem _ h)))))))) (fun h => List.mem_cons_of_mem _ (List.mem_append_right _ h)))) w_x_intOf_good
theorem g_x_raise_intOf_515 : GoodIn w_x_raise (wsV RX12 515 RX12 yX12_intOf w_x_intOf) := goodIn_app (nb_g4 (List.mem_cons_of_mem _ (List.mem_append_left _ (List.mem_append_left _ (List.mem_of_getElem? (i := 7) rfl)))) (List.mem_cons_of_mem _ (List.mem_append_left _ (List.mem_append_left _ (List.mem_of_getElem? (i := 8) rfl)))) (List.mem_cons_of_mem _ (List.mem_append_left _ (List.mem_append_left _ (List.mem_of_getElem? (i := 9) rfl)))) (List.mem_cons_of_mem _ (List.mem_append_left _ (List.mem_append_left _ (List.mem_of_getElem? (i := 3) rfl)))) (by decide +kernel)) gg_x_raise_intOf
theorem gg_x_raise_loadA : GoodIn w_x_raise w_x_loadA := goodIn_sub (fun w h => (List.mem_cons.mp h).elim (fun e => (List.mem_cons_of_mem _ (List.mem_append_left _ (List.mem_append_right _ (List.mem_append_right _ (List.mem_append_right _ (List.mem_append_right _ (List.mem_append_right _ (List.mem_append_left _ (List.mem_cons.mpr (Or.inl e))))))))))) (fun h => (List.mem_append.mp h).elim (fun h => (List.mem_cons_of_mem _ (List.mem_append_left _ (List.mem_append_right _ (List.mem_append_right _ (List.mem_append_right _ (List.mem_append_right _ (List.mem_append_right _ (List.mem_append_left _ (List.mem_cons_of_mem _ h)))))))))) (fun h => List.mem_cons_of_mem _ (List.mem_append_right _ h)))) w_x_loadA_good
theorem g_x_raise_loadA_488 : GoodIn w_x_raise (wsV RX12 488 RX12 yX12_loadA w_x_loadA) := goodIn_app (nb_g4 (List.mem_cons_of_mem _ (List.mem_append_left _ (List.mem_append_left _ (List.mem_of_getElem? (i := 14) rfl)))) (List.mem_cons_of_mem _ (List.mem_append_left _ (List.mem_append_left _ (List.mem_of_getElem? (i := 15) rfl)))) (List.mem_cons_of_mem _ (List.mem_append_left _ (List.mem_append_left _ (List.mem_of_getElem? (i := 16) rfl)))) (List.mem_cons_of_mem _ (List.mem_append_left _ (List.mem_append_left _ (List.mem_of_getElem? (i := 3) rfl)))) (by decide +kernel)) gg_x_raise_loadA
theorem gg_x_raise_rowsTimes : GoodIn w_x_raise w_x_rowsTimes := goodIn_sub (fun w h => (List.mem_cons.mp h).elim (fun e => (List.mem_cons_of_mem _ (List.mem_append_left _ (List.mem_append_right _ (List.mem_append_right _ (List.mem_append_right _ (List.mem_append_right _ (List.mem_append_right _ (List.mem_append_right _ (List.mem_append_left _ (List.mem_cons.mpr (Or.inl e)))))))))))) (fun h => (List.mem_append.mp h).elim (fun h => (List.mem_cons_of_mem _ (List.mem_append_left _ (List.mem_append_right _ (List.mem_append_right _ (List.mem_append_right _ (List.mem_append_right _ (List.mem_append_right _ (List.mem_append_right _ (List.mem_append_left _ (List.mem_cons_of_mem _ h))))))))))) (fun h => List.mem_cons_of_mem _ (List.mem_append_right _ h)))) w_x_rowsTimes_good
theorem g_x_raise_rowsTimes_524 : GoodIn w_x_raise (wsV RX12 524 RX12 yX12_rowsTimes w_x_rowsTimes) := goodIn_app (nb_g4 (List.mem_cons_of_mem _ (List.mem_append_left _ (List.mem_append_left _ (List.mem_of_getElem? (i := 21) rfl)))) (List.mem_cons_of_mem _ (List.mem_append_left _ (List.mem_append_left _ (List.mem_of_getElem? (i := 22) rfl)))) (List.mem_cons_of_mem _ (List.mem_append_left _ (List.mem_append_left _ (List.mem_of_getElem? (i := 23) rfl)))) (List.mem_cons_of_mem _ (List.mem_append_left _ (List.mem_append_left _ (List.mem_of_getElem? (i := 3) rfl)))) (by decide +kernel)) gg_x_raise_rowsTimes
theorem gg_x_raise_signOf : GoodIn w_x_raise w_x_signOf := goodIn_sub (fun w h => (List.mem_cons.mp h).elim (fun e => (List.mem_cons_of_mem _ (List.mem_append_left _ (List.mem_append_right _ (List.mem_append_left _ (List.mem_cons.mpr (Or.inl e))))))) (fun h => (List.mem_append.mp h).elim (fun h => (List.mem_cons_of_mem _ (List.mem_append_left _ (List.mem_append_right _ (List.mem_append_left _ (List.mem_cons_of_mem _ h)))))) (fun h => List.mem_cons_of_mem _ (List.mem_append_right _ h)))) w_x_signOf_good
theorem g_x_raise_signOf_463 : GoodIn w_x_raise (wsV RX12 463 RX12 yX12_signOf w_x_signOf) := goodIn_app (nb_g4 (List.mem_cons_of_mem _ (List.mem_append_left _ (List.mem_append_left _ (List.mem_of_getElem? (i := 0) rfl)))) (List.mem_cons_of_mem _ (List.mem_append_left _ (List.mem_append_left _ (List.mem_of_getElem? (i := 1) rfl)))) (List.mem_cons_of_mem _ (List.mem_append_left _ (List.mem_append_left _ (List.mem_of_getElem? (i := 2) rfl)))) (List.mem_cons_of_mem _ (List.mem_append_left _ (List.mem_append_left _ (List.mem_of_getElem? (i := 3) rfl)))) (by decide +kernel)) gg_x_raise_signOf
theorem gg_x_raise_small : GoodIn w_x_raise w_x_small := goodIn_sub (fun w h => (List.mem_cons.mp h).elim (fun e => (List.mem_cons_of_mem _ (List.mem_append_left _ (List.mem_append_right _ (List.mem_append_right _ (List.mem_append_right _ (List.mem_append_right _ (List.mem_append_left _ (List.mem_cons.mpr (Or.inl e)))))))))) (fun h => (List.mem_append.mp h).elim (fun h => (List.mem_cons_of_mem _ (List.mem_append_left _ (List.mem_append_right _ (List.mem_append_right _ (List.mem_append_right _ (List.mem_append_right _ (List.mem_append_left _ (List.mem_cons_of_mem _ h))))))))) (fun h => List.mem_cons_of_mem _ (List.mem_append_right _ h)))) w_x_small_good
theorem g_x_raise_small_518 : GoodIn w_x_raise (wsV RX12 518 RX12 yX12_small w_x_small) := goodIn_app (nb_g4 (List.mem_cons_of_mem _ (List.mem_append_left _ (List.mem_append_left _ (List.mem_of_getElem? (i := 10) rfl)))) (List.mem_cons_of_mem _ (List.mem_append_left _ (List.mem_append_left _ (List.mem_of_getElem? (i := 11) rfl)))) (List.mem_cons_of_mem _ (List.mem_append_left _ (List.mem_append_left _ (List.mem_of_getElem? (i := 12) rfl)))) (List.mem_cons_of_mem _ (List.mem_append_left _ (List.mem_append_left _ (List.mem_of_getElem? (i := 3) rfl)))) (by decide +kernel)) gg_x_raise_small
theorem gg_x_raise_wholeOf : GoodIn w_x_raise w_x_wholeOf := goodIn_sub (fun w h => (List.mem_cons.mp h).elim (fun e => (List.mem_cons_of_mem _ (List.mem_append_left _ (List.mem_append_right _ (List.mem_append_right _ (List.mem_append_right _ (List.mem_append_right _ (List.mem_append_right _ (List.mem_append_right _ (List.mem_append_right _ (List.mem_append_left _ (List.mem_cons.mpr (Or.inl e))))))))))))) (fun h => (List.mem_append.mp h).elim (fun h => (List.mem_cons_of_mem _ (List.mem_append_left _ (List.mem_append_right _ (List.mem_append_right _ (List.mem_append_right _ (List.mem_append_right _ (List.mem_append_right _ (List.mem_append_right _ (List.mem_append_right _ (List.mem_append_left _ (List.mem_cons_of_mem _ h)))))))))))) (fun h => List.mem_cons_of_mem _ (List.mem_append_right _ h)))) w_x_wholeOf_good
theorem g_x_raise_wholeOf_485 : GoodIn w_x_raise (wsV RX12 485 RX12 yX12_wholeOf w_x_wholeOf) := goodIn_app (nb_g4 (List.mem_cons_of_mem _ (List.mem_append_left _ (List.mem_append_left _ (List.mem_of_getElem? (i := 26) rfl)))) (List.mem_cons_of_mem _ (List.mem_append_left _ (List.mem_append_left _ (List.mem_of_getElem? (i := 27) rfl)))) (List.mem_cons_of_mem _ (List.mem_append_left _ (List.mem_append_left _ (List.mem_of_getElem? (i := 28) rfl)))) (List.mem_cons_of_mem _ (List.mem_append_left _ (List.mem_append_left _ (List.mem_of_getElem? (i := 3) rfl)))) (by decide +kernel)) gg_x_raise_wholeOf
set_option maxHeartbeats 40000000 in
set_option maxRecDepth 100000 in
theorem c_x_raise (l : Launch) (dC : Nat → ClassId) (dI : Nat → Nat → Nat) (cy : Nat → ClassId) (a : Nat → Nat) (k0 : Nat) (L0 : Nat → Int32) (σ0 : MS) (r0 : Int32 × MS) (h0 : x_raise k0 0 L0 σ0 = some r0) (sz : Nat) : Met l yX12_raise w_x_raise ({ frames := 4, cells := 0, slots := 0, locals := 89 }) (va_Pc [.ref (a 0), .int (L0 1), .int (L0 2)] (nIn (dC, dI) cy sz (vM cy a σ0))) (va_Qi (fun (z : Int32) (_ : Unit) => z = r0.1) (fun _ t => nOut (dC, dI) cy (va_A (vM cy a σ0) sz) (vM cy a r0.2) t) (va_A (vM cy a σ0) sz)) 0 0 (va_A (vM cy a σ0) sz) := by
  refine Met.ofW (cc := cX12_raise) (maxL := 8) (ret := (some .int)) (by decide) rfl ?_
  intro p e s m args below meth c s₁ B hml hv
  obtain ⟨rfl, hsz, hP, hK, hD0, hG⟩ := hv
  have hx := B.exec
  have hb := B.bytes
  have hr := B.returns
  have hts := atoms_spec (ws := w_x_raise) B.pre
  have hown : s.vm.findClass RX12 = some m.cls := findClass_of_methodNamed B.named
  have hlocks := B.notSynchronized
  subst hsz
  have hD := hD0.self (sz := s.heap.size)
  generalize hAe : va_A (vM cy a σ0) s.heap.size = A at hD ⊢
  have hA : ∀ q : Nat, s.heap.size ≤ q → A q := fun q h => by rw [← hAe]; exact Or.inr h
  have hS : va_S A s.heap s.heap [] := va_S.rf
  have hl := lv_entry ([.ref (a 0), .int (L0 1), .int (L0 2)]) (n := 8) (Nat.le_of_ble_eq_true rfl)
  rw [lg_entry_eq]
  generalize (lg_sl ([.ref (a 0), .int (L0 1), .int (L0 2)]) ++ List.replicate (8 - (lg_sl ([.ref (a 0), .int (L0 1), .int (L0 2)])).length) Slot.unset).toArray = ls at hl ⊢
  have hl : lv_has ls 8 [(0, .ref (a 0)), (1, .int (L0 1)), (2, .int (L0 2))] := hl
  have blk : ∀ k : Nat, (bT p l e (headSpec w_x_raise ({ frames := 4, cells := 0, slots := 0, locals := 89 })).room s m #[.ref (a 0), .int (L0 1), .int (L0 2)] below meth c dC dI cy a A (qI dC dI cy a A below #[.ref (a 0), .int (L0 1), .int (L0 2)] s) 8 (x_raise k 0) (fun L => [(0, .ref (a 0)), (1, .int (L 1)), (2, .int (L 2))]) 0 (fun L => [])) ∧ (bT p l e (headSpec w_x_raise ({ frames := 4, cells := 0, slots := 0, locals := 89 })).room s m #[.ref (a 0), .int (L0 1), .int (L0 2)] below meth c dC dI cy a A (qI dC dI cy a A below #[.ref (a 0), .int (L0 1), .int (L0 2)] s) 8 (x_raise k 1) (fun L => [(0, .ref (a 0)), (1, .int (L 1)), (2, .int (L 2))]) 15 (fun L => [])) ∧ (bT p l e (headSpec w_x_raise ({ frames := 4, cells := 0, slots := 0, locals := 89 })).room s m #[.ref (a 0), .int (L0 1), .int (L0 2)] below meth c dC dI cy a A (qI dC dI cy a A below #[.ref (a 0), .int (L0 1), .int (L0 2)] s) 8 (x_raise k 2) (fun L => [(0, .ref (a 0)), (1, .int (L 1)), (2, .int (L 2)), (3, .int (L 3))]) 34 (fun L => [])) ∧ (bT p l e (headSpec w_x_raise ({ frames := 4, cells := 0, slots := 0, locals := 89 })).room s m #[.ref (a 0), .int (L0 1), .int (L0 2)] below meth c dC dI cy a A (qI dC dI cy a A below #[.ref (a 0), .int (L0 1), .int (L0 2)] s) 8 (x_raise k 3) (fun L => [(0, .ref (a 0)), (1, .int (L 1)), (2, .int (L 2)), (3, .int (L 3))]) 64 (fun L => [])) ∧ (bT p l e (headSpec w_x_raise ({ frames := 4, cells := 0, slots := 0, locals := 89 })).room s m #[.ref (a 0), .int (L0 1), .int (L0 2)] below meth c dC dI cy a A (qI dC dI cy a A below #[.ref (a 0), .int (L0 1), .int (L0 2)] s) 8 (x_raise k 4) (fun L => [(0, .ref (a 0)), (1, .int (L 1)), (2, .int (L 2)), (3, .int (L 3))]) 65 (fun L => [.int (L 100)])) ∧ (bT p l e (headSpec w_x_raise ({ frames := 4, cells := 0, slots := 0, locals := 89 })).room s m #[.ref (a 0), .int (L0 1), .int (L0 2)] below meth c dC dI cy a A (qI dC dI cy a A below #[.ref (a 0), .int (L0 1), .int (L0 2)] s) 8 (x_raise k 5) (fun L => [(0, .ref (a 0)), (1, .int (L 1)), (2, .int (L 2)), (3, .int (L 3)), (4, .int (L 4))]) 103 (fun L => [])) ∧ (bT p l e (headSpec w_x_raise ({ frames := 4, cells := 0, slots := 0, locals := 89 })).room s m #[.ref (a 0), .int (L0 1), .int (L0 2)] below meth c dC dI cy a A (qI dC dI cy a A below #[.ref (a 0), .int (L0 1), .int (L0 2)] s) 8 (x_raise k 6) (fun L => [(0, .ref (a 0)), (1, .int (L 1)), (2, .int (L 2)), (3, .int (L 3)), (4, .int (L 4))]) 116 (fun L => [])) ∧ (bT p l e (headSpec w_x_raise ({ frames := 4, cells := 0, slots := 0, locals := 89 })).room s m #[.ref (a 0), .int (L0 1), .int (L0 2)] below meth c dC dI cy a A (qI dC dI cy a A below #[.ref (a 0), .int (L0 1), .int (L0 2)] s) 8 (x_raise k 7) (fun L => [(0, .ref (a 0)), (1, .int (L 1)), (2, .int (L 2)), (3, .int (L 3)), (4, .int (L 4))]) 120 (fun L => [])) ∧ (bT p l e (headSpec w_x_raise ({ frames := 4, cells := 0, slots := 0, locals := 89 })).room s m #[.ref (a 0), .int (L0 1), .int (L0 2)] below meth c dC dI cy a A (qI dC dI cy a A below #[.ref (a 0), .int (L0 1), .int (L0 2)] s) 8 (x_raise k 8) (fun L => [(0, .ref (a 0)), (1, .int (L 1)), (2, .int (L 2)), (3, .int (L 3)), (4, .int (L 4))]) 125 (fun L => [.int (L 100)])) ∧ (bT p l e (headSpec w_x_raise ({ frames := 4, cells := 0, slots := 0, locals := 89 })).room s m #[.ref (a 0), .int (L0 1), .int (L0 2)] below meth c dC dI cy a A (qI dC dI cy a A below #[.ref (a 0), .int (L0 1), .int (L0 2)] s) 8 (x_raise k 9) (fun L => [(0, .ref (a 0)), (1, .int (L 1)), (2, .int (L 2)), (3, .int (L 3)), (4, .int (L 4))]) 126 (fun L => [])) ∧ (bT p l e (headSpec w_x_raise ({ frames := 4, cells := 0, slots := 0, locals := 89 })).room s m #[.ref (a 0), .int (L0 1), .int (L0 2)] below meth c dC dI cy a A (qI dC dI cy a A below #[.ref (a 0), .int (L0 1), .int (L0 2)] s) 8 (x_raise k 10) (fun L => [(0, .ref (a 0)), (1, .int (L 1)), (2, .int (L 2)), (3, .int (L 3)), (4, .int (L 4)), (5, .int (L 5)), (6, .int (L 6))]) 140 (fun L => [])) ∧ (bT p l e (headSpec w_x_raise ({ frames := 4, cells := 0, slots := 0, locals := 89 })).room s m #[.ref (a 0), .int (L0 1), .int (L0 2)] below meth c dC dI cy a A (qI dC dI cy a A below #[.ref (a 0), .int (L0 1), .int (L0 2)] s) 8 (x_raise k 11) (fun L => [(0, .ref (a 0)), (1, .int (L 1)), (2, .int (L 2)), (3, .int (L 3)), (4, .int (L 4)), (5, .int (L 5)), (6, .int (L 6))]) 163 (fun L => [])) ∧ (bT p l e (headSpec w_x_raise ({ frames := 4, cells := 0, slots := 0, locals := 89 })).room s m #[.ref (a 0), .int (L0 1), .int (L0 2)] below meth c dC dI cy a A (qI dC dI cy a A below #[.ref (a 0), .int (L0 1), .int (L0 2)] s) 8 (x_raise k 12) (fun L => [(0, .ref (a 0)), (1, .int (L 1)), (2, .int (L 2)), (3, .int (L 3)), (4, .int (L 4)), (5, .int (L 5)), (6, .int (L 6))]) 169 (fun L => [])) ∧ (bT p l e (headSpec w_x_raise ({ frames := 4, cells := 0, slots := 0, locals := 89 })).room s m #[.ref (a 0), .int (L0 1), .int (L0 2)] below meth c dC dI cy a A (qI dC dI cy a A below #[.ref (a 0), .int (L0 1), .int (L0 2)] s) 8 (x_raise k 13) (fun L => [(0, .ref (a 0)), (1, .int (L 1)), (2, .int (L 2)), (3, .int (L 3)), (4, .int (L 4)), (5, .int (L 5)), (6, .int (L 6))]) 172 (fun L => [])) ∧ (bT p l e (headSpec w_x_raise ({ frames := 4, cells := 0, slots := 0, locals := 89 })).room s m #[.ref (a 0), .int (L0 1), .int (L0 2)] below meth c dC dI cy a A (qI dC dI cy a A below #[.ref (a 0), .int (L0 1), .int (L0 2)] s) 8 (x_raise k 14) (fun L => [(0, .ref (a 0)), (1, .int (L 1)), (2, .int (L 2)), (3, .int (L 3)), (4, .int (L 4)), (5, .int (L 5)), (6, .int (L 6))]) 205 (fun L => [])) ∧ (bT p l e (headSpec w_x_raise ({ frames := 4, cells := 0, slots := 0, locals := 89 })).room s m #[.ref (a 0), .int (L0 1), .int (L0 2)] below meth c dC dI cy a A (qI dC dI cy a A below #[.ref (a 0), .int (L0 1), .int (L0 2)] s) 8 (x_raise k 15) (fun L => [(0, .ref (a 0)), (1, .int (L 1)), (2, .int (L 2)), (3, .int (L 3)), (4, .int (L 4)), (5, .int (L 5)), (6, .int (L 6)), (7, .int (L 7))]) 214 (fun L => [])) ∧ (bT p l e (headSpec w_x_raise ({ frames := 4, cells := 0, slots := 0, locals := 89 })).room s m #[.ref (a 0), .int (L0 1), .int (L0 2)] below meth c dC dI cy a A (qI dC dI cy a A below #[.ref (a 0), .int (L0 1), .int (L0 2)] s) 8 (x_raise k 16) (fun L => [(0, .ref (a 0)), (1, .int (L 1)), (2, .int (L 2)), (3, .int (L 3)), (4, .int (L 4)), (5, .int (L 5)), (6, .int (L 6)), (7, .int (L 7))]) 237 (fun L => [])) ∧ (bT p l e (headSpec w_x_raise ({ frames := 4, cells := 0, slots := 0, locals := 89 })).room s m #[.ref (a 0), .int (L0 1), .int (L0 2)] below meth c dC dI cy a A (qI dC dI cy a A below #[.ref (a 0), .int (L0 1), .int (L0 2)] s) 8 (x_raise k 17) (fun L => [(0, .ref (a 0)), (1, .int (L 1)), (2, .int (L 2)), (3, .int (L 3)), (4, .int (L 4)), (5, .int (L 5)), (6, .int (L 6)), (7, .int (L 7))]) 243 (fun L => [])) ∧ (bT p l e (headSpec w_x_raise ({ frames := 4, cells := 0, slots := 0, locals := 89 })).room s m #[.ref (a 0), .int (L0 1), .int (L0 2)] below meth c dC dI cy a A (qI dC dI cy a A below #[.ref (a 0), .int (L0 1), .int (L0 2)] s) 8 (x_raise k 18) (fun L => [(0, .ref (a 0)), (1, .int (L 1)), (2, .int (L 2)), (3, .int (L 3)), (4, .int (L 4)), (5, .int (L 5)), (6, .int (L 6))]) 249 (fun L => [])) ∧ (bT p l e (headSpec w_x_raise ({ frames := 4, cells := 0, slots := 0, locals := 89 })).room s m #[.ref (a 0), .int (L0 1), .int (L0 2)] below meth c dC dI cy a A (qI dC dI cy a A below #[.ref (a 0), .int (L0 1), .int (L0 2)] s) 8 (x_raise k 19) (fun L => [(0, .ref (a 0)), (1, .int (L 1)), (2, .int (L 2)), (3, .int (L 3)), (4, .int (L 4)), (5, .int (L 5)), (6, .int (L 6))]) 258 (fun L => [])) ∧ (bT p l e (headSpec w_x_raise ({ frames := 4, cells := 0, slots := 0, locals := 89 })).room s m #[.ref (a 0), .int (L0 1), .int (L0 2)] below meth c dC dI cy a A (qI dC dI cy a A below #[.ref (a 0), .int (L0 1), .int (L0 2)] s) 8 (x_raise k 20) (fun L => [(0, .ref (a 0)), (1, .int (L 1)), (2, .int (L 2)), (3, .int (L 3)), (4, .int (L 4)), (5, .int (L 5)), (6, .int (L 6))]) 264 (fun L => [])) ∧ (bT p l e (headSpec w_x_raise ({ frames := 4, cells := 0, slots := 0, locals := 89 })).room s m #[.ref (a 0), .int (L0 1), .int (L0 2)] below meth c dC dI cy a A (qI dC dI cy a A below #[.ref (a 0), .int (L0 1), .int (L0 2)] s) 8 (x_raise k 21) (fun L => [(0, .ref (a 0)), (1, .int (L 1)), (2, .int (L 2)), (3, .int (L 3)), (4, .int (L 4)), (5, .int (L 5)), (6, .int (L 6))]) 267 (fun L => [])) ∧ (bT p l e (headSpec w_x_raise ({ frames := 4, cells := 0, slots := 0, locals := 89 })).room s m #[.ref (a 0), .int (L0 1), .int (L0 2)] below meth c dC dI cy a A (qI dC dI cy a A below #[.ref (a 0), .int (L0 1), .int (L0 2)] s) 8 (x_raise k 22) (fun L => [(0, .ref (a 0)), (1, .int (L 1)), (2, .int (L 2)), (3, .int (L 3)), (4, .int (L 4)), (5, .int (L 5)), (6, .int (L 6))]) 288 (fun L => [])) ∧ (bT p l e (headSpec w_x_raise ({ frames := 4, cells := 0, slots := 0, locals := 89 })).room s m #[.ref (a 0), .int (L0 1), .int (L0 2)] below meth c dC dI cy a A (qI dC dI cy a A below #[.ref (a 0), .int (L0 1), .int (L0 2)] s) 8 (x_raise k 23) (fun L => [(0, .ref (a 0)), (1, .int (L 1)), (2, .int (L 2)), (3, .int (L 3)), (4, .int (L 4)), (5, .int (L 5)), (6, .int (L 6))]) 294 (fun L => [])) ∧ (bT p l e (headSpec w_x_raise ({ frames := 4, cells := 0, slots := 0, locals := 89 })).room s m #[.ref (a 0), .int (L0 1), .int (L0 2)] below meth c dC dI cy a A (qI dC dI cy a A below #[.ref (a 0), .int (L0 1), .int (L0 2)] s) 8 (x_raise k 24) (fun L => [(0, .ref (a 0)), (1, .int (L 1)), (2, .int (L 2)), (3, .int (L 3)), (4, .int (L 4)), (5, .int (L 5)), (6, .int (L 6))]) 312 (fun L => [.ref (a 0)])) ∧ (bT p l e (headSpec w_x_raise ({ frames := 4, cells := 0, slots := 0, locals := 89 })).room s m #[.ref (a 0), .int (L0 1), .int (L0 2)] below meth c dC dI cy a A (qI dC dI cy a A below #[.ref (a 0), .int (L0 1), .int (L0 2)] s) 8 (x_raise k 25) (fun L => [(0, .ref (a 0)), (1, .int (L 1)), (2, .int (L 2)), (3, .int (L 3)), (4, .int (L 4)), (5, .int (L 5)), (6, .int (L 6))]) 313 (fun L => [.int (L 100), .ref (a 0)])) := by
    intro k
    induction k with
    | zero => exact ⟨fun L σ r h => (by cases h), fun L σ r h => (by cases h), fun L σ r h => (by cases h), fun L σ r h => (by cases h), fun L σ r h => (by cases h), fun L σ r h => (by cases h), fun L σ r h => (by cases h), fun L σ r h => (by cases h), fun L σ r h => (by cases h), fun L σ r h => (by cases h), fun L σ r h => (by cases h), fun L σ r h => (by cases h), fun L σ r h => (by cases h), fun L σ r h => (by cases h), fun L σ r h => (by cases h), fun L σ r h => (by cases h), fun L σ r h => (by cases h), fun L σ r h => (by cases h), fun L σ r h => (by cases h), fun L σ r h => (by cases h), fun L σ r h => (by cases h), fun L σ r h => (by cases h), fun L σ r h => (by cases h), fun L σ r h => (by cases h), fun L σ r h => (by cases h), fun L σ r h => (by cases h)⟩
    | succ k ih =>
      refine ⟨?_, ?_, ?_, ?_, ?_, ?_, ?_, ?_, ?_, ?_, ?_, ?_, ?_, ?_, ?_, ?_, ?_, ?_, ?_, ?_, ?_, ?_, ?_, ?_, ?_, ?_⟩
      · intro L σ r h H locs ls hP hD hS hl
        rw [x_raise] at h
        refine lv_aload_n hx hb dX12_raise_0 rfl (lv_at hl 0 rfl) ?_
        refine lv_iload_n hx hb dX12_raise_1 rfl (lv_at hl 2 rfl) ?_
        obtain ⟨r1, hc1, h⟩ := ob_ex h
        refine nc_Vi (As := [.int (L 2)]) (rest := []) ⟨hx, hb, hml, hown, hts⟩ (c_x_signOf l dC dI cy a k (upd (fun _ => 0) 1 ((L 2))) σ r1 hc1 H.size) (cwV 1 hts g_x_raise_signOf_463 rfl rfl rfl hd_x_signOf ⟨Nat.le_of_ble_eq_true rfl, Nat.le_of_ble_eq_true rfl⟩) hK hG hA hP hD hS rfl hl.1 rfl (Nat.le_of_ble_eq_true rfl) dX12_raise_2 ⟨Nat.le_refl _, Nat.le_refl _⟩ (fun H locs hP hD hS => ?_)
        refine lv_if_ge (tgt := 15) hx hb dX12_raise_5 (by decide) (fun c2 => ?_) (fun c2 => ?_)
        · rw [if_pos c2] at h
          exact ih.2.1 L r1.2 r h H locs ls hP hD hS (lv_sub hl [0, 1, 2] rfl)
        · rw [if_neg c2] at h
          refine lv_aload_n hx hb dX12_raise_8 rfl (lv_at hl 0 rfl) ?_
          refine lv_iconst (v := 4) hx hb dX12_raise_9 (by decide) ?_
          obtain ⟨r3, hc3, h⟩ := ob_ex h
          refine nc_Vv (As := [.int 4]) (rest := []) ⟨hx, hb, hml, hown, hts⟩ (c_x_fail l dC dI cy a k (upd (fun _ => 0) 1 4) r1.2 r3 hc3 H.size) (cwV 1 hts g_x_raise_fail_369 rfl rfl rfl hd_x_fail ⟨Nat.le_of_ble_eq_true rfl, Nat.le_of_ble_eq_true rfl⟩) hK hG hA hP hD hS rfl hl.1 rfl (Nat.le_of_ble_eq_true rfl) dX12_raise_10 ⟨Nat.le_refl _, Nat.le_refl _⟩ (fun H locs hP hD hS => ?_)
          refine lv_iconst (v := 0) hx hb dX12_raise_13 (by decide) ?_
          cases h
          exact W.iret (v := 0) hx hb hr (fun t ht hW => ⟨⟨0, (), rfl, rfl, by rw [ht]; exact hP, va_K.moved hW.alike hK, hD⟩, hS.F ht⟩) hS.2.2 dX12_raise_14
      · intro L σ r h H locs ls hP hD hS hl
        rw [x_raise] at h
        refine lv_aload_n hx hb dX12_raise_15 rfl (lv_at hl 0 rfl) ?_
        refine lv_iload_n hx hb dX12_raise_16 rfl (lv_at hl 2 rfl) ?_
        refine lv_sipush (v := 5000) hx hb dX12_raise_17 (by decide) ?_
        obtain ⟨r1, hc1, h⟩ := ob_ex h
        refine nc_Vi (As := [.int (L 2), .int 5000]) (rest := []) ⟨hx, hb, hml, hown, hts⟩ (c_x_intOf l dC dI cy a k (upd (upd (fun _ => 0) 1 ((L 2))) 2 5000) (fun _ => 0) σ r1 hc1 H.size) (cwV 2 hts g_x_raise_intOf_515 rfl rfl rfl hd_x_intOf ⟨Nat.le_of_ble_eq_true rfl, Nat.le_of_ble_eq_true rfl⟩) hK hG hA hP hD hS rfl hl.1 rfl (Nat.le_of_ble_eq_true rfl) dX12_raise_20 ⟨Nat.le_refl _, Nat.le_refl _⟩ (fun H locs hP hD hS => ?_)
        refine lv_istore_n (lv' := [(3, .int r1.1), (0, .ref (a 0)), (1, .int (L 1)), (2, .int (L 2))]) hx hb dX12_raise_23 rfl hl (by decide) rfl (fun ls hl => ?_)
        refine lv_iload_n hx hb dX12_raise_24 rfl (lv_at hl 0 rfl) ?_
        refine lv_if_ne (tgt := 34) hx hb dX12_raise_25 (by decide) (fun c2 => ?_) (fun c2 => ?_)
        · rw [if_neg c2] at h
          exact ih.2.2.1 (upd L 3 r1.1) r1.2 r h H locs ls hP hD hS (lv_sub hl [1, 2, 3, 0] rfl)
        · rw [if_pos c2] at h
          refine lv_aload_n hx hb dX12_raise_28 rfl (lv_at hl 1 rfl) ?_
          refine lv_iconst (v := 1) hx hb dX12_raise_29 (by decide) ?_
          obtain ⟨r3, hc3, h⟩ := ob_ex h
          refine nc_Vi (As := [.int 1]) (rest := []) ⟨hx, hb, hml, hown, hts⟩ (c_x_small l dC dI cy a k (upd (fun _ => 0) 1 1) r1.2 r3 hc3 H.size) (cwV 1 hts g_x_raise_small_518 rfl rfl rfl hd_x_small ⟨Nat.le_of_ble_eq_true rfl, Nat.le_of_ble_eq_true rfl⟩) hK hG hA hP hD hS rfl hl.1 rfl (Nat.le_of_ble_eq_true rfl) dX12_raise_30 ⟨Nat.le_refl _, Nat.le_refl _⟩ (fun H locs hP hD hS => ?_)
          cases h
          exact W.iret (v := r3.1) hx hb hr (fun t ht hW => ⟨⟨r3.1, (), rfl, rfl, by rw [ht]; exact hP, va_K.moved hW.alike hK, hD⟩, hS.F ht⟩) hS.2.2 dX12_raise_33
      · intro L σ r h H locs ls hP hD hS hl
        rw [x_raise] at h
        refine lv_aload_n hx hb dX12_raise_34 rfl (lv_at hl 0 rfl) ?_
        refine ng_53 hx hb hts in_x_raise hown hK hP (hts _ (List.mem_cons_of_mem _ (List.mem_append_left _ (List.mem_append_left _ (List.mem_of_getElem? (i := 13) rfl))))) dX12_raise_35 ?_
        refine lv_iload_n hx hb dX12_raise_38 rfl (lv_at hl 2 rfl) ?_
        refine lv_iconst (v := 1) hx hb dX12_raise_39 (by decide) ?_
        refine lv_iadd hx hb dX12_raise_40 ?_
        obtain ⟨q1, h⟩ := nb_ite1 h
        refine nl_28 hx hb hK hP q1 dX12_raise_41 ?_
        refine lv_iconst (v := 1) hx hb dX12_raise_42 (by decide) ?_
        refine lv_icmp_le (tgt := 64) hx hb dX12_raise_43 (by decide) (fun c2 => ?_) (fun c2 => ?_)
        · rw [if_pos c2] at h
          exact ih.2.2.2.1 L σ r h H locs ls hP hD hS (lv_sub hl [0, 1, 2, 3] rfl)
        · rw [if_neg c2] at h
          refine lv_aload_n hx hb dX12_raise_46 rfl (lv_at hl 0 rfl) ?_
          refine ng_53 hx hb hts in_x_raise hown hK hP (hts _ (List.mem_cons_of_mem _ (List.mem_append_left _ (List.mem_append_left _ (List.mem_of_getElem? (i := 13) rfl))))) dX12_raise_47 ?_
          refine lv_iload_n hx hb dX12_raise_50 rfl (lv_at hl 2 rfl) ?_
          refine lv_iconst (v := 5) hx hb dX12_raise_51 (by decide) ?_
          refine lv_iadd hx hb dX12_raise_52 ?_
          obtain ⟨q3, h⟩ := nb_ite1 h
          refine nl_28 hx hb hK hP q3 dX12_raise_53 ?_
          refine lv_iconst (v := 1) hx hb dX12_raise_54 (by decide) ?_
          refine lv_iand hx hb dX12_raise_55 ?_
          refine lv_iconst (v := 1) hx hb dX12_raise_56 (by decide) ?_
          refine lv_icmp_ne (tgt := 64) hx hb dX12_raise_57 (by decide) (fun c4 => ?_) (fun c4 => ?_)
          · rw [if_neg c4] at h
            exact ih.2.2.2.1 L σ r h H locs ls hP hD hS (lv_sub hl [0, 1, 2, 3] rfl)
          · rw [if_pos c4] at h
            refine lv_iconst (v := 1) hx hb dX12_raise_60 (by decide) ?_
            refine lv_goto (tgt := 65) hx hb dX12_raise_61 (by decide) ?_
            exact ih.2.2.2.2.1 (upd L 100 1) σ r h H locs ls hP hD hS (lv_sub hl [0, 1, 2, 3] rfl)
      · intro L σ r h H locs ls hP hD hS hl
        rw [x_raise] at h
        refine lv_iconst (v := 0) hx hb dX12_raise_64 (by decide) ?_
        exact ih.2.2.2.2.1 (upd L 100 0) σ r h H locs ls hP hD hS (lv_sub hl [0, 1, 2, 3] rfl)
      · intro L σ r h H locs ls hP hD hS hl
        rw [x_raise] at h
        refine lv_istore (lv' := [(4, .int (L 100)), (0, .ref (a 0)), (1, .int (L 1)), (2, .int (L 2)), (3, .int (L 3))]) hx hb dX12_raise_65 hl (by decide) rfl (fun ls hl => ?_)
        refine lv_aload_n hx hb dX12_raise_67 rfl (lv_at hl 1 rfl) ?_
        refine ng_53 hx hb hts in_x_raise hown hK hP (hts _ (List.mem_cons_of_mem _ (List.mem_append_left _ (List.mem_append_left _ (List.mem_of_getElem? (i := 13) rfl))))) dX12_raise_68 ?_
        refine lv_iload_n hx hb dX12_raise_71 rfl (lv_at hl 2 rfl) ?_
        refine lv_iconst (v := 1) hx hb dX12_raise_72 (by decide) ?_
        refine lv_iadd hx hb dX12_raise_73 ?_
        obtain ⟨q1, h⟩ := nb_ite1 h
        refine nl_28 hx hb hK hP q1 dX12_raise_74 ?_
        refine lv_iconst (v := 1) hx hb dX12_raise_75 (by decide) ?_
        refine lv_icmp_eq (tgt := 103) hx hb dX12_raise_76 (by decide) (fun c2 => ?_) (fun c2 => ?_)
        · rw [if_pos c2] at h
          exact ih.2.2.2.2.2.1 (upd L 4 ((L 100))) σ r h H locs ls hP hD hS (lv_sub hl [1, 2, 3, 4, 0] rfl)
        · rw [if_neg c2] at h
          refine lv_aload_n hx hb dX12_raise_79 rfl (lv_at hl 1 rfl) ?_
          refine ng_53 hx hb hts in_x_raise hown hK hP (hts _ (List.mem_cons_of_mem _ (List.mem_append_left _ (List.mem_append_left _ (List.mem_of_getElem? (i := 13) rfl))))) dX12_raise_80 ?_
          refine lv_iload_n hx hb dX12_raise_83 rfl (lv_at hl 2 rfl) ?_
          refine lv_iconst (v := 1) hx hb dX12_raise_84 (by decide) ?_
          refine lv_iadd hx hb dX12_raise_85 ?_
          obtain ⟨q3, h⟩ := nb_ite1 h
          refine nl_28 hx hb hK hP q3 dX12_raise_86 ?_
          refine lv_iconst (v := 2) hx hb dX12_raise_87 (by decide) ?_
          refine lv_icmp_ne (tgt := 126) hx hb dX12_raise_88 (by decide) (fun c4 => ?_) (fun c4 => ?_)
          · rw [if_neg c4] at h
            exact ih.2.2.2.2.2.2.2.2.2.1 (upd L 4 ((L 100))) σ r h H locs ls hP hD hS (lv_sub hl [1, 2, 3, 4, 0] rfl)
          · rw [if_pos c4] at h
            refine lv_aload_n hx hb dX12_raise_91 rfl (lv_at hl 1 rfl) ?_
            refine ng_53 hx hb hts in_x_raise hown hK hP (hts _ (List.mem_cons_of_mem _ (List.mem_append_left _ (List.mem_append_left _ (List.mem_of_getElem? (i := 13) rfl))))) dX12_raise_92 ?_
            refine lv_iload_n hx hb dX12_raise_95 rfl (lv_at hl 2 rfl) ?_
            refine lv_iconst (v := 5) hx hb dX12_raise_96 (by decide) ?_
            refine lv_iadd hx hb dX12_raise_97 ?_
            obtain ⟨q5, h⟩ := nb_ite1 h
            refine nl_28 hx hb hK hP q5 dX12_raise_98 ?_
            refine lv_iconst (v := 1) hx hb dX12_raise_99 (by decide) ?_
            refine lv_icmp_ne (tgt := 126) hx hb dX12_raise_100 (by decide) (fun c6 => ?_) (fun c6 => ?_)
            · rw [if_neg c6] at h
              exact ih.2.2.2.2.2.2.2.2.2.1 (upd L 4 ((L 100))) σ r h H locs ls hP hD hS (lv_sub hl [1, 2, 3, 4, 0] rfl)
            · rw [if_pos c6] at h
              exact ih.2.2.2.2.2.1 (upd L 4 ((L 100))) σ r h H locs ls hP hD hS (lv_sub hl [1, 2, 3, 4, 0] rfl)
      · intro L σ r h H locs ls hP hD hS hl
        rw [x_raise] at h
        refine lv_aload_n hx hb dX12_raise_103 rfl (lv_at hl 0 rfl) ?_
        refine lv_iload_n hx hb dX12_raise_104 rfl (lv_at hl 1 rfl) ?_
        obtain ⟨r1, hc1, h⟩ := ob_ex h
        refine nc_Vi (As := [.int (L 1)]) (rest := []) ⟨hx, hb, hml, hown, hts⟩ (c_x_signOf l dC dI cy a k (upd (fun _ => 0) 1 ((L 1))) σ r1 hc1 H.size) (cwV 1 hts g_x_raise_signOf_463 rfl rfl rfl hd_x_signOf ⟨Nat.le_of_ble_eq_true rfl, Nat.le_of_ble_eq_true rfl⟩) hK hG hA hP hD hS rfl hl.1 rfl (Nat.le_of_ble_eq_true rfl) dX12_raise_105 ⟨Nat.le_refl _, Nat.le_refl _⟩ (fun H locs hP hD hS => ?_)
        refine lv_if_ge (tgt := 116) hx hb dX12_raise_108 (by decide) (fun c2 => ?_) (fun c2 => ?_)
        · rw [if_pos c2] at h
          exact ih.2.2.2.2.2.2.1 L r1.2 r h H locs ls hP hD hS (lv_sub hl [0, 1, 2, 3, 4] rfl)
        · rw [if_neg c2] at h
          refine lv_iload hx hb dX12_raise_111 (lv_at hl 4 rfl) ?_
          refine lv_if_eq (tgt := 120) hx hb dX12_raise_113 (by decide) (fun c3 => ?_) (fun c3 => ?_)
          · rw [if_pos c3] at h
            exact ih.2.2.2.2.2.2.2.1 L r1.2 r h H locs ls hP hD hS (lv_sub hl [0, 1, 2, 3, 4] rfl)
          · rw [if_neg c3] at h
            exact ih.2.2.2.2.2.2.1 L r1.2 r h H locs ls hP hD hS (lv_sub hl [0, 1, 2, 3, 4] rfl)
      · intro L σ r h H locs ls hP hD hS hl
        rw [x_raise] at h
        refine lv_iload_n hx hb dX12_raise_116 rfl (lv_at hl 1 rfl) ?_
        refine lv_goto (tgt := 125) hx hb dX12_raise_117 (by decide) ?_
        exact ih.2.2.2.2.2.2.2.2.1 (upd L 100 ((L 1))) σ r h H locs ls hP hD hS (lv_sub hl [0, 1, 2, 3, 4] rfl)
      · intro L σ r h H locs ls hP hD hS hl
        rw [x_raise] at h
        refine lv_aload_n hx hb dX12_raise_120 rfl (lv_at hl 0 rfl) ?_
        refine lv_iconst (v := 1) hx hb dX12_raise_121 (by decide) ?_
        obtain ⟨r1, hc1, h⟩ := ob_ex h
        refine nc_Vi (As := [.int 1]) (rest := []) ⟨hx, hb, hml, hown, hts⟩ (c_x_small l dC dI cy a k (upd (fun _ => 0) 1 1) σ r1 hc1 H.size) (cwV 1 hts g_x_raise_small_518 rfl rfl rfl hd_x_small ⟨Nat.le_of_ble_eq_true rfl, Nat.le_of_ble_eq_true rfl⟩) hK hG hA hP hD hS rfl hl.1 rfl (Nat.le_of_ble_eq_true rfl) dX12_raise_122 ⟨Nat.le_refl _, Nat.le_refl _⟩ (fun H locs hP hD hS => ?_)
        exact ih.2.2.2.2.2.2.2.2.1 (upd L 100 r1.1) r1.2 r h H locs ls hP hD hS (lv_sub hl [0, 1, 2, 3, 4] rfl)
      · intro L σ r h H locs ls hP hD hS hl
        rw [x_raise] at h
        cases h
        exact W.iret (v := (L 100)) hx hb hr (fun t ht hW => ⟨⟨(L 100), (), rfl, rfl, by rw [ht]; exact hP, va_K.moved hW.alike hK, hD⟩, hS.F ht⟩) hS.2.2 dX12_raise_125
      · intro L σ r h H locs ls hP hD hS hl
        rw [x_raise] at h
        refine lv_aload_n hx hb dX12_raise_126 rfl (lv_at hl 0 rfl) ?_
        refine lv_iload_n hx hb dX12_raise_127 rfl (lv_at hl 1 rfl) ?_
        obtain ⟨r1, hc1, h⟩ := ob_ex h
        refine nc_Vv (As := [.int (L 1)]) (rest := []) ⟨hx, hb, hml, hown, hts⟩ (c_x_loadA l dC dI cy a k (upd (fun _ => 0) 1 ((L 1))) σ r1 hc1 H.size) (cwV 1 hts g_x_raise_loadA_488 rfl rfl rfl hd_x_loadA ⟨Nat.le_of_ble_eq_true rfl, Nat.le_of_ble_eq_true rfl⟩) hK hG hA hP hD hS rfl hl.1 rfl (Nat.le_of_ble_eq_true rfl) dX12_raise_128 ⟨Nat.le_refl _, Nat.le_refl _⟩ (fun H locs hP hD hS => ?_)
        refine lv_aload_n hx hb dX12_raise_131 rfl (lv_at hl 0 rfl) ?_
        refine ng_84 hx hb hts in_x_raise hown hK hP (hts _ (List.mem_cons_of_mem _ (List.mem_append_left _ (List.mem_append_left _ (List.mem_of_getElem? (i := 17) rfl))))) dX12_raise_132 ?_
        refine lv_istore (lv' := [(5, .int (r1.2.1 84)), (0, .ref (a 0)), (1, .int (L 1)), (2, .int (L 2)), (3, .int (L 3)), (4, .int (L 4))]) hx hb dX12_raise_135 hl (by decide) rfl (fun ls hl => ?_)
        refine lv_iconst (v := 0) hx hb dX12_raise_137 (by decide) ?_
        refine lv_istore (lv' := [(6, .int 0), (5, .int (r1.2.1 84)), (0, .ref (a 0)), (1, .int (L 1)), (2, .int (L 2)), (3, .int (L 3)), (4, .int (L 4))]) hx hb dX12_raise_138 hl (by decide) rfl (fun ls hl => ?_)
        exact ih.2.2.2.2.2.2.2.2.2.2.1 (upd (upd L 5 ((r1.2.1 84))) 6 0) r1.2 r h H locs ls hP hD hS (lv_sub hl [2, 3, 4, 5, 6, 1, 0] rfl)
      · intro L σ r h H locs ls hP hD hS hl
        rw [x_raise] at h
        refine lv_iload hx hb dX12_raise_140 (lv_at hl 6 rfl) ?_
        refine lv_aload_n hx hb dX12_raise_142 rfl (lv_at hl 0 rfl) ?_
        refine ng_84 hx hb hts in_x_raise hown hK hP (hts _ (List.mem_cons_of_mem _ (List.mem_append_left _ (List.mem_append_left _ (List.mem_of_getElem? (i := 17) rfl))))) dX12_raise_143 ?_
        refine lv_icmp_ge (tgt := 169) hx hb dX12_raise_146 (by decide) (fun c1 => ?_) (fun c1 => ?_)
        · rw [if_pos c1] at h
          exact ih.2.2.2.2.2.2.2.2.2.2.2.2.1 L σ r h H locs ls hP hD hS (lv_sub hl [0, 1, 2, 3, 4, 5, 6] rfl)
        · rw [if_neg c1] at h
          refine lv_aload_n hx hb dX12_raise_149 rfl (lv_at hl 0 rfl) ?_
          refine ng_91 hx hb hts in_x_raise hown hK hP (hts _ (List.mem_cons_of_mem _ (List.mem_append_left _ (List.mem_append_left _ (List.mem_of_getElem? (i := 18) rfl))))) dX12_raise_150 ?_
          refine lv_iload hx hb dX12_raise_153 (lv_at hl 6 rfl) ?_
          refine lv_aload_n hx hb dX12_raise_155 rfl (lv_at hl 0 rfl) ?_
          refine ng_81 hx hb hts in_x_raise hown hK hP (hts _ (List.mem_cons_of_mem _ (List.mem_append_left _ (List.mem_append_left _ (List.mem_of_getElem? (i := 19) rfl))))) dX12_raise_156 ?_
          refine lv_iload hx hb dX12_raise_159 (lv_at hl 6 rfl) ?_
          obtain ⟨q2, h⟩ := nb_ite1 h
          refine nl_42 hx hb hK hP q2 dX12_raise_161 ?_
          obtain ⟨q3, h⟩ := nb_ite1 h
          refine ns_47 hx hb hK hP hD hS q3 dX12_raise_162 (fun H locs hP hD hS => ?_)
          exact ih.2.2.2.2.2.2.2.2.2.2.2.1 L (σ.1, σ.2.1, updG σ.2.2 47 (upd (σ.2.2 47) ((L 6)).toNatClampNeg ((σ.2.2 42 ((L 6)).toNatClampNeg)))) r h H locs ls hP hD hS (lv_sub hl [0, 1, 2, 3, 4, 5, 6] rfl)
      · intro L σ r h H locs ls hP hD hS hl
        rw [x_raise] at h
        refine lv_iinc (v := ((L 6)) + 1) (lv' := [(6, .int (((L 6)) + 1)), (0, .ref (a 0)), (1, .int (L 1)), (2, .int (L 2)), (3, .int (L 3)), (4, .int (L 4)), (5, .int (L 5))]) hx hb dX12_raise_163 hl (k := 6) rfl rfl (by decide) rfl (fun ls hl => ?_)
        refine lv_goto (tgt := 140) hx hb dX12_raise_166 (by decide) ?_
        exact ih.2.2.2.2.2.2.2.2.2.2.1 (upd L 6 (((L 6)) + 1)) σ r h H locs ls hP hD hS (lv_sub hl [1, 2, 3, 4, 5, 6, 0] rfl)
      · intro L σ r h H locs ls hP hD hS hl
        rw [x_raise] at h
        refine lv_iconst (v := 1) hx hb dX12_raise_169 (by decide) ?_
        refine lv_istore (lv' := [(6, .int 1), (0, .ref (a 0)), (1, .int (L 1)), (2, .int (L 2)), (3, .int (L 3)), (4, .int (L 4)), (5, .int (L 5))]) hx hb dX12_raise_170 hl (by decide) rfl (fun ls hl => ?_)
        exact ih.2.2.2.2.2.2.2.2.2.2.2.2.2.1 (upd L 6 1) σ r h H locs ls hP hD hS (lv_sub hl [1, 2, 3, 4, 5, 6, 0] rfl)
      · intro L σ r h H locs ls hP hD hS hl
        rw [x_raise] at h
        refine lv_iload hx hb dX12_raise_172 (lv_at hl 6 rfl) ?_
        refine lv_iload_n hx hb dX12_raise_174 rfl (lv_at hl 3 rfl) ?_
        refine lv_icmp_ge (tgt := 249) hx hb dX12_raise_175 (by decide) (fun c1 => ?_) (fun c1 => ?_)
        · rw [if_pos c1] at h
          exact ih.2.2.2.2.2.2.2.2.2.2.2.2.2.2.2.2.2.2.1 L σ r h H locs ls hP hD hS (lv_sub hl [0, 1, 2, 3, 4, 5, 6] rfl)
        · rw [if_neg c1] at h
          refine lv_aload_n hx hb dX12_raise_178 rfl (lv_at hl 0 rfl) ?_
          refine ng_56 hx hb hts in_x_raise hown hK hP (hts _ (List.mem_cons_of_mem _ (List.mem_append_left _ (List.mem_append_left _ (List.mem_of_getElem? (i := 20) rfl))))) dX12_raise_179 ?_
          refine lv_if_ne (tgt := 249) hx hb dX12_raise_182 (by decide) (fun c2 => ?_) (fun c2 => ?_)
          · rw [if_neg c2] at h
            exact ih.2.2.2.2.2.2.2.2.2.2.2.2.2.2.2.2.2.2.1 L σ r h H locs ls hP hD hS (lv_sub hl [0, 1, 2, 3, 4, 5, 6] rfl)
          · rw [if_pos c2] at h
            refine lv_aload_n hx hb dX12_raise_185 rfl (lv_at hl 0 rfl) ?_
            refine lv_iload hx hb dX12_raise_186 (lv_at hl 5 rfl) ?_
            obtain ⟨r3, hc3, h⟩ := ob_ex h
            refine nc_Vv (As := [.int (L 5)]) (rest := []) ⟨hx, hb, hml, hown, hts⟩ (c_x_rowsTimes l dC dI cy a k (upd (fun _ => 0) 1 ((L 5))) (fun _ => 0) σ r3 hc3 H.size) (cwV 1 hts g_x_raise_rowsTimes_524 rfl rfl rfl hd_x_rowsTimes ⟨Nat.le_of_ble_eq_true rfl, Nat.le_of_ble_eq_true rfl⟩) hK hG hA hP hD hS rfl hl.1 rfl (Nat.le_of_ble_eq_true rfl) dX12_raise_188 ⟨Nat.le_refl _, Nat.le_refl _⟩ (fun H locs hP hD hS => ?_)
            refine lv_aload_n hx hb dX12_raise_191 rfl (lv_at hl 0 rfl) ?_
            refine ng_86 hx hb hts in_x_raise hown hK hP (hts _ (List.mem_cons_of_mem _ (List.mem_append_left _ (List.mem_append_left _ (List.mem_of_getElem? (i := 24) rfl))))) dX12_raise_192 ?_
            refine lv_bipush (v := 64) hx hb dX12_raise_195 (by decide) ?_
            refine lv_icmp_le (tgt := 205) hx hb dX12_raise_197 (by decide) (fun c4 => ?_) (fun c4 => ?_)
            · rw [if_pos c4] at h
              exact ih.2.2.2.2.2.2.2.2.2.2.2.2.2.2.1 L r3.2 r h H locs ls hP hD hS (lv_sub hl [0, 1, 2, 3, 4, 5, 6] rfl)
            · rw [if_neg c4] at h
              refine lv_aload_n hx hb dX12_raise_200 rfl (lv_at hl 0 rfl) ?_
              refine lv_iconst (v := 5) hx hb dX12_raise_201 (by decide) ?_
              obtain ⟨r5, hc5, h⟩ := ob_ex h
              refine nc_Vv (As := [.int 5]) (rest := []) ⟨hx, hb, hml, hown, hts⟩ (c_x_fail l dC dI cy a k (upd (fun _ => 0) 1 5) r3.2 r5 hc5 H.size) (cwV 1 hts g_x_raise_fail_369 rfl rfl rfl hd_x_fail ⟨Nat.le_of_ble_eq_true rfl, Nat.le_of_ble_eq_true rfl⟩) hK hG hA hP hD hS rfl hl.1 rfl (Nat.le_of_ble_eq_true rfl) dX12_raise_202 ⟨Nat.le_refl _, Nat.le_refl _⟩ (fun H locs hP hD hS => ?_)
              exact ih.2.2.2.2.2.2.2.2.2.2.2.2.2.2.1 L r5.2 r h H locs ls hP hD hS (lv_sub hl [0, 1, 2, 3, 4, 5, 6] rfl)
      · intro L σ r h H locs ls hP hD hS hl
        rw [x_raise] at h
        refine lv_aload_n hx hb dX12_raise_205 rfl (lv_at hl 0 rfl) ?_
        refine ng_86 hx hb hts in_x_raise hown hK hP (hts _ (List.mem_cons_of_mem _ (List.mem_append_left _ (List.mem_append_left _ (List.mem_of_getElem? (i := 24) rfl))))) dX12_raise_206 ?_
        refine lv_istore (lv' := [(5, .int (σ.1 86)), (0, .ref (a 0)), (1, .int (L 1)), (2, .int (L 2)), (3, .int (L 3)), (4, .int (L 4)), (6, .int (L 6))]) hx hb dX12_raise_209 hl (by decide) rfl (fun ls hl => ?_)
        refine lv_iconst (v := 0) hx hb dX12_raise_211 (by decide) ?_
        refine lv_istore (lv' := [(7, .int 0), (5, .int (σ.1 86)), (0, .ref (a 0)), (1, .int (L 1)), (2, .int (L 2)), (3, .int (L 3)), (4, .int (L 4)), (6, .int (L 6))]) hx hb dX12_raise_212 hl (by decide) rfl (fun ls hl => ?_)
        exact ih.2.2.2.2.2.2.2.2.2.2.2.2.2.2.2.1 (upd (upd L 5 ((σ.1 86))) 7 0) σ r h H locs ls hP hD hS (lv_sub hl [2, 3, 4, 5, 6, 1, 7, 0] rfl)
      · intro L σ r h H locs ls hP hD hS hl
        rw [x_raise] at h
        refine lv_iload hx hb dX12_raise_214 (lv_at hl 7 rfl) ?_
        refine lv_aload_n hx hb dX12_raise_216 rfl (lv_at hl 0 rfl) ?_
        refine ng_86 hx hb hts in_x_raise hown hK hP (hts _ (List.mem_cons_of_mem _ (List.mem_append_left _ (List.mem_append_left _ (List.mem_of_getElem? (i := 24) rfl))))) dX12_raise_217 ?_
        refine lv_icmp_ge (tgt := 243) hx hb dX12_raise_220 (by decide) (fun c1 => ?_) (fun c1 => ?_)
        · rw [if_pos c1] at h
          exact ih.2.2.2.2.2.2.2.2.2.2.2.2.2.2.2.2.2.1 L σ r h H locs ls hP hD hS (lv_sub hl [0, 1, 2, 3, 4, 5, 6, 7] rfl)
        · rw [if_neg c1] at h
          refine lv_aload_n hx hb dX12_raise_223 rfl (lv_at hl 0 rfl) ?_
          refine ng_91 hx hb hts in_x_raise hown hK hP (hts _ (List.mem_cons_of_mem _ (List.mem_append_left _ (List.mem_append_left _ (List.mem_of_getElem? (i := 18) rfl))))) dX12_raise_224 ?_
          refine lv_iload hx hb dX12_raise_227 (lv_at hl 7 rfl) ?_
          refine lv_aload_n hx hb dX12_raise_229 rfl (lv_at hl 0 rfl) ?_
          refine ng_83 hx hb hts in_x_raise hown hK hP (hts _ (List.mem_cons_of_mem _ (List.mem_append_left _ (List.mem_append_left _ (List.mem_of_getElem? (i := 25) rfl))))) dX12_raise_230 ?_
          refine lv_iload hx hb dX12_raise_233 (lv_at hl 7 rfl) ?_
          obtain ⟨q2, h⟩ := nb_ite1 h
          refine nl_44 hx hb hK hP q2 dX12_raise_235 ?_
          obtain ⟨q3, h⟩ := nb_ite1 h
          refine ns_47 hx hb hK hP hD hS q3 dX12_raise_236 (fun H locs hP hD hS => ?_)
          exact ih.2.2.2.2.2.2.2.2.2.2.2.2.2.2.2.2.1 L (σ.1, σ.2.1, updG σ.2.2 47 (upd (σ.2.2 47) ((L 7)).toNatClampNeg ((σ.2.2 44 ((L 7)).toNatClampNeg)))) r h H locs ls hP hD hS (lv_sub hl [0, 1, 2, 3, 4, 5, 6, 7] rfl)
      · intro L σ r h H locs ls hP hD hS hl
        rw [x_raise] at h
        refine lv_iinc (v := ((L 7)) + 1) (lv' := [(7, .int (((L 7)) + 1)), (0, .ref (a 0)), (1, .int (L 1)), (2, .int (L 2)), (3, .int (L 3)), (4, .int (L 4)), (5, .int (L 5)), (6, .int (L 6))]) hx hb dX12_raise_237 hl (k := 7) rfl rfl (by decide) rfl (fun ls hl => ?_)
        refine lv_goto (tgt := 214) hx hb dX12_raise_240 (by decide) ?_
        exact ih.2.2.2.2.2.2.2.2.2.2.2.2.2.2.2.1 (upd L 7 (((L 7)) + 1)) σ r h H locs ls hP hD hS (lv_sub hl [1, 2, 3, 4, 5, 6, 7, 0] rfl)
      · intro L σ r h H locs ls hP hD hS hl
        rw [x_raise] at h
        refine lv_iinc (v := ((L 6)) + 1) (lv' := [(6, .int (((L 6)) + 1)), (0, .ref (a 0)), (1, .int (L 1)), (2, .int (L 2)), (3, .int (L 3)), (4, .int (L 4)), (5, .int (L 5)), (7, .int (L 7))]) hx hb dX12_raise_243 hl (k := 6) rfl rfl (by decide) rfl (fun ls hl => ?_)
        refine lv_goto (tgt := 172) hx hb dX12_raise_246 (by decide) ?_
        exact ih.2.2.2.2.2.2.2.2.2.2.2.2.2.1 (upd L 6 (((L 6)) + 1)) σ r h H locs ls hP hD hS (lv_sub hl [1, 2, 3, 4, 5, 6, 0] rfl)
      · intro L σ r h H locs ls hP hD hS hl
        rw [x_raise] at h
        refine lv_aload_n hx hb dX12_raise_249 rfl (lv_at hl 0 rfl) ?_
        refine ng_56 hx hb hts in_x_raise hown hK hP (hts _ (List.mem_cons_of_mem _ (List.mem_append_left _ (List.mem_append_left _ (List.mem_of_getElem? (i := 20) rfl))))) dX12_raise_250 ?_
        refine lv_if_le (tgt := 258) hx hb dX12_raise_253 (by decide) (fun c1 => ?_) (fun c1 => ?_)
        · rw [if_pos c1] at h
          exact ih.2.2.2.2.2.2.2.2.2.2.2.2.2.2.2.2.2.2.2.1 L σ r h H locs ls hP hD hS (lv_sub hl [0, 1, 2, 3, 4, 5, 6] rfl)
        · rw [if_neg c1] at h
          refine lv_iconst (v := 0) hx hb dX12_raise_256 (by decide) ?_
          cases h
          exact W.iret (v := 0) hx hb hr (fun t ht hW => ⟨⟨0, (), rfl, rfl, by rw [ht]; exact hP, va_K.moved hW.alike hK, hD⟩, hS.F ht⟩) hS.2.2 dX12_raise_257
      · intro L σ r h H locs ls hP hD hS hl
        rw [x_raise] at h
        refine lv_aload_n hx hb dX12_raise_258 rfl (lv_at hl 0 rfl) ?_
        refine lv_iload hx hb dX12_raise_259 (lv_at hl 5 rfl) ?_
        refine np_86 hx hb hts in_x_raise hown hK hP hD hS (hts _ (List.mem_cons_of_mem _ (List.mem_append_left _ (List.mem_append_left _ (List.mem_of_getElem? (i := 24) rfl))))) dX12_raise_261 (fun H locs hP hD hS => ?_)
        exact ih.2.2.2.2.2.2.2.2.2.2.2.2.2.2.2.2.2.2.2.2.1 L (upd σ.1 86 ((L 5)), σ.2.1, σ.2.2) r h H locs ls hP hD hS (lv_sub hl [0, 1, 2, 3, 4, 5, 6] rfl)
      · intro L σ r h H locs ls hP hD hS hl
        rw [x_raise] at h
        refine lv_iconst (v := 0) hx hb dX12_raise_264 (by decide) ?_
        refine lv_istore (lv' := [(6, .int 0), (0, .ref (a 0)), (1, .int (L 1)), (2, .int (L 2)), (3, .int (L 3)), (4, .int (L 4)), (5, .int (L 5))]) hx hb dX12_raise_265 hl (by decide) rfl (fun ls hl => ?_)
        exact ih.2.2.2.2.2.2.2.2.2.2.2.2.2.2.2.2.2.2.2.2.2.1 (upd L 6 0) σ r h H locs ls hP hD hS (lv_sub hl [1, 2, 3, 4, 5, 6, 0] rfl)
      · intro L σ r h H locs ls hP hD hS hl
        rw [x_raise] at h
        refine lv_iload hx hb dX12_raise_267 (lv_at hl 6 rfl) ?_
        refine lv_iload hx hb dX12_raise_269 (lv_at hl 5 rfl) ?_
        refine lv_icmp_ge (tgt := 294) hx hb dX12_raise_271 (by decide) (fun c1 => ?_) (fun c1 => ?_)
        · rw [if_pos c1] at h
          exact ih.2.2.2.2.2.2.2.2.2.2.2.2.2.2.2.2.2.2.2.2.2.2.2.1 L σ r h H locs ls hP hD hS (lv_sub hl [0, 1, 2, 3, 4, 5, 6] rfl)
        · rw [if_neg c1] at h
          refine lv_aload_n hx hb dX12_raise_274 rfl (lv_at hl 0 rfl) ?_
          refine ng_83 hx hb hts in_x_raise hown hK hP (hts _ (List.mem_cons_of_mem _ (List.mem_append_left _ (List.mem_append_left _ (List.mem_of_getElem? (i := 25) rfl))))) dX12_raise_275 ?_
          refine lv_iload hx hb dX12_raise_278 (lv_at hl 6 rfl) ?_
          refine lv_aload_n hx hb dX12_raise_280 rfl (lv_at hl 0 rfl) ?_
          refine ng_91 hx hb hts in_x_raise hown hK hP (hts _ (List.mem_cons_of_mem _ (List.mem_append_left _ (List.mem_append_left _ (List.mem_of_getElem? (i := 18) rfl))))) dX12_raise_281 ?_
          refine lv_iload hx hb dX12_raise_284 (lv_at hl 6 rfl) ?_
          obtain ⟨q2, h⟩ := nb_ite1 h
          refine nl_47 hx hb hK hP q2 dX12_raise_286 ?_
          obtain ⟨q3, h⟩ := nb_ite1 h
          refine ns_44 hx hb hK hP hD hS q3 dX12_raise_287 (fun H locs hP hD hS => ?_)
          exact ih.2.2.2.2.2.2.2.2.2.2.2.2.2.2.2.2.2.2.2.2.2.2.1 L (σ.1, σ.2.1, updG σ.2.2 44 (upd (σ.2.2 44) ((L 6)).toNatClampNeg ((σ.2.2 47 ((L 6)).toNatClampNeg)))) r h H locs ls hP hD hS (lv_sub hl [0, 1, 2, 3, 4, 5, 6] rfl)
      · intro L σ r h H locs ls hP hD hS hl
        rw [x_raise] at h
        refine lv_iinc (v := ((L 6)) + 1) (lv' := [(6, .int (((L 6)) + 1)), (0, .ref (a 0)), (1, .int (L 1)), (2, .int (L 2)), (3, .int (L 3)), (4, .int (L 4)), (5, .int (L 5))]) hx hb dX12_raise_288 hl (k := 6) rfl rfl (by decide) rfl (fun ls hl => ?_)
        refine lv_goto (tgt := 267) hx hb dX12_raise_291 (by decide) ?_
        exact ih.2.2.2.2.2.2.2.2.2.2.2.2.2.2.2.2.2.2.2.2.2.1 (upd L 6 (((L 6)) + 1)) σ r h H locs ls hP hD hS (lv_sub hl [1, 2, 3, 4, 5, 6, 0] rfl)
      · intro L σ r h H locs ls hP hD hS hl
        rw [x_raise] at h
        refine lv_aload_n hx hb dX12_raise_294 rfl (lv_at hl 0 rfl) ?_
        refine lv_aload_n hx hb dX12_raise_295 rfl (lv_at hl 0 rfl) ?_
        refine lv_iload_n hx hb dX12_raise_296 rfl (lv_at hl 1 rfl) ?_
        obtain ⟨r1, hc1, h⟩ := ob_ex h
        refine nc_Vi (As := [.int (L 1)]) (rest := [.ref (a 0)]) ⟨hx, hb, hml, hown, hts⟩ (c_x_signOf l dC dI cy a k (upd (fun _ => 0) 1 ((L 1))) σ r1 hc1 H.size) (cwV 1 hts g_x_raise_signOf_463 rfl rfl rfl hd_x_signOf ⟨Nat.le_of_ble_eq_true rfl, Nat.le_of_ble_eq_true rfl⟩) hK hG hA hP hD hS rfl hl.1 rfl (Nat.le_of_ble_eq_true rfl) dX12_raise_297 ⟨Nat.le_refl _, Nat.le_refl _⟩ (fun H locs hP hD hS => ?_)
        refine lv_if_ge (tgt := 312) hx hb dX12_raise_300 (by decide) (fun c2 => ?_) (fun c2 => ?_)
        · rw [if_pos c2] at h
          exact ih.2.2.2.2.2.2.2.2.2.2.2.2.2.2.2.2.2.2.2.2.2.2.2.2.1 L r1.2 r h H locs ls hP hD hS (lv_sub hl [0, 1, 2, 3, 4, 5, 6] rfl)
        · rw [if_neg c2] at h
          refine lv_iload hx hb dX12_raise_303 (lv_at hl 4 rfl) ?_
          refine lv_if_eq (tgt := 312) hx hb dX12_raise_305 (by decide) (fun c3 => ?_) (fun c3 => ?_)
          · rw [if_pos c3] at h
            exact ih.2.2.2.2.2.2.2.2.2.2.2.2.2.2.2.2.2.2.2.2.2.2.2.2.1 L r1.2 r h H locs ls hP hD hS (lv_sub hl [0, 1, 2, 3, 4, 5, 6] rfl)
          · rw [if_neg c3] at h
            refine lv_iconst (v := (-1)) hx hb dX12_raise_308 (by decide) ?_
            refine lv_goto (tgt := 313) hx hb dX12_raise_309 (by decide) ?_
            exact ih.2.2.2.2.2.2.2.2.2.2.2.2.2.2.2.2.2.2.2.2.2.2.2.2.2 (upd L 100 ((-1))) r1.2 r h H locs ls hP hD hS (lv_sub hl [0, 1, 2, 3, 4, 5, 6] rfl)
      · intro L σ r h H locs ls hP hD hS hl
        rw [x_raise] at h
        refine lv_iconst (v := 1) hx hb dX12_raise_312 (by decide) ?_
        exact ih.2.2.2.2.2.2.2.2.2.2.2.2.2.2.2.2.2.2.2.2.2.2.2.2.2 (upd L 100 1) σ r h H locs ls hP hD hS (lv_sub hl [0, 1, 2, 3, 4, 5, 6] rfl)
      · intro L σ r h H locs ls hP hD hS hl
        rw [x_raise] at h
        obtain ⟨r1, hc1, h⟩ := ob_ex h
        refine nc_Vi (As := [.int (L 100)]) (rest := []) ⟨hx, hb, hml, hown, hts⟩ (c_x_wholeOf l dC dI cy a k (upd (fun _ => 0) 1 ((L 100))) σ r1 hc1 H.size) (cwV 1 hts g_x_raise_wholeOf_485 rfl rfl rfl hd_x_wholeOf ⟨Nat.le_of_ble_eq_true rfl, Nat.le_of_ble_eq_true rfl⟩) hK hG hA hP hD hS rfl hl.1 rfl (Nat.le_of_ble_eq_true rfl) dX12_raise_313 ⟨Nat.le_refl _, Nat.le_refl _⟩ (fun H locs hP hD hS => ?_)
        cases h
        exact W.iret (v := r1.1) hx hb hr (fun t ht hW => ⟨⟨r1.1, (), rfl, rfl, by rw [ht]; exact hP, va_K.moved hW.alike hK, hD⟩, hS.F ht⟩) hS.2.2 dX12_raise_316
  exact (blk k0).1 L0 σ0 r0 h0 s.heap [] ls hP hD hS hl

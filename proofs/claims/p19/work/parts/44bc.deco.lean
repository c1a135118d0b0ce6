/-! stepFor -/
def x_stepFor : Nat → Nat → (Nat → Int32) → MS → Option (Int32 × MS)
  | 0, _, _, _ => none
  | k + 1, 0, L, σ => if ¬ ((3 : Int32) < 0 ∨ 11514 ≤ (3 : Int32).toNatClampNeg) then (if ¬ (((5314 + ((((σ.2.2 30 (3 : Int32).toNatClampNeg)) - 1)))) < 0 ∨ 11514 ≤ ((5314 + ((((σ.2.2 30 (3 : Int32).toNatClampNeg)) - 1)))).toNatClampNeg) then (if ¬ (((8414 + ((((σ.2.2 30 (3 : Int32).toNatClampNeg)) - 1)))) < 0 ∨ 11514 ≤ ((8414 + ((((σ.2.2 30 (3 : Int32).toNatClampNeg)) - 1)))).toNatClampNeg) then (if ¬ (((((σ.2.2 30 ((5314 + ((((σ.2.2 30 (3 : Int32).toNatClampNeg)) - 1)))).toNatClampNeg)) + 1)) < 0 ∨ 1740000 ≤ ((((σ.2.2 30 ((5314 + ((((σ.2.2 30 (3 : Int32).toNatClampNeg)) - 1)))).toNatClampNeg)) + 1)).toNatClampNeg) then (if ((σ.2.2 30 ((8414 + ((((σ.2.2 30 (3 : Int32).toNatClampNeg)) - 1)))).toNatClampNeg)) = ((σ.2.2 28 ((((σ.2.2 30 ((5314 + ((((σ.2.2 30 (3 : Int32).toNatClampNeg)) - 1)))).toNatClampNeg)) + 1)).toNatClampNeg)) then (some (0, σ)) else (x_stepFor k 1 (upd (upd (upd L 2 ((((σ.2.2 30 (3 : Int32).toNatClampNeg)) - 1))) 3 ((σ.2.2 30 ((5314 + ((((σ.2.2 30 (3 : Int32).toNatClampNeg)) - 1)))).toNatClampNeg))) 4 ((σ.2.2 30 ((8414 + ((((σ.2.2 30 (3 : Int32).toNatClampNeg)) - 1)))).toNatClampNeg))) σ)) else none) else none) else none) else none
  | k + 1, 1, L, σ => if ¬ (((8414 + ((L 2)))) < 0 ∨ 11514 ≤ ((8414 + ((L 2)))).toNatClampNeg) then (x_stepFor k 2 L (σ.1, σ.2.1, updG σ.2.2 30 (upd (σ.2.2 30) ((8414 + ((L 2)))).toNatClampNeg ((((L 4)) + 1))))) else none
  | k + 1, 2, L, σ => ob (x_worked k 0 (upd (fun _ => 0) 1 1) σ) (fun r1 => if ((r1.2.1 56)) ≤ 0 then (x_stepFor k 3 L r1.2) else (some (0, r1.2)))
  | k + 1, 3, L, σ => ob (x_memberAt k 0 (upd (upd (fun _ => 0) 1 ((L 3))) 2 ((L 4))) σ) (fun r1 => if ¬ (((L 1)) < 0 ∨ 70000 ≤ ((L 1)).toNatClampNeg) then (if ((r1.2.2.2 5 ((L 1)).toNatClampNeg)) = 0 then (if ¬ (((L 1)) < 0 ∨ 70000 ≤ ((L 1)).toNatClampNeg) then (ob (x_assign k 0 (upd (upd (fun _ => 0) 1 ((r1.2.2.2 6 ((L 1)).toNatClampNeg))) 2 r1.1) r1.2) (fun r5 => if ((r5.2.1 56)) = 0 then (x_stepFor k 5 (upd (upd L 5 r1.1) 100 1) r5.2) else (x_stepFor k 4 (upd L 5 r1.1) r5.2))) else none) else (x_stepFor k 6 (upd L 5 r1.1) r1.2)) else none)
  | k + 1, 4, L, σ => x_stepFor k 5 (upd L 100 0) σ
  | k + 1, 5, L, σ => if ((L 100)) = 0 ∨ ((L 100)) = 1 then some ((L 100), σ) else none
  | k + 1, 6, L, σ => if ¬ (((L 1)) < 0 ∨ 70000 ≤ ((L 1)).toNatClampNeg) then (x_stepFor k 7 (upd (upd L 6 0) 7 ((σ.2.2 6 ((L 1)).toNatClampNeg))) σ) else none
  | k + 1, 7, L, σ => if ((L 7)) = ((-1)) then (x_stepFor k 8 L σ) else (if ¬ (((L 7)) < 0 ∨ 70000 ≤ ((L 7)).toNatClampNeg) then (x_stepFor k 7 (upd (upd L 6 (((L 6)) + 1)) 7 ((σ.2.2 9 ((L 7)).toNatClampNeg))) σ) else none)
  | k + 1, 8, L, σ => ob (x_kind k 0 (upd (fun _ => 0) 1 ((L 5))) σ) (fun r1 => if r1.1 = 5 then (if ¬ (((((L 5)) + 1)) < 0 ∨ 1740000 ≤ ((((L 5)) + 1)).toNatClampNeg) then (if ((r1.2.2.2 28 ((((L 5)) + 1)).toNatClampNeg)) ≤ ((L 6)) then (x_stepFor k 10 L r1.2) else (x_stepFor k 9 L r1.2)) else none) else (x_stepFor k 9 L r1.2))
  | k + 1, 9, L, σ => ob (x_fail k 0 (upd (fun _ => 0) 1 1) σ) (fun r1 => some (0, r1.2))
  | k + 1, 10, L, σ => if ¬ (((L 1)) < 0 ∨ 70000 ≤ ((L 1)).toNatClampNeg) then (x_stepFor k 11 (upd (upd L 7 0) 8 ((σ.2.2 6 ((L 1)).toNatClampNeg))) σ) else none
  | k + 1, 11, L, σ => if ((L 8)) = ((-1)) then (x_stepFor k 14 L σ) else (if ¬ (((((L 5)) + 1)) < 0 ∨ 1740000 ≤ ((((L 5)) + 1)).toNatClampNeg) then (if ((σ.2.2 28 ((((L 5)) + 1)).toNatClampNeg)) ≤ ((L 7)) then (x_stepFor k 12 (upd L 100 ((L 8))) σ) else (if ¬ (((((((L 5)) + 4)) + ((L 7)))) < 0 ∨ 1740000 ≤ ((((((L 5)) + 4)) + ((L 7)))).toNatClampNeg) then (x_stepFor k 13 (upd (upd L 100 ((σ.2.2 28 ((((((L 5)) + 4)) + ((L 7)))).toNatClampNeg))) 101 ((L 8))) σ) else none)) else none)
  | k + 1, 12, L, σ => x_stepFor k 13 (upd (upd L 100 0) 101 ((L 100))) σ
  | k + 1, 13, L, σ => ob (x_assign k 0 (upd (upd (fun _ => 0) 1 ((L 101))) 2 ((L 100))) σ) (fun r1 => if ¬ (((L 8)) < 0 ∨ 70000 ≤ ((L 8)).toNatClampNeg) then (x_stepFor k 11 (upd (upd L 7 (((L 7)) + 1)) 8 ((r1.2.2.2 9 ((L 8)).toNatClampNeg))) r1.2) else none)
  | k + 1, 14, L, σ => if ((σ.1 56)) = 0 then (x_stepFor k 16 (upd L 100 1) σ) else (x_stepFor k 15 L σ)
  | k + 1, 15, L, σ => x_stepFor k 16 (upd L 100 0) σ
  | k + 1, 16, L, σ => if ((L 100)) = 0 ∨ ((L 100)) = 1 then some ((L 100), σ) else none
  | _ + 1, _ + 17, _, _ => none
def o_x_stepFor : List Cond := [.fieldLink RX12 395 "SetHouseModel" "st" "[I", .fieldLink RX12 372 "SetHouseModel" "heap" "[I", .methodLink RX12 563 yX12_worked, .instanceMethod yX12_worked, .selects RX12 yX12_worked yX12_worked, .initialized RX12, .fieldLink RX12 362 "SetHouseModel" "err" "I", .methodLink RX12 703 yX12_memberAt, .instanceMethod yX12_memberAt, .selects RX12 yX12_memberAt yX12_memberAt, .fieldLink RX12 86 "SetHouseModel" "x1" "[I", .fieldLink RX12 89 "SetHouseModel" "x2" "[I", .methodLink RX12 840 yX12_assign, .instanceMethod yX12_assign, .selects RX12 yX12_assign yX12_assign, .fieldLink RX12 98 "SetHouseModel" "next" "[I", .methodLink RX12 545 yX12_kind, .instanceMethod yX12_kind, .selects RX12 yX12_kind yX12_kind, .methodLink RX12 369 yX12_fail, .instanceMethod yX12_fail, .selects RX12 yX12_fail yX12_fail]
theorem o_x_stepFor_good : o_x_stepFor.all goodWord = true := by decide +kernel
def p_x_stepFor : List Cond := o_x_stepFor ++ ((.code yX12_worked cX12_worked 2 none :: p_x_worked) ++ ((.code yX12_memberAt cX12_memberAt 3 (some .int) :: p_x_memberAt) ++ ((.code yX12_assign cX12_assign 4 none :: p_x_assign) ++ ((.code yX12_kind cX12_kind 2 (some .int) :: p_x_kind) ++ ((.code yX12_fail cX12_fail 2 none :: p_x_fail) ++ [])))))
theorem p_x_stepFor_good : p_x_stepFor.all goodWord = true := nb_all2 o_x_stepFor_good (nb_all2 (nb_allc (by decide +kernel) p_x_worked_good) (nb_all2 (nb_allc (by decide +kernel) p_x_memberAt_good) (nb_all2 (nb_allc (by decide +kernel) p_x_assign_good) (nb_all2 (nb_allc (by decide +kernel) p_x_kind_good) (nb_all2 (nb_allc (by decide +kernel) p_x_fail_good) rfl)))))
def w_x_stepFor : List Cond := .code yX12_stepFor cX12_stepFor 9 (some .boolean) :: (p_x_stepFor ++ fM)
theorem w_x_stepFor_good : w_x_stepFor.all goodWord = true := nb_allc (by decide +kernel) (nb_all2 p_x_stepFor_good fM_good)
theorem in_x_stepFor : ∀ w ∈ wsX120, w ∈ w_x_stepFor := fun _ h => List.mem_cons_of_mem _ (List.mem_append_right _ h)
theorem hd_x_stepFor : yX12_stepFor.cls = RX12 ∧ yX12_stepFor.cls ≠ "java/lang/invoke/MethodHandle" ∧ yX12_stepFor.cls ≠ "java/lang/invoke/VarHandle" ∧ (parseMethodDescriptor yX12_stepFor.desc).map (fun d => d.parameters.length) = some 1 := by decide +kernel
theorem gg_x_stepFor_assign : GoodIn w_x_stepFor w_x_assign := goodIn_sub (fun w h => (List.mem_cons.mp h).elim (fun e => (List.mem_cons_of_mem _ (List.mem_append_left _ (List.mem_append_right _ (List.mem_append_right _ (List.mem_append_right _ (List.mem_append_left _ (List.mem_cons.mpr (Or.inl e))))))))) (fun h => (List.mem_append.mp h).elim (fun h => (List.mem_cons_of_mem _ (List.mem_append_left _ (List.mem_append_right _ (List.mem_append_right _ (List.mem_append_right _ (List.mem_append_left _ (List.mem_cons_of_mem _ h)))))))) (fun h => List.mem_cons_of_mem _ (List.mem_append_right _ h)))) w_x_assign_good
theorem g_x_stepFor_assign_840 : GoodIn w_x_stepFor (wsV RX12 840 RX12 yX12_assign w_x_assign) := goodIn_app (nb_g4 (List.mem_cons_of_mem _ (List.mem_append_left _ (List.mem_append_left _ (List.mem_of_getElem? (i := 12) rfl)))) (List.mem_cons_of_mem _ (List.mem_append_left _ (List.mem_append_left _ (List.mem_of_getElem? (i := 13) rfl)))) (List.mem_cons_of_mem _ (List.mem_append_left _ (List.mem_append_left _ (List.mem_of_getElem? (i := 14) rfl)))) (List.mem_cons_of_mem _ (List.mem_append_left _ (List.mem_append_left _ (List.mem_of_getElem? (i := 5) rfl)))) (by decide +kernel)) gg_x_stepFor_assign
theorem gg_x_stepFor_fail : GoodIn w_x_stepFor w_x_fail := goodIn_sub (fun w h => (List.mem_cons.mp h).elim (fun e => (List.mem_cons_of_mem _ (List.mem_append_left _ (List.mem_append_right _ (List.mem_append_right _ (List.mem_append_right _ (List.mem_append_right _ (List.mem_append_right _ (List.mem_append_left _ (List.mem_cons.mpr (Or.inl e))))))))))) (fun h => (List.mem_append.mp h).elim (fun h => (List.mem_cons_of_mem _ (List.mem_append_left _ (List.mem_append_right _ (List.mem_append_right _ (List.mem_append_right _ (List.mem_append_right _ (List.mem_append_right _ (List.mem_append_left _ (List.mem_cons_of_mem _ h)))))))))) (fun h => List.mem_cons_of_mem _ (List.mem_append_right _ h)))) w_x_fail_good
theorem g_x_stepFor_fail_369 : GoodIn w_x_stepFor (wsV RX12 369 RX12 yX12_fail w_x_fail) := goodIn_app (nb_g4 (List.mem_cons_of_mem _ (List.mem_append_left _ (List.mem_append_left _ (List.mem_of_getElem? (i := 19) rfl)))) (List.mem_cons_of_mem _ (List.mem_append_left _ (List.mem_append_left _ (List.mem_of_getElem? (i := 20) rfl)))) (List.mem_cons_of_mem _ (List.mem_append_left _ (List.mem_append_left _ (List.mem_of_getElem? (i := 21) rfl)))) (List.mem_cons_of_mem _ (List.mem_append_left _ (List.mem_append_left _ (List.mem_of_getElem? (i := 5) rfl)))) (by decide +kernel)) gg_x_stepFor_fail
theorem gg_x_stepFor_kind : GoodIn w_x_stepFor w_x_kind := goodIn_sub (fun w h => (List.mem_cons.mp h).elim (fun e => (List.mem_cons_of_mem _ (List.mem_append_left _ (List.mem_append_right _ (List.mem_append_right _ (List.mem_append_right _ (List.mem_append_right _ (List.mem_append_left _ (List.mem_cons.mpr (Or.inl e)))))))))) (fun h => (List.mem_append.mp h).elim (fun h => (List.mem_cons_of_mem _ (List.mem_append_left _ (List.mem_append_right _ (List.mem_append_right _ (List.mem_append_right _ (List.mem_append_right _ (List.mem_append_left _ (List.mem_cons_of_mem _ h))))))))) (fun h => List.mem_cons_of_mem _ (List.mem_append_right _ h)))) w_x_kind_good
theorem g_x_stepFor_kind_545 : GoodIn w_x_stepFor (wsV RX12 545 RX12 yX12_kind w_x_kind) := goodIn_app (nb_g4 (List.mem_cons_of_mem _ (List.mem_append_left _ (List.mem_append_left _ (List.mem_of_getElem? (i := 16) rfl)))) (List.mem_cons_of_mem _ (List.mem_append_left _ (List.mem_append_left _ (List.mem_of_getElem? (i := 17) rfl)))) (List.mem_cons_of_mem _ (List.mem_append_left _ (List.mem_append_left _ (List.mem_of_getElem? (i := 18) rfl)))) (List.mem_cons_of_mem _ (List.mem_append_left _ (List.mem_append_left _ (List.mem_of_getElem? (i := 5) rfl)))) (by decide +kernel)) gg_x_stepFor_kind
theorem gg_x_stepFor_memberAt : GoodIn w_x_stepFor w_x_memberAt := goodIn_sub (fun w h => (List.mem_cons.mp h).elim (fun e => (List.mem_cons_of_mem _ (List.mem_append_left _ (List.mem_append_right _ (List.mem_append_right _ (List.mem_append_left _ (List.mem_cons.mpr (Or.inl e)))))))) (fun h => (List.mem_append.mp h).elim (fun h => (List.mem_cons_of_mem _ (List.mem_append_left _ (List.mem_append_right _ (List.mem_append_right _ (List.mem_append_left _ (List.mem_cons_of_mem _ h))))))) (fun h => List.mem_cons_of_mem _ (List.mem_append_right _ h)))) w_x_memberAt_good
theorem g_x_stepFor_memberAt_703 : GoodIn w_x_stepFor (wsV RX12 703 RX12 yX12_memberAt w_x_memberAt) := goodIn_app (nb_g4 (List.mem_cons_of_mem _ (List.mem_append_left _ (List.mem_append_left _ (List.mem_of_getElem? (i := 7) rfl)))) (List.mem_cons_of_mem _ (List.mem_append_left _ (List.mem_append_left _ (List.mem_of_getElem? (i := 8) rfl)))) (List.mem_cons_of_mem _ (List.mem_append_left _ (List.mem_append_left _ (List.mem_of_getElem? (i := 9) rfl)))) (List.mem_cons_of_mem _ (List.mem_append_left _ (List.mem_append_left _ (List.mem_of_getElem? (i := 5) rfl)))) (by decide +kernel)) gg_x_stepFor_memberAt
theorem gg_x_stepFor_worked : GoodIn w_x_stepFor w_x_worked := goodIn_sub (fun w h => (List.mem_cons.mp h).elim (fun e => (List.mem_cons_of_mem _ (List.mem_append_left _ (List.mem_append_right _ (List.mem_append_left _ (List.mem_cons.mpr (Or.inl e))))))) (fun h => (List.mem_append.mp h).elim (fun h => (List.mem_cons_of_mem _ (List.mem_append_left _ (List.mem_append_right _ (List.mem_append_left _ (List.mem_cons_of_mem _ h)))))) (fun h => List.mem_cons_of_mem _ (List.mem_append_right _ h)))) w_x_worked_good
theorem g_x_stepFor_worked_563 : GoodIn w_x_stepFor (wsV RX12 563 RX12 yX12_worked w_x_worked) := goodIn_app (nb_g4 (List.mem_cons_of_mem _ (List.mem_append_left _ (List.mem_append_left _ (List.mem_of_getElem? (i := 2) rfl)))) (List.mem_cons_of_mem _ (List.mem_append_left _ (List.mem_append_left _ (List.mem_of_getElem? (i := 3) rfl)))) (List.mem_cons_of_mem _ (List.mem_append_left _ (List.mem_append_left _ (List.mem_of_getElem? (i := 4) rfl)))) (List.mem_cons_of_mem _ (List.mem_append_left _ (List.mem_append_left _ (List.mem_of_getElem? (i := 5) rfl)))) (by decide +kernel)) gg_x_stepFor_worked
set_option maxHeartbeats 40000000 in
set_option maxRecDepth 100000 in
theorem c_x_stepFor (l : Launch) (dC : Nat → ClassId) (dI : Nat → Nat → Nat) (cy : Nat → ClassId) (a : Nat → Nat) (k0 : Nat) (L0 : Nat → Int32) (σ0 : MS) (r0 : Int32 × MS) (h0 : x_stepFor k0 0 L0 σ0 = some r0) (sz : Nat) : Met l yX12_stepFor w_x_stepFor ({ frames := 4, cells := 0, slots := 0, locals := 88 }) (va_Pc [.ref (a 0), .int (L0 1)] (nIn (dC, dI) cy sz (vM cy a σ0))) (va_Qi (fun (z : Int32) (_ : Unit) => z = r0.1) (fun _ t => nOut (dC, dI) cy (va_A (vM cy a σ0) sz) (vM cy a r0.2) t) (va_A (vM cy a σ0) sz)) 0 0 (va_A (vM cy a σ0) sz) := by
  refine Met.ofW (cc := cX12_stepFor) (maxL := 9) (ret := (some .boolean)) (by decide) rfl ?_
  intro p e s m args below meth c s₁ B hml hv
  obtain ⟨rfl, hsz, hP, hK, hD0, hG⟩ := hv
  have hx := B.exec
  have hb := B.bytes
  have hr := B.returns
  have hts := atoms_spec (ws := w_x_stepFor) B.pre
  have hown : s.vm.findClass RX12 = some m.cls := findClass_of_methodNamed B.named
  have hlocks := B.notSynchronized
  subst hsz
  have hD := hD0.self (sz := s.heap.size)
  generalize hAe : va_A (vM cy a σ0) s.heap.size = A at hD ⊢
  have hA : ∀ q : Nat, s.heap.size ≤ q → A q := fun q h => by rw [← hAe]; exact Or.inr h
  have hS : va_S A s.heap s.heap [] := va_S.rf
  have hl := lv_entry ([.ref (a 0), .int (L0 1)]) (n := 9) (Nat.le_of_ble_eq_true rfl)
  rw [lg_entry_eq]
  generalize (lg_sl ([.ref (a 0), .int (L0 1)]) ++ List.replicate (9 - (lg_sl ([.ref (a 0), .int (L0 1)])).length) Slot.unset).toArray = ls at hl ⊢
  have hl : lv_has ls 9 [(0, .ref (a 0)), (1, .int (L0 1))] := hl
  have blk : ∀ k : Nat, (bT p l e (headSpec w_x_stepFor ({ frames := 4, cells := 0, slots := 0, locals := 88 })).room s m #[.ref (a 0), .int (L0 1)] below meth c dC dI cy a A (qI dC dI cy a A below #[.ref (a 0), .int (L0 1)] s) 9 (x_stepFor k 0) (fun L => [(0, .ref (a 0)), (1, .int (L 1))]) 0 (fun L => [])) ∧ (bT p l e (headSpec w_x_stepFor ({ frames := 4, cells := 0, slots := 0, locals := 88 })).room s m #[.ref (a 0), .int (L0 1)] below meth c dC dI cy a A (qI dC dI cy a A below #[.ref (a 0), .int (L0 1)] s) 9 (x_stepFor k 1) (fun L => [(0, .ref (a 0)), (1, .int (L 1)), (2, .int (L 2)), (3, .int (L 3)), (4, .int (L 4))]) 47 (fun L => [])) ∧ (bT p l e (headSpec w_x_stepFor ({ frames := 4, cells := 0, slots := 0, locals := 88 })).room s m #[.ref (a 0), .int (L0 1)] below meth c dC dI cy a A (qI dC dI cy a A below #[.ref (a 0), .int (L0 1)] s) 9 (x_stepFor k 2) (fun L => [(0, .ref (a 0)), (1, .int (L 1)), (2, .int (L 2)), (3, .int (L 3)), (4, .int (L 4))]) 61 (fun L => [])) ∧ (bT p l e (headSpec w_x_stepFor ({ frames := 4, cells := 0, slots := 0, locals := 88 })).room s m #[.ref (a 0), .int (L0 1)] below meth c dC dI cy a A (qI dC dI cy a A below #[.ref (a 0), .int (L0 1)] s) 9 (x_stepFor k 3) (fun L => [(0, .ref (a 0)), (1, .int (L 1)), (2, .int (L 2)), (3, .int (L 3)), (4, .int (L 4))]) 75 (fun L => [])) ∧ (bT p l e (headSpec w_x_stepFor ({ frames := 4, cells := 0, slots := 0, locals := 88 })).room s m #[.ref (a 0), .int (L0 1)] below meth c dC dI cy a A (qI dC dI cy a A below #[.ref (a 0), .int (L0 1)] s) 9 (x_stepFor k 4) (fun L => [(0, .ref (a 0)), (1, .int (L 1)), (2, .int (L 2)), (3, .int (L 3)), (4, .int (L 4)), (5, .int (L 5))]) 116 (fun L => [])) ∧ (bT p l e (headSpec w_x_stepFor ({ frames := 4, cells := 0, slots := 0, locals := 88 })).room s m #[.ref (a 0), .int (L0 1)] below meth c dC dI cy a A (qI dC dI cy a A below #[.ref (a 0), .int (L0 1)] s) 9 (x_stepFor k 5) (fun L => [(0, .ref (a 0)), (1, .int (L 1)), (2, .int (L 2)), (3, .int (L 3)), (4, .int (L 4)), (5, .int (L 5))]) 117 (fun L => [.int (L 100)])) ∧ (bT p l e (headSpec w_x_stepFor ({ frames := 4, cells := 0, slots := 0, locals := 88 })).room s m #[.ref (a 0), .int (L0 1)] below meth c dC dI cy a A (qI dC dI cy a A below #[.ref (a 0), .int (L0 1)] s) 9 (x_stepFor k 6) (fun L => [(0, .ref (a 0)), (1, .int (L 1)), (2, .int (L 2)), (3, .int (L 3)), (4, .int (L 4)), (5, .int (L 5))]) 118 (fun L => [])) ∧ (bT p l e (headSpec w_x_stepFor ({ frames := 4, cells := 0, slots := 0, locals := 88 })).room s m #[.ref (a 0), .int (L0 1)] below meth c dC dI cy a A (qI dC dI cy a A below #[.ref (a 0), .int (L0 1)] s) 9 (x_stepFor k 7) (fun L => [(0, .ref (a 0)), (1, .int (L 1)), (2, .int (L 2)), (3, .int (L 3)), (4, .int (L 4)), (5, .int (L 5)), (6, .int (L 6)), (7, .int (L 7))]) 129 (fun L => [])) ∧ (bT p l e (headSpec w_x_stepFor ({ frames := 4, cells := 0, slots := 0, locals := 88 })).room s m #[.ref (a 0), .int (L0 1)] below meth c dC dI cy a A (qI dC dI cy a A below #[.ref (a 0), .int (L0 1)] s) 9 (x_stepFor k 8) (fun L => [(0, .ref (a 0)), (1, .int (L 1)), (2, .int (L 2)), (3, .int (L 3)), (4, .int (L 4)), (5, .int (L 5)), (6, .int (L 6)), (7, .int (L 7))]) 150 (fun L => [])) ∧ (bT p l e (headSpec w_x_stepFor ({ frames := 4, cells := 0, slots := 0, locals := 88 })).room s m #[.ref (a 0), .int (L0 1)] below meth c dC dI cy a A (qI dC dI cy a A below #[.ref (a 0), .int (L0 1)] s) 9 (x_stepFor k 9) (fun L => [(0, .ref (a 0)), (1, .int (L 1)), (2, .int (L 2)), (3, .int (L 3)), (4, .int (L 4)), (5, .int (L 5)), (6, .int (L 6)), (7, .int (L 7))]) 174 (fun L => [])) ∧ (bT p l e (headSpec w_x_stepFor ({ frames := 4, cells := 0, slots := 0, locals := 88 })).room s m #[.ref (a 0), .int (L0 1)] below meth c dC dI cy a A (qI dC dI cy a A below #[.ref (a 0), .int (L0 1)] s) 9 (x_stepFor k 10) (fun L => [(0, .ref (a 0)), (1, .int (L 1)), (2, .int (L 2)), (3, .int (L 3)), (4, .int (L 4)), (5, .int (L 5)), (6, .int (L 6)), (7, .int (L 7))]) 181 (fun L => [])) ∧ (bT p l e (headSpec w_x_stepFor ({ frames := 4, cells := 0, slots := 0, locals := 88 })).room s m #[.ref (a 0), .int (L0 1)] below meth c dC dI cy a A (qI dC dI cy a A below #[.ref (a 0), .int (L0 1)] s) 9 (x_stepFor k 11) (fun L => [(0, .ref (a 0)), (1, .int (L 1)), (2, .int (L 2)), (3, .int (L 3)), (4, .int (L 4)), (5, .int (L 5)), (6, .int (L 6)), (7, .int (L 7)), (8, .int (L 8))]) 192 (fun L => [])) ∧ (bT p l e (headSpec w_x_stepFor ({ frames := 4, cells := 0, slots := 0, locals := 88 })).room s m #[.ref (a 0), .int (L0 1)] below meth c dC dI cy a A (qI dC dI cy a A below #[.ref (a 0), .int (L0 1)] s) 9 (x_stepFor k 12) (fun L => [(0, .ref (a 0)), (1, .int (L 1)), (2, .int (L 2)), (3, .int (L 3)), (4, .int (L 4)), (5, .int (L 5)), (6, .int (L 6)), (7, .int (L 7)), (8, .int (L 8))]) 230 (fun L => [.int (L 100), .ref (a 0)])) ∧ (bT p l e (headSpec w_x_stepFor ({ frames := 4, cells := 0, slots := 0, locals := 88 })).room s m #[.ref (a 0), .int (L0 1)] below meth c dC dI cy a A (qI dC dI cy a A below #[.ref (a 0), .int (L0 1)] s) 9 (x_stepFor k 13) (fun L => [(0, .ref (a 0)), (1, .int (L 1)), (2, .int (L 2)), (3, .int (L 3)), (4, .int (L 4)), (5, .int (L 5)), (6, .int (L 6)), (7, .int (L 7)), (8, .int (L 8))]) 231 (fun L => [.int (L 100), .int (L 101), .ref (a 0)])) ∧ (bT p l e (headSpec w_x_stepFor ({ frames := 4, cells := 0, slots := 0, locals := 88 })).room s m #[.ref (a 0), .int (L0 1)] below meth c dC dI cy a A (qI dC dI cy a A below #[.ref (a 0), .int (L0 1)] s) 9 (x_stepFor k 14) (fun L => [(0, .ref (a 0)), (1, .int (L 1)), (2, .int (L 2)), (3, .int (L 3)), (4, .int (L 4)), (5, .int (L 5)), (6, .int (L 6)), (7, .int (L 7)), (8, .int (L 8))]) 249 (fun L => [])) ∧ (bT p l e (headSpec w_x_stepFor ({ frames := 4, cells := 0, slots := 0, locals := 88 })).room s m #[.ref (a 0), .int (L0 1)] below meth c dC dI cy a A (qI dC dI cy a A below #[.ref (a 0), .int (L0 1)] s) 9 (x_stepFor k 15) (fun L => [(0, .ref (a 0)), (1, .int (L 1)), (2, .int (L 2)), (3, .int (L 3)), (4, .int (L 4)), (5, .int (L 5)), (6, .int (L 6)), (7, .int (L 7)), (8, .int (L 8))]) 260 (fun L => [])) ∧ (bT p l e (headSpec w_x_stepFor ({ frames := 4, cells := 0, slots := 0, locals := 88 })).room s m #[.ref (a 0), .int (L0 1)] below meth c dC dI cy a A (qI dC dI cy a A below #[.ref (a 0), .int (L0 1)] s) 9 (x_stepFor k 16) (fun L => [(0, .ref (a 0)), (1, .int (L 1)), (2, .int (L 2)), (3, .int (L 3)), (4, .int (L 4)), (5, .int (L 5)), (6, .int (L 6)), (7, .int (L 7)), (8, .int (L 8))]) 261 (fun L => [.int (L 100)])) := by
    intro k
    induction k with
    | zero => exact ⟨fun L σ r h => (by cases h), fun L σ r h => (by cases h), fun L σ r h => (by cases h), fun L σ r h => (by cases h), fun L σ r h => (by cases h), fun L σ r h => (by cases h), fun L σ r h => (by cases h), fun L σ r h => (by cases h), fun L σ r h => (by cases h), fun L σ r h => (by cases h), fun L σ r h => (by cases h), fun L σ r h => (by cases h), fun L σ r h => (by cases h), fun L σ r h => (by cases h), fun L σ r h => (by cases h), fun L σ r h => (by cases h), fun L σ r h => (by cases h)⟩
    | succ k ih =>
      refine ⟨?_, ?_, ?_, ?_, ?_, ?_, ?_, ?_, ?_, ?_, ?_, ?_, ?_, ?_, ?_, ?_, ?_⟩
      · intro L σ r h H locs ls hP hD hS hl
        rw [x_stepFor] at h
        refine lv_aload_n hx hb dX12_stepFor_0 rfl (lv_at hl 0 rfl) ?_
        refine ng_60 hx hb hts in_x_stepFor hown hK hP (hts _ (List.mem_cons_of_mem _ (List.mem_append_left _ (List.mem_append_left _ (List.mem_of_getElem? (i := 0) rfl))))) dX12_stepFor_1 ?_
        refine lv_iconst (v := 3) hx hb dX12_stepFor_4 (by decide) ?_
        obtain ⟨q1, h⟩ := nb_ite1 h
        refine nl_30 hx hb hK hP q1 dX12_stepFor_5 ?_
        refine lv_iconst (v := 1) hx hb dX12_stepFor_6 (by decide) ?_
        refine lv_isub hx hb dX12_stepFor_7 ?_
        refine lv_istore_n (lv' := [(2, .int (((σ.2.2 30 (3 : Int32).toNatClampNeg)) - 1)), (0, .ref (a 0)), (1, .int (L 1))]) hx hb dX12_stepFor_8 rfl hl (by decide) rfl (fun ls hl => ?_)
        refine lv_aload_n hx hb dX12_stepFor_9 rfl (lv_at hl 1 rfl) ?_
        refine ng_60 hx hb hts in_x_stepFor hown hK hP (hts _ (List.mem_cons_of_mem _ (List.mem_append_left _ (List.mem_append_left _ (List.mem_of_getElem? (i := 0) rfl))))) dX12_stepFor_10 ?_
        refine lv_sipush (v := 5314) hx hb dX12_stepFor_13 (by decide) ?_
        refine lv_iload_n hx hb dX12_stepFor_16 rfl (lv_at hl 0 rfl) ?_
        refine lv_iadd hx hb dX12_stepFor_17 ?_
        obtain ⟨q2, h⟩ := nb_ite1 h
        refine nl_30 hx hb hK hP q2 dX12_stepFor_18 ?_
        refine lv_istore_n (lv' := [(3, .int (σ.2.2 30 ((5314 + ((((σ.2.2 30 (3 : Int32).toNatClampNeg)) - 1)))).toNatClampNeg)), (2, .int (((σ.2.2 30 (3 : Int32).toNatClampNeg)) - 1)), (0, .ref (a 0)), (1, .int (L 1))]) hx hb dX12_stepFor_19 rfl hl (by decide) rfl (fun ls hl => ?_)
        refine lv_aload_n hx hb dX12_stepFor_20 rfl (lv_at hl 2 rfl) ?_
        refine ng_60 hx hb hts in_x_stepFor hown hK hP (hts _ (List.mem_cons_of_mem _ (List.mem_append_left _ (List.mem_append_left _ (List.mem_of_getElem? (i := 0) rfl))))) dX12_stepFor_21 ?_
        refine lv_sipush (v := 8414) hx hb dX12_stepFor_24 (by decide) ?_
        refine lv_iload_n hx hb dX12_stepFor_27 rfl (lv_at hl 1 rfl) ?_
        refine lv_iadd hx hb dX12_stepFor_28 ?_
        obtain ⟨q3, h⟩ := nb_ite1 h
        refine nl_30 hx hb hK hP q3 dX12_stepFor_29 ?_
        refine lv_istore (lv' := [(4, .int (σ.2.2 30 ((8414 + ((((σ.2.2 30 (3 : Int32).toNatClampNeg)) - 1)))).toNatClampNeg)), (3, .int (σ.2.2 30 ((5314 + ((((σ.2.2 30 (3 : Int32).toNatClampNeg)) - 1)))).toNatClampNeg)), (2, .int (((σ.2.2 30 (3 : Int32).toNatClampNeg)) - 1)), (0, .ref (a 0)), (1, .int (L 1))]) hx hb dX12_stepFor_30 hl (by decide) rfl (fun ls hl => ?_)
        refine lv_iload hx hb dX12_stepFor_32 (lv_at hl 0 rfl) ?_
        refine lv_aload_n hx hb dX12_stepFor_34 rfl (lv_at hl 3 rfl) ?_
        refine ng_53 hx hb hts in_x_stepFor hown hK hP (hts _ (List.mem_cons_of_mem _ (List.mem_append_left _ (List.mem_append_left _ (List.mem_of_getElem? (i := 1) rfl))))) dX12_stepFor_35 ?_
        refine lv_iload_n hx hb dX12_stepFor_38 rfl (lv_at hl 1 rfl) ?_
        refine lv_iconst (v := 1) hx hb dX12_stepFor_39 (by decide) ?_
        refine lv_iadd hx hb dX12_stepFor_40 ?_
        obtain ⟨q4, h⟩ := nb_ite1 h
        refine nl_28 hx hb hK hP q4 dX12_stepFor_41 ?_
        refine lv_icmp_ne (tgt := 47) hx hb dX12_stepFor_42 (by decide) (fun c5 => ?_) (fun c5 => ?_)
        · rw [if_neg c5] at h
          exact ih.2.1 (upd (upd (upd L 2 ((((σ.2.2 30 (3 : Int32).toNatClampNeg)) - 1))) 3 ((σ.2.2 30 ((5314 + ((((σ.2.2 30 (3 : Int32).toNatClampNeg)) - 1)))).toNatClampNeg))) 4 ((σ.2.2 30 ((8414 + ((((σ.2.2 30 (3 : Int32).toNatClampNeg)) - 1)))).toNatClampNeg))) σ r h H locs ls hP hD hS (lv_sub hl [3, 4, 2, 1, 0] rfl)
        · rw [if_pos c5] at h
          refine lv_iconst (v := 0) hx hb dX12_stepFor_45 (by decide) ?_
          cases h
          exact W.zret (v := 0) hx hb hr rfl (fun t ht hW => ⟨⟨0, (), rfl, rfl, by rw [ht]; exact hP, va_K.moved hW.alike hK, hD⟩, hS.F ht⟩) hS.2.2 dX12_stepFor_46
      · intro L σ r h H locs ls hP hD hS hl
        rw [x_stepFor] at h
        refine lv_aload_n hx hb dX12_stepFor_47 rfl (lv_at hl 0 rfl) ?_
        refine ng_60 hx hb hts in_x_stepFor hown hK hP (hts _ (List.mem_cons_of_mem _ (List.mem_append_left _ (List.mem_append_left _ (List.mem_of_getElem? (i := 0) rfl))))) dX12_stepFor_48 ?_
        refine lv_sipush (v := 8414) hx hb dX12_stepFor_51 (by decide) ?_
        refine lv_iload_n hx hb dX12_stepFor_54 rfl (lv_at hl 2 rfl) ?_
        refine lv_iadd hx hb dX12_stepFor_55 ?_
        refine lv_iload hx hb dX12_stepFor_56 (lv_at hl 4 rfl) ?_
        refine lv_iconst (v := 1) hx hb dX12_stepFor_58 (by decide) ?_
        refine lv_iadd hx hb dX12_stepFor_59 ?_
        obtain ⟨q1, h⟩ := nb_ite1 h
        refine ns_30 hx hb hK hP hD hS q1 dX12_stepFor_60 (fun H locs hP hD hS => ?_)
        exact ih.2.2.1 L (σ.1, σ.2.1, updG σ.2.2 30 (upd (σ.2.2 30) ((8414 + ((L 2)))).toNatClampNeg ((((L 4)) + 1)))) r h H locs ls hP hD hS (lv_sub hl [0, 1, 2, 3, 4] rfl)
      · intro L σ r h H locs ls hP hD hS hl
        rw [x_stepFor] at h
        refine lv_aload_n hx hb dX12_stepFor_61 rfl (lv_at hl 0 rfl) ?_
        refine lv_iconst (v := 1) hx hb dX12_stepFor_62 (by decide) ?_
        obtain ⟨r1, hc1, h⟩ := ob_ex h
        refine nc_Vv (As := [.int 1]) (rest := []) ⟨hx, hb, hml, hown, hts⟩ (c_x_worked l dC dI cy a k (upd (fun _ => 0) 1 1) σ r1 hc1 H.size) (cwV 1 hts g_x_stepFor_worked_563 rfl rfl rfl hd_x_worked ⟨Nat.le_of_ble_eq_true rfl, Nat.le_of_ble_eq_true rfl⟩) hK hG hA hP hD hS rfl hl.1 rfl (Nat.le_of_ble_eq_true rfl) dX12_stepFor_63 ⟨Nat.le_refl _, Nat.le_refl _⟩ (fun H locs hP hD hS => ?_)
        refine lv_aload_n hx hb dX12_stepFor_66 rfl (lv_at hl 0 rfl) ?_
        refine ng_56 hx hb hts in_x_stepFor hown hK hP (hts _ (List.mem_cons_of_mem _ (List.mem_append_left _ (List.mem_append_left _ (List.mem_of_getElem? (i := 6) rfl))))) dX12_stepFor_67 ?_
        refine lv_if_le (tgt := 75) hx hb dX12_stepFor_70 (by decide) (fun c2 => ?_) (fun c2 => ?_)
        · rw [if_pos c2] at h
          exact ih.2.2.2.1 L r1.2 r h H locs ls hP hD hS (lv_sub hl [0, 1, 2, 3, 4] rfl)
        · rw [if_neg c2] at h
          refine lv_iconst (v := 0) hx hb dX12_stepFor_73 (by decide) ?_
          cases h
          exact W.zret (v := 0) hx hb hr rfl (fun t ht hW => ⟨⟨0, (), rfl, rfl, by rw [ht]; exact hP, va_K.moved hW.alike hK, hD⟩, hS.F ht⟩) hS.2.2 dX12_stepFor_74
      · intro L σ r h H locs ls hP hD hS hl
        rw [x_stepFor] at h
        refine lv_aload_n hx hb dX12_stepFor_75 rfl (lv_at hl 0 rfl) ?_
        refine lv_iload_n hx hb dX12_stepFor_76 rfl (lv_at hl 3 rfl) ?_
        refine lv_iload hx hb dX12_stepFor_77 (lv_at hl 4 rfl) ?_
        obtain ⟨r1, hc1, h⟩ := ob_ex h
        refine nc_Vi (As := [.int (L 3), .int (L 4)]) (rest := []) ⟨hx, hb, hml, hown, hts⟩ (c_x_memberAt l dC dI cy a k (upd (upd (fun _ => 0) 1 ((L 3))) 2 ((L 4))) σ r1 hc1 H.size) (cwV 2 hts g_x_stepFor_memberAt_703 rfl rfl rfl hd_x_memberAt ⟨Nat.le_of_ble_eq_true rfl, Nat.le_of_ble_eq_true rfl⟩) hK hG hA hP hD hS rfl hl.1 rfl (Nat.le_of_ble_eq_true rfl) dX12_stepFor_79 ⟨Nat.le_refl _, Nat.le_refl _⟩ (fun H locs hP hD hS => ?_)
        refine lv_istore (lv' := [(5, .int r1.1), (0, .ref (a 0)), (1, .int (L 1)), (2, .int (L 2)), (3, .int (L 3)), (4, .int (L 4))]) hx hb dX12_stepFor_82 hl (by decide) rfl (fun ls hl => ?_)
        refine lv_aload_n hx hb dX12_stepFor_84 rfl (lv_at hl 1 rfl) ?_
        refine ng_15 hx hb hts in_x_stepFor hown hK hP (hts _ (List.mem_cons_of_mem _ (List.mem_append_left _ (List.mem_append_left _ (List.mem_of_getElem? (i := 10) rfl))))) dX12_stepFor_85 ?_
        refine lv_iload_n hx hb dX12_stepFor_88 rfl (lv_at hl 2 rfl) ?_
        obtain ⟨q2, h⟩ := nb_ite1 h
        refine nl_5 hx hb hK hP q2 dX12_stepFor_89 ?_
        refine lv_if_ne (tgt := 118) hx hb dX12_stepFor_90 (by decide) (fun c3 => ?_) (fun c3 => ?_)
        · rw [if_neg c3] at h
          exact ih.2.2.2.2.2.2.1 (upd L 5 r1.1) r1.2 r h H locs ls hP hD hS (lv_sub hl [1, 2, 3, 4, 5, 0] rfl)
        · rw [if_pos c3] at h
          refine lv_aload_n hx hb dX12_stepFor_93 rfl (lv_at hl 1 rfl) ?_
          refine lv_aload_n hx hb dX12_stepFor_94 rfl (lv_at hl 1 rfl) ?_
          refine ng_16 hx hb hts in_x_stepFor hown hK hP (hts _ (List.mem_cons_of_mem _ (List.mem_append_left _ (List.mem_append_left _ (List.mem_of_getElem? (i := 11) rfl))))) dX12_stepFor_95 ?_
          refine lv_iload_n hx hb dX12_stepFor_98 rfl (lv_at hl 2 rfl) ?_
          obtain ⟨q4, h⟩ := nb_ite1 h
          refine nl_6 hx hb hK hP q4 dX12_stepFor_99 ?_
          refine lv_iload hx hb dX12_stepFor_100 (lv_at hl 0 rfl) ?_
          obtain ⟨r5, hc5, h⟩ := ob_ex h
          refine nc_Vv (As := [.int (r1.2.2.2 6 ((L 1)).toNatClampNeg), .int r1.1]) (rest := []) ⟨hx, hb, hml, hown, hts⟩ (c_x_assign l dC dI cy a k (upd (upd (fun _ => 0) 1 ((r1.2.2.2 6 ((L 1)).toNatClampNeg))) 2 r1.1) r1.2 r5 hc5 H.size) (cwV 2 hts g_x_stepFor_assign_840 rfl rfl rfl hd_x_assign ⟨Nat.le_of_ble_eq_true rfl, Nat.le_of_ble_eq_true rfl⟩) hK hG hA hP hD hS rfl hl.1 rfl (Nat.le_of_ble_eq_true rfl) dX12_stepFor_102 ⟨Nat.le_refl _, Nat.le_refl _⟩ (fun H locs hP hD hS => ?_)
          refine lv_aload_n hx hb dX12_stepFor_105 rfl (lv_at hl 1 rfl) ?_
          refine ng_56 hx hb hts in_x_stepFor hown hK hP (hts _ (List.mem_cons_of_mem _ (List.mem_append_left _ (List.mem_append_left _ (List.mem_of_getElem? (i := 6) rfl))))) dX12_stepFor_106 ?_
          refine lv_if_ne (tgt := 116) hx hb dX12_stepFor_109 (by decide) (fun c6 => ?_) (fun c6 => ?_)
          · rw [if_neg c6] at h
            exact ih.2.2.2.2.1 (upd L 5 r1.1) r5.2 r h H locs ls hP hD hS (lv_sub hl [1, 2, 3, 4, 5, 0] rfl)
          · rw [if_pos c6] at h
            refine lv_iconst (v := 1) hx hb dX12_stepFor_112 (by decide) ?_
            refine lv_goto (tgt := 117) hx hb dX12_stepFor_113 (by decide) ?_
            exact ih.2.2.2.2.2.1 (upd (upd L 5 r1.1) 100 1) r5.2 r h H locs ls hP hD hS (lv_sub hl [1, 2, 3, 4, 5, 0] rfl)
      · intro L σ r h H locs ls hP hD hS hl
        rw [x_stepFor] at h
        refine lv_iconst (v := 0) hx hb dX12_stepFor_116 (by decide) ?_
        exact ih.2.2.2.2.2.1 (upd L 100 0) σ r h H locs ls hP hD hS (lv_sub hl [0, 1, 2, 3, 4, 5] rfl)
      · intro L σ r h H locs ls hP hD hS hl
        rw [x_stepFor] at h
        obtain ⟨q1, h⟩ := nb_ite1 h
        cases h
        exact W.zret (v := (L 100)) hx hb hr (nb_bz q1) (fun t ht hW => ⟨⟨(L 100), (), rfl, rfl, by rw [ht]; exact hP, va_K.moved hW.alike hK, hD⟩, hS.F ht⟩) hS.2.2 dX12_stepFor_117
      · intro L σ r h H locs ls hP hD hS hl
        rw [x_stepFor] at h
        refine lv_iconst (v := 0) hx hb dX12_stepFor_118 (by decide) ?_
        refine lv_istore (lv' := [(6, .int 0), (0, .ref (a 0)), (1, .int (L 1)), (2, .int (L 2)), (3, .int (L 3)), (4, .int (L 4)), (5, .int (L 5))]) hx hb dX12_stepFor_119 hl (by decide) rfl (fun ls hl => ?_)
        refine lv_aload_n hx hb dX12_stepFor_121 rfl (lv_at hl 1 rfl) ?_
        refine ng_16 hx hb hts in_x_stepFor hown hK hP (hts _ (List.mem_cons_of_mem _ (List.mem_append_left _ (List.mem_append_left _ (List.mem_of_getElem? (i := 11) rfl))))) dX12_stepFor_122 ?_
        refine lv_iload_n hx hb dX12_stepFor_125 rfl (lv_at hl 2 rfl) ?_
        obtain ⟨q1, h⟩ := nb_ite1 h
        refine nl_6 hx hb hK hP q1 dX12_stepFor_126 ?_
        refine lv_istore (lv' := [(7, .int (σ.2.2 6 ((L 1)).toNatClampNeg)), (6, .int 0), (0, .ref (a 0)), (1, .int (L 1)), (2, .int (L 2)), (3, .int (L 3)), (4, .int (L 4)), (5, .int (L 5))]) hx hb dX12_stepFor_127 hl (by decide) rfl (fun ls hl => ?_)
        exact ih.2.2.2.2.2.2.2.1 (upd (upd L 6 0) 7 ((σ.2.2 6 ((L 1)).toNatClampNeg))) σ r h H locs ls hP hD hS (lv_sub hl [2, 3, 4, 5, 6, 7, 1, 0] rfl)
      · intro L σ r h H locs ls hP hD hS hl
        rw [x_stepFor] at h
        refine lv_iload hx hb dX12_stepFor_129 (lv_at hl 7 rfl) ?_
        refine lv_iconst (v := (-1)) hx hb dX12_stepFor_131 (by decide) ?_
        refine lv_icmp_eq (tgt := 150) hx hb dX12_stepFor_132 (by decide) (fun c1 => ?_) (fun c1 => ?_)
        · rw [if_pos c1] at h
          exact ih.2.2.2.2.2.2.2.2.1 L σ r h H locs ls hP hD hS (lv_sub hl [0, 1, 2, 3, 4, 5, 6, 7] rfl)
        · rw [if_neg c1] at h
          refine lv_iinc (v := ((L 6)) + 1) (lv' := [(6, .int (((L 6)) + 1)), (0, .ref (a 0)), (1, .int (L 1)), (2, .int (L 2)), (3, .int (L 3)), (4, .int (L 4)), (5, .int (L 5)), (7, .int (L 7))]) hx hb dX12_stepFor_135 hl (k := 6) rfl rfl (by decide) rfl (fun ls hl => ?_)
          refine lv_aload_n hx hb dX12_stepFor_138 rfl (lv_at hl 1 rfl) ?_
          refine ng_19 hx hb hts in_x_stepFor hown hK hP (hts _ (List.mem_cons_of_mem _ (List.mem_append_left _ (List.mem_append_left _ (List.mem_of_getElem? (i := 15) rfl))))) dX12_stepFor_139 ?_
          refine lv_iload hx hb dX12_stepFor_142 (lv_at hl 7 rfl) ?_
          obtain ⟨q2, h⟩ := nb_ite1 h
          refine nl_9 hx hb hK hP q2 dX12_stepFor_144 ?_
          refine lv_istore (lv' := [(7, .int (σ.2.2 9 ((L 7)).toNatClampNeg)), (6, .int (((L 6)) + 1)), (0, .ref (a 0)), (1, .int (L 1)), (2, .int (L 2)), (3, .int (L 3)), (4, .int (L 4)), (5, .int (L 5))]) hx hb dX12_stepFor_145 hl (by decide) rfl (fun ls hl => ?_)
          refine lv_goto (tgt := 129) hx hb dX12_stepFor_147 (by decide) ?_
          exact ih.2.2.2.2.2.2.2.1 (upd (upd L 6 (((L 6)) + 1)) 7 ((σ.2.2 9 ((L 7)).toNatClampNeg))) σ r h H locs ls hP hD hS (lv_sub hl [2, 3, 4, 5, 6, 7, 1, 0] rfl)
      · intro L σ r h H locs ls hP hD hS hl
        rw [x_stepFor] at h
        refine lv_aload_n hx hb dX12_stepFor_150 rfl (lv_at hl 0 rfl) ?_
        refine lv_iload hx hb dX12_stepFor_151 (lv_at hl 5 rfl) ?_
        obtain ⟨r1, hc1, h⟩ := ob_ex h
        refine nc_Vi (As := [.int (L 5)]) (rest := []) ⟨hx, hb, hml, hown, hts⟩ (c_x_kind l dC dI cy a k (upd (fun _ => 0) 1 ((L 5))) σ r1 hc1 H.size) (cwV 1 hts g_x_stepFor_kind_545 rfl rfl rfl hd_x_kind ⟨Nat.le_of_ble_eq_true rfl, Nat.le_of_ble_eq_true rfl⟩) hK hG hA hP hD hS rfl hl.1 rfl (Nat.le_of_ble_eq_true rfl) dX12_stepFor_153 ⟨Nat.le_refl _, Nat.le_refl _⟩ (fun H locs hP hD hS => ?_)
        refine lv_iconst (v := 5) hx hb dX12_stepFor_156 (by decide) ?_
        refine lv_icmp_ne (tgt := 174) hx hb dX12_stepFor_157 (by decide) (fun c2 => ?_) (fun c2 => ?_)
        · rw [if_neg c2] at h
          exact ih.2.2.2.2.2.2.2.2.2.1 L r1.2 r h H locs ls hP hD hS (lv_sub hl [0, 1, 2, 3, 4, 5, 6, 7] rfl)
        · rw [if_pos c2] at h
          refine lv_aload_n hx hb dX12_stepFor_160 rfl (lv_at hl 0 rfl) ?_
          refine ng_53 hx hb hts in_x_stepFor hown hK hP (hts _ (List.mem_cons_of_mem _ (List.mem_append_left _ (List.mem_append_left _ (List.mem_of_getElem? (i := 1) rfl))))) dX12_stepFor_161 ?_
          refine lv_iload hx hb dX12_stepFor_164 (lv_at hl 5 rfl) ?_
          refine lv_iconst (v := 1) hx hb dX12_stepFor_166 (by decide) ?_
          refine lv_iadd hx hb dX12_stepFor_167 ?_
          obtain ⟨q3, h⟩ := nb_ite1 h
          refine nl_28 hx hb hK hP q3 dX12_stepFor_168 ?_
          refine lv_iload hx hb dX12_stepFor_169 (lv_at hl 6 rfl) ?_
          refine lv_icmp_le (tgt := 181) hx hb dX12_stepFor_171 (by decide) (fun c4 => ?_) (fun c4 => ?_)
          · rw [if_pos c4] at h
            exact ih.2.2.2.2.2.2.2.2.2.2.1 L r1.2 r h H locs ls hP hD hS (lv_sub hl [0, 1, 2, 3, 4, 5, 6, 7] rfl)
          · rw [if_neg c4] at h
            exact ih.2.2.2.2.2.2.2.2.2.1 L r1.2 r h H locs ls hP hD hS (lv_sub hl [0, 1, 2, 3, 4, 5, 6, 7] rfl)
      · intro L σ r h H locs ls hP hD hS hl
        rw [x_stepFor] at h
        refine lv_aload_n hx hb dX12_stepFor_174 rfl (lv_at hl 0 rfl) ?_
        refine lv_iconst (v := 1) hx hb dX12_stepFor_175 (by decide) ?_
        obtain ⟨r1, hc1, h⟩ := ob_ex h
        refine nc_Vv (As := [.int 1]) (rest := []) ⟨hx, hb, hml, hown, hts⟩ (c_x_fail l dC dI cy a k (upd (fun _ => 0) 1 1) σ r1 hc1 H.size) (cwV 1 hts g_x_stepFor_fail_369 rfl rfl rfl hd_x_fail ⟨Nat.le_of_ble_eq_true rfl, Nat.le_of_ble_eq_true rfl⟩) hK hG hA hP hD hS rfl hl.1 rfl (Nat.le_of_ble_eq_true rfl) dX12_stepFor_176 ⟨Nat.le_refl _, Nat.le_refl _⟩ (fun H locs hP hD hS => ?_)
        refine lv_iconst (v := 0) hx hb dX12_stepFor_179 (by decide) ?_
        cases h
        exact W.zret (v := 0) hx hb hr rfl (fun t ht hW => ⟨⟨0, (), rfl, rfl, by rw [ht]; exact hP, va_K.moved hW.alike hK, hD⟩, hS.F ht⟩) hS.2.2 dX12_stepFor_180
      · intro L σ r h H locs ls hP hD hS hl
        rw [x_stepFor] at h
        refine lv_iconst (v := 0) hx hb dX12_stepFor_181 (by decide) ?_
        refine lv_istore (lv' := [(7, .int 0), (0, .ref (a 0)), (1, .int (L 1)), (2, .int (L 2)), (3, .int (L 3)), (4, .int (L 4)), (5, .int (L 5)), (6, .int (L 6))]) hx hb dX12_stepFor_182 hl (by decide) rfl (fun ls hl => ?_)
        refine lv_aload_n hx hb dX12_stepFor_184 rfl (lv_at hl 1 rfl) ?_
        refine ng_16 hx hb hts in_x_stepFor hown hK hP (hts _ (List.mem_cons_of_mem _ (List.mem_append_left _ (List.mem_append_left _ (List.mem_of_getElem? (i := 11) rfl))))) dX12_stepFor_185 ?_
        refine lv_iload_n hx hb dX12_stepFor_188 rfl (lv_at hl 2 rfl) ?_
        obtain ⟨q1, h⟩ := nb_ite1 h
        refine nl_6 hx hb hK hP q1 dX12_stepFor_189 ?_
        refine lv_istore (lv' := [(8, .int (σ.2.2 6 ((L 1)).toNatClampNeg)), (7, .int 0), (0, .ref (a 0)), (1, .int (L 1)), (2, .int (L 2)), (3, .int (L 3)), (4, .int (L 4)), (5, .int (L 5)), (6, .int (L 6))]) hx hb dX12_stepFor_190 hl (by decide) rfl (fun ls hl => ?_)
        exact ih.2.2.2.2.2.2.2.2.2.2.2.1 (upd (upd L 7 0) 8 ((σ.2.2 6 ((L 1)).toNatClampNeg))) σ r h H locs ls hP hD hS (lv_sub hl [2, 3, 4, 5, 6, 7, 8, 1, 0] rfl)
      · intro L σ r h H locs ls hP hD hS hl
        rw [x_stepFor] at h
        refine lv_iload hx hb dX12_stepFor_192 (lv_at hl 8 rfl) ?_
        refine lv_iconst (v := (-1)) hx hb dX12_stepFor_194 (by decide) ?_
        refine lv_icmp_eq (tgt := 249) hx hb dX12_stepFor_195 (by decide) (fun c1 => ?_) (fun c1 => ?_)
        · rw [if_pos c1] at h
          exact ih.2.2.2.2.2.2.2.2.2.2.2.2.2.2.1 L σ r h H locs ls hP hD hS (lv_sub hl [0, 1, 2, 3, 4, 5, 6, 7, 8] rfl)
        · rw [if_neg c1] at h
          refine lv_aload_n hx hb dX12_stepFor_198 rfl (lv_at hl 0 rfl) ?_
          refine lv_iload hx hb dX12_stepFor_199 (lv_at hl 8 rfl) ?_
          refine lv_iload hx hb dX12_stepFor_201 (lv_at hl 7 rfl) ?_
          refine lv_aload_n hx hb dX12_stepFor_203 rfl (lv_at hl 0 rfl) ?_
          refine ng_53 hx hb hts in_x_stepFor hown hK hP (hts _ (List.mem_cons_of_mem _ (List.mem_append_left _ (List.mem_append_left _ (List.mem_of_getElem? (i := 1) rfl))))) dX12_stepFor_204 ?_
          refine lv_iload hx hb dX12_stepFor_207 (lv_at hl 5 rfl) ?_
          refine lv_iconst (v := 1) hx hb dX12_stepFor_209 (by decide) ?_
          refine lv_iadd hx hb dX12_stepFor_210 ?_
          obtain ⟨q2, h⟩ := nb_ite1 h
          refine nl_28 hx hb hK hP q2 dX12_stepFor_211 ?_
          refine lv_icmp_ge (tgt := 230) hx hb dX12_stepFor_212 (by decide) (fun c3 => ?_) (fun c3 => ?_)
          · rw [if_pos c3] at h
            exact ih.2.2.2.2.2.2.2.2.2.2.2.2.1 (upd L 100 ((L 8))) σ r h H locs ls hP hD hS (lv_sub hl [0, 1, 2, 3, 4, 5, 6, 7, 8] rfl)
          · rw [if_neg c3] at h
            refine lv_aload_n hx hb dX12_stepFor_215 rfl (lv_at hl 0 rfl) ?_
            refine ng_53 hx hb hts in_x_stepFor hown hK hP (hts _ (List.mem_cons_of_mem _ (List.mem_append_left _ (List.mem_append_left _ (List.mem_of_getElem? (i := 1) rfl))))) dX12_stepFor_216 ?_
            refine lv_iload hx hb dX12_stepFor_219 (lv_at hl 5 rfl) ?_
            refine lv_iconst (v := 4) hx hb dX12_stepFor_221 (by decide) ?_
            refine lv_iadd hx hb dX12_stepFor_222 ?_
            refine lv_iload hx hb dX12_stepFor_223 (lv_at hl 7 rfl) ?_
            refine lv_iadd hx hb dX12_stepFor_225 ?_
            obtain ⟨q4, h⟩ := nb_ite1 h
            refine nl_28 hx hb hK hP q4 dX12_stepFor_226 ?_
            refine lv_goto (tgt := 231) hx hb dX12_stepFor_227 (by decide) ?_
            exact ih.2.2.2.2.2.2.2.2.2.2.2.2.2.1 (upd (upd L 100 ((σ.2.2 28 ((((((L 5)) + 4)) + ((L 7)))).toNatClampNeg))) 101 ((L 8))) σ r h H locs ls hP hD hS (lv_sub hl [0, 1, 2, 3, 4, 5, 6, 7, 8] rfl)
      · intro L σ r h H locs ls hP hD hS hl
        rw [x_stepFor] at h
        refine lv_iconst (v := 0) hx hb dX12_stepFor_230 (by decide) ?_
        exact ih.2.2.2.2.2.2.2.2.2.2.2.2.2.1 (upd (upd L 100 0) 101 ((L 100))) σ r h H locs ls hP hD hS (lv_sub hl [0, 1, 2, 3, 4, 5, 6, 7, 8] rfl)
      · intro L σ r h H locs ls hP hD hS hl
        rw [x_stepFor] at h
        obtain ⟨r1, hc1, h⟩ := ob_ex h
        refine nc_Vv (As := [.int (L 101), .int (L 100)]) (rest := []) ⟨hx, hb, hml, hown, hts⟩ (c_x_assign l dC dI cy a k (upd (upd (fun _ => 0) 1 ((L 101))) 2 ((L 100))) σ r1 hc1 H.size) (cwV 2 hts g_x_stepFor_assign_840 rfl rfl rfl hd_x_assign ⟨Nat.le_of_ble_eq_true rfl, Nat.le_of_ble_eq_true rfl⟩) hK hG hA hP hD hS rfl hl.1 rfl (Nat.le_of_ble_eq_true rfl) dX12_stepFor_231 ⟨Nat.le_refl _, Nat.le_refl _⟩ (fun H locs hP hD hS => ?_)
        refine lv_iinc (v := ((L 7)) + 1) (lv' := [(7, .int (((L 7)) + 1)), (0, .ref (a 0)), (1, .int (L 1)), (2, .int (L 2)), (3, .int (L 3)), (4, .int (L 4)), (5, .int (L 5)), (6, .int (L 6)), (8, .int (L 8))]) hx hb dX12_stepFor_234 hl (k := 7) rfl rfl (by decide) rfl (fun ls hl => ?_)
        refine lv_aload_n hx hb dX12_stepFor_237 rfl (lv_at hl 1 rfl) ?_
        refine ng_19 hx hb hts in_x_stepFor hown hK hP (hts _ (List.mem_cons_of_mem _ (List.mem_append_left _ (List.mem_append_left _ (List.mem_of_getElem? (i := 15) rfl))))) dX12_stepFor_238 ?_
        refine lv_iload hx hb dX12_stepFor_241 (lv_at hl 8 rfl) ?_
        obtain ⟨q2, h⟩ := nb_ite1 h
        refine nl_9 hx hb hK hP q2 dX12_stepFor_243 ?_
        refine lv_istore (lv' := [(8, .int (r1.2.2.2 9 ((L 8)).toNatClampNeg)), (7, .int (((L 7)) + 1)), (0, .ref (a 0)), (1, .int (L 1)), (2, .int (L 2)), (3, .int (L 3)), (4, .int (L 4)), (5, .int (L 5)), (6, .int (L 6))]) hx hb dX12_stepFor_244 hl (by decide) rfl (fun ls hl => ?_)
        refine lv_goto (tgt := 192) hx hb dX12_stepFor_246 (by decide) ?_
        exact ih.2.2.2.2.2.2.2.2.2.2.2.1 (upd (upd L 7 (((L 7)) + 1)) 8 ((r1.2.2.2 9 ((L 8)).toNatClampNeg))) r1.2 r h H locs ls hP hD hS (lv_sub hl [2, 3, 4, 5, 6, 7, 8, 1, 0] rfl)
      · intro L σ r h H locs ls hP hD hS hl
        rw [x_stepFor] at h
        refine lv_aload_n hx hb dX12_stepFor_249 rfl (lv_at hl 0 rfl) ?_
        refine ng_56 hx hb hts in_x_stepFor hown hK hP (hts _ (List.mem_cons_of_mem _ (List.mem_append_left _ (List.mem_append_left _ (List.mem_of_getElem? (i := 6) rfl))))) dX12_stepFor_250 ?_
        refine lv_if_ne (tgt := 260) hx hb dX12_stepFor_253 (by decide) (fun c1 => ?_) (fun c1 => ?_)
        · rw [if_neg c1] at h
          exact ih.2.2.2.2.2.2.2.2.2.2.2.2.2.2.2.1 L σ r h H locs ls hP hD hS (lv_sub hl [0, 1, 2, 3, 4, 5, 6, 7, 8] rfl)
        · rw [if_pos c1] at h
          refine lv_iconst (v := 1) hx hb dX12_stepFor_256 (by decide) ?_
          refine lv_goto (tgt := 261) hx hb dX12_stepFor_257 (by decide) ?_
          exact ih.2.2.2.2.2.2.2.2.2.2.2.2.2.2.2.2 (upd L 100 1) σ r h H locs ls hP hD hS (lv_sub hl [0, 1, 2, 3, 4, 5, 6, 7, 8] rfl)
      · intro L σ r h H locs ls hP hD hS hl
        rw [x_stepFor] at h
        refine lv_iconst (v := 0) hx hb dX12_stepFor_260 (by decide) ?_
        exact ih.2.2.2.2.2.2.2.2.2.2.2.2.2.2.2.2 (upd L 100 0) σ r h H locs ls hP hD hS (lv_sub hl [0, 1, 2, 3, 4, 5, 6, 7, 8] rfl)
      · intro L σ r h H locs ls hP hD hS hl
        rw [x_stepFor] at h
        obtain ⟨q1, h⟩ := nb_ite1 h
        cases h
        exact W.zret (v := (L 100)) hx hb hr (nb_bz q1) (fun t ht hW => ⟨⟨(L 100), (), rfl, rfl, by rw [ht]; exact hP, va_K.moved hW.alike hK, hD⟩, hS.F ht⟩) hS.2.2 dX12_stepFor_261
  exact (blk k0).1 L0 σ0 r0 h0 s.heap [] ls hP hD hS hl
/-! nextTurn -/
def x_nextTurn : Nat → Nat → (Nat → Int32) → MS → Option (Int32 × MS)
  | 0, _, _, _ => none
  | k + 1, 0, L, σ => x_nextTurn k 1 (upd L 4 ((L 3))) σ
  | k + 1, 1, L, σ => if ((σ.1 56)) = 0 then (ob (x_sweep k 0 (upd (fun _ => 0) 1 780000) σ) (fun r2 => if ¬ ((3 : Int32) < 0 ∨ 11514 ≤ (3 : Int32).toNatClampNeg) then (if ((L 4)) = 0 then (x_nextTurn k 2 (upd L 5 ((((r2.2.2.2 30 (3 : Int32).toNatClampNeg)) - ((L 2))))) r2.2) else (ob (x_iterOf k 0 (upd (upd (fun _ => 0) 1 ((L 1))) 2 ((((r2.2.2.2 30 (3 : Int32).toNatClampNeg)) - ((L 2))))) r2.2) (fun r5 => ob (x_openFor k 0 (upd (fun _ => 0) 1 r5.1) r5.2) (fun r6 => if ((r6.2.1 56)) ≤ 0 then (x_nextTurn k 3 (upd L 5 (((((r2.2.2.2 30 (3 : Int32).toNatClampNeg)) - ((L 2)))) + 1)) r6.2) else (some (0, r6.2)))))) else none)) else (x_nextTurn k 6 L σ)
  | k + 1, 2, L, σ => if ((L 5)) = 0 then (some (0, σ)) else (x_nextTurn k 3 L σ)
  | k + 1, 3, L, σ => ob (x_iterOf k 0 (upd (upd (fun _ => 0) 1 ((L 1))) 2 ((((L 5)) - 1))) σ) (fun r1 => ob (x_stepFor k 0 (upd (fun _ => 0) 1 r1.1) r1.2) (fun r2 => if r2.1 = 0 then (if ((r2.2.1 56)) = 0 then (ob (x_dropIter k 0 (fun _ => 0) r2.2) (fun r5 => x_nextTurn k 4 (upd (upd L 6 r1.1) 4 r2.1) r5.2)) else (x_nextTurn k 4 (upd (upd L 6 r1.1) 4 r2.1) r2.2)) else (x_nextTurn k 4 (upd (upd L 6 r1.1) 4 r2.1) r2.2)))
  | k + 1, 4, L, σ => if ((L 4)) = 0 then (x_nextTurn k 5 L σ) else (if ¬ (((L 6)) < 0 ∨ 70000 ≤ ((L 6)).toNatClampNeg) then (if ((σ.2.2 9 ((L 6)).toNatClampNeg)) = ((-1)) then (some (1, σ)) else (x_nextTurn k 5 L σ)) else none)
  | k + 1, 5, L, σ => x_nextTurn k 1 L σ
  | k + 1, 6, L, σ => some (0, σ)
  | _ + 1, _ + 7, _, _ => none
def o_x_nextTurn : List Cond := [.fieldLink RX12 362 "SetHouseModel" "err" "I", .constant RX12 584 (780000), .methodLink RX12 585 yX12_sweep, .instanceMethod yX12_sweep, .selects RX12 yX12_sweep yX12_sweep, .initialized RX12, .fieldLink RX12 395 "SetHouseModel" "st" "[I", .methodLink RX12 883 yX12_iterOf, .instanceMethod yX12_iterOf, .selects RX12 yX12_iterOf yX12_iterOf, .methodLink RX12 886 yX12_openFor, .instanceMethod yX12_openFor, .selects RX12 yX12_openFor yX12_openFor, .methodLink RX12 889 yX12_stepFor, .instanceMethod yX12_stepFor, .selects RX12 yX12_stepFor yX12_stepFor, .methodLink RX12 892 yX12_dropIter, .instanceMethod yX12_dropIter, .selects RX12 yX12_dropIter yX12_dropIter, .fieldLink RX12 98 "SetHouseModel" "next" "[I"]
theorem o_x_nextTurn_good : o_x_nextTurn.all goodWord = true := by decide +kernel
def p_x_nextTurn : List Cond := o_x_nextTurn ++ ((.code yX12_sweep cX12_sweep 5 none :: p_x_sweep) ++ ((.code yX12_iterOf cX12_iterOf 5 (some .int) :: p_x_iterOf) ++ ((.code yX12_openFor cX12_openFor 3 none :: p_x_openFor) ++ ((.code yX12_stepFor cX12_stepFor 9 (some .boolean) :: p_x_stepFor) ++ ((.code yX12_dropIter cX12_dropIter 1 none :: p_x_dropIter) ++ [])))))
theorem p_x_nextTurn_good : p_x_nextTurn.all goodWord = true := nb_all2 o_x_nextTurn_good (nb_all2 (nb_allc (by decide +kernel) p_x_sweep_good) (nb_all2 (nb_allc (by decide +kernel) p_x_iterOf_good) (nb_all2 (nb_allc (by decide +kernel) p_x_openFor_good) (nb_all2 (nb_allc (by decide +kernel) p_x_stepFor_good) (nb_all2 (nb_allc (by decide +kernel) p_x_dropIter_good) rfl)))))
def w_x_nextTurn : List Cond := .code yX12_nextTurn cX12_nextTurn 7 (some .boolean) :: (p_x_nextTurn ++ fM)
theorem w_x_nextTurn_good : w_x_nextTurn.all goodWord = true := nb_allc (by decide +kernel) (nb_all2 p_x_nextTurn_good fM_good)
theorem in_x_nextTurn : ∀ w ∈ wsX120, w ∈ w_x_nextTurn := fun _ h => List.mem_cons_of_mem _ (List.mem_append_right _ h)
theorem hd_x_nextTurn : yX12_nextTurn.cls = RX12 ∧ yX12_nextTurn.cls ≠ "java/lang/invoke/MethodHandle" ∧ yX12_nextTurn.cls ≠ "java/lang/invoke/VarHandle" ∧ (parseMethodDescriptor yX12_nextTurn.desc).map (fun d => d.parameters.length) = some 3 := by decide +kernel
theorem gg_x_nextTurn_dropIter : GoodIn w_x_nextTurn w_x_dropIter := goodIn_sub (fun w h => (List.mem_cons.mp h).elim (fun e => (List.mem_cons_of_mem _ (List.mem_append_left _ (List.mem_append_right _ (List.mem_append_right _ (List.mem_append_right _ (List.mem_append_right _ (List.mem_append_right _ (List.mem_append_left _ (List.mem_cons.mpr (Or.inl e))))))))))) (fun h => (List.mem_append.mp h).elim (fun h => (List.mem_cons_of_mem _ (List.mem_append_left _ (List.mem_append_right _ (List.mem_append_right _ (List.mem_append_right _ (List.mem_append_right _ (List.mem_append_right _ (List.mem_append_left _ (List.mem_cons_of_mem _ h)))))))))) (fun h => List.mem_cons_of_mem _ (List.mem_append_right _ h)))) w_x_dropIter_good
theorem g_x_nextTurn_dropIter_892 : GoodIn w_x_nextTurn (wsV RX12 892 RX12 yX12_dropIter w_x_dropIter) := goodIn_app (nb_g4 (List.mem_cons_of_mem _ (List.mem_append_left _ (List.mem_append_left _ (List.mem_of_getElem? (i := 16) rfl)))) (List.mem_cons_of_mem _ (List.mem_append_left _ (List.mem_append_left _ (List.mem_of_getElem? (i := 17) rfl)))) (List.mem_cons_of_mem _ (List.mem_append_left _ (List.mem_append_left _ (List.mem_of_getElem? (i := 18) rfl)))) (List.mem_cons_of_mem _ (List.mem_append_left _ (List.mem_append_left _ (List.mem_of_getElem? (i := 5) rfl)))) (by decide +kernel)) gg_x_nextTurn_dropIter
theorem gg_x_nextTurn_iterOf : GoodIn w_x_nextTurn w_x_iterOf := goodIn_sub (fun w h => (List.mem_cons.mp h).elim (fun e => (List.mem_cons_of_mem _ (List.mem_append_left _ (List.mem_append_right _ (List.mem_append_right _ (List.mem_append_left _ (List.mem_cons.mpr (Or.inl e)))))))) (fun h => (List.mem_append.mp h).elim (fun h => (List.mem_cons_of_mem _ (List.mem_append_left _ (List.mem_append_right _ (List.mem_append_right _ (List.mem_append_left _ (List.mem_cons_of_mem _ h))))))) (fun h => List.mem_cons_of_mem _ (List.mem_append_right _ h)))) w_x_iterOf_good
theorem g_x_nextTurn_iterOf_883 : GoodIn w_x_nextTurn (wsV RX12 883 RX12 yX12_iterOf w_x_iterOf) := goodIn_app (nb_g4 (List.mem_cons_of_mem _ (List.mem_append_left _ (List.mem_append_left _ (List.mem_of_getElem? (i := 7) rfl)))) (List.mem_cons_of_mem _ (List.mem_append_left _ (List.mem_append_left _ (List.mem_of_getElem? (i := 8) rfl)))) (List.mem_cons_of_mem _ (List.mem_append_left _ (List.mem_append_left _ (List.mem_of_getElem? (i := 9) rfl)))) (List.mem_cons_of_mem _ (List.mem_append_left _ (List.mem_append_left _ (List.mem_of_getElem? (i := 5) rfl)))) (by decide +kernel)) gg_x_nextTurn_iterOf
theorem gg_x_nextTurn_openFor : GoodIn w_x_nextTurn w_x_openFor := goodIn_sub (fun w h => (List.mem_cons.mp h).elim (fun e => (List.mem_cons_of_mem _ (List.mem_append_left _ (List.mem_append_right _ (List.mem_append_right _ (List.mem_append_right _ (List.mem_append_left _ (List.mem_cons.mpr (Or.inl e))))))))) (fun h => (List.mem_append.mp h).elim (fun h => (List.mem_cons_of_mem _ (List.mem_append_left _ (List.mem_append_right _ (List.mem_append_right _ (List.mem_append_right _ (List.mem_append_left _ (List.mem_cons_of_mem _ h)))))))) (fun h => List.mem_cons_of_mem _ (List.mem_append_right _ h)))) w_x_openFor_good
theorem g_x_nextTurn_openFor_886 : GoodIn w_x_nextTurn (wsV RX12 886 RX12 yX12_openFor w_x_openFor) := goodIn_app (nb_g4 (List.mem_cons_of_mem _ (List.mem_append_left _ (List.mem_append_left _ (List.mem_of_getElem? (i := 10) rfl)))) (List.mem_cons_of_mem _ (List.mem_append_left _ (List.mem_append_left _ (List.mem_of_getElem? (i := 11) rfl)))) (List.mem_cons_of_mem _ (List.mem_append_left _ (List.mem_append_left _ (List.mem_of_getElem? (i := 12) rfl)))) (List.mem_cons_of_mem _ (List.mem_append_left _ (List.mem_append_left _ (List.mem_of_getElem? (i := 5) rfl)))) (by decide +kernel)) gg_x_nextTurn_openFor
theorem gg_x_nextTurn_stepFor : GoodIn w_x_nextTurn w_x_stepFor := goodIn_sub (fun w h => (List.mem_cons.mp h).elim (fun e => (List.mem_cons_of_mem _ (List.mem_append_left _ (List.mem_append_right _ (List.mem_append_right _ (List.mem_append_right _ (List.mem_append_right _ (List.mem_append_left _ (List.mem_cons.mpr (Or.inl e)))))))))) (fun h => (List.mem_append.mp h).elim (fun h => (List.mem_cons_of_mem _ (List.mem_append_left _ (List.mem_append_right _ (List.mem_append_right _ (List.mem_append_right _ (List.mem_append_right _ (List.mem_append_left _ (List.mem_cons_of_mem _ h))))))))) (fun h => List.mem_cons_of_mem _ (List.mem_append_right _ h)))) w_x_stepFor_good
theorem g_x_nextTurn_stepFor_889 : GoodIn w_x_nextTurn (wsV RX12 889 RX12 yX12_stepFor w_x_stepFor) := goodIn_app (nb_g4 (List.mem_cons_of_mem _ (List.mem_append_left _ (List.mem_append_left _ (List.mem_of_getElem? (i := 13) rfl)))) (List.mem_cons_of_mem _ (List.mem_append_left _ (List.mem_append_left _ (List.mem_of_getElem? (i := 14) rfl)))) (List.mem_cons_of_mem _ (List.mem_append_left _ (List.mem_append_left _ (List.mem_of_getElem? (i := 15) rfl)))) (List.mem_cons_of_mem _ (List.mem_append_left _ (List.mem_append_left _ (List.mem_of_getElem? (i := 5) rfl)))) (by decide +kernel)) gg_x_nextTurn_stepFor
theorem gg_x_nextTurn_sweep : GoodIn w_x_nextTurn w_x_sweep := goodIn_sub (fun w h => (List.mem_cons.mp h).elim (fun e => (List.mem_cons_of_mem _ (List.mem_append_left _ (List.mem_append_right _ (List.mem_append_left _ (List.mem_cons.mpr (Or.inl e))))))) (fun h => (List.mem_append.mp h).elim (fun h => (List.mem_cons_of_mem _ (List.mem_append_left _ (List.mem_append_right _ (List.mem_append_left _ (List.mem_cons_of_mem _ h)))))) (fun h => List.mem_cons_of_mem _ (List.mem_append_right _ h)))) w_x_sweep_good
theorem g_x_nextTurn_sweep_585 : GoodIn w_x_nextTurn (wsV RX12 585 RX12 yX12_sweep w_x_sweep) := goodIn_app (nb_g4 (List.mem_cons_of_mem _ (List.mem_append_left _ (List.mem_append_left _ (List.mem_of_getElem? (i := 2) rfl)))) (List.mem_cons_of_mem _ (List.mem_append_left _ (List.mem_append_left _ (List.mem_of_getElem? (i := 3) rfl)))) (List.mem_cons_of_mem _ (List.mem_append_left _ (List.mem_append_left _ (List.mem_of_getElem? (i := 4) rfl)))) (List.mem_cons_of_mem _ (List.mem_append_left _ (List.mem_append_left _ (List.mem_of_getElem? (i := 5) rfl)))) (by decide +kernel)) gg_x_nextTurn_sweep
set_option maxHeartbeats 40000000 in
set_option maxRecDepth 100000 in
theorem c_x_nextTurn (l : Launch) (dC : Nat → ClassId) (dI : Nat → Nat → Nat) (cy : Nat → ClassId) (a : Nat → Nat) (k0 : Nat) (L0 : Nat → Int32) (σ0 : MS) (r0 : Int32 × MS) (h0 : x_nextTurn k0 0 L0 σ0 = some r0) (sz : Nat) : Met l yX12_nextTurn w_x_nextTurn ({ frames := 1359, cells := 0, slots := 0, locals := 36519 }) (va_Pc [.ref (a 0), .int (L0 1), .int (L0 2), .int (L0 3)] (nIn (dC, dI) cy sz (vM cy a σ0))) (va_Qi (fun (z : Int32) (_ : Unit) => z = r0.1) (fun _ t => nOut (dC, dI) cy (va_A (vM cy a σ0) sz) (vM cy a r0.2) t) (va_A (vM cy a σ0) sz)) 0 0 (va_A (vM cy a σ0) sz) := by
  refine Met.ofW (cc := cX12_nextTurn) (maxL := 7) (ret := (some .boolean)) (by decide) rfl ?_
  intro p e s m args below meth c s₁ B hml hv
  obtain ⟨rfl, hsz, hP, hK, hD0, hG⟩ := hv
  have hx := B.exec
  have hb := B.bytes
  have hr := B.returns
  have hts := atoms_spec (ws := w_x_nextTurn) B.pre
  have hown : s.vm.findClass RX12 = some m.cls := findClass_of_methodNamed B.named
  have hlocks := B.notSynchronized
  subst hsz
  have hD := hD0.self (sz := s.heap.size)
  generalize hAe : va_A (vM cy a σ0) s.heap.size = A at hD ⊢
  have hA : ∀ q : Nat, s.heap.size ≤ q → A q := fun q h => by rw [← hAe]; exact Or.inr h
  have hS : va_S A s.heap s.heap [] := va_S.rf
  have hl := lv_entry ([.ref (a 0), .int (L0 1), .int (L0 2), .int (L0 3)]) (n := 7) (Nat.le_of_ble_eq_true rfl)
  rw [lg_entry_eq]
  generalize (lg_sl ([.ref (a 0), .int (L0 1), .int (L0 2), .int (L0 3)]) ++ List.replicate (7 - (lg_sl ([.ref (a 0), .int (L0 1), .int (L0 2), .int (L0 3)])).length) Slot.unset).toArray = ls at hl ⊢
  have hl : lv_has ls 7 [(0, .ref (a 0)), (1, .int (L0 1)), (2, .int (L0 2)), (3, .int (L0 3))] := hl
  have blk : ∀ k : Nat, (bT p l e (headSpec w_x_nextTurn ({ frames := 1359, cells := 0, slots := 0, locals := 36519 })).room s m #[.ref (a 0), .int (L0 1), .int (L0 2), .int (L0 3)] below meth c dC dI cy a A (qI dC dI cy a A below #[.ref (a 0), .int (L0 1), .int (L0 2), .int (L0 3)] s) 7 (x_nextTurn k 0) (fun L => [(0, .ref (a 0)), (1, .int (L 1)), (2, .int (L 2)), (3, .int (L 3))]) 0 (fun L => [])) ∧ (bT p l e (headSpec w_x_nextTurn ({ frames := 1359, cells := 0, slots := 0, locals := 36519 })).room s m #[.ref (a 0), .int (L0 1), .int (L0 2), .int (L0 3)] below meth c dC dI cy a A (qI dC dI cy a A below #[.ref (a 0), .int (L0 1), .int (L0 2), .int (L0 3)] s) 7 (x_nextTurn k 1) (fun L => [(0, .ref (a 0)), (1, .int (L 1)), (2, .int (L 2)), (3, .int (L 3)), (4, .int (L 4))]) 3 (fun L => [])) ∧ (bT p l e (headSpec w_x_nextTurn ({ frames := 1359, cells := 0, slots := 0, locals := 36519 })).room s m #[.ref (a 0), .int (L0 1), .int (L0 2), .int (L0 3)] below meth c dC dI cy a A (qI dC dI cy a A below #[.ref (a 0), .int (L0 1), .int (L0 2), .int (L0 3)] s) 7 (x_nextTurn k 2) (fun L => [(0, .ref (a 0)), (1, .int (L 1)), (2, .int (L 2)), (3, .int (L 3)), (4, .int (L 4)), (5, .int (L 5))]) 55 (fun L => [])) ∧ (bT p l e (headSpec w_x_nextTurn ({ frames := 1359, cells := 0, slots := 0, locals := 36519 })).room s m #[.ref (a 0), .int (L0 1), .int (L0 2), .int (L0 3)] below meth c dC dI cy a A (qI dC dI cy a A below #[.ref (a 0), .int (L0 1), .int (L0 2), .int (L0 3)] s) 7 (x_nextTurn k 3) (fun L => [(0, .ref (a 0)), (1, .int (L 1)), (2, .int (L 2)), (3, .int (L 3)), (4, .int (L 4)), (5, .int (L 5))]) 62 (fun L => [])) ∧ (bT p l e (headSpec w_x_nextTurn ({ frames := 1359, cells := 0, slots := 0, locals := 36519 })).room s m #[.ref (a 0), .int (L0 1), .int (L0 2), .int (L0 3)] below meth c dC dI cy a A (qI dC dI cy a A below #[.ref (a 0), .int (L0 1), .int (L0 2), .int (L0 3)] s) 7 (x_nextTurn k 4) (fun L => [(0, .ref (a 0)), (1, .int (L 1)), (2, .int (L 2)), (3, .int (L 3)), (4, .int (L 4)), (5, .int (L 5)), (6, .int (L 6))]) 97 (fun L => [])) ∧ (bT p l e (headSpec w_x_nextTurn ({ frames := 1359, cells := 0, slots := 0, locals := 36519 })).room s m #[.ref (a 0), .int (L0 1), .int (L0 2), .int (L0 3)] below meth c dC dI cy a A (qI dC dI cy a A below #[.ref (a 0), .int (L0 1), .int (L0 2), .int (L0 3)] s) 7 (x_nextTurn k 5) (fun L => [(0, .ref (a 0)), (1, .int (L 1)), (2, .int (L 2)), (3, .int (L 3)), (4, .int (L 4)), (5, .int (L 5)), (6, .int (L 6))]) 115 (fun L => [])) ∧ (bT p l e (headSpec w_x_nextTurn ({ frames := 1359, cells := 0, slots := 0, locals := 36519 })).room s m #[.ref (a 0), .int (L0 1), .int (L0 2), .int (L0 3)] below meth c dC dI cy a A (qI dC dI cy a A below #[.ref (a 0), .int (L0 1), .int (L0 2), .int (L0 3)] s) 7 (x_nextTurn k 6) (fun L => [(0, .ref (a 0)), (1, .int (L 1)), (2, .int (L 2)), (3, .int (L 3)), (4, .int (L 4))]) 118 (fun L => [])) := by
    intro k
    induction k with
    | zero => exact ⟨fun L σ r h => (by cases h), fun L σ r h => (by cases h), fun L σ r h => (by cases h), fun L σ r h => (by cases h), fun L σ r h => (by cases h), fun L σ r h => (by cases h), fun L σ r h => (by cases h)⟩
    | succ k ih =>
      refine ⟨?_, ?_, ?_, ?_, ?_, ?_, ?_⟩
      · intro L σ r h H locs ls hP hD hS hl
        rw [x_nextTurn] at h
        refine lv_iload_n hx hb dX12_nextTurn_0 rfl (lv_at hl 3 rfl) ?_
        refine lv_istore (lv' := [(4, .int (L 3)), (0, .ref (a 0)), (1, .int (L 1)), (2, .int (L 2)), (3, .int (L 3))]) hx hb dX12_nextTurn_1 hl (by decide) rfl (fun ls hl => ?_)
        exact ih.2.1 (upd L 4 ((L 3))) σ r h H locs ls hP hD hS (lv_sub hl [1, 2, 3, 4, 0] rfl)
      · intro L σ r h H locs ls hP hD hS hl
        rw [x_nextTurn] at h
        refine lv_aload_n hx hb dX12_nextTurn_3 rfl (lv_at hl 0 rfl) ?_
        refine ng_56 hx hb hts in_x_nextTurn hown hK hP (hts _ (List.mem_cons_of_mem _ (List.mem_append_left _ (List.mem_append_left _ (List.mem_of_getElem? (i := 0) rfl))))) dX12_nextTurn_4 ?_
        refine lv_if_ne (tgt := 118) hx hb dX12_nextTurn_7 (by decide) (fun c1 => ?_) (fun c1 => ?_)
        · rw [if_neg c1] at h
          exact ih.2.2.2.2.2.2 L σ r h H locs ls hP hD hS (lv_sub hl [0, 1, 2, 3, 4] rfl)
        · rw [if_pos c1] at h
          refine lv_aload_n hx hb dX12_nextTurn_10 rfl (lv_at hl 0 rfl) ?_
          refine lv_ldcw (v := 780000) hx hb hown (hts _ (List.mem_cons_of_mem _ (List.mem_append_left _ (List.mem_append_left _ (List.mem_of_getElem? (i := 1) rfl))))) dX12_nextTurn_11 ?_
          obtain ⟨r2, hc2, h⟩ := ob_ex h
          refine nc_Vv (As := [.int 780000]) (rest := []) ⟨hx, hb, hml, hown, hts⟩ (c_x_sweep l dC dI cy a k (upd (fun _ => 0) 1 780000) σ r2 hc2 H.size) (cwV 1 hts g_x_nextTurn_sweep_585 rfl rfl rfl hd_x_sweep ⟨Nat.le_of_ble_eq_true rfl, Nat.le_of_ble_eq_true rfl⟩) hK hG hA hP hD hS rfl hl.1 rfl (Nat.le_of_ble_eq_true rfl) dX12_nextTurn_14 ⟨Nat.le_refl _, Nat.le_refl _⟩ (fun H locs hP hD hS => ?_)
          refine lv_aload_n hx hb dX12_nextTurn_17 rfl (lv_at hl 0 rfl) ?_
          refine ng_60 hx hb hts in_x_nextTurn hown hK hP (hts _ (List.mem_cons_of_mem _ (List.mem_append_left _ (List.mem_append_left _ (List.mem_of_getElem? (i := 6) rfl))))) dX12_nextTurn_18 ?_
          refine lv_iconst (v := 3) hx hb dX12_nextTurn_21 (by decide) ?_
          obtain ⟨q3, h⟩ := nb_ite1 h
          refine nl_30 hx hb hK hP q3 dX12_nextTurn_22 ?_
          refine lv_iload_n hx hb dX12_nextTurn_23 rfl (lv_at hl 2 rfl) ?_
          refine lv_isub hx hb dX12_nextTurn_24 ?_
          refine lv_istore (lv' := [(5, .int (((r2.2.2.2 30 (3 : Int32).toNatClampNeg)) - ((L 2)))), (0, .ref (a 0)), (1, .int (L 1)), (2, .int (L 2)), (3, .int (L 3)), (4, .int (L 4))]) hx hb dX12_nextTurn_25 hl (by decide) rfl (fun ls hl => ?_)
          refine lv_iload hx hb dX12_nextTurn_27 (lv_at hl 5 rfl) ?_
          refine lv_if_eq (tgt := 55) hx hb dX12_nextTurn_29 (by decide) (fun c4 => ?_) (fun c4 => ?_)
          · rw [if_pos c4] at h
            exact ih.2.2.1 (upd L 5 ((((r2.2.2.2 30 (3 : Int32).toNatClampNeg)) - ((L 2))))) r2.2 r h H locs ls hP hD hS (lv_sub hl [1, 2, 3, 4, 5, 0] rfl)
          · rw [if_neg c4] at h
            refine lv_aload_n hx hb dX12_nextTurn_32 rfl (lv_at hl 1 rfl) ?_
            refine lv_aload_n hx hb dX12_nextTurn_33 rfl (lv_at hl 1 rfl) ?_
            refine lv_iload_n hx hb dX12_nextTurn_34 rfl (lv_at hl 2 rfl) ?_
            refine lv_iload hx hb dX12_nextTurn_35 (lv_at hl 0 rfl) ?_
            obtain ⟨r5, hc5, h⟩ := ob_ex h
            refine nc_Vi (As := [.int (L 1), .int (((r2.2.2.2 30 (3 : Int32).toNatClampNeg)) - ((L 2)))]) (rest := [.ref (a 0)]) ⟨hx, hb, hml, hown, hts⟩ (c_x_iterOf l dC dI cy a k (upd (upd (fun _ => 0) 1 ((L 1))) 2 ((((r2.2.2.2 30 (3 : Int32).toNatClampNeg)) - ((L 2))))) r2.2 r5 hc5 H.size) (cwV 2 hts g_x_nextTurn_iterOf_883 rfl rfl rfl hd_x_iterOf ⟨Nat.le_of_ble_eq_true rfl, Nat.le_of_ble_eq_true rfl⟩) hK hG hA hP hD hS rfl hl.1 rfl (Nat.le_of_ble_eq_true rfl) dX12_nextTurn_37 ⟨Nat.le_refl _, Nat.le_refl _⟩ (fun H locs hP hD hS => ?_)
            obtain ⟨r6, hc6, h⟩ := ob_ex h
            refine nc_Vv (As := [.int r5.1]) (rest := []) ⟨hx, hb, hml, hown, hts⟩ (c_x_openFor l dC dI cy a k (upd (fun _ => 0) 1 r5.1) r5.2 r6 hc6 H.size) (cwV 1 hts g_x_nextTurn_openFor_886 rfl rfl rfl hd_x_openFor ⟨Nat.le_of_ble_eq_true rfl, Nat.le_of_ble_eq_true rfl⟩) hK hG hA hP hD hS rfl hl.1 rfl (Nat.le_of_ble_eq_true rfl) dX12_nextTurn_40 ⟨Nat.le_refl _, Nat.le_refl _⟩ (fun H locs hP hD hS => ?_)
            refine lv_iinc (v := ((((r2.2.2.2 30 (3 : Int32).toNatClampNeg)) - ((L 2)))) + 1) (lv' := [(5, .int (((((r2.2.2.2 30 (3 : Int32).toNatClampNeg)) - ((L 2)))) + 1)), (0, .ref (a 0)), (1, .int (L 1)), (2, .int (L 2)), (3, .int (L 3)), (4, .int (L 4))]) hx hb dX12_nextTurn_43 hl (k := 0) rfl rfl (by decide) rfl (fun ls hl => ?_)
            refine lv_aload_n hx hb dX12_nextTurn_46 rfl (lv_at hl 1 rfl) ?_
            refine ng_56 hx hb hts in_x_nextTurn hown hK hP (hts _ (List.mem_cons_of_mem _ (List.mem_append_left _ (List.mem_append_left _ (List.mem_of_getElem? (i := 0) rfl))))) dX12_nextTurn_47 ?_
            refine lv_if_le (tgt := 62) hx hb dX12_nextTurn_50 (by decide) (fun c7 => ?_) (fun c7 => ?_)
            · rw [if_pos c7] at h
              exact ih.2.2.2.1 (upd L 5 (((((r2.2.2.2 30 (3 : Int32).toNatClampNeg)) - ((L 2)))) + 1)) r6.2 r h H locs ls hP hD hS (lv_sub hl [1, 2, 3, 4, 5, 0] rfl)
            · rw [if_neg c7] at h
              refine lv_iconst (v := 0) hx hb dX12_nextTurn_53 (by decide) ?_
              cases h
              exact W.zret (v := 0) hx hb hr rfl (fun t ht hW => ⟨⟨0, (), rfl, rfl, by rw [ht]; exact hP, va_K.moved hW.alike hK, hD⟩, hS.F ht⟩) hS.2.2 dX12_nextTurn_54
      · intro L σ r h H locs ls hP hD hS hl
        rw [x_nextTurn] at h
        refine lv_iload hx hb dX12_nextTurn_55 (lv_at hl 5 rfl) ?_
        refine lv_if_ne (tgt := 62) hx hb dX12_nextTurn_57 (by decide) (fun c1 => ?_) (fun c1 => ?_)
        · rw [if_neg c1] at h
          exact ih.2.2.2.1 L σ r h H locs ls hP hD hS (lv_sub hl [0, 1, 2, 3, 4, 5] rfl)
        · rw [if_pos c1] at h
          refine lv_iconst (v := 0) hx hb dX12_nextTurn_60 (by decide) ?_
          cases h
          exact W.zret (v := 0) hx hb hr rfl (fun t ht hW => ⟨⟨0, (), rfl, rfl, by rw [ht]; exact hP, va_K.moved hW.alike hK, hD⟩, hS.F ht⟩) hS.2.2 dX12_nextTurn_61
      · intro L σ r h H locs ls hP hD hS hl
        rw [x_nextTurn] at h
        refine lv_aload_n hx hb dX12_nextTurn_62 rfl (lv_at hl 0 rfl) ?_
        refine lv_iload_n hx hb dX12_nextTurn_63 rfl (lv_at hl 1 rfl) ?_
        refine lv_iload hx hb dX12_nextTurn_64 (lv_at hl 5 rfl) ?_
        refine lv_iconst (v := 1) hx hb dX12_nextTurn_66 (by decide) ?_
        refine lv_isub hx hb dX12_nextTurn_67 ?_
        obtain ⟨r1, hc1, h⟩ := ob_ex h
        refine nc_Vi (As := [.int (L 1), .int (((L 5)) - 1)]) (rest := []) ⟨hx, hb, hml, hown, hts⟩ (c_x_iterOf l dC dI cy a k (upd (upd (fun _ => 0) 1 ((L 1))) 2 ((((L 5)) - 1))) σ r1 hc1 H.size) (cwV 2 hts g_x_nextTurn_iterOf_883 rfl rfl rfl hd_x_iterOf ⟨Nat.le_of_ble_eq_true rfl, Nat.le_of_ble_eq_true rfl⟩) hK hG hA hP hD hS rfl hl.1 rfl (Nat.le_of_ble_eq_true rfl) dX12_nextTurn_68 ⟨Nat.le_refl _, Nat.le_refl _⟩ (fun H locs hP hD hS => ?_)
        refine lv_istore (lv' := [(6, .int r1.1), (0, .ref (a 0)), (1, .int (L 1)), (2, .int (L 2)), (3, .int (L 3)), (4, .int (L 4)), (5, .int (L 5))]) hx hb dX12_nextTurn_71 hl (by decide) rfl (fun ls hl => ?_)
        refine lv_aload_n hx hb dX12_nextTurn_73 rfl (lv_at hl 1 rfl) ?_
        refine lv_iload hx hb dX12_nextTurn_74 (lv_at hl 0 rfl) ?_
        obtain ⟨r2, hc2, h⟩ := ob_ex h
        refine nc_Vi (As := [.int r1.1]) (rest := []) ⟨hx, hb, hml, hown, hts⟩ (c_x_stepFor l dC dI cy a k (upd (fun _ => 0) 1 r1.1) r1.2 r2 hc2 H.size) (cwV 1 hts g_x_nextTurn_stepFor_889 rfl rfl rfl hd_x_stepFor ⟨Nat.le_of_ble_eq_true rfl, Nat.le_of_ble_eq_true rfl⟩) hK hG hA hP hD hS rfl hl.1 rfl (Nat.le_of_ble_eq_true rfl) dX12_nextTurn_76 ⟨Nat.le_refl _, Nat.le_refl _⟩ (fun H locs hP hD hS => ?_)
        refine lv_istore (lv' := [(4, .int r2.1), (6, .int r1.1), (0, .ref (a 0)), (1, .int (L 1)), (2, .int (L 2)), (3, .int (L 3)), (5, .int (L 5))]) hx hb dX12_nextTurn_79 hl (by decide) rfl (fun ls hl => ?_)
        refine lv_iload hx hb dX12_nextTurn_81 (lv_at hl 0 rfl) ?_
        refine lv_if_ne (tgt := 97) hx hb dX12_nextTurn_83 (by decide) (fun c3 => ?_) (fun c3 => ?_)
        · rw [if_neg c3] at h
          exact ih.2.2.2.2.1 (upd (upd L 6 r1.1) 4 r2.1) r2.2 r h H locs ls hP hD hS (lv_sub hl [2, 3, 4, 5, 0, 6, 1] rfl)
        · rw [if_pos c3] at h
          refine lv_aload_n hx hb dX12_nextTurn_86 rfl (lv_at hl 2 rfl) ?_
          refine ng_56 hx hb hts in_x_nextTurn hown hK hP (hts _ (List.mem_cons_of_mem _ (List.mem_append_left _ (List.mem_append_left _ (List.mem_of_getElem? (i := 0) rfl))))) dX12_nextTurn_87 ?_
          refine lv_if_ne (tgt := 97) hx hb dX12_nextTurn_90 (by decide) (fun c4 => ?_) (fun c4 => ?_)
          · rw [if_neg c4] at h
            exact ih.2.2.2.2.1 (upd (upd L 6 r1.1) 4 r2.1) r2.2 r h H locs ls hP hD hS (lv_sub hl [2, 3, 4, 5, 0, 6, 1] rfl)
          · rw [if_pos c4] at h
            refine lv_aload_n hx hb dX12_nextTurn_93 rfl (lv_at hl 2 rfl) ?_
            obtain ⟨r5, hc5, h⟩ := ob_ex h
            refine nc_Vv (As := []) (rest := []) ⟨hx, hb, hml, hown, hts⟩ (c_x_dropIter l dC dI cy a k (fun _ => 0) r2.2 r5 hc5 H.size) (cwV 0 hts g_x_nextTurn_dropIter_892 rfl rfl rfl hd_x_dropIter ⟨Nat.le_of_ble_eq_true rfl, Nat.le_of_ble_eq_true rfl⟩) hK hG hA hP hD hS rfl hl.1 rfl (Nat.le_of_ble_eq_true rfl) dX12_nextTurn_94 ⟨Nat.le_refl _, Nat.le_refl _⟩ (fun H locs hP hD hS => ?_)
            exact ih.2.2.2.2.1 (upd (upd L 6 r1.1) 4 r2.1) r5.2 r h H locs ls hP hD hS (lv_sub hl [2, 3, 4, 5, 0, 6, 1] rfl)
      · intro L σ r h H locs ls hP hD hS hl
        rw [x_nextTurn] at h
        refine lv_iload hx hb dX12_nextTurn_97 (lv_at hl 4 rfl) ?_
        refine lv_if_eq (tgt := 115) hx hb dX12_nextTurn_99 (by decide) (fun c1 => ?_) (fun c1 => ?_)
        · rw [if_pos c1] at h
          exact ih.2.2.2.2.2.1 L σ r h H locs ls hP hD hS (lv_sub hl [0, 1, 2, 3, 4, 5, 6] rfl)
        · rw [if_neg c1] at h
          refine lv_aload_n hx hb dX12_nextTurn_102 rfl (lv_at hl 0 rfl) ?_
          refine ng_19 hx hb hts in_x_nextTurn hown hK hP (hts _ (List.mem_cons_of_mem _ (List.mem_append_left _ (List.mem_append_left _ (List.mem_of_getElem? (i := 19) rfl))))) dX12_nextTurn_103 ?_
          refine lv_iload hx hb dX12_nextTurn_106 (lv_at hl 6 rfl) ?_
          obtain ⟨q2, h⟩ := nb_ite1 h
          refine nl_9 hx hb hK hP q2 dX12_nextTurn_108 ?_
          refine lv_iconst (v := (-1)) hx hb dX12_nextTurn_109 (by decide) ?_
          refine lv_icmp_ne (tgt := 115) hx hb dX12_nextTurn_110 (by decide) (fun c3 => ?_) (fun c3 => ?_)
          · rw [if_neg c3] at h
            exact ih.2.2.2.2.2.1 L σ r h H locs ls hP hD hS (lv_sub hl [0, 1, 2, 3, 4, 5, 6] rfl)
          · rw [if_pos c3] at h
            refine lv_iconst (v := 1) hx hb dX12_nextTurn_113 (by decide) ?_
            cases h
            exact W.zret (v := 1) hx hb hr rfl (fun t ht hW => ⟨⟨1, (), rfl, rfl, by rw [ht]; exact hP, va_K.moved hW.alike hK, hD⟩, hS.F ht⟩) hS.2.2 dX12_nextTurn_114
      · intro L σ r h H locs ls hP hD hS hl
        rw [x_nextTurn] at h
        refine lv_goto (tgt := 3) hx hb dX12_nextTurn_115 (by decide) ?_
        exact ih.2.1 L σ r h H locs ls hP hD hS (lv_sub hl [0, 1, 2, 3, 4] rfl)
      · intro L σ r h H locs ls hP hD hS hl
        rw [x_nextTurn] at h
        refine lv_iconst (v := 0) hx hb dX12_nextTurn_118 (by decide) ?_
        cases h
        exact W.zret (v := 0) hx hb hr rfl (fun t ht hW => ⟨⟨0, (), rfl, rfl, by rw [ht]; exact hP, va_K.moved hW.alike hK, hD⟩, hS.F ht⟩) hS.2.2 dX12_nextTurn_119
  exact (blk k0).1 L0 σ0 r0 h0 s.heap [] ls hP hD hS hl
/-! seek -/
def x_seek : Nat → Nat → (Nat → Int32) → MS → Option (Int32 × MS)
  | 0, _, _, _ => none
  | k + 1, 0, L, σ => if ¬ ((2 : Int32) < 0 ∨ 11514 ≤ (2 : Int32).toNatClampNeg) then (if ¬ (((((3214 + ((2 * ((((σ.2.2 30 (2 : Int32).toNatClampNeg)) - 1)))))) + 1)) < 0 ∨ 11514 ≤ ((((3214 + ((2 * ((((σ.2.2 30 (2 : Int32).toNatClampNeg)) - 1)))))) + 1)).toNatClampNeg) then (ob (x_nextTurn k 0 (upd (upd (upd (fun _ => 0) 1 ((L 1))) 2 ((σ.2.2 30 ((((3214 + ((2 * ((((σ.2.2 30 (2 : Int32).toNatClampNeg)) - 1)))))) + 1)).toNatClampNeg))) 3 ((L 2))) σ) (fun r3 => x_seek k 1 (upd (upd L 3 ((σ.2.2 30 ((((3214 + ((2 * ((((σ.2.2 30 (2 : Int32).toNatClampNeg)) - 1)))))) + 1)).toNatClampNeg))) 4 r3.1) r3.2)) else none) else none
  | k + 1, 1, L, σ => if ((L 4)) = 0 then (x_seek k 9 L σ) else (if ((σ.1 56)) = 0 then (if ¬ (((L 1)) < 0 ∨ 70000 ≤ ((L 1)).toNatClampNeg) then (if ((σ.2.2 7 ((L 1)).toNatClampNeg)) = ((-1)) then (x_seek k 2 L σ) else (if ¬ (((L 1)) < 0 ∨ 70000 ≤ ((L 1)).toNatClampNeg) then (if ((σ.2.2 6 ((L 1)).toNatClampNeg)) = ((-1)) then (x_seek k 9 L σ) else (x_seek k 2 L σ)) else none)) else none) else (x_seek k 9 L σ))
  | k + 1, 2, L, σ => if ¬ (((L 1)) < 0 ∨ 70000 ≤ ((L 1)).toNatClampNeg) then (if ((σ.2.2 6 ((L 1)).toNatClampNeg)) = ((-1)) then (x_seek k 3 L σ) else (if ¬ (((L 1)) < 0 ∨ 70000 ≤ ((L 1)).toNatClampNeg) then (ob (x_holds k 0 (upd (fun _ => 0) 1 ((σ.2.2 6 ((L 1)).toNatClampNeg))) σ) (fun r4 => if r4.1 = 0 then (x_seek k 4 L r4.2) else (x_seek k 3 L r4.2))) else none)) else none
  | k + 1, 3, L, σ => x_seek k 5 (upd L 100 1) σ
  | k + 1, 4, L, σ => x_seek k 5 (upd L 100 0) σ
  | k + 1, 5, L, σ => if ((L 100)) = 0 then (x_seek k 6 (upd L 5 ((L 100))) σ) else (if ¬ (((L 1)) < 0 ∨ 70000 ≤ ((L 1)).toNatClampNeg) then (if ((σ.2.2 7 ((L 1)).toNatClampNeg)) = ((-1)) then (x_seek k 6 (upd L 5 ((L 100))) σ) else (x_seek k 9 (upd L 5 ((L 100))) σ)) else none)
  | k + 1, 6, L, σ => if ((σ.1 56)) = 0 then (ob (x_nextTurn k 0 (upd (upd (upd (fun _ => 0) 1 ((L 1))) 2 ((L 3))) 3 0) σ) (fun r2 => if r2.1 = 0 then (x_seek k 7 L r2.2) else (x_seek k 8 (upd L 100 1) r2.2))) else (x_seek k 7 L σ)
  | k + 1, 7, L, σ => x_seek k 8 (upd L 100 0) σ
  | k + 1, 8, L, σ => x_seek k 1 (upd L 4 ((L 100))) σ
  | k + 1, 9, L, σ => if ((σ.1 56)) ≤ 0 then (x_seek k 10 L σ) else (some ((-1), σ))
  | k + 1, 10, L, σ => if ((L 4)) = 0 then (x_seek k 12 L σ) else (if ¬ (((L 1)) < 0 ∨ 70000 ≤ ((L 1)).toNatClampNeg) then (if ¬ ((0 : Int32) < 0 ∨ 11514 ≤ (0 : Int32).toNatClampNeg) then (x_seek k 11 L (σ.1, σ.2.1, updG σ.2.2 30 (upd (σ.2.2 30) (0 : Int32).toNatClampNeg ((σ.2.2 7 ((L 1)).toNatClampNeg))))) else none) else none)
  | k + 1, 11, L, σ => some ((-1), σ)
  | k + 1, 12, L, σ => ob (x_closeFor k 0 (fun _ => 0) σ) (fun r1 => some ((L 1), r1.2))
  | _ + 1, _ + 13, _, _ => none
def o_x_seek : List Cond := [.fieldLink RX12 395 "SetHouseModel" "st" "[I", .methodLink RX12 877 yX12_nextTurn, .instanceMethod yX12_nextTurn, .selects RX12 yX12_nextTurn yX12_nextTurn, .initialized RX12, .fieldLink RX12 362 "SetHouseModel" "err" "I", .fieldLink RX12 92 "SetHouseModel" "x3" "[I", .fieldLink RX12 89 "SetHouseModel" "x2" "[I", .methodLink RX12 672 yX12_holds, .instanceMethod yX12_holds, .selects RX12 yX12_holds yX12_holds, .methodLink RX12 880 yX12_closeFor, .instanceMethod yX12_closeFor, .selects RX12 yX12_closeFor yX12_closeFor]
theorem o_x_seek_good : o_x_seek.all goodWord = true := by decide +kernel
def p_x_seek : List Cond := o_x_seek ++ ((.code yX12_nextTurn cX12_nextTurn 7 (some .boolean) :: p_x_nextTurn) ++ ((.code yX12_holds cX12_holds 2 (some .boolean) :: p_x_GV) ++ ((.code yX12_closeFor cX12_closeFor 4 none :: p_x_closeFor) ++ [])))
theorem p_x_seek_good : p_x_seek.all goodWord = true := nb_all2 o_x_seek_good (nb_all2 (nb_allc (by decide +kernel) p_x_nextTurn_good) (nb_all2 (nb_allc (by decide +kernel) p_x_GV_good) (nb_all2 (nb_allc (by decide +kernel) p_x_closeFor_good) rfl)))
def w_x_seek : List Cond := .code yX12_seek cX12_seek 6 (some .int) :: (p_x_seek ++ fM)
theorem w_x_seek_good : w_x_seek.all goodWord = true := nb_allc (by decide +kernel) (nb_all2 p_x_seek_good fM_good)
theorem in_x_seek : ∀ w ∈ wsX120, w ∈ w_x_seek := fun _ h => List.mem_cons_of_mem _ (List.mem_append_right _ h)
theorem hd_x_seek : yX12_seek.cls = RX12 ∧ yX12_seek.cls ≠ "java/lang/invoke/MethodHandle" ∧ yX12_seek.cls ≠ "java/lang/invoke/VarHandle" ∧ (parseMethodDescriptor yX12_seek.desc).map (fun d => d.parameters.length) = some 2 := by decide +kernel
theorem gg_x_seek_closeFor : GoodIn w_x_seek w_x_closeFor := goodIn_sub (fun w h => (List.mem_cons.mp h).elim (fun e => (List.mem_cons_of_mem _ (List.mem_append_left _ (List.mem_append_right _ (List.mem_append_right _ (List.mem_append_right _ (List.mem_append_left _ (List.mem_cons.mpr (Or.inl e))))))))) (fun h => (List.mem_append.mp h).elim (fun h => (List.mem_cons_of_mem _ (List.mem_append_left _ (List.mem_append_right _ (List.mem_append_right _ (List.mem_append_right _ (List.mem_append_left _ (List.mem_cons_of_mem _ h)))))))) (fun h => List.mem_cons_of_mem _ (List.mem_append_right _ h)))) w_x_closeFor_good
theorem g_x_seek_closeFor_880 : GoodIn w_x_seek (wsV RX12 880 RX12 yX12_closeFor w_x_closeFor) := goodIn_app (nb_g4 (List.mem_cons_of_mem _ (List.mem_append_left _ (List.mem_append_left _ (List.mem_of_getElem? (i := 11) rfl)))) (List.mem_cons_of_mem _ (List.mem_append_left _ (List.mem_append_left _ (List.mem_of_getElem? (i := 12) rfl)))) (List.mem_cons_of_mem _ (List.mem_append_left _ (List.mem_append_left _ (List.mem_of_getElem? (i := 13) rfl)))) (List.mem_cons_of_mem _ (List.mem_append_left _ (List.mem_append_left _ (List.mem_of_getElem? (i := 4) rfl)))) (by decide +kernel)) gg_x_seek_closeFor
theorem gg_x_seek_holds : GoodIn w_x_seek w_x_holds := goodIn_sub (fun w h => (List.mem_cons.mp h).elim (fun e => (List.mem_cons_of_mem _ (List.mem_append_left _ (List.mem_append_right _ (List.mem_append_right _ (List.mem_append_left _ (List.mem_cons.mpr (Or.inl e)))))))) (fun h => (List.mem_append.mp h).elim (fun h => (List.mem_cons_of_mem _ (List.mem_append_left _ (List.mem_append_right _ (List.mem_append_right _ (List.mem_append_left _ (List.mem_cons_of_mem _ h))))))) (fun h => List.mem_cons_of_mem _ (List.mem_append_right _ h)))) w_x_holds_good
theorem g_x_seek_holds_672 : GoodIn w_x_seek (wsV RX12 672 RX12 yX12_holds w_x_holds) := goodIn_app (nb_g4 (List.mem_cons_of_mem _ (List.mem_append_left _ (List.mem_append_left _ (List.mem_of_getElem? (i := 8) rfl)))) (List.mem_cons_of_mem _ (List.mem_append_left _ (List.mem_append_left _ (List.mem_of_getElem? (i := 9) rfl)))) (List.mem_cons_of_mem _ (List.mem_append_left _ (List.mem_append_left _ (List.mem_of_getElem? (i := 10) rfl)))) (List.mem_cons_of_mem _ (List.mem_append_left _ (List.mem_append_left _ (List.mem_of_getElem? (i := 4) rfl)))) (by decide +kernel)) gg_x_seek_holds
theorem gg_x_seek_nextTurn : GoodIn w_x_seek w_x_nextTurn := goodIn_sub (fun w h => (List.mem_cons.mp h).elim (fun e => (List.mem_cons_of_mem _ (List.mem_append_left _ (List.mem_append_right _ (List.mem_append_left _ (List.mem_cons.mpr (Or.inl e))))))) (fun h => (List.mem_append.mp h).elim (fun h => (List.mem_cons_of_mem _ (List.mem_append_left _ (List.mem_append_right _ (List.mem_append_left _ (List.mem_cons_of_mem _ h)))))) (fun h => List.mem_cons_of_mem _ (List.mem_append_right _ h)))) w_x_nextTurn_good
theorem g_x_seek_nextTurn_877 : GoodIn w_x_seek (wsV RX12 877 RX12 yX12_nextTurn w_x_nextTurn) := goodIn_app (nb_g4 (List.mem_cons_of_mem _ (List.mem_append_left _ (List.mem_append_left _ (List.mem_of_getElem? (i := 1) rfl)))) (List.mem_cons_of_mem _ (List.mem_append_left _ (List.mem_append_left _ (List.mem_of_getElem? (i := 2) rfl)))) (List.mem_cons_of_mem _ (List.mem_append_left _ (List.mem_append_left _ (List.mem_of_getElem? (i := 3) rfl)))) (List.mem_cons_of_mem _ (List.mem_append_left _ (List.mem_append_left _ (List.mem_of_getElem? (i := 4) rfl)))) (by decide +kernel)) gg_x_seek_nextTurn
set_option maxHeartbeats 40000000 in
set_option maxRecDepth 100000 in
theorem c_x_seek (l : Launch) (dC : Nat → ClassId) (dI : Nat → Nat → Nat) (cy : Nat → ClassId) (a : Nat → Nat) (k0 : Nat) (L0 : Nat → Int32) (σ0 : MS) (r0 : Int32 × MS) (h0 : x_seek k0 0 L0 σ0 = some r0) (sz : Nat) : Met l yX12_seek w_x_seek ({ frames := 1360, cells := 0, slots := 0, locals := 36545 }) (va_Pc [.ref (a 0), .int (L0 1), .int (L0 2)] (nIn (dC, dI) cy sz (vM cy a σ0))) (va_Qi (fun (z : Int32) (_ : Unit) => z = r0.1) (fun _ t => nOut (dC, dI) cy (va_A (vM cy a σ0) sz) (vM cy a r0.2) t) (va_A (vM cy a σ0) sz)) 0 0 (va_A (vM cy a σ0) sz) := by
  refine Met.ofW (cc := cX12_seek) (maxL := 6) (ret := (some .int)) (by decide) rfl ?_
  intro p e s m args below meth c s₁ B hml hv
  obtain ⟨rfl, hsz, hP, hK, hD0, hG⟩ := hv
  have hx := B.exec
  have hb := B.bytes
  have hr := B.returns
  have hts := atoms_spec (ws := w_x_seek) B.pre
  have hown : s.vm.findClass RX12 = some m.cls := findClass_of_methodNamed B.named
  have hlocks := B.notSynchronized
  subst hsz
  have hD := hD0.self (sz := s.heap.size)
  generalize hAe : va_A (vM cy a σ0) s.heap.size = A at hD ⊢
  have hA : ∀ q : Nat, s.heap.size ≤ q → A q := fun q h => by rw [← hAe]; exact Or.inr h
  have hS : va_S A s.heap s.heap [] := va_S.rf
  have hl := lv_entry ([.ref (a 0), .int (L0 1), .int (L0 2)]) (n := 6) (Nat.le_of_ble_eq_true rfl)
  rw [lg_entry_eq]
  generalize (lg_sl ([.ref (a 0), .int (L0 1), .int (L0 2)]) ++ List.replicate (6 - (lg_sl ([.ref (a 0), .int (L0 1), .int (L0 2)])).length) Slot.unset).toArray = ls at hl ⊢
  have hl : lv_has ls 6 [(0, .ref (a 0)), (1, .int (L0 1)), (2, .int (L0 2))] := hl
  have blk : ∀ k : Nat, (bT p l e (headSpec w_x_seek ({ frames := 1360, cells := 0, slots := 0, locals := 36545 })).room s m #[.ref (a 0), .int (L0 1), .int (L0 2)] below meth c dC dI cy a A (qI dC dI cy a A below #[.ref (a 0), .int (L0 1), .int (L0 2)] s) 6 (x_seek k 0) (fun L => [(0, .ref (a 0)), (1, .int (L 1)), (2, .int (L 2))]) 0 (fun L => [])) ∧ (bT p l e (headSpec w_x_seek ({ frames := 1360, cells := 0, slots := 0, locals := 36545 })).room s m #[.ref (a 0), .int (L0 1), .int (L0 2)] below meth c dC dI cy a A (qI dC dI cy a A below #[.ref (a 0), .int (L0 1), .int (L0 2)] s) 6 (x_seek k 1) (fun L => [(0, .ref (a 0)), (1, .int (L 1)), (2, .int (L 2)), (3, .int (L 3)), (4, .int (L 4))]) 31 (fun L => [])) ∧ (bT p l e (headSpec w_x_seek ({ frames := 1360, cells := 0, slots := 0, locals := 36545 })).room s m #[.ref (a 0), .int (L0 1), .int (L0 2)] below meth c dC dI cy a A (qI dC dI cy a A below #[.ref (a 0), .int (L0 1), .int (L0 2)] s) 6 (x_seek k 2) (fun L => [(0, .ref (a 0)), (1, .int (L 1)), (2, .int (L 2)), (3, .int (L 3)), (4, .int (L 4))]) 63 (fun L => [])) ∧ (bT p l e (headSpec w_x_seek ({ frames := 1360, cells := 0, slots := 0, locals := 36545 })).room s m #[.ref (a 0), .int (L0 1), .int (L0 2)] below meth c dC dI cy a A (qI dC dI cy a A below #[.ref (a 0), .int (L0 1), .int (L0 2)] s) 6 (x_seek k 3) (fun L => [(0, .ref (a 0)), (1, .int (L 1)), (2, .int (L 2)), (3, .int (L 3)), (4, .int (L 4))]) 86 (fun L => [])) ∧ (bT p l e (headSpec w_x_seek ({ frames := 1360, cells := 0, slots := 0, locals := 36545 })).room s m #[.ref (a 0), .int (L0 1), .int (L0 2)] below meth c dC dI cy a A (qI dC dI cy a A below #[.ref (a 0), .int (L0 1), .int (L0 2)] s) 6 (x_seek k 4) (fun L => [(0, .ref (a 0)), (1, .int (L 1)), (2, .int (L 2)), (3, .int (L 3)), (4, .int (L 4))]) 90 (fun L => [])) ∧ (bT p l e (headSpec w_x_seek ({ frames := 1360, cells := 0, slots := 0, locals := 36545 })).room s m #[.ref (a 0), .int (L0 1), .int (L0 2)] below meth c dC dI cy a A (qI dC dI cy a A below #[.ref (a 0), .int (L0 1), .int (L0 2)] s) 6 (x_seek k 5) (fun L => [(0, .ref (a 0)), (1, .int (L 1)), (2, .int (L 2)), (3, .int (L 3)), (4, .int (L 4))]) 91 (fun L => [.int (L 100)])) ∧ (bT p l e (headSpec w_x_seek ({ frames := 1360, cells := 0, slots := 0, locals := 36545 })).room s m #[.ref (a 0), .int (L0 1), .int (L0 2)] below meth c dC dI cy a A (qI dC dI cy a A below #[.ref (a 0), .int (L0 1), .int (L0 2)] s) 6 (x_seek k 6) (fun L => [(0, .ref (a 0)), (1, .int (L 1)), (2, .int (L 2)), (3, .int (L 3)), (4, .int (L 4)), (5, .int (L 5))]) 111 (fun L => [])) ∧ (bT p l e (headSpec w_x_seek ({ frames := 1360, cells := 0, slots := 0, locals := 36545 })).room s m #[.ref (a 0), .int (L0 1), .int (L0 2)] below meth c dC dI cy a A (qI dC dI cy a A below #[.ref (a 0), .int (L0 1), .int (L0 2)] s) 6 (x_seek k 7) (fun L => [(0, .ref (a 0)), (1, .int (L 1)), (2, .int (L 2)), (3, .int (L 3)), (4, .int (L 4)), (5, .int (L 5))]) 132 (fun L => [])) ∧ (bT p l e (headSpec w_x_seek ({ frames := 1360, cells := 0, slots := 0, locals := 36545 })).room s m #[.ref (a 0), .int (L0 1), .int (L0 2)] below meth c dC dI cy a A (qI dC dI cy a A below #[.ref (a 0), .int (L0 1), .int (L0 2)] s) 6 (x_seek k 8) (fun L => [(0, .ref (a 0)), (1, .int (L 1)), (2, .int (L 2)), (3, .int (L 3)), (4, .int (L 4)), (5, .int (L 5))]) 133 (fun L => [.int (L 100)])) ∧ (bT p l e (headSpec w_x_seek ({ frames := 1360, cells := 0, slots := 0, locals := 36545 })).room s m #[.ref (a 0), .int (L0 1), .int (L0 2)] below meth c dC dI cy a A (qI dC dI cy a A below #[.ref (a 0), .int (L0 1), .int (L0 2)] s) 6 (x_seek k 9) (fun L => [(0, .ref (a 0)), (1, .int (L 1)), (2, .int (L 2)), (3, .int (L 3)), (4, .int (L 4))]) 138 (fun L => [])) ∧ (bT p l e (headSpec w_x_seek ({ frames := 1360, cells := 0, slots := 0, locals := 36545 })).room s m #[.ref (a 0), .int (L0 1), .int (L0 2)] below meth c dC dI cy a A (qI dC dI cy a A below #[.ref (a 0), .int (L0 1), .int (L0 2)] s) 6 (x_seek k 10) (fun L => [(0, .ref (a 0)), (1, .int (L 1)), (2, .int (L 2)), (3, .int (L 3)), (4, .int (L 4))]) 147 (fun L => [])) ∧ (bT p l e (headSpec w_x_seek ({ frames := 1360, cells := 0, slots := 0, locals := 36545 })).room s m #[.ref (a 0), .int (L0 1), .int (L0 2)] below meth c dC dI cy a A (qI dC dI cy a A below #[.ref (a 0), .int (L0 1), .int (L0 2)] s) 6 (x_seek k 11) (fun L => [(0, .ref (a 0)), (1, .int (L 1)), (2, .int (L 2)), (3, .int (L 3)), (4, .int (L 4))]) 164 (fun L => [])) ∧ (bT p l e (headSpec w_x_seek ({ frames := 1360, cells := 0, slots := 0, locals := 36545 })).room s m #[.ref (a 0), .int (L0 1), .int (L0 2)] below meth c dC dI cy a A (qI dC dI cy a A below #[.ref (a 0), .int (L0 1), .int (L0 2)] s) 6 (x_seek k 12) (fun L => [(0, .ref (a 0)), (1, .int (L 1)), (2, .int (L 2)), (3, .int (L 3)), (4, .int (L 4))]) 166 (fun L => [])) := by
    intro k
    induction k with
    | zero => exact ⟨fun L σ r h => (by cases h), fun L σ r h => (by cases h), fun L σ r h => (by cases h), fun L σ r h => (by cases h), fun L σ r h => (by cases h), fun L σ r h => (by cases h), fun L σ r h => (by cases h), fun L σ r h => (by cases h), fun L σ r h => (by cases h), fun L σ r h => (by cases h), fun L σ r h => (by cases h), fun L σ r h => (by cases h), fun L σ r h => (by cases h)⟩
    | succ k ih =>
      refine ⟨?_, ?_, ?_, ?_, ?_, ?_, ?_, ?_, ?_, ?_, ?_, ?_, ?_⟩
      · intro L σ r h H locs ls hP hD hS hl
        rw [x_seek] at h
        refine lv_aload_n hx hb dX12_seek_0 rfl (lv_at hl 0 rfl) ?_
        refine ng_60 hx hb hts in_x_seek hown hK hP (hts _ (List.mem_cons_of_mem _ (List.mem_append_left _ (List.mem_append_left _ (List.mem_of_getElem? (i := 0) rfl))))) dX12_seek_1 ?_
        refine lv_sipush (v := 3214) hx hb dX12_seek_4 (by decide) ?_
        refine lv_iconst (v := 2) hx hb dX12_seek_7 (by decide) ?_
        refine lv_aload_n hx hb dX12_seek_8 rfl (lv_at hl 0 rfl) ?_
        refine ng_60 hx hb hts in_x_seek hown hK hP (hts _ (List.mem_cons_of_mem _ (List.mem_append_left _ (List.mem_append_left _ (List.mem_of_getElem? (i := 0) rfl))))) dX12_seek_9 ?_
        refine lv_iconst (v := 2) hx hb dX12_seek_12 (by decide) ?_
        obtain ⟨q1, h⟩ := nb_ite1 h
        refine nl_30 hx hb hK hP q1 dX12_seek_13 ?_
        refine lv_iconst (v := 1) hx hb dX12_seek_14 (by decide) ?_
        refine lv_isub hx hb dX12_seek_15 ?_
        refine lv_imul hx hb dX12_seek_16 ?_
        refine lv_iadd hx hb dX12_seek_17 ?_
        refine lv_iconst (v := 1) hx hb dX12_seek_18 (by decide) ?_
        refine lv_iadd hx hb dX12_seek_19 ?_
        obtain ⟨q2, h⟩ := nb_ite1 h
        refine nl_30 hx hb hK hP q2 dX12_seek_20 ?_
        refine lv_istore_n (lv' := [(3, .int (σ.2.2 30 ((((3214 + ((2 * ((((σ.2.2 30 (2 : Int32).toNatClampNeg)) - 1)))))) + 1)).toNatClampNeg)), (0, .ref (a 0)), (1, .int (L 1)), (2, .int (L 2))]) hx hb dX12_seek_21 rfl hl (by decide) rfl (fun ls hl => ?_)
        refine lv_aload_n hx hb dX12_seek_22 rfl (lv_at hl 1 rfl) ?_
        refine lv_iload_n hx hb dX12_seek_23 rfl (lv_at hl 2 rfl) ?_
        refine lv_iload_n hx hb dX12_seek_24 rfl (lv_at hl 0 rfl) ?_
        refine lv_iload_n hx hb dX12_seek_25 rfl (lv_at hl 3 rfl) ?_
        obtain ⟨r3, hc3, h⟩ := ob_ex h
        refine nc_Vi (As := [.int (L 1), .int (σ.2.2 30 ((((3214 + ((2 * ((((σ.2.2 30 (2 : Int32).toNatClampNeg)) - 1)))))) + 1)).toNatClampNeg), .int (L 2)]) (rest := []) ⟨hx, hb, hml, hown, hts⟩ (c_x_nextTurn l dC dI cy a k (upd (upd (upd (fun _ => 0) 1 ((L 1))) 2 ((σ.2.2 30 ((((3214 + ((2 * ((((σ.2.2 30 (2 : Int32).toNatClampNeg)) - 1)))))) + 1)).toNatClampNeg))) 3 ((L 2))) σ r3 hc3 H.size) (cwV 3 hts g_x_seek_nextTurn_877 rfl rfl rfl hd_x_nextTurn ⟨Nat.le_of_ble_eq_true rfl, Nat.le_of_ble_eq_true rfl⟩) hK hG hA hP hD hS rfl hl.1 rfl (Nat.le_of_ble_eq_true rfl) dX12_seek_26 ⟨Nat.le_refl _, Nat.le_refl _⟩ (fun H locs hP hD hS => ?_)
        refine lv_istore (lv' := [(4, .int r3.1), (3, .int (σ.2.2 30 ((((3214 + ((2 * ((((σ.2.2 30 (2 : Int32).toNatClampNeg)) - 1)))))) + 1)).toNatClampNeg)), (0, .ref (a 0)), (1, .int (L 1)), (2, .int (L 2))]) hx hb dX12_seek_29 hl (by decide) rfl (fun ls hl => ?_)
        exact ih.2.1 (upd (upd L 3 ((σ.2.2 30 ((((3214 + ((2 * ((((σ.2.2 30 (2 : Int32).toNatClampNeg)) - 1)))))) + 1)).toNatClampNeg))) 4 r3.1) r3.2 r h H locs ls hP hD hS (lv_sub hl [2, 3, 4, 1, 0] rfl)
      · intro L σ r h H locs ls hP hD hS hl
        rw [x_seek] at h
        refine lv_iload hx hb dX12_seek_31 (lv_at hl 4 rfl) ?_
        refine lv_if_eq (tgt := 138) hx hb dX12_seek_33 (by decide) (fun c1 => ?_) (fun c1 => ?_)
        · rw [if_pos c1] at h
          exact ih.2.2.2.2.2.2.2.2.2.1 L σ r h H locs ls hP hD hS (lv_sub hl [0, 1, 2, 3, 4] rfl)
        · rw [if_neg c1] at h
          refine lv_aload_n hx hb dX12_seek_36 rfl (lv_at hl 0 rfl) ?_
          refine ng_56 hx hb hts in_x_seek hown hK hP (hts _ (List.mem_cons_of_mem _ (List.mem_append_left _ (List.mem_append_left _ (List.mem_of_getElem? (i := 5) rfl))))) dX12_seek_37 ?_
          refine lv_if_ne (tgt := 138) hx hb dX12_seek_40 (by decide) (fun c2 => ?_) (fun c2 => ?_)
          · rw [if_neg c2] at h
            exact ih.2.2.2.2.2.2.2.2.2.1 L σ r h H locs ls hP hD hS (lv_sub hl [0, 1, 2, 3, 4] rfl)
          · rw [if_pos c2] at h
            refine lv_aload_n hx hb dX12_seek_43 rfl (lv_at hl 0 rfl) ?_
            refine ng_17 hx hb hts in_x_seek hown hK hP (hts _ (List.mem_cons_of_mem _ (List.mem_append_left _ (List.mem_append_left _ (List.mem_of_getElem? (i := 6) rfl))))) dX12_seek_44 ?_
            refine lv_iload_n hx hb dX12_seek_47 rfl (lv_at hl 1 rfl) ?_
            obtain ⟨q3, h⟩ := nb_ite1 h
            refine nl_7 hx hb hK hP q3 dX12_seek_48 ?_
            refine lv_iconst (v := (-1)) hx hb dX12_seek_49 (by decide) ?_
            refine lv_icmp_eq (tgt := 63) hx hb dX12_seek_50 (by decide) (fun c4 => ?_) (fun c4 => ?_)
            · rw [if_pos c4] at h
              exact ih.2.2.1 L σ r h H locs ls hP hD hS (lv_sub hl [0, 1, 2, 3, 4] rfl)
            · rw [if_neg c4] at h
              refine lv_aload_n hx hb dX12_seek_53 rfl (lv_at hl 0 rfl) ?_
              refine ng_16 hx hb hts in_x_seek hown hK hP (hts _ (List.mem_cons_of_mem _ (List.mem_append_left _ (List.mem_append_left _ (List.mem_of_getElem? (i := 7) rfl))))) dX12_seek_54 ?_
              refine lv_iload_n hx hb dX12_seek_57 rfl (lv_at hl 1 rfl) ?_
              obtain ⟨q5, h⟩ := nb_ite1 h
              refine nl_6 hx hb hK hP q5 dX12_seek_58 ?_
              refine lv_iconst (v := (-1)) hx hb dX12_seek_59 (by decide) ?_
              refine lv_icmp_eq (tgt := 138) hx hb dX12_seek_60 (by decide) (fun c6 => ?_) (fun c6 => ?_)
              · rw [if_pos c6] at h
                exact ih.2.2.2.2.2.2.2.2.2.1 L σ r h H locs ls hP hD hS (lv_sub hl [0, 1, 2, 3, 4] rfl)
              · rw [if_neg c6] at h
                exact ih.2.2.1 L σ r h H locs ls hP hD hS (lv_sub hl [0, 1, 2, 3, 4] rfl)
      · intro L σ r h H locs ls hP hD hS hl
        rw [x_seek] at h
        refine lv_aload_n hx hb dX12_seek_63 rfl (lv_at hl 0 rfl) ?_
        refine ng_16 hx hb hts in_x_seek hown hK hP (hts _ (List.mem_cons_of_mem _ (List.mem_append_left _ (List.mem_append_left _ (List.mem_of_getElem? (i := 7) rfl))))) dX12_seek_64 ?_
        refine lv_iload_n hx hb dX12_seek_67 rfl (lv_at hl 1 rfl) ?_
        obtain ⟨q1, h⟩ := nb_ite1 h
        refine nl_6 hx hb hK hP q1 dX12_seek_68 ?_
        refine lv_iconst (v := (-1)) hx hb dX12_seek_69 (by decide) ?_
        refine lv_icmp_eq (tgt := 86) hx hb dX12_seek_70 (by decide) (fun c2 => ?_) (fun c2 => ?_)
        · rw [if_pos c2] at h
          exact ih.2.2.2.1 L σ r h H locs ls hP hD hS (lv_sub hl [0, 1, 2, 3, 4] rfl)
        · rw [if_neg c2] at h
          refine lv_aload_n hx hb dX12_seek_73 rfl (lv_at hl 0 rfl) ?_
          refine lv_aload_n hx hb dX12_seek_74 rfl (lv_at hl 0 rfl) ?_
          refine ng_16 hx hb hts in_x_seek hown hK hP (hts _ (List.mem_cons_of_mem _ (List.mem_append_left _ (List.mem_append_left _ (List.mem_of_getElem? (i := 7) rfl))))) dX12_seek_75 ?_
          refine lv_iload_n hx hb dX12_seek_78 rfl (lv_at hl 1 rfl) ?_
          obtain ⟨q3, h⟩ := nb_ite1 h
          refine nl_6 hx hb hK hP q3 dX12_seek_79 ?_
          obtain ⟨r4, hc4, h⟩ := ob_ex h
          refine nc_Vi (As := [.int (σ.2.2 6 ((L 1)).toNatClampNeg)]) (rest := []) ⟨hx, hb, hml, hown, hts⟩ (c_x_holds l dC dI cy a k (upd (fun _ => 0) 1 ((σ.2.2 6 ((L 1)).toNatClampNeg))) σ r4 hc4 H.size) (cwV 1 hts g_x_seek_holds_672 rfl rfl rfl hd_x_holds ⟨Nat.le_of_ble_eq_true rfl, Nat.le_of_ble_eq_true rfl⟩) hK hG hA hP hD hS rfl hl.1 rfl (Nat.le_of_ble_eq_true rfl) dX12_seek_80 ⟨Nat.le_refl _, Nat.le_refl _⟩ (fun H locs hP hD hS => ?_)
          refine lv_if_eq (tgt := 90) hx hb dX12_seek_83 (by decide) (fun c5 => ?_) (fun c5 => ?_)
          · rw [if_pos c5] at h
            exact ih.2.2.2.2.1 L r4.2 r h H locs ls hP hD hS (lv_sub hl [0, 1, 2, 3, 4] rfl)
          · rw [if_neg c5] at h
            exact ih.2.2.2.1 L r4.2 r h H locs ls hP hD hS (lv_sub hl [0, 1, 2, 3, 4] rfl)
      · intro L σ r h H locs ls hP hD hS hl
        rw [x_seek] at h
        refine lv_iconst (v := 1) hx hb dX12_seek_86 (by decide) ?_
        refine lv_goto (tgt := 91) hx hb dX12_seek_87 (by decide) ?_
        exact ih.2.2.2.2.2.1 (upd L 100 1) σ r h H locs ls hP hD hS (lv_sub hl [0, 1, 2, 3, 4] rfl)
      · intro L σ r h H locs ls hP hD hS hl
        rw [x_seek] at h
        refine lv_iconst (v := 0) hx hb dX12_seek_90 (by decide) ?_
        exact ih.2.2.2.2.2.1 (upd L 100 0) σ r h H locs ls hP hD hS (lv_sub hl [0, 1, 2, 3, 4] rfl)
      · intro L σ r h H locs ls hP hD hS hl
        rw [x_seek] at h
        refine lv_istore (lv' := [(5, .int (L 100)), (0, .ref (a 0)), (1, .int (L 1)), (2, .int (L 2)), (3, .int (L 3)), (4, .int (L 4))]) hx hb dX12_seek_91 hl (by decide) rfl (fun ls hl => ?_)
        refine lv_iload hx hb dX12_seek_93 (lv_at hl 0 rfl) ?_
        refine lv_if_eq (tgt := 111) hx hb dX12_seek_95 (by decide) (fun c1 => ?_) (fun c1 => ?_)
        · rw [if_pos c1] at h
          exact ih.2.2.2.2.2.2.1 (upd L 5 ((L 100))) σ r h H locs ls hP hD hS (lv_sub hl [1, 2, 3, 4, 5, 0] rfl)
        · rw [if_neg c1] at h
          refine lv_aload_n hx hb dX12_seek_98 rfl (lv_at hl 1 rfl) ?_
          refine ng_17 hx hb hts in_x_seek hown hK hP (hts _ (List.mem_cons_of_mem _ (List.mem_append_left _ (List.mem_append_left _ (List.mem_of_getElem? (i := 6) rfl))))) dX12_seek_99 ?_
          refine lv_iload_n hx hb dX12_seek_102 rfl (lv_at hl 2 rfl) ?_
          obtain ⟨q2, h⟩ := nb_ite1 h
          refine nl_7 hx hb hK hP q2 dX12_seek_103 ?_
          refine lv_iconst (v := (-1)) hx hb dX12_seek_104 (by decide) ?_
          refine lv_icmp_eq (tgt := 111) hx hb dX12_seek_105 (by decide) (fun c3 => ?_) (fun c3 => ?_)
          · rw [if_pos c3] at h
            exact ih.2.2.2.2.2.2.1 (upd L 5 ((L 100))) σ r h H locs ls hP hD hS (lv_sub hl [1, 2, 3, 4, 5, 0] rfl)
          · rw [if_neg c3] at h
            refine lv_goto (tgt := 138) hx hb dX12_seek_108 (by decide) ?_
            exact ih.2.2.2.2.2.2.2.2.2.1 (upd L 5 ((L 100))) σ r h H locs ls hP hD hS (lv_sub hl [1, 2, 3, 4, 5] rfl)
      · intro L σ r h H locs ls hP hD hS hl
        rw [x_seek] at h
        refine lv_aload_n hx hb dX12_seek_111 rfl (lv_at hl 0 rfl) ?_
        refine ng_56 hx hb hts in_x_seek hown hK hP (hts _ (List.mem_cons_of_mem _ (List.mem_append_left _ (List.mem_append_left _ (List.mem_of_getElem? (i := 5) rfl))))) dX12_seek_112 ?_
        refine lv_if_ne (tgt := 132) hx hb dX12_seek_115 (by decide) (fun c1 => ?_) (fun c1 => ?_)
        · rw [if_neg c1] at h
          exact ih.2.2.2.2.2.2.2.1 L σ r h H locs ls hP hD hS (lv_sub hl [0, 1, 2, 3, 4, 5] rfl)
        · rw [if_pos c1] at h
          refine lv_aload_n hx hb dX12_seek_118 rfl (lv_at hl 0 rfl) ?_
          refine lv_iload_n hx hb dX12_seek_119 rfl (lv_at hl 1 rfl) ?_
          refine lv_iload_n hx hb dX12_seek_120 rfl (lv_at hl 3 rfl) ?_
          refine lv_iconst (v := 0) hx hb dX12_seek_121 (by decide) ?_
          obtain ⟨r2, hc2, h⟩ := ob_ex h
          refine nc_Vi (As := [.int (L 1), .int (L 3), .int 0]) (rest := []) ⟨hx, hb, hml, hown, hts⟩ (c_x_nextTurn l dC dI cy a k (upd (upd (upd (fun _ => 0) 1 ((L 1))) 2 ((L 3))) 3 0) σ r2 hc2 H.size) (cwV 3 hts g_x_seek_nextTurn_877 rfl rfl rfl hd_x_nextTurn ⟨Nat.le_of_ble_eq_true rfl, Nat.le_of_ble_eq_true rfl⟩) hK hG hA hP hD hS rfl hl.1 rfl (Nat.le_of_ble_eq_true rfl) dX12_seek_122 ⟨Nat.le_refl _, Nat.le_refl _⟩ (fun H locs hP hD hS => ?_)
          refine lv_if_eq (tgt := 132) hx hb dX12_seek_125 (by decide) (fun c3 => ?_) (fun c3 => ?_)
          · rw [if_pos c3] at h
            exact ih.2.2.2.2.2.2.2.1 L r2.2 r h H locs ls hP hD hS (lv_sub hl [0, 1, 2, 3, 4, 5] rfl)
          · rw [if_neg c3] at h
            refine lv_iconst (v := 1) hx hb dX12_seek_128 (by decide) ?_
            refine lv_goto (tgt := 133) hx hb dX12_seek_129 (by decide) ?_
            exact ih.2.2.2.2.2.2.2.2.1 (upd L 100 1) r2.2 r h H locs ls hP hD hS (lv_sub hl [0, 1, 2, 3, 4, 5] rfl)
      · intro L σ r h H locs ls hP hD hS hl
        rw [x_seek] at h
        refine lv_iconst (v := 0) hx hb dX12_seek_132 (by decide) ?_
        exact ih.2.2.2.2.2.2.2.2.1 (upd L 100 0) σ r h H locs ls hP hD hS (lv_sub hl [0, 1, 2, 3, 4, 5] rfl)
      · intro L σ r h H locs ls hP hD hS hl
        rw [x_seek] at h
        refine lv_istore (lv' := [(4, .int (L 100)), (0, .ref (a 0)), (1, .int (L 1)), (2, .int (L 2)), (3, .int (L 3)), (5, .int (L 5))]) hx hb dX12_seek_133 hl (by decide) rfl (fun ls hl => ?_)
        refine lv_goto (tgt := 31) hx hb dX12_seek_135 (by decide) ?_
        exact ih.2.1 (upd L 4 ((L 100))) σ r h H locs ls hP hD hS (lv_sub hl [1, 2, 3, 4, 0] rfl)
      · intro L σ r h H locs ls hP hD hS hl
        rw [x_seek] at h
        refine lv_aload_n hx hb dX12_seek_138 rfl (lv_at hl 0 rfl) ?_
        refine ng_56 hx hb hts in_x_seek hown hK hP (hts _ (List.mem_cons_of_mem _ (List.mem_append_left _ (List.mem_append_left _ (List.mem_of_getElem? (i := 5) rfl))))) dX12_seek_139 ?_
        refine lv_if_le (tgt := 147) hx hb dX12_seek_142 (by decide) (fun c1 => ?_) (fun c1 => ?_)
        · rw [if_pos c1] at h
          exact ih.2.2.2.2.2.2.2.2.2.2.1 L σ r h H locs ls hP hD hS (lv_sub hl [0, 1, 2, 3, 4] rfl)
        · rw [if_neg c1] at h
          refine lv_iconst (v := (-1)) hx hb dX12_seek_145 (by decide) ?_
          cases h
          exact W.iret (v := (-1)) hx hb hr (fun t ht hW => ⟨⟨(-1), (), rfl, rfl, by rw [ht]; exact hP, va_K.moved hW.alike hK, hD⟩, hS.F ht⟩) hS.2.2 dX12_seek_146
      · intro L σ r h H locs ls hP hD hS hl
        rw [x_seek] at h
        refine lv_iload hx hb dX12_seek_147 (lv_at hl 4 rfl) ?_
        refine lv_if_eq (tgt := 166) hx hb dX12_seek_149 (by decide) (fun c1 => ?_) (fun c1 => ?_)
        · rw [if_pos c1] at h
          exact ih.2.2.2.2.2.2.2.2.2.2.2.2 L σ r h H locs ls hP hD hS (lv_sub hl [0, 1, 2, 3, 4] rfl)
        · rw [if_neg c1] at h
          refine lv_aload_n hx hb dX12_seek_152 rfl (lv_at hl 0 rfl) ?_
          refine ng_60 hx hb hts in_x_seek hown hK hP (hts _ (List.mem_cons_of_mem _ (List.mem_append_left _ (List.mem_append_left _ (List.mem_of_getElem? (i := 0) rfl))))) dX12_seek_153 ?_
          refine lv_iconst (v := 0) hx hb dX12_seek_156 (by decide) ?_
          refine lv_aload_n hx hb dX12_seek_157 rfl (lv_at hl 0 rfl) ?_
          refine ng_17 hx hb hts in_x_seek hown hK hP (hts _ (List.mem_cons_of_mem _ (List.mem_append_left _ (List.mem_append_left _ (List.mem_of_getElem? (i := 6) rfl))))) dX12_seek_158 ?_
          refine lv_iload_n hx hb dX12_seek_161 rfl (lv_at hl 1 rfl) ?_
          obtain ⟨q2, h⟩ := nb_ite1 h
          refine nl_7 hx hb hK hP q2 dX12_seek_162 ?_
          obtain ⟨q3, h⟩ := nb_ite1 h
          refine ns_30 hx hb hK hP hD hS q3 dX12_seek_163 (fun H locs hP hD hS => ?_)
          exact ih.2.2.2.2.2.2.2.2.2.2.2.1 L (σ.1, σ.2.1, updG σ.2.2 30 (upd (σ.2.2 30) (0 : Int32).toNatClampNeg ((σ.2.2 7 ((L 1)).toNatClampNeg)))) r h H locs ls hP hD hS (lv_sub hl [0, 1, 2, 3, 4] rfl)
      · intro L σ r h H locs ls hP hD hS hl
        rw [x_seek] at h
        refine lv_iconst (v := (-1)) hx hb dX12_seek_164 (by decide) ?_
        cases h
        exact W.iret (v := (-1)) hx hb hr (fun t ht hW => ⟨⟨(-1), (), rfl, rfl, by rw [ht]; exact hP, va_K.moved hW.alike hK, hD⟩, hS.F ht⟩) hS.2.2 dX12_seek_165
      · intro L σ r h H locs ls hP hD hS hl
        rw [x_seek] at h
        refine lv_aload_n hx hb dX12_seek_166 rfl (lv_at hl 0 rfl) ?_
        obtain ⟨r1, hc1, h⟩ := ob_ex h
        refine nc_Vv (As := []) (rest := []) ⟨hx, hb, hml, hown, hts⟩ (c_x_closeFor l dC dI cy a k (fun _ => 0) σ r1 hc1 H.size) (cwV 0 hts g_x_seek_closeFor_880 rfl rfl rfl hd_x_closeFor ⟨Nat.le_of_ble_eq_true rfl, Nat.le_of_ble_eq_true rfl⟩) hK hG hA hP hD hS rfl hl.1 rfl (Nat.le_of_ble_eq_true rfl) dX12_seek_167 ⟨Nat.le_refl _, Nat.le_refl _⟩ (fun H locs hP hD hS => ?_)
        refine lv_iload_n hx hb dX12_seek_170 rfl (lv_at hl 1 rfl) ?_
        cases h
        exact W.iret (v := (L 1)) hx hb hr (fun t ht hW => ⟨⟨(L 1), (), rfl, rfl, by rw [ht]; exact hP, va_K.moved hW.alike hK, hD⟩, hS.F ht⟩) hS.2.2 dX12_seek_171
  exact (blk k0).1 L0 σ0 r0 h0 s.heap [] ls hP hD hS hl
/-! done -/
def x_done : Nat → Nat → (Nat → Int32) → MS → Option (Int32 × MS)
  | 0, _, _, _ => none
  | k + 1, 0, L, σ => if ((σ.1 56)) ≤ 0 then (x_done k 1 L σ) else (some ((-1), σ))
  | k + 1, 1, L, σ => if ((L 1)) = ((-1)) then (if ¬ ((1 : Int32) < 0 ∨ 11514 ≤ (1 : Int32).toNatClampNeg) then (if ((σ.2.2 30 (1 : Int32).toNatClampNeg)) ≤ 0 then (x_done k 2 L σ) else (ob (x_giveBack k 0 (upd (fun _ => 0) 1 0) σ) (fun r4 => some (r4.1, r4.2)))) else none) else (x_done k 4 L σ)
  | k + 1, 2, L, σ => x_done k 3 L (upd σ.1 102 1, σ.2.1, σ.2.2)
  | k + 1, 3, L, σ => some ((-1), σ)
  | k + 1, 4, L, σ => if ¬ (((L 1)) < 0 ∨ 70000 ≤ ((L 1)).toNatClampNeg) then (if ((σ.2.2 4 ((L 1)).toNatClampNeg)) = 47 then (if ¬ ((0 : Int32) < 0 ∨ 11514 ≤ (0 : Int32).toNatClampNeg) then (x_done k 5 L (σ.1, σ.2.1, updG σ.2.2 30 (upd (σ.2.2 30) (0 : Int32).toNatClampNeg ((L 1))))) else none) else (x_done k 6 L σ)) else none
  | k + 1, 5, L, σ => some ((-1), σ)
  | k + 1, 6, L, σ => if ¬ (((L 1)) < 0 ∨ 70000 ≤ ((L 1)).toNatClampNeg) then (if ((σ.2.2 4 ((L 1)).toNatClampNeg)) = 48 then (ob (x_seek k 0 (upd (upd (fun _ => 0) 1 ((L 1))) 2 0) σ) (fun r3 => x_done k 8 (upd L 100 r3.1) r3.2)) else (x_done k 7 L σ)) else none
  | k + 1, 7, L, σ => x_done k 8 (upd L 100 ((L 1))) σ
  | k + 1, 8, L, σ => some ((L 100), σ)
  | _ + 1, _ + 9, _, _ => none
def o_x_done : List Cond := [.fieldLink RX12 362 "SetHouseModel" "err" "I", .fieldLink RX12 395 "SetHouseModel" "st" "[I", .methodLink RX12 865 yX12_giveBack, .instanceMethod yX12_giveBack, .selects RX12 yX12_giveBack yX12_giveBack, .initialized RX12, .fieldLink RX12 868 "SetHouseModel" "ended" "Z", .fieldLink RX12 83 "SetHouseModel" "op" "[I", .methodLink RX12 871 yX12_seek, .instanceMethod yX12_seek, .selects RX12 yX12_seek yX12_seek]
theorem o_x_done_good : o_x_done.all goodWord = true := by decide +kernel
def p_x_done : List Cond := o_x_done ++ ((.code yX12_giveBack cX12_giveBack 8 (some .int) :: p_x_giveBack) ++ ((.code yX12_seek cX12_seek 6 (some .int) :: p_x_seek) ++ []))
theorem p_x_done_good : p_x_done.all goodWord = true := nb_all2 o_x_done_good (nb_all2 (nb_allc (by decide +kernel) p_x_giveBack_good) (nb_all2 (nb_allc (by decide +kernel) p_x_seek_good) rfl))
def w_x_done : List Cond := .code yX12_done cX12_done 2 (some .int) :: (p_x_done ++ fM)
theorem w_x_done_good : w_x_done.all goodWord = true := nb_allc (by decide +kernel) (nb_all2 p_x_done_good fM_good)
theorem in_x_done : ∀ w ∈ wsX120, w ∈ w_x_done := fun _ h => List.mem_cons_of_mem _ (List.mem_append_right _ h)
theorem hd_x_done : yX12_done.cls = RX12 ∧ yX12_done.cls ≠ "java/lang/invoke/MethodHandle" ∧ yX12_done.cls ≠ "java/lang/invoke/VarHandle" ∧ (parseMethodDescriptor yX12_done.desc).map (fun d => d.parameters.length) = some 1 := by decide +kernel
theorem gg_x_done_giveBack : GoodIn w_x_done w_x_giveBack := goodIn_sub (fun w h => (List.mem_cons.mp h).elim (fun e => (List.mem_cons_of_mem _ (List.mem_append_left _ (List.mem_append_right _ (List.mem_append_left _ (List.mem_cons.mpr (Or.inl e))))))) (fun h => (List.mem_append.mp h).elim (fun h => (List.mem_cons_of_mem _ (List.mem_append_left _ (List.mem_append_right _ (List.mem_append_left _ (List.mem_cons_of_mem _ h)))))) (fun h => List.mem_cons_of_mem _ (List.mem_append_right _ h)))) w_x_giveBack_good
theorem g_x_done_giveBack_865 : GoodIn w_x_done (wsV RX12 865 RX12 yX12_giveBack w_x_giveBack) := goodIn_app (nb_g4 (List.mem_cons_of_mem _ (List.mem_append_left _ (List.mem_append_left _ (List.mem_of_getElem? (i := 2) rfl)))) (List.mem_cons_of_mem _ (List.mem_append_left _ (List.mem_append_left _ (List.mem_of_getElem? (i := 3) rfl)))) (List.mem_cons_of_mem _ (List.mem_append_left _ (List.mem_append_left _ (List.mem_of_getElem? (i := 4) rfl)))) (List.mem_cons_of_mem _ (List.mem_append_left _ (List.mem_append_left _ (List.mem_of_getElem? (i := 5) rfl)))) (by decide +kernel)) gg_x_done_giveBack
theorem gg_x_done_seek : GoodIn w_x_done w_x_seek := goodIn_sub (fun w h => (List.mem_cons.mp h).elim (fun e => (List.mem_cons_of_mem _ (List.mem_append_left _ (List.mem_append_right _ (List.mem_append_right _ (List.mem_append_left _ (List.mem_cons.mpr (Or.inl e)))))))) (fun h => (List.mem_append.mp h).elim (fun h => (List.mem_cons_of_mem _ (List.mem_append_left _ (List.mem_append_right _ (List.mem_append_right _ (List.mem_append_left _ (List.mem_cons_of_mem _ h))))))) (fun h => List.mem_cons_of_mem _ (List.mem_append_right _ h)))) w_x_seek_good
theorem g_x_done_seek_871 : GoodIn w_x_done (wsV RX12 871 RX12 yX12_seek w_x_seek) := goodIn_app (nb_g4 (List.mem_cons_of_mem _ (List.mem_append_left _ (List.mem_append_left _ (List.mem_of_getElem? (i := 8) rfl)))) (List.mem_cons_of_mem _ (List.mem_append_left _ (List.mem_append_left _ (List.mem_of_getElem? (i := 9) rfl)))) (List.mem_cons_of_mem _ (List.mem_append_left _ (List.mem_append_left _ (List.mem_of_getElem? (i := 10) rfl)))) (List.mem_cons_of_mem _ (List.mem_append_left _ (List.mem_append_left _ (List.mem_of_getElem? (i := 5) rfl)))) (by decide +kernel)) gg_x_done_seek
set_option maxHeartbeats 40000000 in
set_option maxRecDepth 100000 in
theorem c_x_done (l : Launch) (dC : Nat → ClassId) (dI : Nat → Nat → Nat) (cy : Nat → ClassId) (a : Nat → Nat) (k0 : Nat) (L0 : Nat → Int32) (σ0 : MS) (r0 : Int32 × MS) (h0 : x_done k0 0 L0 σ0 = some r0) (sz : Nat) : Met l yX12_done w_x_done ({ frames := 1361, cells := 0, slots := 0, locals := 36570 }) (va_Pc [.ref (a 0), .int (L0 1)] (nIn (dC, dI) cy sz (vM cy a σ0))) (va_Qi (fun (z : Int32) (_ : Unit) => z = r0.1) (fun _ t => nOut (dC, dI) cy (va_A (vM cy a σ0) sz) (vM cy a r0.2) t) (va_A (vM cy a σ0) sz)) 0 0 (va_A (vM cy a σ0) sz) := by
  refine Met.ofW (cc := cX12_done) (maxL := 2) (ret := (some .int)) (by decide) rfl ?_
  intro p e s m args below meth c s₁ B hml hv
  obtain ⟨rfl, hsz, hP, hK, hD0, hG⟩ := hv
  have hx := B.exec
  have hb := B.bytes
  have hr := B.returns
  have hts := atoms_spec (ws := w_x_done) B.pre
  have hown : s.vm.findClass RX12 = some m.cls := findClass_of_methodNamed B.named
  have hlocks := B.notSynchronized
  subst hsz
  have hD := hD0.self (sz := s.heap.size)
  generalize hAe : va_A (vM cy a σ0) s.heap.size = A at hD ⊢
  have hA : ∀ q : Nat, s.heap.size ≤ q → A q := fun q h => by rw [← hAe]; exact Or.inr h
  have hS : va_S A s.heap s.heap [] := va_S.rf
  have hl := lv_entry ([.ref (a 0), .int (L0 1)]) (n := 2) (Nat.le_of_ble_eq_true rfl)
  rw [lg_entry_eq]
  generalize (lg_sl ([.ref (a 0), .int (L0 1)]) ++ List.replicate (2 - (lg_sl ([.ref (a 0), .int (L0 1)])).length) Slot.unset).toArray = ls at hl ⊢
  have hl : lv_has ls 2 [(0, .ref (a 0)), (1, .int (L0 1))] := hl
  have blk : ∀ k : Nat, (bT p l e (headSpec w_x_done ({ frames := 1361, cells := 0, slots := 0, locals := 36570 })).room s m #[.ref (a 0), .int (L0 1)] below meth c dC dI cy a A (qI dC dI cy a A below #[.ref (a 0), .int (L0 1)] s) 2 (x_done k 0) (fun L => [(0, .ref (a 0)), (1, .int (L 1))]) 0 (fun L => [])) ∧ (bT p l e (headSpec w_x_done ({ frames := 1361, cells := 0, slots := 0, locals := 36570 })).room s m #[.ref (a 0), .int (L0 1)] below meth c dC dI cy a A (qI dC dI cy a A below #[.ref (a 0), .int (L0 1)] s) 2 (x_done k 1) (fun L => [(0, .ref (a 0)), (1, .int (L 1))]) 9 (fun L => [])) ∧ (bT p l e (headSpec w_x_done ({ frames := 1361, cells := 0, slots := 0, locals := 36570 })).room s m #[.ref (a 0), .int (L0 1)] below meth c dC dI cy a A (qI dC dI cy a A below #[.ref (a 0), .int (L0 1)] s) 2 (x_done k 2) (fun L => [(0, .ref (a 0)), (1, .int (L 1))]) 29 (fun L => [])) ∧ (bT p l e (headSpec w_x_done ({ frames := 1361, cells := 0, slots := 0, locals := 36570 })).room s m #[.ref (a 0), .int (L0 1)] below meth c dC dI cy a A (qI dC dI cy a A below #[.ref (a 0), .int (L0 1)] s) 2 (x_done k 3) (fun L => [(0, .ref (a 0)), (1, .int (L 1))]) 34 (fun L => [])) ∧ (bT p l e (headSpec w_x_done ({ frames := 1361, cells := 0, slots := 0, locals := 36570 })).room s m #[.ref (a 0), .int (L0 1)] below meth c dC dI cy a A (qI dC dI cy a A below #[.ref (a 0), .int (L0 1)] s) 2 (x_done k 4) (fun L => [(0, .ref (a 0)), (1, .int (L 1))]) 36 (fun L => [])) ∧ (bT p l e (headSpec w_x_done ({ frames := 1361, cells := 0, slots := 0, locals := 36570 })).room s m #[.ref (a 0), .int (L0 1)] below meth c dC dI cy a A (qI dC dI cy a A below #[.ref (a 0), .int (L0 1)] s) 2 (x_done k 5) (fun L => [(0, .ref (a 0)), (1, .int (L 1))]) 54 (fun L => [])) ∧ (bT p l e (headSpec w_x_done ({ frames := 1361, cells := 0, slots := 0, locals := 36570 })).room s m #[.ref (a 0), .int (L0 1)] below meth c dC dI cy a A (qI dC dI cy a A below #[.ref (a 0), .int (L0 1)] s) 2 (x_done k 6) (fun L => [(0, .ref (a 0)), (1, .int (L 1))]) 56 (fun L => [])) ∧ (bT p l e (headSpec w_x_done ({ frames := 1361, cells := 0, slots := 0, locals := 36570 })).room s m #[.ref (a 0), .int (L0 1)] below meth c dC dI cy a A (qI dC dI cy a A below #[.ref (a 0), .int (L0 1)] s) 2 (x_done k 7) (fun L => [(0, .ref (a 0)), (1, .int (L 1))]) 76 (fun L => [])) ∧ (bT p l e (headSpec w_x_done ({ frames := 1361, cells := 0, slots := 0, locals := 36570 })).room s m #[.ref (a 0), .int (L0 1)] below meth c dC dI cy a A (qI dC dI cy a A below #[.ref (a 0), .int (L0 1)] s) 2 (x_done k 8) (fun L => [(0, .ref (a 0)), (1, .int (L 1))]) 77 (fun L => [.int (L 100)])) := by
    intro k
    induction k with
    | zero => exact ⟨fun L σ r h => (by cases h), fun L σ r h => (by cases h), fun L σ r h => (by cases h), fun L σ r h => (by cases h), fun L σ r h => (by cases h), fun L σ r h => (by cases h), fun L σ r h => (by cases h), fun L σ r h => (by cases h), fun L σ r h => (by cases h)⟩
    | succ k ih =>
      refine ⟨?_, ?_, ?_, ?_, ?_, ?_, ?_, ?_, ?_⟩
      · intro L σ r h H locs ls hP hD hS hl
        rw [x_done] at h
        refine lv_aload_n hx hb dX12_done_0 rfl (lv_at hl 0 rfl) ?_
        refine ng_56 hx hb hts in_x_done hown hK hP (hts _ (List.mem_cons_of_mem _ (List.mem_append_left _ (List.mem_append_left _ (List.mem_of_getElem? (i := 0) rfl))))) dX12_done_1 ?_
        refine lv_if_le (tgt := 9) hx hb dX12_done_4 (by decide) (fun c1 => ?_) (fun c1 => ?_)
        · rw [if_pos c1] at h
          exact ih.2.1 L σ r h H locs ls hP hD hS (lv_sub hl [0, 1] rfl)
        · rw [if_neg c1] at h
          refine lv_iconst (v := (-1)) hx hb dX12_done_7 (by decide) ?_
          cases h
          exact W.iret (v := (-1)) hx hb hr (fun t ht hW => ⟨⟨(-1), (), rfl, rfl, by rw [ht]; exact hP, va_K.moved hW.alike hK, hD⟩, hS.F ht⟩) hS.2.2 dX12_done_8
      · intro L σ r h H locs ls hP hD hS hl
        rw [x_done] at h
        refine lv_iload_n hx hb dX12_done_9 rfl (lv_at hl 1 rfl) ?_
        refine lv_iconst (v := (-1)) hx hb dX12_done_10 (by decide) ?_
        refine lv_icmp_ne (tgt := 36) hx hb dX12_done_11 (by decide) (fun c1 => ?_) (fun c1 => ?_)
        · rw [if_neg c1] at h
          exact ih.2.2.2.2.1 L σ r h H locs ls hP hD hS (lv_sub hl [0, 1] rfl)
        · rw [if_pos c1] at h
          refine lv_aload_n hx hb dX12_done_14 rfl (lv_at hl 0 rfl) ?_
          refine ng_60 hx hb hts in_x_done hown hK hP (hts _ (List.mem_cons_of_mem _ (List.mem_append_left _ (List.mem_append_left _ (List.mem_of_getElem? (i := 1) rfl))))) dX12_done_15 ?_
          refine lv_iconst (v := 1) hx hb dX12_done_18 (by decide) ?_
          obtain ⟨q2, h⟩ := nb_ite1 h
          refine nl_30 hx hb hK hP q2 dX12_done_19 ?_
          refine lv_if_le (tgt := 29) hx hb dX12_done_20 (by decide) (fun c3 => ?_) (fun c3 => ?_)
          · rw [if_pos c3] at h
            exact ih.2.2.1 L σ r h H locs ls hP hD hS (lv_sub hl [0, 1] rfl)
          · rw [if_neg c3] at h
            refine lv_aload_n hx hb dX12_done_23 rfl (lv_at hl 0 rfl) ?_
            refine lv_iconst (v := 0) hx hb dX12_done_24 (by decide) ?_
            obtain ⟨r4, hc4, h⟩ := ob_ex h
            refine nc_Vi (As := [.int 0]) (rest := []) ⟨hx, hb, hml, hown, hts⟩ (c_x_giveBack l dC dI cy a k (upd (fun _ => 0) 1 0) σ r4 hc4 H.size) (cwV 1 hts g_x_done_giveBack_865 rfl rfl rfl hd_x_giveBack ⟨Nat.le_of_ble_eq_true rfl, Nat.le_of_ble_eq_true rfl⟩) hK hG hA hP hD hS rfl hl.1 rfl (Nat.le_of_ble_eq_true rfl) dX12_done_25 ⟨Nat.le_refl _, Nat.le_refl _⟩ (fun H locs hP hD hS => ?_)
            cases h
            exact W.iret (v := r4.1) hx hb hr (fun t ht hW => ⟨⟨r4.1, (), rfl, rfl, by rw [ht]; exact hP, va_K.moved hW.alike hK, hD⟩, hS.F ht⟩) hS.2.2 dX12_done_28
      · intro L σ r h H locs ls hP hD hS hl
        rw [x_done] at h
        refine lv_aload_n hx hb dX12_done_29 rfl (lv_at hl 0 rfl) ?_
        refine lv_iconst (v := 1) hx hb dX12_done_30 (by decide) ?_
        refine np_102 hx hb hts in_x_done hown hK hP hD hS (hts _ (List.mem_cons_of_mem _ (List.mem_append_left _ (List.mem_append_left _ (List.mem_of_getElem? (i := 6) rfl))))) (Or.inr rfl) dX12_done_31 (fun H locs hP hD hS => ?_)
        exact ih.2.2.2.1 L (upd σ.1 102 1, σ.2.1, σ.2.2) r h H locs ls hP hD hS (lv_sub hl [0, 1] rfl)
      · intro L σ r h H locs ls hP hD hS hl
        rw [x_done] at h
        refine lv_iconst (v := (-1)) hx hb dX12_done_34 (by decide) ?_
        cases h
        exact W.iret (v := (-1)) hx hb hr (fun t ht hW => ⟨⟨(-1), (), rfl, rfl, by rw [ht]; exact hP, va_K.moved hW.alike hK, hD⟩, hS.F ht⟩) hS.2.2 dX12_done_35
      · intro L σ r h H locs ls hP hD hS hl
        rw [x_done] at h
        refine lv_aload_n hx hb dX12_done_36 rfl (lv_at hl 0 rfl) ?_
        refine ng_14 hx hb hts in_x_done hown hK hP (hts _ (List.mem_cons_of_mem _ (List.mem_append_left _ (List.mem_append_left _ (List.mem_of_getElem? (i := 7) rfl))))) dX12_done_37 ?_
        refine lv_iload_n hx hb dX12_done_40 rfl (lv_at hl 1 rfl) ?_
        obtain ⟨q1, h⟩ := nb_ite1 h
        refine nl_4 hx hb hK hP q1 dX12_done_41 ?_
        refine lv_bipush (v := 47) hx hb dX12_done_42 (by decide) ?_
        refine lv_icmp_ne (tgt := 56) hx hb dX12_done_44 (by decide) (fun c2 => ?_) (fun c2 => ?_)
        · rw [if_neg c2] at h
          exact ih.2.2.2.2.2.2.1 L σ r h H locs ls hP hD hS (lv_sub hl [0, 1] rfl)
        · rw [if_pos c2] at h
          refine lv_aload_n hx hb dX12_done_47 rfl (lv_at hl 0 rfl) ?_
          refine ng_60 hx hb hts in_x_done hown hK hP (hts _ (List.mem_cons_of_mem _ (List.mem_append_left _ (List.mem_append_left _ (List.mem_of_getElem? (i := 1) rfl))))) dX12_done_48 ?_
          refine lv_iconst (v := 0) hx hb dX12_done_51 (by decide) ?_
          refine lv_iload_n hx hb dX12_done_52 rfl (lv_at hl 1 rfl) ?_
          obtain ⟨q3, h⟩ := nb_ite1 h
          refine ns_30 hx hb hK hP hD hS q3 dX12_done_53 (fun H locs hP hD hS => ?_)
          exact ih.2.2.2.2.2.1 L (σ.1, σ.2.1, updG σ.2.2 30 (upd (σ.2.2 30) (0 : Int32).toNatClampNeg ((L 1)))) r h H locs ls hP hD hS (lv_sub hl [0, 1] rfl)
      · intro L σ r h H locs ls hP hD hS hl
        rw [x_done] at h
        refine lv_iconst (v := (-1)) hx hb dX12_done_54 (by decide) ?_
        cases h
        exact W.iret (v := (-1)) hx hb hr (fun t ht hW => ⟨⟨(-1), (), rfl, rfl, by rw [ht]; exact hP, va_K.moved hW.alike hK, hD⟩, hS.F ht⟩) hS.2.2 dX12_done_55
      · intro L σ r h H locs ls hP hD hS hl
        rw [x_done] at h
        refine lv_aload_n hx hb dX12_done_56 rfl (lv_at hl 0 rfl) ?_
        refine ng_14 hx hb hts in_x_done hown hK hP (hts _ (List.mem_cons_of_mem _ (List.mem_append_left _ (List.mem_append_left _ (List.mem_of_getElem? (i := 7) rfl))))) dX12_done_57 ?_
        refine lv_iload_n hx hb dX12_done_60 rfl (lv_at hl 1 rfl) ?_
        obtain ⟨q1, h⟩ := nb_ite1 h
        refine nl_4 hx hb hK hP q1 dX12_done_61 ?_
        refine lv_bipush (v := 48) hx hb dX12_done_62 (by decide) ?_
        refine lv_icmp_ne (tgt := 76) hx hb dX12_done_64 (by decide) (fun c2 => ?_) (fun c2 => ?_)
        · rw [if_neg c2] at h
          exact ih.2.2.2.2.2.2.2.1 L σ r h H locs ls hP hD hS (lv_sub hl [0, 1] rfl)
        · rw [if_pos c2] at h
          refine lv_aload_n hx hb dX12_done_67 rfl (lv_at hl 0 rfl) ?_
          refine lv_iload_n hx hb dX12_done_68 rfl (lv_at hl 1 rfl) ?_
          refine lv_iconst (v := 0) hx hb dX12_done_69 (by decide) ?_
          obtain ⟨r3, hc3, h⟩ := ob_ex h
          refine nc_Vi (As := [.int (L 1), .int 0]) (rest := []) ⟨hx, hb, hml, hown, hts⟩ (c_x_seek l dC dI cy a k (upd (upd (fun _ => 0) 1 ((L 1))) 2 0) σ r3 hc3 H.size) (cwV 2 hts g_x_done_seek_871 rfl rfl rfl hd_x_seek ⟨Nat.le_of_ble_eq_true rfl, Nat.le_of_ble_eq_true rfl⟩) hK hG hA hP hD hS rfl hl.1 rfl (Nat.le_of_ble_eq_true rfl) dX12_done_70 ⟨Nat.le_refl _, Nat.le_refl _⟩ (fun H locs hP hD hS => ?_)
          refine lv_goto (tgt := 77) hx hb dX12_done_73 (by decide) ?_
          exact ih.2.2.2.2.2.2.2.2 (upd L 100 r3.1) r3.2 r h H locs ls hP hD hS (lv_sub hl [0, 1] rfl)
      · intro L σ r h H locs ls hP hD hS hl
        rw [x_done] at h
        refine lv_iload_n hx hb dX12_done_76 rfl (lv_at hl 1 rfl) ?_
        exact ih.2.2.2.2.2.2.2.2 (upd L 100 ((L 1))) σ r h H locs ls hP hD hS (lv_sub hl [0, 1] rfl)
      · intro L σ r h H locs ls hP hD hS hl
        rw [x_done] at h
        cases h
        exact W.iret (v := (L 100)) hx hb hr (fun t ht hW => ⟨⟨(L 100), (), rfl, rfl, by rw [ht]; exact hP, va_K.moved hW.alike hK, hD⟩, hS.F ht⟩) hS.2.2 dX12_done_77
  exact (blk k0).1 L0 σ0 r0 h0 s.heap [] ls hP hD hS hl
/-! finished -/
def x_finished : Nat → Nat → (Nat → Int32) → MS → Option (Int32 × MS)
  | 0, _, _, _ => none
  | k + 1, 0, L, σ => x_finished k 1 (upd (upd L 2 ((L 1))) 3 1) σ
  | k + 1, 1, L, σ => if ((L 3)) = 0 then (x_finished k 7 L σ) else (ob (x_done k 0 (upd (fun _ => 0) 1 ((L 2))) σ) (fun r2 => if r2.1 = ((-1)) then (x_finished k 2 (upd L 4 r2.1) r2.2) else (x_finished k 3 (upd (upd L 4 r2.1) 100 1) r2.2)))
  | k + 1, 2, L, σ => x_finished k 3 (upd L 100 0) σ
  | k + 1, 3, L, σ => if ((L 100)) = 0 then (x_finished k 5 (upd L 3 ((L 100))) σ) else (if ¬ (((L 4)) < 0 ∨ 70000 ≤ ((L 4)).toNatClampNeg) then (if ((σ.2.2 9 ((L 4)).toNatClampNeg)) = ((-1)) then (x_finished k 5 (upd L 3 ((L 100))) σ) else (if ¬ (((L 4)) < 0 ∨ 70000 ≤ ((L 4)).toNatClampNeg) then (if ¬ ((0 : Int32) < 0 ∨ 11514 ≤ (0 : Int32).toNatClampNeg) then (x_finished k 4 (upd L 3 ((L 100))) (σ.1, σ.2.1, updG σ.2.2 30 (upd (σ.2.2 30) (0 : Int32).toNatClampNeg ((σ.2.2 9 ((L 4)).toNatClampNeg))))) else none) else none)) else none)
  | k + 1, 4, L, σ => x_finished k 6 (upd L 3 0) σ
  | k + 1, 5, L, σ => if ((L 3)) = 0 then (x_finished k 6 L σ) else (if ¬ (((L 4)) < 0 ∨ 70000 ≤ ((L 4)).toNatClampNeg) then (if ¬ (((σ.2.2 8 ((L 4)).toNatClampNeg)) < 0 ∨ 401 ≤ ((σ.2.2 8 ((L 4)).toNatClampNeg)).toNatClampNeg) then (x_finished k 6 (upd L 2 ((σ.2.2 10 ((σ.2.2 8 ((L 4)).toNatClampNeg)).toNatClampNeg))) σ) else none) else none)
  | k + 1, 6, L, σ => x_finished k 1 L σ
  | k + 1, 7, L, σ => some (0, σ)
  | _ + 1, _ + 8, _, _ => none
def o_x_finished : List Cond := [.methodLink RX12 862 yX12_done, .instanceMethod yX12_done, .selects RX12 yX12_done yX12_done, .initialized RX12, .fieldLink RX12 98 "SetHouseModel" "next" "[I", .fieldLink RX12 395 "SetHouseModel" "st" "[I", .fieldLink RX12 291 "SetHouseModel" "up" "[I", .fieldLink RX12 95 "SetHouseModel" "x4" "[I"]
theorem o_x_finished_good : o_x_finished.all goodWord = true := by decide +kernel
def p_x_finished : List Cond := o_x_finished ++ ((.code yX12_done cX12_done 2 (some .int) :: p_x_done) ++ [])
theorem p_x_finished_good : p_x_finished.all goodWord = true := nb_all2 o_x_finished_good (nb_all2 (nb_allc (by decide +kernel) p_x_done_good) rfl)
def w_x_finished : List Cond := .code yX12_finished cX12_finished 5 none :: (p_x_finished ++ fM)
theorem w_x_finished_good : w_x_finished.all goodWord = true := nb_allc (by decide +kernel) (nb_all2 p_x_finished_good fM_good)
theorem in_x_finished : ∀ w ∈ wsX120, w ∈ w_x_finished := fun _ h => List.mem_cons_of_mem _ (List.mem_append_right _ h)
theorem hd_x_finished : yX12_finished.cls = RX12 ∧ yX12_finished.cls ≠ "java/lang/invoke/MethodHandle" ∧ yX12_finished.cls ≠ "java/lang/invoke/VarHandle" ∧ (parseMethodDescriptor yX12_finished.desc).map (fun d => d.parameters.length) = some 1 := by decide +kernel
theorem gg_x_finished_done : GoodIn w_x_finished w_x_done := goodIn_sub (fun w h => (List.mem_cons.mp h).elim (fun e => (List.mem_cons_of_mem _ (List.mem_append_left _ (List.mem_append_right _ (List.mem_append_left _ (List.mem_cons.mpr (Or.inl e))))))) (fun h => (List.mem_append.mp h).elim (fun h => (List.mem_cons_of_mem _ (List.mem_append_left _ (List.mem_append_right _ (List.mem_append_left _ (List.mem_cons_of_mem _ h)))))) (fun h => List.mem_cons_of_mem _ (List.mem_append_right _ h)))) w_x_done_good
theorem g_x_finished_done_862 : GoodIn w_x_finished (wsV RX12 862 RX12 yX12_done w_x_done) := goodIn_app (nb_g4 (List.mem_cons_of_mem _ (List.mem_append_left _ (List.mem_append_left _ (List.mem_of_getElem? (i := 0) rfl)))) (List.mem_cons_of_mem _ (List.mem_append_left _ (List.mem_append_left _ (List.mem_of_getElem? (i := 1) rfl)))) (List.mem_cons_of_mem _ (List.mem_append_left _ (List.mem_append_left _ (List.mem_of_getElem? (i := 2) rfl)))) (List.mem_cons_of_mem _ (List.mem_append_left _ (List.mem_append_left _ (List.mem_of_getElem? (i := 3) rfl)))) (by decide +kernel)) gg_x_finished_done
set_option maxHeartbeats 40000000 in
set_option maxRecDepth 100000 in
theorem c_x_finished (l : Launch) (dC : Nat → ClassId) (dI : Nat → Nat → Nat) (cy : Nat → ClassId) (a : Nat → Nat) (k0 : Nat) (L0 : Nat → Int32) (σ0 : MS) (r0 : Int32 × MS) (h0 : x_finished k0 0 L0 σ0 = some r0) (sz : Nat) : Met l yX12_finished w_x_finished ({ frames := 1362, cells := 0, slots := 0, locals := 36591 }) (va_Pc [.ref (a 0), .int (L0 1)] (nIn (dC, dI) cy sz (vM cy a σ0))) (va_Qv (fun _ : Unit => True) (fun _ t => nOut (dC, dI) cy (va_A (vM cy a σ0) sz) (vM cy a r0.2) t) (va_A (vM cy a σ0) sz)) 0 0 (va_A (vM cy a σ0) sz) := by
  refine Met.ofW (cc := cX12_finished) (maxL := 5) (ret := none) (by decide) rfl ?_
  intro p e s m args below meth c s₁ B hml hv
  obtain ⟨rfl, hsz, hP, hK, hD0, hG⟩ := hv
  have hx := B.exec
  have hb := B.bytes
  have hr := B.returns
  have hts := atoms_spec (ws := w_x_finished) B.pre
  have hown : s.vm.findClass RX12 = some m.cls := findClass_of_methodNamed B.named
  have hlocks := B.notSynchronized
  subst hsz
  have hD := hD0.self (sz := s.heap.size)
  generalize hAe : va_A (vM cy a σ0) s.heap.size = A at hD ⊢
  have hA : ∀ q : Nat, s.heap.size ≤ q → A q := fun q h => by rw [← hAe]; exact Or.inr h
  have hS : va_S A s.heap s.heap [] := va_S.rf
  have hl := lv_entry ([.ref (a 0), .int (L0 1)]) (n := 5) (Nat.le_of_ble_eq_true rfl)
  rw [lg_entry_eq]
  generalize (lg_sl ([.ref (a 0), .int (L0 1)]) ++ List.replicate (5 - (lg_sl ([.ref (a 0), .int (L0 1)])).length) Slot.unset).toArray = ls at hl ⊢
  have hl : lv_has ls 5 [(0, .ref (a 0)), (1, .int (L0 1))] := hl
  have blk : ∀ k : Nat, (bT p l e (headSpec w_x_finished ({ frames := 1362, cells := 0, slots := 0, locals := 36591 })).room s m #[.ref (a 0), .int (L0 1)] below meth c dC dI cy a A (qV dC dI cy a A below #[.ref (a 0), .int (L0 1)] s) 5 (x_finished k 0) (fun L => [(0, .ref (a 0)), (1, .int (L 1))]) 0 (fun L => [])) ∧ (bT p l e (headSpec w_x_finished ({ frames := 1362, cells := 0, slots := 0, locals := 36591 })).room s m #[.ref (a 0), .int (L0 1)] below meth c dC dI cy a A (qV dC dI cy a A below #[.ref (a 0), .int (L0 1)] s) 5 (x_finished k 1) (fun L => [(0, .ref (a 0)), (1, .int (L 1)), (2, .int (L 2)), (3, .int (L 3))]) 4 (fun L => [])) ∧ (bT p l e (headSpec w_x_finished ({ frames := 1362, cells := 0, slots := 0, locals := 36591 })).room s m #[.ref (a 0), .int (L0 1)] below meth c dC dI cy a A (qV dC dI cy a A below #[.ref (a 0), .int (L0 1)] s) 5 (x_finished k 2) (fun L => [(0, .ref (a 0)), (1, .int (L 1)), (2, .int (L 2)), (3, .int (L 3)), (4, .int (L 4))]) 25 (fun L => [])) ∧ (bT p l e (headSpec w_x_finished ({ frames := 1362, cells := 0, slots := 0, locals := 36591 })).room s m #[.ref (a 0), .int (L0 1)] below meth c dC dI cy a A (qV dC dI cy a A below #[.ref (a 0), .int (L0 1)] s) 5 (x_finished k 3) (fun L => [(0, .ref (a 0)), (1, .int (L 1)), (2, .int (L 2)), (3, .int (L 3)), (4, .int (L 4))]) 26 (fun L => [.int (L 100)])) ∧ (bT p l e (headSpec w_x_finished ({ frames := 1362, cells := 0, slots := 0, locals := 36591 })).room s m #[.ref (a 0), .int (L0 1)] below meth c dC dI cy a A (qV dC dI cy a A below #[.ref (a 0), .int (L0 1)] s) 5 (x_finished k 4) (fun L => [(0, .ref (a 0)), (1, .int (L 1)), (2, .int (L 2)), (3, .int (L 3)), (4, .int (L 4))]) 55 (fun L => [])) ∧ (bT p l e (headSpec w_x_finished ({ frames := 1362, cells := 0, slots := 0, locals := 36591 })).room s m #[.ref (a 0), .int (L0 1)] below meth c dC dI cy a A (qV dC dI cy a A below #[.ref (a 0), .int (L0 1)] s) 5 (x_finished k 5) (fun L => [(0, .ref (a 0)), (1, .int (L 1)), (2, .int (L 2)), (3, .int (L 3)), (4, .int (L 4))]) 60 (fun L => [])) ∧ (bT p l e (headSpec w_x_finished ({ frames := 1362, cells := 0, slots := 0, locals := 36591 })).room s m #[.ref (a 0), .int (L0 1)] below meth c dC dI cy a A (qV dC dI cy a A below #[.ref (a 0), .int (L0 1)] s) 5 (x_finished k 6) (fun L => [(0, .ref (a 0)), (1, .int (L 1)), (2, .int (L 2)), (3, .int (L 3)), (4, .int (L 4))]) 77 (fun L => [])) ∧ (bT p l e (headSpec w_x_finished ({ frames := 1362, cells := 0, slots := 0, locals := 36591 })).room s m #[.ref (a 0), .int (L0 1)] below meth c dC dI cy a A (qV dC dI cy a A below #[.ref (a 0), .int (L0 1)] s) 5 (x_finished k 7) (fun L => [(0, .ref (a 0)), (1, .int (L 1)), (2, .int (L 2)), (3, .int (L 3))]) 80 (fun L => [])) := by
    intro k
    induction k with
    | zero => exact ⟨fun L σ r h => (by cases h), fun L σ r h => (by cases h), fun L σ r h => (by cases h), fun L σ r h => (by cases h), fun L σ r h => (by cases h), fun L σ r h => (by cases h), fun L σ r h => (by cases h), fun L σ r h => (by cases h)⟩
    | succ k ih =>
      refine ⟨?_, ?_, ?_, ?_, ?_, ?_, ?_, ?_⟩
      · intro L σ r h H locs ls hP hD hS hl
        rw [x_finished] at h
        refine lv_iload_n hx hb dX12_finished_0 rfl (lv_at hl 1 rfl) ?_
        refine lv_istore_n (lv' := [(2, .int (L 1)), (0, .ref (a 0)), (1, .int (L 1))]) hx hb dX12_finished_1 rfl hl (by decide) rfl (fun ls hl => ?_)
        refine lv_iconst (v := 1) hx hb dX12_finished_2 (by decide) ?_
        refine lv_istore_n (lv' := [(3, .int 1), (2, .int (L 1)), (0, .ref (a 0)), (1, .int (L 1))]) hx hb dX12_finished_3 rfl hl (by decide) rfl (fun ls hl => ?_)
        exact ih.2.1 (upd (upd L 2 ((L 1))) 3 1) σ r h H locs ls hP hD hS (lv_sub hl [2, 3, 1, 0] rfl)
      · intro L σ r h H locs ls hP hD hS hl
        rw [x_finished] at h
        refine lv_iload_n hx hb dX12_finished_4 rfl (lv_at hl 3 rfl) ?_
        refine lv_if_eq (tgt := 80) hx hb dX12_finished_5 (by decide) (fun c1 => ?_) (fun c1 => ?_)
        · rw [if_pos c1] at h
          exact ih.2.2.2.2.2.2.2 L σ r h H locs ls hP hD hS (lv_sub hl [0, 1, 2, 3] rfl)
        · rw [if_neg c1] at h
          refine lv_aload_n hx hb dX12_finished_8 rfl (lv_at hl 0 rfl) ?_
          refine lv_iload_n hx hb dX12_finished_9 rfl (lv_at hl 2 rfl) ?_
          obtain ⟨r2, hc2, h⟩ := ob_ex h
          refine nc_Vi (As := [.int (L 2)]) (rest := []) ⟨hx, hb, hml, hown, hts⟩ (c_x_done l dC dI cy a k (upd (fun _ => 0) 1 ((L 2))) σ r2 hc2 H.size) (cwV 1 hts g_x_finished_done_862 rfl rfl rfl hd_x_done ⟨Nat.le_of_ble_eq_true rfl, Nat.le_of_ble_eq_true rfl⟩) hK hG hA hP hD hS rfl hl.1 rfl (Nat.le_of_ble_eq_true rfl) dX12_finished_10 ⟨Nat.le_refl _, Nat.le_refl _⟩ (fun H locs hP hD hS => ?_)
          refine lv_istore (lv' := [(4, .int r2.1), (0, .ref (a 0)), (1, .int (L 1)), (2, .int (L 2)), (3, .int (L 3))]) hx hb dX12_finished_13 hl (by decide) rfl (fun ls hl => ?_)
          refine lv_iload hx hb dX12_finished_15 (lv_at hl 0 rfl) ?_
          refine lv_iconst (v := (-1)) hx hb dX12_finished_17 (by decide) ?_
          refine lv_icmp_eq (tgt := 25) hx hb dX12_finished_18 (by decide) (fun c3 => ?_) (fun c3 => ?_)
          · rw [if_pos c3] at h
            exact ih.2.2.1 (upd L 4 r2.1) r2.2 r h H locs ls hP hD hS (lv_sub hl [1, 2, 3, 4, 0] rfl)
          · rw [if_neg c3] at h
            refine lv_iconst (v := 1) hx hb dX12_finished_21 (by decide) ?_
            refine lv_goto (tgt := 26) hx hb dX12_finished_22 (by decide) ?_
            exact ih.2.2.2.1 (upd (upd L 4 r2.1) 100 1) r2.2 r h H locs ls hP hD hS (lv_sub hl [1, 2, 3, 4, 0] rfl)
      · intro L σ r h H locs ls hP hD hS hl
        rw [x_finished] at h
        refine lv_iconst (v := 0) hx hb dX12_finished_25 (by decide) ?_
        exact ih.2.2.2.1 (upd L 100 0) σ r h H locs ls hP hD hS (lv_sub hl [0, 1, 2, 3, 4] rfl)
      · intro L σ r h H locs ls hP hD hS hl
        rw [x_finished] at h
        refine lv_istore_n (lv' := [(3, .int (L 100)), (0, .ref (a 0)), (1, .int (L 1)), (2, .int (L 2)), (4, .int (L 4))]) hx hb dX12_finished_26 rfl hl (by decide) rfl (fun ls hl => ?_)
        refine lv_iload_n hx hb dX12_finished_27 rfl (lv_at hl 0 rfl) ?_
        refine lv_if_eq (tgt := 60) hx hb dX12_finished_28 (by decide) (fun c1 => ?_) (fun c1 => ?_)
        · rw [if_pos c1] at h
          exact ih.2.2.2.2.2.1 (upd L 3 ((L 100))) σ r h H locs ls hP hD hS (lv_sub hl [1, 2, 3, 0, 4] rfl)
        · rw [if_neg c1] at h
          refine lv_aload_n hx hb dX12_finished_31 rfl (lv_at hl 1 rfl) ?_
          refine ng_19 hx hb hts in_x_finished hown hK hP (hts _ (List.mem_cons_of_mem _ (List.mem_append_left _ (List.mem_append_left _ (List.mem_of_getElem? (i := 4) rfl))))) dX12_finished_32 ?_
          refine lv_iload hx hb dX12_finished_35 (lv_at hl 4 rfl) ?_
          obtain ⟨q2, h⟩ := nb_ite1 h
          refine nl_9 hx hb hK hP q2 dX12_finished_37 ?_
          refine lv_iconst (v := (-1)) hx hb dX12_finished_38 (by decide) ?_
          refine lv_icmp_eq (tgt := 60) hx hb dX12_finished_39 (by decide) (fun c3 => ?_) (fun c3 => ?_)
          · rw [if_pos c3] at h
            exact ih.2.2.2.2.2.1 (upd L 3 ((L 100))) σ r h H locs ls hP hD hS (lv_sub hl [1, 2, 3, 0, 4] rfl)
          · rw [if_neg c3] at h
            refine lv_aload_n hx hb dX12_finished_42 rfl (lv_at hl 1 rfl) ?_
            refine ng_60 hx hb hts in_x_finished hown hK hP (hts _ (List.mem_cons_of_mem _ (List.mem_append_left _ (List.mem_append_left _ (List.mem_of_getElem? (i := 5) rfl))))) dX12_finished_43 ?_
            refine lv_iconst (v := 0) hx hb dX12_finished_46 (by decide) ?_
            refine lv_aload_n hx hb dX12_finished_47 rfl (lv_at hl 1 rfl) ?_
            refine ng_19 hx hb hts in_x_finished hown hK hP (hts _ (List.mem_cons_of_mem _ (List.mem_append_left _ (List.mem_append_left _ (List.mem_of_getElem? (i := 4) rfl))))) dX12_finished_48 ?_
            refine lv_iload hx hb dX12_finished_51 (lv_at hl 4 rfl) ?_
            obtain ⟨q4, h⟩ := nb_ite1 h
            refine nl_9 hx hb hK hP q4 dX12_finished_53 ?_
            obtain ⟨q5, h⟩ := nb_ite1 h
            refine ns_30 hx hb hK hP hD hS q5 dX12_finished_54 (fun H locs hP hD hS => ?_)
            exact ih.2.2.2.2.1 (upd L 3 ((L 100))) (σ.1, σ.2.1, updG σ.2.2 30 (upd (σ.2.2 30) (0 : Int32).toNatClampNeg ((σ.2.2 9 ((L 4)).toNatClampNeg)))) r h H locs ls hP hD hS (lv_sub hl [1, 2, 3, 0, 4] rfl)
      · intro L σ r h H locs ls hP hD hS hl
        rw [x_finished] at h
        refine lv_iconst (v := 0) hx hb dX12_finished_55 (by decide) ?_
        refine lv_istore_n (lv' := [(3, .int 0), (0, .ref (a 0)), (1, .int (L 1)), (2, .int (L 2)), (4, .int (L 4))]) hx hb dX12_finished_56 rfl hl (by decide) rfl (fun ls hl => ?_)
        refine lv_goto (tgt := 77) hx hb dX12_finished_57 (by decide) ?_
        exact ih.2.2.2.2.2.2.1 (upd L 3 0) σ r h H locs ls hP hD hS (lv_sub hl [1, 2, 3, 0, 4] rfl)
      · intro L σ r h H locs ls hP hD hS hl
        rw [x_finished] at h
        refine lv_iload_n hx hb dX12_finished_60 rfl (lv_at hl 3 rfl) ?_
        refine lv_if_eq (tgt := 77) hx hb dX12_finished_61 (by decide) (fun c1 => ?_) (fun c1 => ?_)
        · rw [if_pos c1] at h
          exact ih.2.2.2.2.2.2.1 L σ r h H locs ls hP hD hS (lv_sub hl [0, 1, 2, 3, 4] rfl)
        · rw [if_neg c1] at h
          refine lv_aload_n hx hb dX12_finished_64 rfl (lv_at hl 0 rfl) ?_
          refine ng_20 hx hb hts in_x_finished hown hK hP (hts _ (List.mem_cons_of_mem _ (List.mem_append_left _ (List.mem_append_left _ (List.mem_of_getElem? (i := 6) rfl))))) dX12_finished_65 ?_
          refine lv_aload_n hx hb dX12_finished_68 rfl (lv_at hl 0 rfl) ?_
          refine ng_18 hx hb hts in_x_finished hown hK hP (hts _ (List.mem_cons_of_mem _ (List.mem_append_left _ (List.mem_append_left _ (List.mem_of_getElem? (i := 7) rfl))))) dX12_finished_69 ?_
          refine lv_iload hx hb dX12_finished_72 (lv_at hl 4 rfl) ?_
          obtain ⟨q2, h⟩ := nb_ite1 h
          refine nl_8 hx hb hK hP q2 dX12_finished_74 ?_
          obtain ⟨q3, h⟩ := nb_ite1 h
          refine nl_10 hx hb hK hP q3 dX12_finished_75 ?_
          refine lv_istore_n (lv' := [(2, .int (σ.2.2 10 ((σ.2.2 8 ((L 4)).toNatClampNeg)).toNatClampNeg)), (0, .ref (a 0)), (1, .int (L 1)), (3, .int (L 3)), (4, .int (L 4))]) hx hb dX12_finished_76 rfl hl (by decide) rfl (fun ls hl => ?_)
          exact ih.2.2.2.2.2.2.1 (upd L 2 ((σ.2.2 10 ((σ.2.2 8 ((L 4)).toNatClampNeg)).toNatClampNeg))) σ r h H locs ls hP hD hS (lv_sub hl [1, 2, 0, 3, 4] rfl)
      · intro L σ r h H locs ls hP hD hS hl
        rw [x_finished] at h
        refine lv_goto (tgt := 4) hx hb dX12_finished_77 (by decide) ?_
        exact ih.2.1 L σ r h H locs ls hP hD hS (lv_sub hl [0, 1, 2, 3] rfl)
      · intro L σ r h H locs ls hP hD hS hl
        rw [x_finished] at h
        cases h
        exact W.vret hx hb hr (fun t ht hW => ⟨⟨(), rfl, trivial, by rw [ht]; exact hP, va_K.moved hW.alike hK, hD⟩, hS.F ht⟩) hS.2.2 dX12_finished_80
  exact (blk k0).1 L0 σ0 r0 h0 s.heap [] ls hP hD hS hl
/-! enter -/
def x_enter : Nat → Nat → (Nat → Int32) → MS → Option (Int32 × MS)
  | 0, _, _, _ => none
  | k + 1, 0, L, σ => if ((L 1)) = ((-1)) then (x_enter k 1 L σ) else (if ¬ ((0 : Int32) < 0 ∨ 11514 ≤ (0 : Int32).toNatClampNeg) then (x_enter k 2 L (σ.1, σ.2.1, updG σ.2.2 30 (upd (σ.2.2 30) (0 : Int32).toNatClampNeg ((L 1))))) else none)
  | k + 1, 1, L, σ => ob (x_finished k 0 (upd (fun _ => 0) 1 ((L 2))) σ) (fun r1 => x_enter k 2 L r1.2)
  | k + 1, 2, L, σ => some (0, σ)
  | _ + 1, _ + 3, _, _ => none
def o_x_enter : List Cond := [.fieldLink RX12 395 "SetHouseModel" "st" "[I", .methodLink RX12 859 yX12_finished, .instanceMethod yX12_finished, .selects RX12 yX12_finished yX12_finished, .initialized RX12]
theorem o_x_enter_good : o_x_enter.all goodWord = true := by decide +kernel
def p_x_enter : List Cond := o_x_enter ++ ((.code yX12_finished cX12_finished 5 none :: p_x_finished) ++ [])
theorem p_x_enter_good : p_x_enter.all goodWord = true := nb_all2 o_x_enter_good (nb_all2 (nb_allc (by decide +kernel) p_x_finished_good) rfl)
def w_x_enter : List Cond := .code yX12_enter cX12_enter 3 none :: (p_x_enter ++ fM)
theorem w_x_enter_good : w_x_enter.all goodWord = true := nb_allc (by decide +kernel) (nb_all2 p_x_enter_good fM_good)
theorem in_x_enter : ∀ w ∈ wsX120, w ∈ w_x_enter := fun _ h => List.mem_cons_of_mem _ (List.mem_append_right _ h)
theorem hd_x_enter : yX12_enter.cls = RX12 ∧ yX12_enter.cls ≠ "java/lang/invoke/MethodHandle" ∧ yX12_enter.cls ≠ "java/lang/invoke/VarHandle" ∧ (parseMethodDescriptor yX12_enter.desc).map (fun d => d.parameters.length) = some 2 := by decide +kernel
theorem gg_x_enter_finished : GoodIn w_x_enter w_x_finished := goodIn_sub (fun w h => (List.mem_cons.mp h).elim (fun e => (List.mem_cons_of_mem _ (List.mem_append_left _ (List.mem_append_right _ (List.mem_append_left _ (List.mem_cons.mpr (Or.inl e))))))) (fun h => (List.mem_append.mp h).elim (fun h => (List.mem_cons_of_mem _ (List.mem_append_left _ (List.mem_append_right _ (List.mem_append_left _ (List.mem_cons_of_mem _ h)))))) (fun h => List.mem_cons_of_mem _ (List.mem_append_right _ h)))) w_x_finished_good
theorem g_x_enter_finished_859 : GoodIn w_x_enter (wsV RX12 859 RX12 yX12_finished w_x_finished) := goodIn_app (nb_g4 (List.mem_cons_of_mem _ (List.mem_append_left _ (List.mem_append_left _ (List.mem_of_getElem? (i := 1) rfl)))) (List.mem_cons_of_mem _ (List.mem_append_left _ (List.mem_append_left _ (List.mem_of_getElem? (i := 2) rfl)))) (List.mem_cons_of_mem _ (List.mem_append_left _ (List.mem_append_left _ (List.mem_of_getElem? (i := 3) rfl)))) (List.mem_cons_of_mem _ (List.mem_append_left _ (List.mem_append_left _ (List.mem_of_getElem? (i := 4) rfl)))) (by decide +kernel)) gg_x_enter_finished
set_option maxHeartbeats 40000000 in
set_option maxRecDepth 100000 in
theorem c_x_enter (l : Launch) (dC : Nat → ClassId) (dI : Nat → Nat → Nat) (cy : Nat → ClassId) (a : Nat → Nat) (k0 : Nat) (L0 : Nat → Int32) (σ0 : MS) (r0 : Int32 × MS) (h0 : x_enter k0 0 L0 σ0 = some r0) (sz : Nat) : Met l yX12_enter w_x_enter ({ frames := 1363, cells := 0, slots := 0, locals := 36615 }) (va_Pc [.ref (a 0), .int (L0 1), .int (L0 2)] (nIn (dC, dI) cy sz (vM cy a σ0))) (va_Qv (fun _ : Unit => True) (fun _ t => nOut (dC, dI) cy (va_A (vM cy a σ0) sz) (vM cy a r0.2) t) (va_A (vM cy a σ0) sz)) 0 0 (va_A (vM cy a σ0) sz) := by
  refine Met.ofW (cc := cX12_enter) (maxL := 3) (ret := none) (by decide) rfl ?_
  intro p e s m args below meth c s₁ B hml hv
  obtain ⟨rfl, hsz, hP, hK, hD0, hG⟩ := hv
  have hx := B.exec
  have hb := B.bytes
  have hr := B.returns
  have hts := atoms_spec (ws := w_x_enter) B.pre
  have hown : s.vm.findClass RX12 = some m.cls := findClass_of_methodNamed B.named
  have hlocks := B.notSynchronized
  subst hsz
  have hD := hD0.self (sz := s.heap.size)
  generalize hAe : va_A (vM cy a σ0) s.heap.size = A at hD ⊢
  have hA : ∀ q : Nat, s.heap.size ≤ q → A q := fun q h => by rw [← hAe]; exact Or.inr h
  have hS : va_S A s.heap s.heap [] := va_S.rf
  have hl := lv_entry ([.ref (a 0), .int (L0 1), .int (L0 2)]) (n := 3) (Nat.le_of_ble_eq_true rfl)
  rw [lg_entry_eq]
  generalize (lg_sl ([.ref (a 0), .int (L0 1), .int (L0 2)]) ++ List.replicate (3 - (lg_sl ([.ref (a 0), .int (L0 1), .int (L0 2)])).length) Slot.unset).toArray = ls at hl ⊢
  have hl : lv_has ls 3 [(0, .ref (a 0)), (1, .int (L0 1)), (2, .int (L0 2))] := hl
  have blk : ∀ k : Nat, (bT p l e (headSpec w_x_enter ({ frames := 1363, cells := 0, slots := 0, locals := 36615 })).room s m #[.ref (a 0), .int (L0 1), .int (L0 2)] below meth c dC dI cy a A (qV dC dI cy a A below #[.ref (a 0), .int (L0 1), .int (L0 2)] s) 3 (x_enter k 0) (fun L => [(0, .ref (a 0)), (1, .int (L 1)), (2, .int (L 2))]) 0 (fun L => [])) ∧ (bT p l e (headSpec w_x_enter ({ frames := 1363, cells := 0, slots := 0, locals := 36615 })).room s m #[.ref (a 0), .int (L0 1), .int (L0 2)] below meth c dC dI cy a A (qV dC dI cy a A below #[.ref (a 0), .int (L0 1), .int (L0 2)] s) 3 (x_enter k 1) (fun L => [(0, .ref (a 0)), (1, .int (L 1)), (2, .int (L 2))]) 15 (fun L => [])) ∧ (bT p l e (headSpec w_x_enter ({ frames := 1363, cells := 0, slots := 0, locals := 36615 })).room s m #[.ref (a 0), .int (L0 1), .int (L0 2)] below meth c dC dI cy a A (qV dC dI cy a A below #[.ref (a 0), .int (L0 1), .int (L0 2)] s) 3 (x_enter k 2) (fun L => [(0, .ref (a 0)), (1, .int (L 1)), (2, .int (L 2))]) 20 (fun L => [])) := by
    intro k
    induction k with
    | zero => exact ⟨fun L σ r h => (by cases h), fun L σ r h => (by cases h), fun L σ r h => (by cases h)⟩
    | succ k ih =>
      refine ⟨?_, ?_, ?_⟩
      · intro L σ r h H locs ls hP hD hS hl
        rw [x_enter] at h
        refine lv_iload_n hx hb dX12_enter_0 rfl (lv_at hl 1 rfl) ?_
        refine lv_iconst (v := (-1)) hx hb dX12_enter_1 (by decide) ?_
        refine lv_icmp_eq (tgt := 15) hx hb dX12_enter_2 (by decide) (fun c1 => ?_) (fun c1 => ?_)
        · rw [if_pos c1] at h
          exact ih.2.1 L σ r h H locs ls hP hD hS (lv_sub hl [0, 1, 2] rfl)
        · rw [if_neg c1] at h
          refine lv_aload_n hx hb dX12_enter_5 rfl (lv_at hl 0 rfl) ?_
          refine ng_60 hx hb hts in_x_enter hown hK hP (hts _ (List.mem_cons_of_mem _ (List.mem_append_left _ (List.mem_append_left _ (List.mem_of_getElem? (i := 0) rfl))))) dX12_enter_6 ?_
          refine lv_iconst (v := 0) hx hb dX12_enter_9 (by decide) ?_
          refine lv_iload_n hx hb dX12_enter_10 rfl (lv_at hl 1 rfl) ?_
          obtain ⟨q2, h⟩ := nb_ite1 h
          refine ns_30 hx hb hK hP hD hS q2 dX12_enter_11 (fun H locs hP hD hS => ?_)
          refine lv_goto (tgt := 20) hx hb dX12_enter_12 (by decide) ?_
          exact ih.2.2 L (σ.1, σ.2.1, updG σ.2.2 30 (upd (σ.2.2 30) (0 : Int32).toNatClampNeg ((L 1)))) r h H locs ls hP hD hS (lv_sub hl [0, 1, 2] rfl)
      · intro L σ r h H locs ls hP hD hS hl
        rw [x_enter] at h
        refine lv_aload_n hx hb dX12_enter_15 rfl (lv_at hl 0 rfl) ?_
        refine lv_iload_n hx hb dX12_enter_16 rfl (lv_at hl 2 rfl) ?_
        obtain ⟨r1, hc1, h⟩ := ob_ex h
        refine nc_Vv (As := [.int (L 2)]) (rest := []) ⟨hx, hb, hml, hown, hts⟩ (c_x_finished l dC dI cy a k (upd (fun _ => 0) 1 ((L 2))) σ r1 hc1 H.size) (cwV 1 hts g_x_enter_finished_859 rfl rfl rfl hd_x_finished ⟨Nat.le_of_ble_eq_true rfl, Nat.le_of_ble_eq_true rfl⟩) hK hG hA hP hD hS rfl hl.1 rfl (Nat.le_of_ble_eq_true rfl) dX12_enter_17 ⟨Nat.le_refl _, Nat.le_refl _⟩ (fun H locs hP hD hS => ?_)
        exact ih.2.2 L r1.2 r h H locs ls hP hD hS (lv_sub hl [0, 1, 2] rfl)
      · intro L σ r h H locs ls hP hD hS hl
        rw [x_enter] at h
        cases h
        exact W.vret hx hb hr (fun t ht hW => ⟨⟨(), rfl, trivial, by rw [ht]; exact hP, va_K.moved hW.alike hK, hD⟩, hS.F ht⟩) hS.2.2 dX12_enter_20
  exact (blk k0).1 L0 σ0 r0 h0 s.heap [] ls hP hD hS hl
/-! goOnBehind -/
def x_goOnBehind : Nat → Nat → (Nat → Int32) → MS → Option (Int32 × MS)
  | 0, _, _, _ => none
  | k + 1, 0, L, σ => if ((L 1)) = ((-1)) then (some (0, σ)) else (x_goOnBehind k 1 L σ)
  | k + 1, 1, L, σ => if ¬ (((L 1)) < 0 ∨ 70000 ≤ ((L 1)).toNatClampNeg) then (if ((σ.2.2 9 ((L 1)).toNatClampNeg)) = ((-1)) then (x_goOnBehind k 2 L σ) else (if ¬ (((L 1)) < 0 ∨ 70000 ≤ ((L 1)).toNatClampNeg) then (if ¬ ((0 : Int32) < 0 ∨ 11514 ≤ (0 : Int32).toNatClampNeg) then (x_goOnBehind k 3 L (σ.1, σ.2.1, updG σ.2.2 30 (upd (σ.2.2 30) (0 : Int32).toNatClampNeg ((σ.2.2 9 ((L 1)).toNatClampNeg))))) else none) else none)) else none
  | k + 1, 2, L, σ => if ¬ (((L 1)) < 0 ∨ 70000 ≤ ((L 1)).toNatClampNeg) then (if ¬ (((σ.2.2 8 ((L 1)).toNatClampNeg)) < 0 ∨ 401 ≤ ((σ.2.2 8 ((L 1)).toNatClampNeg)).toNatClampNeg) then (ob (x_finished k 0 (upd (fun _ => 0) 1 ((σ.2.2 10 ((σ.2.2 8 ((L 1)).toNatClampNeg)).toNatClampNeg))) σ) (fun r3 => x_goOnBehind k 3 L r3.2)) else none) else none
  | k + 1, 3, L, σ => some (0, σ)
  | _ + 1, _ + 4, _, _ => none
def o_x_goOnBehind : List Cond := [.fieldLink RX12 98 "SetHouseModel" "next" "[I", .fieldLink RX12 395 "SetHouseModel" "st" "[I", .fieldLink RX12 291 "SetHouseModel" "up" "[I", .fieldLink RX12 95 "SetHouseModel" "x4" "[I", .methodLink RX12 859 yX12_finished, .instanceMethod yX12_finished, .selects RX12 yX12_finished yX12_finished, .initialized RX12]
theorem o_x_goOnBehind_good : o_x_goOnBehind.all goodWord = true := by decide +kernel
def p_x_goOnBehind : List Cond := o_x_goOnBehind ++ ((.code yX12_finished cX12_finished 5 none :: p_x_finished) ++ [])
theorem p_x_goOnBehind_good : p_x_goOnBehind.all goodWord = true := nb_all2 o_x_goOnBehind_good (nb_all2 (nb_allc (by decide +kernel) p_x_finished_good) rfl)
def w_x_goOnBehind : List Cond := .code yX12_goOnBehind cX12_goOnBehind 2 none :: (p_x_goOnBehind ++ fM)
theorem w_x_goOnBehind_good : w_x_goOnBehind.all goodWord = true := nb_allc (by decide +kernel) (nb_all2 p_x_goOnBehind_good fM_good)
theorem in_x_goOnBehind : ∀ w ∈ wsX120, w ∈ w_x_goOnBehind := fun _ h => List.mem_cons_of_mem _ (List.mem_append_right _ h)
theorem hd_x_goOnBehind : yX12_goOnBehind.cls = RX12 ∧ yX12_goOnBehind.cls ≠ "java/lang/invoke/MethodHandle" ∧ yX12_goOnBehind.cls ≠ "java/lang/invoke/VarHandle" ∧ (parseMethodDescriptor yX12_goOnBehind.desc).map (fun d => d.parameters.length) = some 1 := by decide +kernel
theorem gg_x_goOnBehind_finished : GoodIn w_x_goOnBehind w_x_finished := goodIn_sub (fun w h => (List.mem_cons.mp h).elim (fun e => (List.mem_cons_of_mem _ (List.mem_append_left _ (List.mem_append_right _ (List.mem_append_left _ (List.mem_cons.mpr (Or.inl e))))))) (fun h => (List.mem_append.mp h).elim (fun h => (List.mem_cons_of_mem _ (List.mem_append_left _ (List.mem_append_right _ (List.mem_append_left _ (List.mem_cons_of_mem _ h)))))) (fun h => List.mem_cons_of_mem _ (List.mem_append_right _ h)))) w_x_finished_good
theorem g_x_goOnBehind_finished_859 : GoodIn w_x_goOnBehind (wsV RX12 859 RX12 yX12_finished w_x_finished) := goodIn_app (nb_g4 (List.mem_cons_of_mem _ (List.mem_append_left _ (List.mem_append_left _ (List.mem_of_getElem? (i := 4) rfl)))) (List.mem_cons_of_mem _ (List.mem_append_left _ (List.mem_append_left _ (List.mem_of_getElem? (i := 5) rfl)))) (List.mem_cons_of_mem _ (List.mem_append_left _ (List.mem_append_left _ (List.mem_of_getElem? (i := 6) rfl)))) (List.mem_cons_of_mem _ (List.mem_append_left _ (List.mem_append_left _ (List.mem_of_getElem? (i := 7) rfl)))) (by decide +kernel)) gg_x_goOnBehind_finished
set_option maxHeartbeats 40000000 in
set_option maxRecDepth 100000 in
theorem c_x_goOnBehind (l : Launch) (dC : Nat → ClassId) (dI : Nat → Nat → Nat) (cy : Nat → ClassId) (a : Nat → Nat) (k0 : Nat) (L0 : Nat → Int32) (σ0 : MS) (r0 : Int32 × MS) (h0 : x_goOnBehind k0 0 L0 σ0 = some r0) (sz : Nat) : Met l yX12_goOnBehind w_x_goOnBehind ({ frames := 1363, cells := 0, slots := 0, locals := 36615 }) (va_Pc [.ref (a 0), .int (L0 1)] (nIn (dC, dI) cy sz (vM cy a σ0))) (va_Qv (fun _ : Unit => True) (fun _ t => nOut (dC, dI) cy (va_A (vM cy a σ0) sz) (vM cy a r0.2) t) (va_A (vM cy a σ0) sz)) 0 0 (va_A (vM cy a σ0) sz) := by
  refine Met.ofW (cc := cX12_goOnBehind) (maxL := 2) (ret := none) (by decide) rfl ?_
  intro p e s m args below meth c s₁ B hml hv
  obtain ⟨rfl, hsz, hP, hK, hD0, hG⟩ := hv
  have hx := B.exec
  have hb := B.bytes
  have hr := B.returns
  have hts := atoms_spec (ws := w_x_goOnBehind) B.pre
  have hown : s.vm.findClass RX12 = some m.cls := findClass_of_methodNamed B.named
  have hlocks := B.notSynchronized
  subst hsz
  have hD := hD0.self (sz := s.heap.size)
  generalize hAe : va_A (vM cy a σ0) s.heap.size = A at hD ⊢
  have hA : ∀ q : Nat, s.heap.size ≤ q → A q := fun q h => by rw [← hAe]; exact Or.inr h
  have hS : va_S A s.heap s.heap [] := va_S.rf
  have hl := lv_entry ([.ref (a 0), .int (L0 1)]) (n := 2) (Nat.le_of_ble_eq_true rfl)
  rw [lg_entry_eq]
  generalize (lg_sl ([.ref (a 0), .int (L0 1)]) ++ List.replicate (2 - (lg_sl ([.ref (a 0), .int (L0 1)])).length) Slot.unset).toArray = ls at hl ⊢
  have hl : lv_has ls 2 [(0, .ref (a 0)), (1, .int (L0 1))] := hl
  have blk : ∀ k : Nat, (bT p l e (headSpec w_x_goOnBehind ({ frames := 1363, cells := 0, slots := 0, locals := 36615 })).room s m #[.ref (a 0), .int (L0 1)] below meth c dC dI cy a A (qV dC dI cy a A below #[.ref (a 0), .int (L0 1)] s) 2 (x_goOnBehind k 0) (fun L => [(0, .ref (a 0)), (1, .int (L 1))]) 0 (fun L => [])) ∧ (bT p l e (headSpec w_x_goOnBehind ({ frames := 1363, cells := 0, slots := 0, locals := 36615 })).room s m #[.ref (a 0), .int (L0 1)] below meth c dC dI cy a A (qV dC dI cy a A below #[.ref (a 0), .int (L0 1)] s) 2 (x_goOnBehind k 1) (fun L => [(0, .ref (a 0)), (1, .int (L 1))]) 6 (fun L => [])) ∧ (bT p l e (headSpec w_x_goOnBehind ({ frames := 1363, cells := 0, slots := 0, locals := 36615 })).room s m #[.ref (a 0), .int (L0 1)] below meth c dC dI cy a A (qV dC dI cy a A below #[.ref (a 0), .int (L0 1)] s) 2 (x_goOnBehind k 2) (fun L => [(0, .ref (a 0)), (1, .int (L 1))]) 31 (fun L => [])) ∧ (bT p l e (headSpec w_x_goOnBehind ({ frames := 1363, cells := 0, slots := 0, locals := 36615 })).room s m #[.ref (a 0), .int (L0 1)] below meth c dC dI cy a A (qV dC dI cy a A below #[.ref (a 0), .int (L0 1)] s) 2 (x_goOnBehind k 3) (fun L => [(0, .ref (a 0)), (1, .int (L 1))]) 46 (fun L => [])) := by
    intro k
    induction k with
    | zero => exact ⟨fun L σ r h => (by cases h), fun L σ r h => (by cases h), fun L σ r h => (by cases h), fun L σ r h => (by cases h)⟩
    | succ k ih =>
      refine ⟨?_, ?_, ?_, ?_⟩
      · intro L σ r h H locs ls hP hD hS hl
        rw [x_goOnBehind] at h
        refine lv_iload_n hx hb dX12_goOnBehind_0 rfl (lv_at hl 1 rfl) ?_
        refine lv_iconst (v := (-1)) hx hb dX12_goOnBehind_1 (by decide) ?_
        refine lv_icmp_ne (tgt := 6) hx hb dX12_goOnBehind_2 (by decide) (fun c1 => ?_) (fun c1 => ?_)
        · rw [if_neg c1] at h
          exact ih.2.1 L σ r h H locs ls hP hD hS (lv_sub hl [0, 1] rfl)
        · rw [if_pos c1] at h
          cases h
          exact W.vret hx hb hr (fun t ht hW => ⟨⟨(), rfl, trivial, by rw [ht]; exact hP, va_K.moved hW.alike hK, hD⟩, hS.F ht⟩) hS.2.2 dX12_goOnBehind_5
      · intro L σ r h H locs ls hP hD hS hl
        rw [x_goOnBehind] at h
        refine lv_aload_n hx hb dX12_goOnBehind_6 rfl (lv_at hl 0 rfl) ?_
        refine ng_19 hx hb hts in_x_goOnBehind hown hK hP (hts _ (List.mem_cons_of_mem _ (List.mem_append_left _ (List.mem_append_left _ (List.mem_of_getElem? (i := 0) rfl))))) dX12_goOnBehind_7 ?_
        refine lv_iload_n hx hb dX12_goOnBehind_10 rfl (lv_at hl 1 rfl) ?_
        obtain ⟨q1, h⟩ := nb_ite1 h
        refine nl_9 hx hb hK hP q1 dX12_goOnBehind_11 ?_
        refine lv_iconst (v := (-1)) hx hb dX12_goOnBehind_12 (by decide) ?_
        refine lv_icmp_eq (tgt := 31) hx hb dX12_goOnBehind_13 (by decide) (fun c2 => ?_) (fun c2 => ?_)
        · rw [if_pos c2] at h
          exact ih.2.2.1 L σ r h H locs ls hP hD hS (lv_sub hl [0, 1] rfl)
        · rw [if_neg c2] at h
          refine lv_aload_n hx hb dX12_goOnBehind_16 rfl (lv_at hl 0 rfl) ?_
          refine ng_60 hx hb hts in_x_goOnBehind hown hK hP (hts _ (List.mem_cons_of_mem _ (List.mem_append_left _ (List.mem_append_left _ (List.mem_of_getElem? (i := 1) rfl))))) dX12_goOnBehind_17 ?_
          refine lv_iconst (v := 0) hx hb dX12_goOnBehind_20 (by decide) ?_
          refine lv_aload_n hx hb dX12_goOnBehind_21 rfl (lv_at hl 0 rfl) ?_
          refine ng_19 hx hb hts in_x_goOnBehind hown hK hP (hts _ (List.mem_cons_of_mem _ (List.mem_append_left _ (List.mem_append_left _ (List.mem_of_getElem? (i := 0) rfl))))) dX12_goOnBehind_22 ?_
          refine lv_iload_n hx hb dX12_goOnBehind_25 rfl (lv_at hl 1 rfl) ?_
          obtain ⟨q3, h⟩ := nb_ite1 h
          refine nl_9 hx hb hK hP q3 dX12_goOnBehind_26 ?_
          obtain ⟨q4, h⟩ := nb_ite1 h
          refine ns_30 hx hb hK hP hD hS q4 dX12_goOnBehind_27 (fun H locs hP hD hS => ?_)
          refine lv_goto (tgt := 46) hx hb dX12_goOnBehind_28 (by decide) ?_
          exact ih.2.2.2 L (σ.1, σ.2.1, updG σ.2.2 30 (upd (σ.2.2 30) (0 : Int32).toNatClampNeg ((σ.2.2 9 ((L 1)).toNatClampNeg)))) r h H locs ls hP hD hS (lv_sub hl [0, 1] rfl)
      · intro L σ r h H locs ls hP hD hS hl
        rw [x_goOnBehind] at h
        refine lv_aload_n hx hb dX12_goOnBehind_31 rfl (lv_at hl 0 rfl) ?_
        refine lv_aload_n hx hb dX12_goOnBehind_32 rfl (lv_at hl 0 rfl) ?_
        refine ng_20 hx hb hts in_x_goOnBehind hown hK hP (hts _ (List.mem_cons_of_mem _ (List.mem_append_left _ (List.mem_append_left _ (List.mem_of_getElem? (i := 2) rfl))))) dX12_goOnBehind_33 ?_
        refine lv_aload_n hx hb dX12_goOnBehind_36 rfl (lv_at hl 0 rfl) ?_
        refine ng_18 hx hb hts in_x_goOnBehind hown hK hP (hts _ (List.mem_cons_of_mem _ (List.mem_append_left _ (List.mem_append_left _ (List.mem_of_getElem? (i := 3) rfl))))) dX12_goOnBehind_37 ?_
        refine lv_iload_n hx hb dX12_goOnBehind_40 rfl (lv_at hl 1 rfl) ?_
        obtain ⟨q1, h⟩ := nb_ite1 h
        refine nl_8 hx hb hK hP q1 dX12_goOnBehind_41 ?_
        obtain ⟨q2, h⟩ := nb_ite1 h
        refine nl_10 hx hb hK hP q2 dX12_goOnBehind_42 ?_
        obtain ⟨r3, hc3, h⟩ := ob_ex h
        refine nc_Vv (As := [.int (σ.2.2 10 ((σ.2.2 8 ((L 1)).toNatClampNeg)).toNatClampNeg)]) (rest := []) ⟨hx, hb, hml, hown, hts⟩ (c_x_finished l dC dI cy a k (upd (fun _ => 0) 1 ((σ.2.2 10 ((σ.2.2 8 ((L 1)).toNatClampNeg)).toNatClampNeg))) σ r3 hc3 H.size) (cwV 1 hts g_x_goOnBehind_finished_859 rfl rfl rfl hd_x_finished ⟨Nat.le_of_ble_eq_true rfl, Nat.le_of_ble_eq_true rfl⟩) hK hG hA hP hD hS rfl hl.1 rfl (Nat.le_of_ble_eq_true rfl) dX12_goOnBehind_43 ⟨Nat.le_refl _, Nat.le_refl _⟩ (fun H locs hP hD hS => ?_)
        exact ih.2.2.2 L r3.2 r h H locs ls hP hD hS (lv_sub hl [0, 1] rfl)
      · intro L σ r h H locs ls hP hD hS hl
        rw [x_goOnBehind] at h
        cases h
        exact W.vret hx hb hr (fun t ht hW => ⟨⟨(), rfl, trivial, by rw [ht]; exact hP, va_K.moved hW.alike hK, hD⟩, hS.F ht⟩) hS.2.2 dX12_goOnBehind_46
  exact (blk k0).1 L0 σ0 r0 h0 s.heap [] ls hP hD hS hl

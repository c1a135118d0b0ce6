/-! X0_union -/
def y_X0_union : Nat → Nat → LV → CS → Option (Int32 × CS)
  | 0, _, _, _ => none
  | k + 1, 0, L, σ => y_X0_union k 1 (lI (lI (lI L 3 0) 4 0) 5 0) σ
  | k + 1, 1, L, σ => oc (y_X1_length k 0 (lI lZ 1 ((L.1 2))) σ) (fun r1 => if r1.1 ≤ ((L.1 5)) then (y_X0_union k 2 L r1.2) else (oc (y_X1_member k 0 (lI (lI lZ 1 ((L.1 2))) 2 ((L.1 5))) r1.2) (fun r3 => oc (y_X0_placeOf k 0 (lI (lI (lI lZ 1 ((L.1 1))) 2 ((L.1 3))) 3 r3.1) r3.2) (fun r4 => oc (y_X0_load k 0 (lI (lI (lI (lI lZ 1 ((L.1 1))) 2 ((L.1 3))) 3 r4.1) 4 ((L.1 4))) r4.2) (fun r5 => oc (y_X1_length k 0 (lI lZ 1 ((L.1 1))) r5.2) (fun r6 => if r6.1 ≤ r4.1 then (y_X0_union k 3 (lI (lI (lI L 3 r4.1) 4 r5.1) 6 r3.1) r6.2) else (oc (y_X1_member k 0 (lI (lI lZ 1 ((L.1 1))) 2 r4.1) r6.2) (fun r8 => oc (y_X1_same k 0 (lI (lI lZ 1 r8.1) 2 r3.1) r8.2) (fun r9 => if r9.1 = 0 then (y_X0_union k 3 (lI (lI (lI L 3 r4.1) 4 r5.1) 6 r3.1) r9.2) else (y_X0_union k 4 (lI (lI L 3 r4.1) 4 r5.1) r9.2))))))))))
  | k + 1, 2, L, σ => oc (y_X1_length k 0 (lI lZ 1 ((L.1 1))) σ) (fun r1 => oc (y_X0_load k 0 (lI (lI (lI (lI lZ 1 ((L.1 1))) 2 ((L.1 3))) 3 r1.1) 4 ((L.1 4))) r1.2) (fun r2 => oc (y_X1_makeRow__a16 k 0 (lI (lI (lI lZ 1 6) 3 0) 4 r2.1) r2.2) (fun r3 => some (r3.1, r3.2))))
  | k + 1, 3, L, σ => if ((Int32.ofNat 2048)) ≤ ((L.1 4)) then (y_X0_union k 4 L σ) else (if ¬ (((L.1 4)) < 0 ∨ 2048 ≤ ((L.1 4)).toNatClampNeg) then (y_X0_union k 4 (lI L 4 ((((L.1 4)) + 1))) (uA σ 16 ((L.1 4)).toNatClampNeg ((L.1 6)))) else none)
  | k + 1, 4, L, σ => y_X0_union k 1 (lI L 5 ((((L.1 5)) + 1))) σ
  | _ + 1, _ + 5, _, _ => none
def o_y_X0_union : List Cond := [.fieldLink RX0 22 "SetHouse$Algebra" "heap" "LSetHouse$Heap;", .methodLink RX0 100 yX1_length, .instanceMethod yX1_length, .selects RX1 yX1_length yX1_length, .initialized RX1, .methodLink RX0 154 yX1_member, .instanceMethod yX1_member, .selects RX1 yX1_member yX1_member, .methodLink RX0 157 yX0_placeOf, .instanceMethod yX0_placeOf, .selects RX0 yX0_placeOf yX0_placeOf, .initialized RX0, .methodLink RX0 103 yX0_load, .instanceMethod yX0_load, .selects RX0 yX0_load yX0_load, .methodLink RX0 60 yX1_same, .instanceMethod yX1_same, .selects RX1 yX1_same yX1_same, .fieldLink RX0 15 "SetHouse$Algebra" "row" "[I", .methodLink RX0 160 yX1_makeRow, .instanceMethod yX1_makeRow, .selects RX1 yX1_makeRow yX1_makeRow]
theorem o_y_X0_union_good : o_y_X0_union.all goodWord = true := by decide +kernel
def p_y_X0_union : List Cond := o_y_X0_union ++ ((.code yX1_length cX1_length 2 (some .int) :: p_y_X1_length) ++ ((.code yX1_member cX1_member 3 (some .int) :: p_y_X1_member) ++ ((.code yX0_placeOf cX0_placeOf 8 (some .int) :: p_y_X0_placeOf) ++ ((.code yX0_load cX0_load 6 (some .int) :: p_y_X0_load) ++ ((.code yX1_same cX1_same 3 (some .boolean) :: p_y_X1_same) ++ ((.code yX1_makeRow cX1_makeRow 11 (some .int) :: p_y_X1_makeRow__a16) ++ []))))))
theorem p_y_X0_union_good : p_y_X0_union.all goodWord = true := nb_all2 o_y_X0_union_good (nb_all2 (nb_allc (by decide +kernel) p_y_X1_length_good) (nb_all2 (nb_allc (by decide +kernel) p_y_X1_member_good) (nb_all2 (nb_allc (by decide +kernel) p_y_X0_placeOf_good) (nb_all2 (nb_allc (by decide +kernel) p_y_X0_load_good) (nb_all2 (nb_allc (by decide +kernel) p_y_X1_same_good) (nb_all2 (nb_allc (by decide +kernel) p_y_X1_makeRow__a16_good) rfl))))))
def w_y_X0_union : List Cond := .code yX0_union cX0_union 8 (some .int) :: (p_y_X0_union ++ fC)
theorem w_y_X0_union_good : w_y_X0_union.all goodWord = true := nb_allc (by decide +kernel) (nb_all2 p_y_X0_union_good fC_good)
theorem in_y_X0_union_X0 : ∀ w ∈ wsX00, w ∈ w_y_X0_union := fun _ h => List.mem_cons_of_mem _ (List.mem_append_right _ (List.mem_append_left _ h))
theorem hd_y_X0_union : yX0_union.cls = RX0 ∧ yX0_union.cls ≠ "java/lang/invoke/MethodHandle" ∧ yX0_union.cls ≠ "java/lang/invoke/VarHandle" ∧ (parseMethodDescriptor yX0_union.desc).map (fun d => d.parameters.length) = some 2 := by decide +kernel
theorem gg_y_X0_union_X0_load : GoodIn w_y_X0_union w_y_X0_load := goodIn_sub (fun w h => (List.mem_cons.mp h).elim (fun e => (List.mem_cons_of_mem _ (List.mem_append_left _ (List.mem_append_right _ (List.mem_append_right _ (List.mem_append_right _ (List.mem_append_right _ (List.mem_append_left _ (List.mem_cons.mpr (Or.inl e)))))))))) (fun h => (List.mem_append.mp h).elim (fun h => (List.mem_cons_of_mem _ (List.mem_append_left _ (List.mem_append_right _ (List.mem_append_right _ (List.mem_append_right _ (List.mem_append_right _ (List.mem_append_left _ (List.mem_cons_of_mem _ h))))))))) (fun h => List.mem_cons_of_mem _ (List.mem_append_right _ h)))) w_y_X0_load_good
theorem g_y_X0_union_X0_load_V103 : GoodIn w_y_X0_union (wsV RX0 103 RX0 yX0_load w_y_X0_load) := goodIn_app (nb_g4 (List.mem_cons_of_mem _ (List.mem_append_left _ (List.mem_append_left _ (List.mem_of_getElem? (i := 12) rfl)))) (List.mem_cons_of_mem _ (List.mem_append_left _ (List.mem_append_left _ (List.mem_of_getElem? (i := 13) rfl)))) (List.mem_cons_of_mem _ (List.mem_append_left _ (List.mem_append_left _ (List.mem_of_getElem? (i := 14) rfl)))) (List.mem_cons_of_mem _ (List.mem_append_left _ (List.mem_append_left _ (List.mem_of_getElem? (i := 11) rfl)))) (by decide +kernel)) gg_y_X0_union_X0_load
theorem gg_y_X0_union_X0_placeOf : GoodIn w_y_X0_union w_y_X0_placeOf := goodIn_sub (fun w h => (List.mem_cons.mp h).elim (fun e => (List.mem_cons_of_mem _ (List.mem_append_left _ (List.mem_append_right _ (List.mem_append_right _ (List.mem_append_right _ (List.mem_append_left _ (List.mem_cons.mpr (Or.inl e))))))))) (fun h => (List.mem_append.mp h).elim (fun h => (List.mem_cons_of_mem _ (List.mem_append_left _ (List.mem_append_right _ (List.mem_append_right _ (List.mem_append_right _ (List.mem_append_left _ (List.mem_cons_of_mem _ h)))))))) (fun h => List.mem_cons_of_mem _ (List.mem_append_right _ h)))) w_y_X0_placeOf_good
theorem g_y_X0_union_X0_placeOf_V157 : GoodIn w_y_X0_union (wsV RX0 157 RX0 yX0_placeOf w_y_X0_placeOf) := goodIn_app (nb_g4 (List.mem_cons_of_mem _ (List.mem_append_left _ (List.mem_append_left _ (List.mem_of_getElem? (i := 8) rfl)))) (List.mem_cons_of_mem _ (List.mem_append_left _ (List.mem_append_left _ (List.mem_of_getElem? (i := 9) rfl)))) (List.mem_cons_of_mem _ (List.mem_append_left _ (List.mem_append_left _ (List.mem_of_getElem? (i := 10) rfl)))) (List.mem_cons_of_mem _ (List.mem_append_left _ (List.mem_append_left _ (List.mem_of_getElem? (i := 11) rfl)))) (by decide +kernel)) gg_y_X0_union_X0_placeOf
theorem gg_y_X0_union_X1_length : GoodIn w_y_X0_union w_y_X1_length := goodIn_sub (fun w h => (List.mem_cons.mp h).elim (fun e => (List.mem_cons_of_mem _ (List.mem_append_left _ (List.mem_append_right _ (List.mem_append_left _ (List.mem_cons.mpr (Or.inl e))))))) (fun h => (List.mem_append.mp h).elim (fun h => (List.mem_cons_of_mem _ (List.mem_append_left _ (List.mem_append_right _ (List.mem_append_left _ (List.mem_cons_of_mem _ h)))))) (fun h => List.mem_cons_of_mem _ (List.mem_append_right _ h)))) w_y_X1_length_good
theorem g_y_X0_union_X1_length_V100 : GoodIn w_y_X0_union (wsV RX0 100 RX1 yX1_length w_y_X1_length) := goodIn_app (nb_g4 (List.mem_cons_of_mem _ (List.mem_append_left _ (List.mem_append_left _ (List.mem_of_getElem? (i := 1) rfl)))) (List.mem_cons_of_mem _ (List.mem_append_left _ (List.mem_append_left _ (List.mem_of_getElem? (i := 2) rfl)))) (List.mem_cons_of_mem _ (List.mem_append_left _ (List.mem_append_left _ (List.mem_of_getElem? (i := 3) rfl)))) (List.mem_cons_of_mem _ (List.mem_append_left _ (List.mem_append_left _ (List.mem_of_getElem? (i := 4) rfl)))) (by decide +kernel)) gg_y_X0_union_X1_length
theorem gg_y_X0_union_X1_makeRow__a16 : GoodIn w_y_X0_union w_y_X1_makeRow__a16 := goodIn_sub (fun w h => (List.mem_cons.mp h).elim (fun e => (List.mem_cons_of_mem _ (List.mem_append_left _ (List.mem_append_right _ (List.mem_append_right _ (List.mem_append_right _ (List.mem_append_right _ (List.mem_append_right _ (List.mem_append_right _ (List.mem_append_left _ (List.mem_cons.mpr (Or.inl e)))))))))))) (fun h => (List.mem_append.mp h).elim (fun h => (List.mem_cons_of_mem _ (List.mem_append_left _ (List.mem_append_right _ (List.mem_append_right _ (List.mem_append_right _ (List.mem_append_right _ (List.mem_append_right _ (List.mem_append_right _ (List.mem_append_left _ (List.mem_cons_of_mem _ h))))))))))) (fun h => List.mem_cons_of_mem _ (List.mem_append_right _ h)))) w_y_X1_makeRow__a16_good
theorem g_y_X0_union_X1_makeRow__a16_V160 : GoodIn w_y_X0_union (wsV RX0 160 RX1 yX1_makeRow w_y_X1_makeRow__a16) := goodIn_app (nb_g4 (List.mem_cons_of_mem _ (List.mem_append_left _ (List.mem_append_left _ (List.mem_of_getElem? (i := 19) rfl)))) (List.mem_cons_of_mem _ (List.mem_append_left _ (List.mem_append_left _ (List.mem_of_getElem? (i := 20) rfl)))) (List.mem_cons_of_mem _ (List.mem_append_left _ (List.mem_append_left _ (List.mem_of_getElem? (i := 21) rfl)))) (List.mem_cons_of_mem _ (List.mem_append_left _ (List.mem_append_left _ (List.mem_of_getElem? (i := 4) rfl)))) (by decide +kernel)) gg_y_X0_union_X1_makeRow__a16
theorem gg_y_X0_union_X1_member : GoodIn w_y_X0_union w_y_X1_member := goodIn_sub (fun w h => (List.mem_cons.mp h).elim (fun e => (List.mem_cons_of_mem _ (List.mem_append_left _ (List.mem_append_right _ (List.mem_append_right _ (List.mem_append_left _ (List.mem_cons.mpr (Or.inl e)))))))) (fun h => (List.mem_append.mp h).elim (fun h => (List.mem_cons_of_mem _ (List.mem_append_left _ (List.mem_append_right _ (List.mem_append_right _ (List.mem_append_left _ (List.mem_cons_of_mem _ h))))))) (fun h => List.mem_cons_of_mem _ (List.mem_append_right _ h)))) w_y_X1_member_good
theorem g_y_X0_union_X1_member_V154 : GoodIn w_y_X0_union (wsV RX0 154 RX1 yX1_member w_y_X1_member) := goodIn_app (nb_g4 (List.mem_cons_of_mem _ (List.mem_append_left _ (List.mem_append_left _ (List.mem_of_getElem? (i := 5) rfl)))) (List.mem_cons_of_mem _ (List.mem_append_left _ (List.mem_append_left _ (List.mem_of_getElem? (i := 6) rfl)))) (List.mem_cons_of_mem _ (List.mem_append_left _ (List.mem_append_left _ (List.mem_of_getElem? (i := 7) rfl)))) (List.mem_cons_of_mem _ (List.mem_append_left _ (List.mem_append_left _ (List.mem_of_getElem? (i := 4) rfl)))) (by decide +kernel)) gg_y_X0_union_X1_member
theorem gg_y_X0_union_X1_same : GoodIn w_y_X0_union w_y_X1_same := goodIn_sub (fun w h => (List.mem_cons.mp h).elim (fun e => (List.mem_cons_of_mem _ (List.mem_append_left _ (List.mem_append_right _ (List.mem_append_right _ (List.mem_append_right _ (List.mem_append_right _ (List.mem_append_right _ (List.mem_append_left _ (List.mem_cons.mpr (Or.inl e))))))))))) (fun h => (List.mem_append.mp h).elim (fun h => (List.mem_cons_of_mem _ (List.mem_append_left _ (List.mem_append_right _ (List.mem_append_right _ (List.mem_append_right _ (List.mem_append_right _ (List.mem_append_right _ (List.mem_append_left _ (List.mem_cons_of_mem _ h)))))))))) (fun h => List.mem_cons_of_mem _ (List.mem_append_right _ h)))) w_y_X1_same_good
theorem g_y_X0_union_X1_same_V60 : GoodIn w_y_X0_union (wsV RX0 60 RX1 yX1_same w_y_X1_same) := goodIn_app (nb_g4 (List.mem_cons_of_mem _ (List.mem_append_left _ (List.mem_append_left _ (List.mem_of_getElem? (i := 15) rfl)))) (List.mem_cons_of_mem _ (List.mem_append_left _ (List.mem_append_left _ (List.mem_of_getElem? (i := 16) rfl)))) (List.mem_cons_of_mem _ (List.mem_append_left _ (List.mem_append_left _ (List.mem_of_getElem? (i := 17) rfl)))) (List.mem_cons_of_mem _ (List.mem_append_left _ (List.mem_append_left _ (List.mem_of_getElem? (i := 4) rfl)))) (by decide +kernel)) gg_y_X0_union_X1_same
set_option maxHeartbeats 40000000 in
set_option maxRecDepth 100000 in
theorem c_y_X0_union (l : Launch) (dC : Nat → ClassId) (dI : Nat → Nat → Nat) (cy : Nat → ClassId) (a z : Nat → Nat) (k0 : Nat) (L0 : LV) (σ0 : CS) (r0 : Int32 × CS) (h0 : y_X0_union k0 0 L0 σ0 = some r0) (sz : Nat) : Met l yX0_union w_y_X0_union ({ frames := 63, cells := 0, slots := 0, locals := 1765 }) (va_Pc [.ref (a 14), .int (L0.1 1), .int (L0.1 2)] (nIn (dC, dI) cy sz (vC cy a z σ0))) (va_Qi (fun (x : Int32) (_ : Unit) => x = r0.1) (fun _ t => nOut (dC, dI) cy (va_A (vC cy a z σ0) sz) (vC cy a z r0.2) t) (va_A (vC cy a z σ0) sz)) 0 0 (va_A (vC cy a z σ0) sz) := by
  refine Met.ofW (cc := cX0_union) (maxL := 8) (ret := (some .int)) (by decide) rfl ?_
  intro p e s m args below meth c s₁ B hml hv
  obtain ⟨rfl, hsz, hP, hK, hD0, hG⟩ := hv
  have hx := B.exec
  have hb := B.bytes
  have hr := B.returns
  have hts := atoms_spec (ws := w_y_X0_union) B.pre
  have hown : s.vm.findClass RX0 = some m.cls := findClass_of_methodNamed B.named
  have hlocks := B.notSynchronized
  subst hsz
  have hD := hD0.self (sz := s.heap.size)
  generalize hAe : va_A (vC cy a z σ0) s.heap.size = A at hD ⊢
  have hA : ∀ q : Nat, s.heap.size ≤ q → A q := fun q h => by rw [← hAe]; exact Or.inr h
  have hS : va_S A s.heap s.heap [] := va_S.rf
  have hl := lv_entry ([.ref (a 14), .int (L0.1 1), .int (L0.1 2)]) (n := 8) (Nat.le_of_ble_eq_true rfl)
  rw [lg_entry_eq]
  generalize (lg_sl ([.ref (a 14), .int (L0.1 1), .int (L0.1 2)]) ++ List.replicate (8 - (lg_sl ([.ref (a 14), .int (L0.1 1), .int (L0.1 2)])).length) Slot.unset).toArray = ls at hl ⊢
  have hl : lv_has ls 8 [(0, .ref (a 14)), (1, .int (L0.1 1)), (2, .int (L0.1 2))] := hl
  have blk : ∀ k : Nat, (bC p l e (headSpec w_y_X0_union ({ frames := 63, cells := 0, slots := 0, locals := 1765 })).room s m #[.ref (a 14), .int (L0.1 1), .int (L0.1 2)] below meth c dC dI cy a z A (kI dC dI cy a z A below #[.ref (a 14), .int (L0.1 1), .int (L0.1 2)] s) 8 (y_X0_union k 0) (fun L => [(0, .ref (a 14)), (1, .int (L.1 1)), (2, .int (L.1 2))]) 0 (fun L => [])) ∧ (bC p l e (headSpec w_y_X0_union ({ frames := 63, cells := 0, slots := 0, locals := 1765 })).room s m #[.ref (a 14), .int (L0.1 1), .int (L0.1 2)] below meth c dC dI cy a z A (kI dC dI cy a z A below #[.ref (a 14), .int (L0.1 1), .int (L0.1 2)] s) 8 (y_X0_union k 1) (fun L => [(0, .ref (a 14)), (1, .int (L.1 1)), (2, .int (L.1 2)), (3, .int (L.1 3)), (4, .int (L.1 4)), (5, .int (L.1 5))]) 8 (fun L => [])) ∧ (bC p l e (headSpec w_y_X0_union ({ frames := 63, cells := 0, slots := 0, locals := 1765 })).room s m #[.ref (a 14), .int (L0.1 1), .int (L0.1 2)] below meth c dC dI cy a z A (kI dC dI cy a z A below #[.ref (a 14), .int (L0.1 1), .int (L0.1 2)] s) 8 (y_X0_union k 2) (fun L => [(0, .ref (a 14)), (1, .int (L.1 1)), (3, .int (L.1 3)), (4, .int (L.1 4))]) 121 (fun L => [])) ∧ (bC p l e (headSpec w_y_X0_union ({ frames := 63, cells := 0, slots := 0, locals := 1765 })).room s m #[.ref (a 14), .int (L0.1 1), .int (L0.1 2)] below meth c dC dI cy a z A (kI dC dI cy a z A below #[.ref (a 14), .int (L0.1 1), .int (L0.1 2)] s) 8 (y_X0_union k 3) (fun L => [(0, .ref (a 14)), (1, .int (L.1 1)), (2, .int (L.1 2)), (3, .int (L.1 3)), (4, .int (L.1 4)), (5, .int (L.1 5)), (6, .int (L.1 6))]) 93 (fun L => [])) ∧ (bC p l e (headSpec w_y_X0_union ({ frames := 63, cells := 0, slots := 0, locals := 1765 })).room s m #[.ref (a 14), .int (L0.1 1), .int (L0.1 2)] below meth c dC dI cy a z A (kI dC dI cy a z A below #[.ref (a 14), .int (L0.1 1), .int (L0.1 2)] s) 8 (y_X0_union k 4) (fun L => [(0, .ref (a 14)), (1, .int (L.1 1)), (2, .int (L.1 2)), (3, .int (L.1 3)), (4, .int (L.1 4)), (5, .int (L.1 5))]) 115 (fun L => [])) := by
    intro k
    induction k with
    | zero => exact ⟨fun L σ r h => (by cases h), fun L σ r h => (by cases h), fun L σ r h => (by cases h), fun L σ r h => (by cases h), fun L σ r h => (by cases h)⟩
    | succ k ih =>
      refine ⟨?_, ?_, ?_, ?_, ?_⟩
      · intro L σ r h H locs ls hP hD hS hl
        rw [y_X0_union] at h
        refine lv_iconst (v := 0) hx hb dX0_union_0 (by decide) ?_
        refine lv_istore_n (lv' := [(3, .int 0), (0, .ref (a 14)), (1, .int (L.1 1)), (2, .int (L.1 2))]) hx hb dX0_union_1 rfl hl (by decide) rfl (fun ls hl => ?_)
        refine lv_iconst (v := 0) hx hb dX0_union_2 (by decide) ?_
        refine lv_istore (lv' := [(4, .int 0), (3, .int 0), (0, .ref (a 14)), (1, .int (L.1 1)), (2, .int (L.1 2))]) hx hb dX0_union_3 hl (by decide) rfl (fun ls hl => ?_)
        refine lv_iconst (v := 0) hx hb dX0_union_5 (by decide) ?_
        refine lv_istore (lv' := [(5, .int 0), (4, .int 0), (3, .int 0), (0, .ref (a 14)), (1, .int (L.1 1)), (2, .int (L.1 2))]) hx hb dX0_union_6 hl (by decide) rfl (fun ls hl => ?_)
        exact ih.2.1 (lI (lI (lI L 3 0) 4 0) 5 0) σ r h H locs ls hP hD hS (lv_sub hl [3, 4, 5, 2, 1, 0] rfl)
      · intro L σ r h H locs ls hP hD hS hl
        rw [y_X0_union] at h
        refine lv_iload hx hb dX0_union_8 (lv_at hl 5 rfl) ?_
        refine lv_aload_n hx hb dX0_union_10 rfl (lv_at hl 0 rfl) ?_
        refine hg_14_0 hx hb hts in_y_X0_union_X0 hown hK hP (hts _ (List.mem_cons_of_mem _ (List.mem_append_left _ (List.mem_append_left _ (List.mem_of_getElem? (i := 0) rfl))))) dX0_union_11 ?_
        refine lv_iload_n hx hb dX0_union_14 rfl (lv_at hl 2 rfl) ?_
        obtain ⟨r1, hc1, h⟩ := oc_ex h
        refine kc_i (va_runV (As := [.int (L.1 2)]) (rest := [.int (L.1 5)]) ⟨hx, hb, hml, hown, hts⟩ (c_y_X1_length l dC dI cy a z k (lI lZ 1 ((L.1 2))) σ r1 hc1 H.size) (cwV 1 hts g_y_X0_union_X1_length_V100 rfl rfl rfl hd_y_X1_length ⟨Nat.le_of_ble_eq_true rfl, Nat.le_of_ble_eq_true rfl⟩) ⟨nb_blind, va_recv hK hP (ci := 1) (q0 := 0) rfl rfl, (kb_pre hK hG hP hD)⟩ rfl rfl hl.1 rfl (lv_room (Nat.le_of_ble_eq_true rfl)) dX0_union_15 ⟨Nat.le_refl _, Nat.le_refl _⟩) hA hP hD hS (fun H locs hP hD hS => ?_)
        refine lv_icmp_ge (tgt := 121) hx hb dX0_union_18 (by decide) (fun c2 => ?_) (fun c2 => ?_)
        · rw [if_pos c2] at h
          exact ih.2.2.1 L r1.2 r h H locs ls hP hD hS (lv_sub hl [0, 1, 3, 4] rfl)
        · rw [if_neg c2] at h
          refine lv_aload_n hx hb dX0_union_21 rfl (lv_at hl 0 rfl) ?_
          refine hg_14_0 hx hb hts in_y_X0_union_X0 hown hK hP (hts _ (List.mem_cons_of_mem _ (List.mem_append_left _ (List.mem_append_left _ (List.mem_of_getElem? (i := 0) rfl))))) dX0_union_22 ?_
          refine lv_iload_n hx hb dX0_union_25 rfl (lv_at hl 2 rfl) ?_
          refine lv_iload hx hb dX0_union_26 (lv_at hl 5 rfl) ?_
          obtain ⟨r3, hc3, h⟩ := oc_ex h
          refine kc_i (va_runV (As := [.int (L.1 2), .int (L.1 5)]) (rest := []) ⟨hx, hb, hml, hown, hts⟩ (c_y_X1_member l dC dI cy a z k (lI (lI lZ 1 ((L.1 2))) 2 ((L.1 5))) r1.2 r3 hc3 H.size) (cwV 2 hts g_y_X0_union_X1_member_V154 rfl rfl rfl hd_y_X1_member ⟨Nat.le_of_ble_eq_true rfl, Nat.le_of_ble_eq_true rfl⟩) ⟨nb_blind, va_recv hK hP (ci := 1) (q0 := 0) rfl rfl, (kb_pre hK hG hP hD)⟩ rfl rfl hl.1 rfl (lv_room (Nat.le_of_ble_eq_true rfl)) dX0_union_28 ⟨Nat.le_refl _, Nat.le_refl _⟩) hA hP hD hS (fun H locs hP hD hS => ?_)
          refine lv_istore (lv' := [(6, .int r3.1), (0, .ref (a 14)), (1, .int (L.1 1)), (2, .int (L.1 2)), (3, .int (L.1 3)), (4, .int (L.1 4)), (5, .int (L.1 5))]) hx hb dX0_union_31 hl (by decide) rfl (fun ls hl => ?_)
          refine lv_aload_n hx hb dX0_union_33 rfl (lv_at hl 1 rfl) ?_
          refine lv_iload_n hx hb dX0_union_34 rfl (lv_at hl 2 rfl) ?_
          refine lv_iload_n hx hb dX0_union_35 rfl (lv_at hl 4 rfl) ?_
          refine lv_iload hx hb dX0_union_36 (lv_at hl 0 rfl) ?_
          obtain ⟨r4, hc4, h⟩ := oc_ex h
          refine kc_i (va_runV (As := [.int (L.1 1), .int (L.1 3), .int r3.1]) (rest := []) ⟨hx, hb, hml, hown, hts⟩ (c_y_X0_placeOf l dC dI cy a z k (lI (lI (lI lZ 1 ((L.1 1))) 2 ((L.1 3))) 3 r3.1) r3.2 r4 hc4 H.size) (cwV 3 hts g_y_X0_union_X0_placeOf_V157 rfl rfl rfl hd_y_X0_placeOf ⟨Nat.le_of_ble_eq_true rfl, Nat.le_of_ble_eq_true rfl⟩) ⟨nb_blind, va_recv hK hP (ci := 0) (q0 := 14) rfl rfl, (kb_pre hK hG hP hD)⟩ rfl rfl hl.1 rfl (lv_room (Nat.le_of_ble_eq_true rfl)) dX0_union_38 ⟨Nat.le_refl _, Nat.le_refl _⟩) hA hP hD hS (fun H locs hP hD hS => ?_)
          refine lv_istore (lv' := [(7, .int r4.1), (6, .int r3.1), (0, .ref (a 14)), (1, .int (L.1 1)), (2, .int (L.1 2)), (3, .int (L.1 3)), (4, .int (L.1 4)), (5, .int (L.1 5))]) hx hb dX0_union_41 hl (by decide) rfl (fun ls hl => ?_)
          refine lv_aload_n hx hb dX0_union_43 rfl (lv_at hl 2 rfl) ?_
          refine lv_iload_n hx hb dX0_union_44 rfl (lv_at hl 3 rfl) ?_
          refine lv_iload_n hx hb dX0_union_45 rfl (lv_at hl 5 rfl) ?_
          refine lv_iload hx hb dX0_union_46 (lv_at hl 0 rfl) ?_
          refine lv_iload hx hb dX0_union_48 (lv_at hl 6 rfl) ?_
          obtain ⟨r5, hc5, h⟩ := oc_ex h
          refine kc_i (va_runV (As := [.int (L.1 1), .int (L.1 3), .int r4.1, .int (L.1 4)]) (rest := []) ⟨hx, hb, hml, hown, hts⟩ (c_y_X0_load l dC dI cy a z k (lI (lI (lI (lI lZ 1 ((L.1 1))) 2 ((L.1 3))) 3 r4.1) 4 ((L.1 4))) r4.2 r5 hc5 H.size) (cwV 4 hts g_y_X0_union_X0_load_V103 rfl rfl rfl hd_y_X0_load ⟨Nat.le_of_ble_eq_true rfl, Nat.le_of_ble_eq_true rfl⟩) ⟨nb_blind, va_recv hK hP (ci := 0) (q0 := 14) rfl rfl, (kb_pre hK hG hP hD)⟩ rfl rfl hl.1 rfl (lv_room (Nat.le_of_ble_eq_true rfl)) dX0_union_50 ⟨Nat.le_refl _, Nat.le_refl _⟩) hA hP hD hS (fun H locs hP hD hS => ?_)
          refine lv_istore (lv' := [(4, .int r5.1), (7, .int r4.1), (6, .int r3.1), (0, .ref (a 14)), (1, .int (L.1 1)), (2, .int (L.1 2)), (3, .int (L.1 3)), (5, .int (L.1 5))]) hx hb dX0_union_53 hl (by decide) rfl (fun ls hl => ?_)
          refine lv_iload hx hb dX0_union_55 (lv_at hl 1 rfl) ?_
          refine lv_istore_n (lv' := [(3, .int r4.1), (4, .int r5.1), (7, .int r4.1), (6, .int r3.1), (0, .ref (a 14)), (1, .int (L.1 1)), (2, .int (L.1 2)), (5, .int (L.1 5))]) hx hb dX0_union_57 rfl hl (by decide) rfl (fun ls hl => ?_)
          refine lv_iload hx hb dX0_union_58 (lv_at hl 2 rfl) ?_
          refine lv_aload_n hx hb dX0_union_60 rfl (lv_at hl 4 rfl) ?_
          refine hg_14_0 hx hb hts in_y_X0_union_X0 hown hK hP (hts _ (List.mem_cons_of_mem _ (List.mem_append_left _ (List.mem_append_left _ (List.mem_of_getElem? (i := 0) rfl))))) dX0_union_61 ?_
          refine lv_iload_n hx hb dX0_union_64 rfl (lv_at hl 5 rfl) ?_
          obtain ⟨r6, hc6, h⟩ := oc_ex h
          refine kc_i (va_runV (As := [.int (L.1 1)]) (rest := [.int r4.1]) ⟨hx, hb, hml, hown, hts⟩ (c_y_X1_length l dC dI cy a z k (lI lZ 1 ((L.1 1))) r5.2 r6 hc6 H.size) (cwV 1 hts g_y_X0_union_X1_length_V100 rfl rfl rfl hd_y_X1_length ⟨Nat.le_of_ble_eq_true rfl, Nat.le_of_ble_eq_true rfl⟩) ⟨nb_blind, va_recv hK hP (ci := 1) (q0 := 0) rfl rfl, (kb_pre hK hG hP hD)⟩ rfl rfl hl.1 rfl (lv_room (Nat.le_of_ble_eq_true rfl)) dX0_union_65 ⟨Nat.le_refl _, Nat.le_refl _⟩) hA hP hD hS (fun H locs hP hD hS => ?_)
          refine lv_icmp_ge (tgt := 93) hx hb dX0_union_68 (by decide) (fun c7 => ?_) (fun c7 => ?_)
          · rw [if_pos c7] at h
            exact ih.2.2.2.1 (lI (lI (lI L 3 r4.1) 4 r5.1) 6 r3.1) r6.2 r h H locs ls hP hD hS (lv_sub hl [4, 5, 6, 0, 1, 7, 3] rfl)
          · rw [if_neg c7] at h
            refine lv_aload_n hx hb dX0_union_71 rfl (lv_at hl 4 rfl) ?_
            refine hg_14_0 hx hb hts in_y_X0_union_X0 hown hK hP (hts _ (List.mem_cons_of_mem _ (List.mem_append_left _ (List.mem_append_left _ (List.mem_of_getElem? (i := 0) rfl))))) dX0_union_72 ?_
            refine lv_aload_n hx hb dX0_union_75 rfl (lv_at hl 4 rfl) ?_
            refine hg_14_0 hx hb hts in_y_X0_union_X0 hown hK hP (hts _ (List.mem_cons_of_mem _ (List.mem_append_left _ (List.mem_append_left _ (List.mem_of_getElem? (i := 0) rfl))))) dX0_union_76 ?_
            refine lv_iload_n hx hb dX0_union_79 rfl (lv_at hl 5 rfl) ?_
            refine lv_iload hx hb dX0_union_80 (lv_at hl 2 rfl) ?_
            obtain ⟨r8, hc8, h⟩ := oc_ex h
            refine kc_i (va_runV (As := [.int (L.1 1), .int r4.1]) (rest := [.ref (a 0)]) ⟨hx, hb, hml, hown, hts⟩ (c_y_X1_member l dC dI cy a z k (lI (lI lZ 1 ((L.1 1))) 2 r4.1) r6.2 r8 hc8 H.size) (cwV 2 hts g_y_X0_union_X1_member_V154 rfl rfl rfl hd_y_X1_member ⟨Nat.le_of_ble_eq_true rfl, Nat.le_of_ble_eq_true rfl⟩) ⟨nb_blind, va_recv hK hP (ci := 1) (q0 := 0) rfl rfl, (kb_pre hK hG hP hD)⟩ rfl rfl hl.1 rfl (lv_room (Nat.le_of_ble_eq_true rfl)) dX0_union_82 ⟨Nat.le_refl _, Nat.le_refl _⟩) hA hP hD hS (fun H locs hP hD hS => ?_)
            refine lv_iload hx hb dX0_union_85 (lv_at hl 3 rfl) ?_
            obtain ⟨r9, hc9, h⟩ := oc_ex h
            refine kc_i (va_runV (As := [.int r8.1, .int r3.1]) (rest := []) ⟨hx, hb, hml, hown, hts⟩ (c_y_X1_same l dC dI cy a z k (lI (lI lZ 1 r8.1) 2 r3.1) r8.2 r9 hc9 H.size) (cwV 2 hts g_y_X0_union_X1_same_V60 rfl rfl rfl hd_y_X1_same ⟨Nat.le_of_ble_eq_true rfl, Nat.le_of_ble_eq_true rfl⟩) ⟨nb_blind, va_recv hK hP (ci := 1) (q0 := 0) rfl rfl, (kb_pre hK hG hP hD)⟩ rfl rfl hl.1 rfl (lv_room (Nat.le_of_ble_eq_true rfl)) dX0_union_87 ⟨Nat.le_refl _, Nat.le_refl _⟩) hA hP hD hS (fun H locs hP hD hS => ?_)
            refine lv_if_ne (tgt := 115) hx hb dX0_union_90 (by decide) (fun c10 => ?_) (fun c10 => ?_)
            · rw [if_neg c10] at h
              exact ih.2.2.2.2 (lI (lI L 3 r4.1) 4 r5.1) r9.2 r h H locs ls hP hD hS (lv_sub hl [4, 5, 6, 0, 1, 7] rfl)
            · rw [if_pos c10] at h
              exact ih.2.2.2.1 (lI (lI (lI L 3 r4.1) 4 r5.1) 6 r3.1) r9.2 r h H locs ls hP hD hS (lv_sub hl [4, 5, 6, 0, 1, 7, 3] rfl)
      · intro L σ r h H locs ls hP hD hS hl
        rw [y_X0_union] at h
        refine lv_aload_n hx hb dX0_union_121 rfl (lv_at hl 0 rfl) ?_
        refine lv_iload_n hx hb dX0_union_122 rfl (lv_at hl 1 rfl) ?_
        refine lv_iload_n hx hb dX0_union_123 rfl (lv_at hl 2 rfl) ?_
        refine lv_aload_n hx hb dX0_union_124 rfl (lv_at hl 0 rfl) ?_
        refine hg_14_0 hx hb hts in_y_X0_union_X0 hown hK hP (hts _ (List.mem_cons_of_mem _ (List.mem_append_left _ (List.mem_append_left _ (List.mem_of_getElem? (i := 0) rfl))))) dX0_union_125 ?_
        refine lv_iload_n hx hb dX0_union_128 rfl (lv_at hl 1 rfl) ?_
        obtain ⟨r1, hc1, h⟩ := oc_ex h
        refine kc_i (va_runV (As := [.int (L.1 1)]) (rest := [.int (L.1 3), .int (L.1 1), .ref (a 14)]) ⟨hx, hb, hml, hown, hts⟩ (c_y_X1_length l dC dI cy a z k (lI lZ 1 ((L.1 1))) σ r1 hc1 H.size) (cwV 1 hts g_y_X0_union_X1_length_V100 rfl rfl rfl hd_y_X1_length ⟨Nat.le_of_ble_eq_true rfl, Nat.le_of_ble_eq_true rfl⟩) ⟨nb_blind, va_recv hK hP (ci := 1) (q0 := 0) rfl rfl, (kb_pre hK hG hP hD)⟩ rfl rfl hl.1 rfl (lv_room (Nat.le_of_ble_eq_true rfl)) dX0_union_129 ⟨Nat.le_refl _, Nat.le_refl _⟩) hA hP hD hS (fun H locs hP hD hS => ?_)
        refine lv_iload hx hb dX0_union_132 (lv_at hl 3 rfl) ?_
        obtain ⟨r2, hc2, h⟩ := oc_ex h
        refine kc_i (va_runV (As := [.int (L.1 1), .int (L.1 3), .int r1.1, .int (L.1 4)]) (rest := []) ⟨hx, hb, hml, hown, hts⟩ (c_y_X0_load l dC dI cy a z k (lI (lI (lI (lI lZ 1 ((L.1 1))) 2 ((L.1 3))) 3 r1.1) 4 ((L.1 4))) r1.2 r2 hc2 H.size) (cwV 4 hts g_y_X0_union_X0_load_V103 rfl rfl rfl hd_y_X0_load ⟨Nat.le_of_ble_eq_true rfl, Nat.le_of_ble_eq_true rfl⟩) ⟨nb_blind, va_recv hK hP (ci := 0) (q0 := 14) rfl rfl, (kb_pre hK hG hP hD)⟩ rfl rfl hl.1 rfl (lv_room (Nat.le_of_ble_eq_true rfl)) dX0_union_134 ⟨Nat.le_refl _, Nat.le_refl _⟩) hA hP hD hS (fun H locs hP hD hS => ?_)
        refine lv_istore (lv' := [(4, .int r2.1), (0, .ref (a 14)), (1, .int (L.1 1)), (3, .int (L.1 3))]) hx hb dX0_union_137 hl (by decide) rfl (fun ls hl => ?_)
        refine lv_aload_n hx hb dX0_union_139 rfl (lv_at hl 1 rfl) ?_
        refine hg_14_0 hx hb hts in_y_X0_union_X0 hown hK hP (hts _ (List.mem_cons_of_mem _ (List.mem_append_left _ (List.mem_append_left _ (List.mem_of_getElem? (i := 0) rfl))))) dX0_union_140 ?_
        refine lv_bipush (v := 6) hx hb dX0_union_143 (by decide) ?_
        refine lv_aload_n hx hb dX0_union_145 rfl (lv_at hl 1 rfl) ?_
        refine hg_14_4 hx hb hts in_y_X0_union_X0 hown hK hP (hts _ (List.mem_cons_of_mem _ (List.mem_append_left _ (List.mem_append_left _ (List.mem_of_getElem? (i := 18) rfl))))) dX0_union_146 ?_
        refine lv_iconst (v := 0) hx hb dX0_union_149 (by decide) ?_
        refine lv_iload hx hb dX0_union_150 (lv_at hl 0 rfl) ?_
        obtain ⟨r3, hc3, h⟩ := oc_ex h
        refine kc_i (va_runV (As := [.int 6, .ref (a 16), .int 0, .int r2.1]) (rest := []) ⟨hx, hb, hml, hown, hts⟩ (c_y_X1_makeRow__a16 l dC dI cy a z k (lI (lI (lI lZ 1 6) 3 0) 4 r2.1) r2.2 r3 hc3 H.size) (cwV 4 hts g_y_X0_union_X1_makeRow__a16_V160 rfl rfl rfl hd_y_X1_makeRow__a16 ⟨Nat.le_of_ble_eq_true rfl, Nat.le_of_ble_eq_true rfl⟩) ⟨nb_blind, va_recv hK hP (ci := 1) (q0 := 0) rfl rfl, (kb_pre hK hG hP hD)⟩ rfl rfl hl.1 rfl (lv_room (Nat.le_of_ble_eq_true rfl)) dX0_union_152 ⟨Nat.le_refl _, Nat.le_refl _⟩) hA hP hD hS (fun H locs hP hD hS => ?_)
        obtain rfl := Option.some.inj h
        exact W.iret (v := r3.1) hx hb hr (fun t ht hW => ⟨⟨r3.1, (), rfl, rfl, by rw [ht]; exact hP, va_K.moved hW.alike hK, hD⟩, hS.F ht⟩) hS.2.2 dX0_union_155
      · intro L σ r h H locs ls hP hD hS hl
        rw [y_X0_union] at h
        refine lv_iload hx hb dX0_union_93 (lv_at hl 4 rfl) ?_
        refine lv_aload_n hx hb dX0_union_95 rfl (lv_at hl 0 rfl) ?_
        refine hg_14_4 hx hb hts in_y_X0_union_X0 hown hK hP (hts _ (List.mem_cons_of_mem _ (List.mem_append_left _ (List.mem_append_left _ (List.mem_of_getElem? (i := 18) rfl))))) dX0_union_96 ?_
        refine hn_16 hx hb hK hP dX0_union_99 ?_
        refine lv_icmp_ge (tgt := 115) hx hb dX0_union_100 (by decide) (fun c1 => ?_) (fun c1 => ?_)
        · rw [if_pos c1] at h
          exact ih.2.2.2.2 L σ r h H locs ls hP hD hS (lv_sub hl [0, 1, 2, 3, 4, 5] rfl)
        · rw [if_neg c1] at h
          refine lv_aload_n hx hb dX0_union_103 rfl (lv_at hl 0 rfl) ?_
          refine hg_14_4 hx hb hts in_y_X0_union_X0 hown hK hP (hts _ (List.mem_cons_of_mem _ (List.mem_append_left _ (List.mem_append_left _ (List.mem_of_getElem? (i := 18) rfl))))) dX0_union_104 ?_
          refine lv_iload hx hb dX0_union_107 (lv_at hl 4 rfl) ?_
          refine lv_iload hx hb dX0_union_109 (lv_at hl 6 rfl) ?_
          obtain ⟨q2, h⟩ := kb_ite1 h
          refine hs_16 hx hb hK hP hD hS q2 dX0_union_111 (fun H locs hP hD hS => ?_)
          refine lv_iinc (v := ((L.1 4)) + 1) (lv' := [(4, .int (((L.1 4)) + 1)), (0, .ref (a 14)), (1, .int (L.1 1)), (2, .int (L.1 2)), (3, .int (L.1 3)), (5, .int (L.1 5)), (6, .int (L.1 6))]) hx hb dX0_union_112 hl (k := 4) rfl rfl (by decide) rfl (fun ls hl => ?_)
          exact ih.2.2.2.2 (lI L 4 ((((L.1 4)) + 1))) (uA σ 16 ((L.1 4)).toNatClampNeg ((L.1 6))) r h H locs ls hP hD hS (lv_sub hl [1, 2, 3, 4, 0, 5] rfl)
      · intro L σ r h H locs ls hP hD hS hl
        rw [y_X0_union] at h
        refine lv_iinc (v := ((L.1 5)) + 1) (lv' := [(5, .int (((L.1 5)) + 1)), (0, .ref (a 14)), (1, .int (L.1 1)), (2, .int (L.1 2)), (3, .int (L.1 3)), (4, .int (L.1 4))]) hx hb dX0_union_115 hl (k := 5) rfl rfl (by decide) rfl (fun ls hl => ?_)
        refine lv_goto (tgt := 8) hx hb dX0_union_118 (by decide) ?_
        exact ih.2.1 (lI L 5 ((((L.1 5)) + 1))) σ r h H locs ls hP hD hS (lv_sub hl [1, 2, 3, 4, 5, 0] rfl)
  exact (blk k0).1 L0 σ0 r0 h0 s.heap [] ls hP hD hS hl
/-! X1_makeTuple__a16 -/
def y_X1_makeTuple__a16 : Nat → Nat → LV → CS → Option (Int32 × CS)
  | 0, _, _, _ => none
  | k + 1, 0, L, σ => y_X1_makeTuple__a16 k 1 (lI (lI L 4 ((L.1 3))) 5 ((L.1 3))) σ
  | k + 1, 1, L, σ => if ((L.1 5)) ≤ 0 then (y_X1_makeTuple__a16 k 2 L σ) else (if ¬ (((((((L.1 2)) + ((L.1 5)))) - 1)) < 0 ∨ 2048 ≤ ((((((L.1 2)) + ((L.1 5)))) - 1)).toNatClampNeg) then (if ((σ.2.2.1 16 ((((((L.1 2)) + ((L.1 5)))) - 1)).toNatClampNeg)) = ((-2147483648)) then (y_X1_makeTuple__a16 k 1 (lI (lI L 4 ((((L.1 5)) - 1))) 5 ((((L.1 5)) + (-1)))) σ) else (y_X1_makeTuple__a16 k 2 L σ)) else none)
  | k + 1, 2, L, σ => oc (y_X1_makeRow__a16 k 0 (lI (lI (lI lZ 1 5) 3 ((L.1 2))) 4 ((L.1 4))) σ) (fun r1 => some (r1.1, r1.2))
  | _ + 1, _ + 3, _, _ => none
def o_y_X1_makeTuple__a16 : List Cond := [.constant RX1 44 (-2147483648), .methodLink RX1 60 yX1_makeRow, .instanceMethod yX1_makeRow, .selects RX1 yX1_makeRow yX1_makeRow, .initialized RX1]
theorem o_y_X1_makeTuple__a16_good : o_y_X1_makeTuple__a16.all goodWord = true := by decide +kernel
def p_y_X1_makeTuple__a16 : List Cond := o_y_X1_makeTuple__a16 ++ ((.code yX1_makeRow cX1_makeRow 11 (some .int) :: p_y_X1_makeRow__a16) ++ [])
theorem p_y_X1_makeTuple__a16_good : p_y_X1_makeTuple__a16.all goodWord = true := nb_all2 o_y_X1_makeTuple__a16_good (nb_all2 (nb_allc (by decide +kernel) p_y_X1_makeRow__a16_good) rfl)
def w_y_X1_makeTuple__a16 : List Cond := .code yX1_makeTuple cX1_makeTuple 6 (some .int) :: (p_y_X1_makeTuple__a16 ++ fC)
theorem w_y_X1_makeTuple__a16_good : w_y_X1_makeTuple__a16.all goodWord = true := nb_allc (by decide +kernel) (nb_all2 p_y_X1_makeTuple__a16_good fC_good)
theorem hd_y_X1_makeTuple__a16 : yX1_makeTuple.cls = RX1 ∧ yX1_makeTuple.cls ≠ "java/lang/invoke/MethodHandle" ∧ yX1_makeTuple.cls ≠ "java/lang/invoke/VarHandle" ∧ (parseMethodDescriptor yX1_makeTuple.desc).map (fun d => d.parameters.length) = some 3 := by decide +kernel
theorem gg_y_X1_makeTuple__a16_X1_makeRow__a16 : GoodIn w_y_X1_makeTuple__a16 w_y_X1_makeRow__a16 := goodIn_sub (fun w h => (List.mem_cons.mp h).elim (fun e => (List.mem_cons_of_mem _ (List.mem_append_left _ (List.mem_append_right _ (List.mem_append_left _ (List.mem_cons.mpr (Or.inl e))))))) (fun h => (List.mem_append.mp h).elim (fun h => (List.mem_cons_of_mem _ (List.mem_append_left _ (List.mem_append_right _ (List.mem_append_left _ (List.mem_cons_of_mem _ h)))))) (fun h => List.mem_cons_of_mem _ (List.mem_append_right _ h)))) w_y_X1_makeRow__a16_good
theorem g_y_X1_makeTuple__a16_X1_makeRow__a16_V60 : GoodIn w_y_X1_makeTuple__a16 (wsV RX1 60 RX1 yX1_makeRow w_y_X1_makeRow__a16) := goodIn_app (nb_g4 (List.mem_cons_of_mem _ (List.mem_append_left _ (List.mem_append_left _ (List.mem_of_getElem? (i := 1) rfl)))) (List.mem_cons_of_mem _ (List.mem_append_left _ (List.mem_append_left _ (List.mem_of_getElem? (i := 2) rfl)))) (List.mem_cons_of_mem _ (List.mem_append_left _ (List.mem_append_left _ (List.mem_of_getElem? (i := 3) rfl)))) (List.mem_cons_of_mem _ (List.mem_append_left _ (List.mem_append_left _ (List.mem_of_getElem? (i := 4) rfl)))) (by decide +kernel)) gg_y_X1_makeTuple__a16_X1_makeRow__a16
set_option maxHeartbeats 40000000 in
set_option maxRecDepth 100000 in
theorem c_y_X1_makeTuple__a16 (l : Launch) (dC : Nat → ClassId) (dI : Nat → Nat → Nat) (cy : Nat → ClassId) (a z : Nat → Nat) (k0 : Nat) (L0 : LV) (σ0 : CS) (r0 : Int32 × CS) (h0 : y_X1_makeTuple__a16 k0 0 L0 σ0 = some r0) (sz : Nat) : Met l yX1_makeTuple w_y_X1_makeTuple__a16 ({ frames := 2, cells := 0, slots := 0, locals := 90 }) (va_Pc [.ref (a 0), .ref (a 16), .int (L0.1 2), .int (L0.1 3)] (nIn (dC, dI) cy sz (vC cy a z σ0))) (va_Qi (fun (x : Int32) (_ : Unit) => x = r0.1) (fun _ t => nOut (dC, dI) cy (va_A (vC cy a z σ0) sz) (vC cy a z r0.2) t) (va_A (vC cy a z σ0) sz)) 0 0 (va_A (vC cy a z σ0) sz) := by
  refine Met.ofW (cc := cX1_makeTuple) (maxL := 6) (ret := (some .int)) (by decide) rfl ?_
  intro p e s m args below meth c s₁ B hml hv
  obtain ⟨rfl, hsz, hP, hK, hD0, hG⟩ := hv
  have hx := B.exec
  have hb := B.bytes
  have hr := B.returns
  have hts := atoms_spec (ws := w_y_X1_makeTuple__a16) B.pre
  have hown : s.vm.findClass RX1 = some m.cls := findClass_of_methodNamed B.named
  have hlocks := B.notSynchronized
  subst hsz
  have hD := hD0.self (sz := s.heap.size)
  generalize hAe : va_A (vC cy a z σ0) s.heap.size = A at hD ⊢
  have hA : ∀ q : Nat, s.heap.size ≤ q → A q := fun q h => by rw [← hAe]; exact Or.inr h
  have hS : va_S A s.heap s.heap [] := va_S.rf
  have hl := lv_entry ([.ref (a 0), .ref (a 16), .int (L0.1 2), .int (L0.1 3)]) (n := 6) (Nat.le_of_ble_eq_true rfl)
  rw [lg_entry_eq]
  generalize (lg_sl ([.ref (a 0), .ref (a 16), .int (L0.1 2), .int (L0.1 3)]) ++ List.replicate (6 - (lg_sl ([.ref (a 0), .ref (a 16), .int (L0.1 2), .int (L0.1 3)])).length) Slot.unset).toArray = ls at hl ⊢
  have hl : lv_has ls 6 [(0, .ref (a 0)), (1, .ref (a 16)), (2, .int (L0.1 2)), (3, .int (L0.1 3))] := hl
  have blk : ∀ k : Nat, (bC p l e (headSpec w_y_X1_makeTuple__a16 ({ frames := 2, cells := 0, slots := 0, locals := 90 })).room s m #[.ref (a 0), .ref (a 16), .int (L0.1 2), .int (L0.1 3)] below meth c dC dI cy a z A (kI dC dI cy a z A below #[.ref (a 0), .ref (a 16), .int (L0.1 2), .int (L0.1 3)] s) 6 (y_X1_makeTuple__a16 k 0) (fun L => [(0, .ref (a 0)), (1, .ref (a 16)), (2, .int (L.1 2)), (3, .int (L.1 3))]) 0 (fun L => [])) ∧ (bC p l e (headSpec w_y_X1_makeTuple__a16 ({ frames := 2, cells := 0, slots := 0, locals := 90 })).room s m #[.ref (a 0), .ref (a 16), .int (L0.1 2), .int (L0.1 3)] below meth c dC dI cy a z A (kI dC dI cy a z A below #[.ref (a 0), .ref (a 16), .int (L0.1 2), .int (L0.1 3)] s) 6 (y_X1_makeTuple__a16 k 1) (fun L => [(0, .ref (a 0)), (1, .ref (a 16)), (2, .int (L.1 2)), (4, .int (L.1 4)), (5, .int (L.1 5))]) 6 (fun L => [])) ∧ (bC p l e (headSpec w_y_X1_makeTuple__a16 ({ frames := 2, cells := 0, slots := 0, locals := 90 })).room s m #[.ref (a 0), .ref (a 16), .int (L0.1 2), .int (L0.1 3)] below meth c dC dI cy a z A (kI dC dI cy a z A below #[.ref (a 0), .ref (a 16), .int (L0.1 2), .int (L0.1 3)] s) 6 (y_X1_makeTuple__a16 k 2) (fun L => [(0, .ref (a 0)), (1, .ref (a 16)), (2, .int (L.1 2)), (4, .int (L.1 4))]) 36 (fun L => [])) := by
    intro k
    induction k with
    | zero => exact ⟨fun L σ r h => (by cases h), fun L σ r h => (by cases h), fun L σ r h => (by cases h)⟩
    | succ k ih =>
      refine ⟨?_, ?_, ?_⟩
      · intro L σ r h H locs ls hP hD hS hl
        rw [y_X1_makeTuple__a16] at h
        refine lv_iload_n hx hb dX1_makeTuple_0 rfl (lv_at hl 3 rfl) ?_
        refine lv_istore (lv' := [(4, .int (L.1 3)), (0, .ref (a 0)), (1, .ref (a 16)), (2, .int (L.1 2)), (3, .int (L.1 3))]) hx hb dX1_makeTuple_1 hl (by decide) rfl (fun ls hl => ?_)
        refine lv_iload_n hx hb dX1_makeTuple_3 rfl (lv_at hl 4 rfl) ?_
        refine lv_istore (lv' := [(5, .int (L.1 3)), (4, .int (L.1 3)), (0, .ref (a 0)), (1, .ref (a 16)), (2, .int (L.1 2)), (3, .int (L.1 3))]) hx hb dX1_makeTuple_4 hl (by decide) rfl (fun ls hl => ?_)
        exact ih.2.1 (lI (lI L 4 ((L.1 3))) 5 ((L.1 3))) σ r h H locs ls hP hD hS (lv_sub hl [2, 3, 4, 1, 0] rfl)
      · intro L σ r h H locs ls hP hD hS hl
        rw [y_X1_makeTuple__a16] at h
        refine lv_iload hx hb dX1_makeTuple_6 (lv_at hl 4 rfl) ?_
        refine lv_if_le (tgt := 36) hx hb dX1_makeTuple_8 (by decide) (fun c1 => ?_) (fun c1 => ?_)
        · rw [if_pos c1] at h
          exact ih.2.2 L σ r h H locs ls hP hD hS (lv_sub hl [0, 1, 2, 3] rfl)
        · rw [if_neg c1] at h
          refine lv_aload_n hx hb dX1_makeTuple_11 rfl (lv_at hl 1 rfl) ?_
          refine lv_iload_n hx hb dX1_makeTuple_12 rfl (lv_at hl 2 rfl) ?_
          refine lv_iload hx hb dX1_makeTuple_13 (lv_at hl 4 rfl) ?_
          refine lv_iadd hx hb dX1_makeTuple_15 ?_
          refine lv_iconst (v := 1) hx hb dX1_makeTuple_16 (by decide) ?_
          refine lv_isub hx hb dX1_makeTuple_17 ?_
          obtain ⟨q2, h⟩ := kb_ite1 h
          refine hl_16 hx hb hK hP q2 dX1_makeTuple_18 ?_
          refine lv_ldc (v := (-2147483648)) hx hb hown (hts _ (List.mem_cons_of_mem _ (List.mem_append_left _ (List.mem_append_left _ (List.mem_of_getElem? (i := 0) rfl))))) dX1_makeTuple_19 ?_
          refine lv_icmp_ne (tgt := 36) hx hb dX1_makeTuple_21 (by decide) (fun c3 => ?_) (fun c3 => ?_)
          · rw [if_neg c3] at h
            exact ih.2.2 L σ r h H locs ls hP hD hS (lv_sub hl [0, 1, 2, 3] rfl)
          · rw [if_pos c3] at h
            refine lv_iload hx hb dX1_makeTuple_24 (lv_at hl 4 rfl) ?_
            refine lv_iconst (v := 1) hx hb dX1_makeTuple_26 (by decide) ?_
            refine lv_isub hx hb dX1_makeTuple_27 ?_
            refine lv_istore (lv' := [(4, .int (((L.1 5)) - 1)), (0, .ref (a 0)), (1, .ref (a 16)), (2, .int (L.1 2)), (5, .int (L.1 5))]) hx hb dX1_makeTuple_28 hl (by decide) rfl (fun ls hl => ?_)
            refine lv_iinc (v := ((L.1 5)) + (-1)) (lv' := [(5, .int (((L.1 5)) + (-1))), (4, .int (((L.1 5)) - 1)), (0, .ref (a 0)), (1, .ref (a 16)), (2, .int (L.1 2))]) hx hb dX1_makeTuple_30 hl (k := 4) rfl rfl (by decide) rfl (fun ls hl => ?_)
            refine lv_goto (tgt := 6) hx hb dX1_makeTuple_33 (by decide) ?_
            exact ih.2.1 (lI (lI L 4 ((((L.1 5)) - 1))) 5 ((((L.1 5)) + (-1)))) σ r h H locs ls hP hD hS (lv_sub hl [2, 3, 4, 1, 0] rfl)
      · intro L σ r h H locs ls hP hD hS hl
        rw [y_X1_makeTuple__a16] at h
        refine lv_aload_n hx hb dX1_makeTuple_36 rfl (lv_at hl 0 rfl) ?_
        refine lv_iconst (v := 5) hx hb dX1_makeTuple_37 (by decide) ?_
        refine lv_aload_n hx hb dX1_makeTuple_38 rfl (lv_at hl 1 rfl) ?_
        refine lv_iload_n hx hb dX1_makeTuple_39 rfl (lv_at hl 2 rfl) ?_
        refine lv_iload hx hb dX1_makeTuple_40 (lv_at hl 3 rfl) ?_
        obtain ⟨r1, hc1, h⟩ := oc_ex h
        refine kc_i (va_runV (As := [.int 5, .ref (a 16), .int (L.1 2), .int (L.1 4)]) (rest := []) ⟨hx, hb, hml, hown, hts⟩ (c_y_X1_makeRow__a16 l dC dI cy a z k (lI (lI (lI lZ 1 5) 3 ((L.1 2))) 4 ((L.1 4))) σ r1 hc1 H.size) (cwV 4 hts g_y_X1_makeTuple__a16_X1_makeRow__a16_V60 rfl rfl rfl hd_y_X1_makeRow__a16 ⟨Nat.le_of_ble_eq_true rfl, Nat.le_of_ble_eq_true rfl⟩) ⟨nb_blind, va_recv hK hP (ci := 1) (q0 := 0) rfl rfl, (kb_pre hK hG hP hD)⟩ rfl rfl hl.1 rfl (lv_room (Nat.le_of_ble_eq_true rfl)) dX1_makeTuple_42 ⟨Nat.le_refl _, Nat.le_refl _⟩) hA hP hD hS (fun H locs hP hD hS => ?_)
        obtain rfl := Option.some.inj h
        exact W.iret (v := r1.1) hx hb hr (fun t ht hW => ⟨⟨r1.1, (), rfl, rfl, by rw [ht]; exact hP, va_K.moved hW.alike hK, hD⟩, hS.F ht⟩) hS.2.2 dX1_makeTuple_45
  exact (blk k0).1 L0 σ0 r0 h0 s.heap [] ls hP hD hS hl
/-! X0_sum -/
def y_X0_sum : Nat → Nat → LV → CS → Option (Int32 × CS)
  | 0, _, _, _ => none
  | k + 1, 0, L, σ => oc (y_X1_kind k 0 (lI lZ 1 ((L.1 1))) σ) (fun r1 => oc (y_X1_kind k 0 (lI lZ 1 ((L.1 2))) r1.2) (fun r2 => if r1.1 = r2.1 then (y_X0_sum k 1 (lI L 3 r1.1) r2.2) else (some ((-268435455), r2.2))))
  | k + 1, 1, L, σ => if ((L.1 3)) = (2 : Int32) then (y_X0_sum k 2 L σ) else (if ((L.1 3)) = (3 : Int32) then (y_X0_sum k 3 L σ) else (if ((L.1 3)) = (4 : Int32) then (y_X0_sum k 4 L σ) else (if ((L.1 3)) = (5 : Int32) then (y_X0_sum k 5 L σ) else (if ((L.1 3)) = (6 : Int32) then (y_X0_sum k 6 L σ) else (y_X0_sum k 3 L σ)))))
  | k + 1, 2, L, σ => oc (y_X10_added k 0 (lI (lI (lI lZ 1 ((L.1 1))) 2 ((L.1 2))) 3 0) σ) (fun r1 => some (r1.1, r1.2))
  | k + 1, 3, L, σ => some ((-268435455), σ)
  | k + 1, 4, L, σ => oc (y_X0_joined k 0 (lI (lI lZ 1 ((L.1 1))) 2 ((L.1 2))) σ) (fun r1 => some (r1.1, r1.2))
  | k + 1, 5, L, σ => oc (y_X1_length k 0 (lI lZ 1 ((L.1 1))) σ) (fun r1 => oc (y_X0_load k 0 (lI (lI (lI (lI lZ 1 ((L.1 1))) 2 0) 3 r1.1) 4 0) r1.2) (fun r2 => oc (y_X1_length k 0 (lI lZ 1 ((L.1 2))) r2.2) (fun r3 => oc (y_X0_load k 0 (lI (lI (lI (lI lZ 1 ((L.1 2))) 2 0) 3 r3.1) 4 r2.1) r3.2) (fun r4 => oc (y_X1_makeTuple__a16 k 0 (lI (lI lZ 2 0) 3 r4.1) r4.2) (fun r5 => some (r5.1, r5.2))))))
  | k + 1, 6, L, σ => oc (y_X1_length k 0 (lI lZ 1 ((L.1 1))) σ) (fun r1 => oc (y_X1_length k 0 (lI lZ 1 ((L.1 2))) r1.2) (fun r2 => if r2.1 ≤ r1.1 then (y_X0_sum k 7 L r2.2) else (oc (y_X0_union k 0 (lI (lI lZ 1 ((L.1 2))) 2 ((L.1 1))) r2.2) (fun r4 => y_X0_sum k 8 (lI L 100 r4.1) r4.2))))
  | k + 1, 7, L, σ => oc (y_X0_union k 0 (lI (lI lZ 1 ((L.1 1))) 2 ((L.1 2))) σ) (fun r1 => y_X0_sum k 8 (lI L 100 r1.1) r1.2)
  | k + 1, 8, L, σ => some ((L.1 100), σ)
  | _ + 1, _ + 9, _, _ => none
def o_y_X0_sum : List Cond := [.fieldLink RX0 22 "SetHouse$Algebra" "heap" "LSetHouse$Heap;", .methodLink RX0 87 yX1_kind, .instanceMethod yX1_kind, .selects RX1 yX1_kind yX1_kind, .initialized RX1, .constant RX0 56 (-268435455), .fieldLink RX0 26 "SetHouse$Algebra" "wholes" "LSetHouse$Wholes;", .methodLink RX0 94 yX10_added, .instanceMethod yX10_added, .selects RX10 yX10_added yX10_added, .initialized RX10, .methodLink RX0 97 yX0_joined, .instanceMethod yX0_joined, .selects RX0 yX0_joined yX0_joined, .initialized RX0, .methodLink RX0 100 yX1_length, .instanceMethod yX1_length, .selects RX1 yX1_length yX1_length, .methodLink RX0 103 yX0_load, .instanceMethod yX0_load, .selects RX0 yX0_load yX0_load, .fieldLink RX0 15 "SetHouse$Algebra" "row" "[I", .methodLink RX0 107 yX1_makeTuple, .instanceMethod yX1_makeTuple, .selects RX1 yX1_makeTuple yX1_makeTuple, .methodLink RX0 111 yX0_union, .instanceMethod yX0_union, .selects RX0 yX0_union yX0_union]
theorem o_y_X0_sum_good : o_y_X0_sum.all goodWord = true := by decide +kernel
def p_y_X0_sum : List Cond := o_y_X0_sum ++ ((.code yX1_kind cX1_kind 2 (some .int) :: p_y_X1_kind) ++ ((.code yX10_added cX10_added 9 (some .int) :: p_y_X10_added) ++ ((.code yX0_joined cX0_joined 4 (some .int) :: p_y_X0_joined) ++ ((.code yX1_length cX1_length 2 (some .int) :: p_y_X1_length) ++ ((.code yX0_load cX0_load 6 (some .int) :: p_y_X0_load) ++ ((.code yX1_makeTuple cX1_makeTuple 6 (some .int) :: p_y_X1_makeTuple__a16) ++ ((.code yX0_union cX0_union 8 (some .int) :: p_y_X0_union) ++ [])))))))
theorem p_y_X0_sum_good : p_y_X0_sum.all goodWord = true := nb_all2 o_y_X0_sum_good (nb_all2 (nb_allc (by decide +kernel) p_y_X1_kind_good) (nb_all2 (nb_allc (by decide +kernel) p_y_X10_added_good) (nb_all2 (nb_allc (by decide +kernel) p_y_X0_joined_good) (nb_all2 (nb_allc (by decide +kernel) p_y_X1_length_good) (nb_all2 (nb_allc (by decide +kernel) p_y_X0_load_good) (nb_all2 (nb_allc (by decide +kernel) p_y_X1_makeTuple__a16_good) (nb_all2 (nb_allc (by decide +kernel) p_y_X0_union_good) rfl)))))))
def w_y_X0_sum : List Cond := .code yX0_sum cX0_sum 5 (some .int) :: (p_y_X0_sum ++ fC)
theorem w_y_X0_sum_good : w_y_X0_sum.all goodWord = true := nb_allc (by decide +kernel) (nb_all2 p_y_X0_sum_good fC_good)
theorem in_y_X0_sum_X0 : ∀ w ∈ wsX00, w ∈ w_y_X0_sum := fun _ h => List.mem_cons_of_mem _ (List.mem_append_right _ (List.mem_append_left _ h))
theorem hd_y_X0_sum : yX0_sum.cls = RX0 ∧ yX0_sum.cls ≠ "java/lang/invoke/MethodHandle" ∧ yX0_sum.cls ≠ "java/lang/invoke/VarHandle" ∧ (parseMethodDescriptor yX0_sum.desc).map (fun d => d.parameters.length) = some 2 := by decide +kernel
theorem gg_y_X0_sum_X0_joined : GoodIn w_y_X0_sum w_y_X0_joined := goodIn_sub (fun w h => (List.mem_cons.mp h).elim (fun e => (List.mem_cons_of_mem _ (List.mem_append_left _ (List.mem_append_right _ (List.mem_append_right _ (List.mem_append_right _ (List.mem_append_left _ (List.mem_cons.mpr (Or.inl e))))))))) (fun h => (List.mem_append.mp h).elim (fun h => (List.mem_cons_of_mem _ (List.mem_append_left _ (List.mem_append_right _ (List.mem_append_right _ (List.mem_append_right _ (List.mem_append_left _ (List.mem_cons_of_mem _ h)))))))) (fun h => List.mem_cons_of_mem _ (List.mem_append_right _ h)))) w_y_X0_joined_good
theorem g_y_X0_sum_X0_joined_V97 : GoodIn w_y_X0_sum (wsV RX0 97 RX0 yX0_joined w_y_X0_joined) := goodIn_app (nb_g4 (List.mem_cons_of_mem _ (List.mem_append_left _ (List.mem_append_left _ (List.mem_of_getElem? (i := 11) rfl)))) (List.mem_cons_of_mem _ (List.mem_append_left _ (List.mem_append_left _ (List.mem_of_getElem? (i := 12) rfl)))) (List.mem_cons_of_mem _ (List.mem_append_left _ (List.mem_append_left _ (List.mem_of_getElem? (i := 13) rfl)))) (List.mem_cons_of_mem _ (List.mem_append_left _ (List.mem_append_left _ (List.mem_of_getElem? (i := 14) rfl)))) (by decide +kernel)) gg_y_X0_sum_X0_joined
theorem gg_y_X0_sum_X0_load : GoodIn w_y_X0_sum w_y_X0_load := goodIn_sub (fun w h => (List.mem_cons.mp h).elim (fun e => (List.mem_cons_of_mem _ (List.mem_append_left _ (List.mem_append_right _ (List.mem_append_right _ (List.mem_append_right _ (List.mem_append_right _ (List.mem_append_right _ (List.mem_append_left _ (List.mem_cons.mpr (Or.inl e))))))))))) (fun h => (List.mem_append.mp h).elim (fun h => (List.mem_cons_of_mem _ (List.mem_append_left _ (List.mem_append_right _ (List.mem_append_right _ (List.mem_append_right _ (List.mem_append_right _ (List.mem_append_right _ (List.mem_append_left _ (List.mem_cons_of_mem _ h)))))))))) (fun h => List.mem_cons_of_mem _ (List.mem_append_right _ h)))) w_y_X0_load_good
theorem g_y_X0_sum_X0_load_V103 : GoodIn w_y_X0_sum (wsV RX0 103 RX0 yX0_load w_y_X0_load) := goodIn_app (nb_g4 (List.mem_cons_of_mem _ (List.mem_append_left _ (List.mem_append_left _ (List.mem_of_getElem? (i := 18) rfl)))) (List.mem_cons_of_mem _ (List.mem_append_left _ (List.mem_append_left _ (List.mem_of_getElem? (i := 19) rfl)))) (List.mem_cons_of_mem _ (List.mem_append_left _ (List.mem_append_left _ (List.mem_of_getElem? (i := 20) rfl)))) (List.mem_cons_of_mem _ (List.mem_append_left _ (List.mem_append_left _ (List.mem_of_getElem? (i := 14) rfl)))) (by decide +kernel)) gg_y_X0_sum_X0_load
theorem gg_y_X0_sum_X0_union : GoodIn w_y_X0_sum w_y_X0_union := goodIn_sub (fun w h => (List.mem_cons.mp h).elim (fun e => (List.mem_cons_of_mem _ (List.mem_append_left _ (List.mem_append_right _ (List.mem_append_right _ (List.mem_append_right _ (List.mem_append_right _ (List.mem_append_right _ (List.mem_append_right _ (List.mem_append_right _ (List.mem_append_left _ (List.mem_cons.mpr (Or.inl e))))))))))))) (fun h => (List.mem_append.mp h).elim (fun h => (List.mem_cons_of_mem _ (List.mem_append_left _ (List.mem_append_right _ (List.mem_append_right _ (List.mem_append_right _ (List.mem_append_right _ (List.mem_append_right _ (List.mem_append_right _ (List.mem_append_right _ (List.mem_append_left _ (List.mem_cons_of_mem _ h)))))))))))) (fun h => List.mem_cons_of_mem _ (List.mem_append_right _ h)))) w_y_X0_union_good
theorem g_y_X0_sum_X0_union_V111 : GoodIn w_y_X0_sum (wsV RX0 111 RX0 yX0_union w_y_X0_union) := goodIn_app (nb_g4 (List.mem_cons_of_mem _ (List.mem_append_left _ (List.mem_append_left _ (List.mem_of_getElem? (i := 25) rfl)))) (List.mem_cons_of_mem _ (List.mem_append_left _ (List.mem_append_left _ (List.mem_of_getElem? (i := 26) rfl)))) (List.mem_cons_of_mem _ (List.mem_append_left _ (List.mem_append_left _ (List.mem_of_getElem? (i := 27) rfl)))) (List.mem_cons_of_mem _ (List.mem_append_left _ (List.mem_append_left _ (List.mem_of_getElem? (i := 14) rfl)))) (by decide +kernel)) gg_y_X0_sum_X0_union
theorem gg_y_X0_sum_X10_added : GoodIn w_y_X0_sum w_y_X10_added := goodIn_sub (fun w h => (List.mem_cons.mp h).elim (fun e => (List.mem_cons_of_mem _ (List.mem_append_left _ (List.mem_append_right _ (List.mem_append_right _ (List.mem_append_left _ (List.mem_cons.mpr (Or.inl e)))))))) (fun h => (List.mem_append.mp h).elim (fun h => (List.mem_cons_of_mem _ (List.mem_append_left _ (List.mem_append_right _ (List.mem_append_right _ (List.mem_append_left _ (List.mem_cons_of_mem _ h))))))) (fun h => List.mem_cons_of_mem _ (List.mem_append_right _ h)))) w_y_X10_added_good
theorem g_y_X0_sum_X10_added_V94 : GoodIn w_y_X0_sum (wsV RX0 94 RX10 yX10_added w_y_X10_added) := goodIn_app (nb_g4 (List.mem_cons_of_mem _ (List.mem_append_left _ (List.mem_append_left _ (List.mem_of_getElem? (i := 7) rfl)))) (List.mem_cons_of_mem _ (List.mem_append_left _ (List.mem_append_left _ (List.mem_of_getElem? (i := 8) rfl)))) (List.mem_cons_of_mem _ (List.mem_append_left _ (List.mem_append_left _ (List.mem_of_getElem? (i := 9) rfl)))) (List.mem_cons_of_mem _ (List.mem_append_left _ (List.mem_append_left _ (List.mem_of_getElem? (i := 10) rfl)))) (by decide +kernel)) gg_y_X0_sum_X10_added
theorem gg_y_X0_sum_X1_kind : GoodIn w_y_X0_sum w_y_X1_kind := goodIn_sub (fun w h => (List.mem_cons.mp h).elim (fun e => (List.mem_cons_of_mem _ (List.mem_append_left _ (List.mem_append_right _ (List.mem_append_left _ (List.mem_cons.mpr (Or.inl e))))))) (fun h => (List.mem_append.mp h).elim (fun h => (List.mem_cons_of_mem _ (List.mem_append_left _ (List.mem_append_right _ (List.mem_append_left _ (List.mem_cons_of_mem _ h)))))) (fun h => List.mem_cons_of_mem _ (List.mem_append_right _ h)))) w_y_X1_kind_good
theorem g_y_X0_sum_X1_kind_V87 : GoodIn w_y_X0_sum (wsV RX0 87 RX1 yX1_kind w_y_X1_kind) := goodIn_app (nb_g4 (List.mem_cons_of_mem _ (List.mem_append_left _ (List.mem_append_left _ (List.mem_of_getElem? (i := 1) rfl)))) (List.mem_cons_of_mem _ (List.mem_append_left _ (List.mem_append_left _ (List.mem_of_getElem? (i := 2) rfl)))) (List.mem_cons_of_mem _ (List.mem_append_left _ (List.mem_append_left _ (List.mem_of_getElem? (i := 3) rfl)))) (List.mem_cons_of_mem _ (List.mem_append_left _ (List.mem_append_left _ (List.mem_of_getElem? (i := 4) rfl)))) (by decide +kernel)) gg_y_X0_sum_X1_kind
theorem gg_y_X0_sum_X1_length : GoodIn w_y_X0_sum w_y_X1_length := goodIn_sub (fun w h => (List.mem_cons.mp h).elim (fun e => (List.mem_cons_of_mem _ (List.mem_append_left _ (List.mem_append_right _ (List.mem_append_right _ (List.mem_append_right _ (List.mem_append_right _ (List.mem_append_left _ (List.mem_cons.mpr (Or.inl e)))))))))) (fun h => (List.mem_append.mp h).elim (fun h => (List.mem_cons_of_mem _ (List.mem_append_left _ (List.mem_append_right _ (List.mem_append_right _ (List.mem_append_right _ (List.mem_append_right _ (List.mem_append_left _ (List.mem_cons_of_mem _ h))))))))) (fun h => List.mem_cons_of_mem _ (List.mem_append_right _ h)))) w_y_X1_length_good
theorem g_y_X0_sum_X1_length_V100 : GoodIn w_y_X0_sum (wsV RX0 100 RX1 yX1_length w_y_X1_length) := goodIn_app (nb_g4 (List.mem_cons_of_mem _ (List.mem_append_left _ (List.mem_append_left _ (List.mem_of_getElem? (i := 15) rfl)))) (List.mem_cons_of_mem _ (List.mem_append_left _ (List.mem_append_left _ (List.mem_of_getElem? (i := 16) rfl)))) (List.mem_cons_of_mem _ (List.mem_append_left _ (List.mem_append_left _ (List.mem_of_getElem? (i := 17) rfl)))) (List.mem_cons_of_mem _ (List.mem_append_left _ (List.mem_append_left _ (List.mem_of_getElem? (i := 4) rfl)))) (by decide +kernel)) gg_y_X0_sum_X1_length
theorem gg_y_X0_sum_X1_makeTuple__a16 : GoodIn w_y_X0_sum w_y_X1_makeTuple__a16 := goodIn_sub (fun w h => (List.mem_cons.mp h).elim (fun e => (List.mem_cons_of_mem _ (List.mem_append_left _ (List.mem_append_right _ (List.mem_append_right _ (List.mem_append_right _ (List.mem_append_right _ (List.mem_append_right _ (List.mem_append_right _ (List.mem_append_left _ (List.mem_cons.mpr (Or.inl e)))))))))))) (fun h => (List.mem_append.mp h).elim (fun h => (List.mem_cons_of_mem _ (List.mem_append_left _ (List.mem_append_right _ (List.mem_append_right _ (List.mem_append_right _ (List.mem_append_right _ (List.mem_append_right _ (List.mem_append_right _ (List.mem_append_left _ (List.mem_cons_of_mem _ h))))))))))) (fun h => List.mem_cons_of_mem _ (List.mem_append_right _ h)))) w_y_X1_makeTuple__a16_good
theorem g_y_X0_sum_X1_makeTuple__a16_V107 : GoodIn w_y_X0_sum (wsV RX0 107 RX1 yX1_makeTuple w_y_X1_makeTuple__a16) := goodIn_app (nb_g4 (List.mem_cons_of_mem _ (List.mem_append_left _ (List.mem_append_left _ (List.mem_of_getElem? (i := 22) rfl)))) (List.mem_cons_of_mem _ (List.mem_append_left _ (List.mem_append_left _ (List.mem_of_getElem? (i := 23) rfl)))) (List.mem_cons_of_mem _ (List.mem_append_left _ (List.mem_append_left _ (List.mem_of_getElem? (i := 24) rfl)))) (List.mem_cons_of_mem _ (List.mem_append_left _ (List.mem_append_left _ (List.mem_of_getElem? (i := 4) rfl)))) (by decide +kernel)) gg_y_X0_sum_X1_makeTuple__a16
set_option maxHeartbeats 40000000 in
set_option maxRecDepth 100000 in
theorem c_y_X0_sum (l : Launch) (dC : Nat → ClassId) (dI : Nat → Nat → Nat) (cy : Nat → ClassId) (a z : Nat → Nat) (k0 : Nat) (L0 : LV) (σ0 : CS) (r0 : Int32 × CS) (h0 : y_X0_sum k0 0 L0 σ0 = some r0) (sz : Nat) : Met l yX0_sum w_y_X0_sum ({ frames := 64, cells := 0, slots := 0, locals := 1792 }) (va_Pc [.ref (a 14), .int (L0.1 1), .int (L0.1 2)] (nIn (dC, dI) cy sz (vC cy a z σ0))) (va_Qi (fun (x : Int32) (_ : Unit) => x = r0.1) (fun _ t => nOut (dC, dI) cy (va_A (vC cy a z σ0) sz) (vC cy a z r0.2) t) (va_A (vC cy a z σ0) sz)) 0 0 (va_A (vC cy a z σ0) sz) := by
  refine Met.ofW (cc := cX0_sum) (maxL := 5) (ret := (some .int)) (by decide) rfl ?_
  intro p e s m args below meth c s₁ B hml hv
  obtain ⟨rfl, hsz, hP, hK, hD0, hG⟩ := hv
  have hx := B.exec
  have hb := B.bytes
  have hr := B.returns
  have hts := atoms_spec (ws := w_y_X0_sum) B.pre
  have hown : s.vm.findClass RX0 = some m.cls := findClass_of_methodNamed B.named
  have hlocks := B.notSynchronized
  subst hsz
  have hD := hD0.self (sz := s.heap.size)
  generalize hAe : va_A (vC cy a z σ0) s.heap.size = A at hD ⊢
  have hA : ∀ q : Nat, s.heap.size ≤ q → A q := fun q h => by rw [← hAe]; exact Or.inr h
  have hS : va_S A s.heap s.heap [] := va_S.rf
  have hl := lv_entry ([.ref (a 14), .int (L0.1 1), .int (L0.1 2)]) (n := 5) (Nat.le_of_ble_eq_true rfl)
  rw [lg_entry_eq]
  generalize (lg_sl ([.ref (a 14), .int (L0.1 1), .int (L0.1 2)]) ++ List.replicate (5 - (lg_sl ([.ref (a 14), .int (L0.1 1), .int (L0.1 2)])).length) Slot.unset).toArray = ls at hl ⊢
  have hl : lv_has ls 5 [(0, .ref (a 14)), (1, .int (L0.1 1)), (2, .int (L0.1 2))] := hl
  have blk : ∀ k : Nat, (bC p l e (headSpec w_y_X0_sum ({ frames := 64, cells := 0, slots := 0, locals := 1792 })).room s m #[.ref (a 14), .int (L0.1 1), .int (L0.1 2)] below meth c dC dI cy a z A (kI dC dI cy a z A below #[.ref (a 14), .int (L0.1 1), .int (L0.1 2)] s) 5 (y_X0_sum k 0) (fun L => [(0, .ref (a 14)), (1, .int (L.1 1)), (2, .int (L.1 2))]) 0 (fun L => [])) ∧ (bC p l e (headSpec w_y_X0_sum ({ frames := 64, cells := 0, slots := 0, locals := 1792 })).room s m #[.ref (a 14), .int (L0.1 1), .int (L0.1 2)] below meth c dC dI cy a z A (kI dC dI cy a z A below #[.ref (a 14), .int (L0.1 1), .int (L0.1 2)] s) 5 (y_X0_sum k 1) (fun L => [(0, .ref (a 14)), (1, .int (L.1 1)), (2, .int (L.1 2)), (3, .int (L.1 3))]) 24 (fun L => [])) ∧ (bC p l e (headSpec w_y_X0_sum ({ frames := 64, cells := 0, slots := 0, locals := 1792 })).room s m #[.ref (a 14), .int (L0.1 1), .int (L0.1 2)] below meth c dC dI cy a z A (kI dC dI cy a z A below #[.ref (a 14), .int (L0.1 1), .int (L0.1 2)] s) 5 (y_X0_sum k 2) (fun L => [(0, .ref (a 14)), (1, .int (L.1 1)), (2, .int (L.1 2))]) 60 (fun L => [])) ∧ (bC p l e (headSpec w_y_X0_sum ({ frames := 64, cells := 0, slots := 0, locals := 1792 })).room s m #[.ref (a 14), .int (L0.1 1), .int (L0.1 2)] below meth c dC dI cy a z A (kI dC dI cy a z A below #[.ref (a 14), .int (L0.1 1), .int (L0.1 2)] s) 5 (y_X0_sum k 3) (fun L => []) 163 (fun L => [])) ∧ (bC p l e (headSpec w_y_X0_sum ({ frames := 64, cells := 0, slots := 0, locals := 1792 })).room s m #[.ref (a 14), .int (L0.1 1), .int (L0.1 2)] below meth c dC dI cy a z A (kI dC dI cy a z A below #[.ref (a 14), .int (L0.1 1), .int (L0.1 2)] s) 5 (y_X0_sum k 4) (fun L => [(0, .ref (a 14)), (1, .int (L.1 1)), (2, .int (L.1 2))]) 71 (fun L => [])) ∧ (bC p l e (headSpec w_y_X0_sum ({ frames := 64, cells := 0, slots := 0, locals := 1792 })).room s m #[.ref (a 14), .int (L0.1 1), .int (L0.1 2)] below meth c dC dI cy a z A (kI dC dI cy a z A below #[.ref (a 14), .int (L0.1 1), .int (L0.1 2)] s) 5 (y_X0_sum k 5) (fun L => [(0, .ref (a 14)), (1, .int (L.1 1)), (2, .int (L.1 2))]) 78 (fun L => [])) ∧ (bC p l e (headSpec w_y_X0_sum ({ frames := 64, cells := 0, slots := 0, locals := 1792 })).room s m #[.ref (a 14), .int (L0.1 1), .int (L0.1 2)] below meth c dC dI cy a z A (kI dC dI cy a z A below #[.ref (a 14), .int (L0.1 1), .int (L0.1 2)] s) 5 (y_X0_sum k 6) (fun L => [(0, .ref (a 14)), (1, .int (L.1 1)), (2, .int (L.1 2))]) 128 (fun L => [])) ∧ (bC p l e (headSpec w_y_X0_sum ({ frames := 64, cells := 0, slots := 0, locals := 1792 })).room s m #[.ref (a 14), .int (L0.1 1), .int (L0.1 2)] below meth c dC dI cy a z A (kI dC dI cy a z A below #[.ref (a 14), .int (L0.1 1), .int (L0.1 2)] s) 5 (y_X0_sum k 7) (fun L => [(0, .ref (a 14)), (1, .int (L.1 1)), (2, .int (L.1 2))]) 156 (fun L => [])) ∧ (bC p l e (headSpec w_y_X0_sum ({ frames := 64, cells := 0, slots := 0, locals := 1792 })).room s m #[.ref (a 14), .int (L0.1 1), .int (L0.1 2)] below meth c dC dI cy a z A (kI dC dI cy a z A below #[.ref (a 14), .int (L0.1 1), .int (L0.1 2)] s) 5 (y_X0_sum k 8) (fun L => []) 162 (fun L => [.int (L.1 100)])) := by
    intro k
    induction k with
    | zero => exact ⟨fun L σ r h => (by cases h), fun L σ r h => (by cases h), fun L σ r h => (by cases h), fun L σ r h => (by cases h), fun L σ r h => (by cases h), fun L σ r h => (by cases h), fun L σ r h => (by cases h), fun L σ r h => (by cases h), fun L σ r h => (by cases h)⟩
    | succ k ih =>
      refine ⟨?_, ?_, ?_, ?_, ?_, ?_, ?_, ?_, ?_⟩
      · intro L σ r h H locs ls hP hD hS hl
        rw [y_X0_sum] at h
        refine lv_aload_n hx hb dX0_sum_0 rfl (lv_at hl 0 rfl) ?_
        refine hg_14_0 hx hb hts in_y_X0_sum_X0 hown hK hP (hts _ (List.mem_cons_of_mem _ (List.mem_append_left _ (List.mem_append_left _ (List.mem_of_getElem? (i := 0) rfl))))) dX0_sum_1 ?_
        refine lv_iload_n hx hb dX0_sum_4 rfl (lv_at hl 1 rfl) ?_
        obtain ⟨r1, hc1, h⟩ := oc_ex h
        refine kc_i (va_runV (As := [.int (L.1 1)]) (rest := []) ⟨hx, hb, hml, hown, hts⟩ (c_y_X1_kind l dC dI cy a z k (lI lZ 1 ((L.1 1))) σ r1 hc1 H.size) (cwV 1 hts g_y_X0_sum_X1_kind_V87 rfl rfl rfl hd_y_X1_kind ⟨Nat.le_of_ble_eq_true rfl, Nat.le_of_ble_eq_true rfl⟩) ⟨nb_blind, va_recv hK hP (ci := 1) (q0 := 0) rfl rfl, (kb_pre hK hG hP hD)⟩ rfl rfl hl.1 rfl (lv_room (Nat.le_of_ble_eq_true rfl)) dX0_sum_5 ⟨Nat.le_refl _, Nat.le_refl _⟩) hA hP hD hS (fun H locs hP hD hS => ?_)
        refine lv_istore_n (lv' := [(3, .int r1.1), (0, .ref (a 14)), (1, .int (L.1 1)), (2, .int (L.1 2))]) hx hb dX0_sum_8 rfl hl (by decide) rfl (fun ls hl => ?_)
        refine lv_iload_n hx hb dX0_sum_9 rfl (lv_at hl 0 rfl) ?_
        refine lv_aload_n hx hb dX0_sum_10 rfl (lv_at hl 1 rfl) ?_
        refine hg_14_0 hx hb hts in_y_X0_sum_X0 hown hK hP (hts _ (List.mem_cons_of_mem _ (List.mem_append_left _ (List.mem_append_left _ (List.mem_of_getElem? (i := 0) rfl))))) dX0_sum_11 ?_
        refine lv_iload_n hx hb dX0_sum_14 rfl (lv_at hl 3 rfl) ?_
        obtain ⟨r2, hc2, h⟩ := oc_ex h
        refine kc_i (va_runV (As := [.int (L.1 2)]) (rest := [.int r1.1]) ⟨hx, hb, hml, hown, hts⟩ (c_y_X1_kind l dC dI cy a z k (lI lZ 1 ((L.1 2))) r1.2 r2 hc2 H.size) (cwV 1 hts g_y_X0_sum_X1_kind_V87 rfl rfl rfl hd_y_X1_kind ⟨Nat.le_of_ble_eq_true rfl, Nat.le_of_ble_eq_true rfl⟩) ⟨nb_blind, va_recv hK hP (ci := 1) (q0 := 0) rfl rfl, (kb_pre hK hG hP hD)⟩ rfl rfl hl.1 rfl (lv_room (Nat.le_of_ble_eq_true rfl)) dX0_sum_15 ⟨Nat.le_refl _, Nat.le_refl _⟩) hA hP hD hS (fun H locs hP hD hS => ?_)
        refine lv_icmp_eq (tgt := 24) hx hb dX0_sum_18 (by decide) (fun c3 => ?_) (fun c3 => ?_)
        · rw [if_pos c3] at h
          exact ih.2.1 (lI L 3 r1.1) r2.2 r h H locs ls hP hD hS (lv_sub hl [1, 2, 3, 0] rfl)
        · rw [if_neg c3] at h
          refine lv_ldc (v := (-268435455)) hx hb hown (hts _ (List.mem_cons_of_mem _ (List.mem_append_left _ (List.mem_append_left _ (List.mem_of_getElem? (i := 5) rfl))))) dX0_sum_21 ?_
          obtain rfl := Option.some.inj h
          exact W.iret (v := (-268435455)) hx hb hr (fun t ht hW => ⟨⟨(-268435455), (), rfl, rfl, by rw [ht]; exact hP, va_K.moved hW.alike hK, hD⟩, hS.F ht⟩) hS.2.2 dX0_sum_23
      · intro L σ r h H locs ls hP hD hS hl
        rw [y_X0_sum] at h
        refine lv_iload_n hx hb dX0_sum_24 rfl (lv_at hl 3 rfl) ?_
        by_cases q1 : ((L.1 3)) = (2 : Int32)
        · rw [if_pos q1] at h
          refine lv_tableIn (off := 35) (tgt := 60) hx hb dX0_sum_25 (by rw [q1]; decide) (by rw [q1]; decide) (by rw [q1]; decide) (by decide) ?_
          exact ih.2.2.1 L σ r h H locs ls hP hD hS (lv_sub hl [0, 1, 2] rfl)
        · rw [if_neg q1] at h
          by_cases q2 : ((L.1 3)) = (3 : Int32)
          · rw [if_pos q2] at h
            refine lv_tableIn (off := 138) (tgt := 163) hx hb dX0_sum_25 (by rw [q2]; decide) (by rw [q2]; decide) (by rw [q2]; decide) (by decide) ?_
            exact ih.2.2.2.1 L σ r h H locs ls hP hD hS (lv_sub hl [] rfl)
          · rw [if_neg q2] at h
            by_cases q3 : ((L.1 3)) = (4 : Int32)
            · rw [if_pos q3] at h
              refine lv_tableIn (off := 46) (tgt := 71) hx hb dX0_sum_25 (by rw [q3]; decide) (by rw [q3]; decide) (by rw [q3]; decide) (by decide) ?_
              exact ih.2.2.2.2.1 L σ r h H locs ls hP hD hS (lv_sub hl [0, 1, 2] rfl)
            · rw [if_neg q3] at h
              by_cases q4 : ((L.1 3)) = (5 : Int32)
              · rw [if_pos q4] at h
                refine lv_tableIn (off := 53) (tgt := 78) hx hb dX0_sum_25 (by rw [q4]; decide) (by rw [q4]; decide) (by rw [q4]; decide) (by decide) ?_
                exact ih.2.2.2.2.2.1 L σ r h H locs ls hP hD hS (lv_sub hl [0, 1, 2] rfl)
              · rw [if_neg q4] at h
                by_cases q5 : ((L.1 3)) = (6 : Int32)
                · rw [if_pos q5] at h
                  refine lv_tableIn (off := 103) (tgt := 128) hx hb dX0_sum_25 (by rw [q5]; decide) (by rw [q5]; decide) (by rw [q5]; decide) (by decide) ?_
                  exact ih.2.2.2.2.2.2.1 L σ r h H locs ls hP hD hS (lv_sub hl [0, 1, 2] rfl)
                · rw [if_neg q5] at h
                  have nq1 : ¬ ((L.1 3)).toInt = 2 := nb_ti q1 rfl
                  have nq2 : ¬ ((L.1 3)).toInt = 3 := nb_ti q2 rfl
                  have nq3 : ¬ ((L.1 3)).toInt = 4 := nb_ti q3 rfl
                  have nq4 : ¬ ((L.1 3)).toInt = 5 := nb_ti q4 rfl
                  have nq5 : ¬ ((L.1 3)).toInt = 6 := nb_ti q5 rfl
                  refine lv_tableOut (tgt := 163) hx hb dX0_sum_25 (by omega) (by decide) ?_
                  exact ih.2.2.2.1 L σ r h H locs ls hP hD hS (lv_sub hl [] rfl)
      · intro L σ r h H locs ls hP hD hS hl
        rw [y_X0_sum] at h
        refine lv_aload_n hx hb dX0_sum_60 rfl (lv_at hl 0 rfl) ?_
        refine hg_14_1 hx hb hts in_y_X0_sum_X0 hown hK hP (hts _ (List.mem_cons_of_mem _ (List.mem_append_left _ (List.mem_append_left _ (List.mem_of_getElem? (i := 6) rfl))))) dX0_sum_61 ?_
        refine lv_iload_n hx hb dX0_sum_64 rfl (lv_at hl 1 rfl) ?_
        refine lv_iload_n hx hb dX0_sum_65 rfl (lv_at hl 2 rfl) ?_
        refine lv_iconst (v := 0) hx hb dX0_sum_66 (by decide) ?_
        obtain ⟨r1, hc1, h⟩ := oc_ex h
        refine kc_i (va_runV (As := [.int (L.1 1), .int (L.1 2), .int 0]) (rest := []) ⟨hx, hb, hml, hown, hts⟩ (c_y_X10_added l dC dI cy a z k (lI (lI (lI lZ 1 ((L.1 1))) 2 ((L.1 2))) 3 0) σ r1 hc1 H.size) (cwV 3 hts g_y_X0_sum_X10_added_V94 rfl rfl rfl hd_y_X10_added ⟨Nat.le_of_ble_eq_true rfl, Nat.le_of_ble_eq_true rfl⟩) ⟨nb_blind, va_recv hK hP (ci := 9) (q0 := 4) rfl rfl, (kb_pre hK hG hP hD)⟩ rfl rfl hl.1 rfl (lv_room (Nat.le_of_ble_eq_true rfl)) dX0_sum_67 ⟨Nat.le_refl _, Nat.le_refl _⟩) hA hP hD hS (fun H locs hP hD hS => ?_)
        obtain rfl := Option.some.inj h
        exact W.iret (v := r1.1) hx hb hr (fun t ht hW => ⟨⟨r1.1, (), rfl, rfl, by rw [ht]; exact hP, va_K.moved hW.alike hK, hD⟩, hS.F ht⟩) hS.2.2 dX0_sum_70
      · intro L σ r h H locs ls hP hD hS hl
        rw [y_X0_sum] at h
        refine lv_ldc (v := (-268435455)) hx hb hown (hts _ (List.mem_cons_of_mem _ (List.mem_append_left _ (List.mem_append_left _ (List.mem_of_getElem? (i := 5) rfl))))) dX0_sum_163 ?_
        obtain rfl := Option.some.inj h
        exact W.iret (v := (-268435455)) hx hb hr (fun t ht hW => ⟨⟨(-268435455), (), rfl, rfl, by rw [ht]; exact hP, va_K.moved hW.alike hK, hD⟩, hS.F ht⟩) hS.2.2 dX0_sum_165
      · intro L σ r h H locs ls hP hD hS hl
        rw [y_X0_sum] at h
        refine lv_aload_n hx hb dX0_sum_71 rfl (lv_at hl 0 rfl) ?_
        refine lv_iload_n hx hb dX0_sum_72 rfl (lv_at hl 1 rfl) ?_
        refine lv_iload_n hx hb dX0_sum_73 rfl (lv_at hl 2 rfl) ?_
        obtain ⟨r1, hc1, h⟩ := oc_ex h
        refine kc_i (va_runV (As := [.int (L.1 1), .int (L.1 2)]) (rest := []) ⟨hx, hb, hml, hown, hts⟩ (c_y_X0_joined l dC dI cy a z k (lI (lI lZ 1 ((L.1 1))) 2 ((L.1 2))) σ r1 hc1 H.size) (cwV 2 hts g_y_X0_sum_X0_joined_V97 rfl rfl rfl hd_y_X0_joined ⟨Nat.le_of_ble_eq_true rfl, Nat.le_of_ble_eq_true rfl⟩) ⟨nb_blind, va_recv hK hP (ci := 0) (q0 := 14) rfl rfl, (kb_pre hK hG hP hD)⟩ rfl rfl hl.1 rfl (lv_room (Nat.le_of_ble_eq_true rfl)) dX0_sum_74 ⟨Nat.le_refl _, Nat.le_refl _⟩) hA hP hD hS (fun H locs hP hD hS => ?_)
        obtain rfl := Option.some.inj h
        exact W.iret (v := r1.1) hx hb hr (fun t ht hW => ⟨⟨r1.1, (), rfl, rfl, by rw [ht]; exact hP, va_K.moved hW.alike hK, hD⟩, hS.F ht⟩) hS.2.2 dX0_sum_77
      · intro L σ r h H locs ls hP hD hS hl
        rw [y_X0_sum] at h
        refine lv_aload_n hx hb dX0_sum_78 rfl (lv_at hl 0 rfl) ?_
        refine lv_iload_n hx hb dX0_sum_79 rfl (lv_at hl 1 rfl) ?_
        refine lv_iconst (v := 0) hx hb dX0_sum_80 (by decide) ?_
        refine lv_aload_n hx hb dX0_sum_81 rfl (lv_at hl 0 rfl) ?_
        refine hg_14_0 hx hb hts in_y_X0_sum_X0 hown hK hP (hts _ (List.mem_cons_of_mem _ (List.mem_append_left _ (List.mem_append_left _ (List.mem_of_getElem? (i := 0) rfl))))) dX0_sum_82 ?_
        refine lv_iload_n hx hb dX0_sum_85 rfl (lv_at hl 1 rfl) ?_
        obtain ⟨r1, hc1, h⟩ := oc_ex h
        refine kc_i (va_runV (As := [.int (L.1 1)]) (rest := [.int 0, .int (L.1 1), .ref (a 14)]) ⟨hx, hb, hml, hown, hts⟩ (c_y_X1_length l dC dI cy a z k (lI lZ 1 ((L.1 1))) σ r1 hc1 H.size) (cwV 1 hts g_y_X0_sum_X1_length_V100 rfl rfl rfl hd_y_X1_length ⟨Nat.le_of_ble_eq_true rfl, Nat.le_of_ble_eq_true rfl⟩) ⟨nb_blind, va_recv hK hP (ci := 1) (q0 := 0) rfl rfl, (kb_pre hK hG hP hD)⟩ rfl rfl hl.1 rfl (lv_room (Nat.le_of_ble_eq_true rfl)) dX0_sum_86 ⟨Nat.le_refl _, Nat.le_refl _⟩) hA hP hD hS (fun H locs hP hD hS => ?_)
        refine lv_iconst (v := 0) hx hb dX0_sum_89 (by decide) ?_
        obtain ⟨r2, hc2, h⟩ := oc_ex h
        refine kc_i (va_runV (As := [.int (L.1 1), .int 0, .int r1.1, .int 0]) (rest := []) ⟨hx, hb, hml, hown, hts⟩ (c_y_X0_load l dC dI cy a z k (lI (lI (lI (lI lZ 1 ((L.1 1))) 2 0) 3 r1.1) 4 0) r1.2 r2 hc2 H.size) (cwV 4 hts g_y_X0_sum_X0_load_V103 rfl rfl rfl hd_y_X0_load ⟨Nat.le_of_ble_eq_true rfl, Nat.le_of_ble_eq_true rfl⟩) ⟨nb_blind, va_recv hK hP (ci := 0) (q0 := 14) rfl rfl, (kb_pre hK hG hP hD)⟩ rfl rfl hl.1 rfl (lv_room (Nat.le_of_ble_eq_true rfl)) dX0_sum_90 ⟨Nat.le_refl _, Nat.le_refl _⟩) hA hP hD hS (fun H locs hP hD hS => ?_)
        refine lv_istore (lv' := [(4, .int r2.1), (0, .ref (a 14)), (1, .int (L.1 1)), (2, .int (L.1 2))]) hx hb dX0_sum_93 hl (by decide) rfl (fun ls hl => ?_)
        refine lv_aload_n hx hb dX0_sum_95 rfl (lv_at hl 1 rfl) ?_
        refine lv_iload_n hx hb dX0_sum_96 rfl (lv_at hl 3 rfl) ?_
        refine lv_iconst (v := 0) hx hb dX0_sum_97 (by decide) ?_
        refine lv_aload_n hx hb dX0_sum_98 rfl (lv_at hl 1 rfl) ?_
        refine hg_14_0 hx hb hts in_y_X0_sum_X0 hown hK hP (hts _ (List.mem_cons_of_mem _ (List.mem_append_left _ (List.mem_append_left _ (List.mem_of_getElem? (i := 0) rfl))))) dX0_sum_99 ?_
        refine lv_iload_n hx hb dX0_sum_102 rfl (lv_at hl 3 rfl) ?_
        obtain ⟨r3, hc3, h⟩ := oc_ex h
        refine kc_i (va_runV (As := [.int (L.1 2)]) (rest := [.int 0, .int (L.1 2), .ref (a 14)]) ⟨hx, hb, hml, hown, hts⟩ (c_y_X1_length l dC dI cy a z k (lI lZ 1 ((L.1 2))) r2.2 r3 hc3 H.size) (cwV 1 hts g_y_X0_sum_X1_length_V100 rfl rfl rfl hd_y_X1_length ⟨Nat.le_of_ble_eq_true rfl, Nat.le_of_ble_eq_true rfl⟩) ⟨nb_blind, va_recv hK hP (ci := 1) (q0 := 0) rfl rfl, (kb_pre hK hG hP hD)⟩ rfl rfl hl.1 rfl (lv_room (Nat.le_of_ble_eq_true rfl)) dX0_sum_103 ⟨Nat.le_refl _, Nat.le_refl _⟩) hA hP hD hS (fun H locs hP hD hS => ?_)
        refine lv_iload hx hb dX0_sum_106 (lv_at hl 0 rfl) ?_
        obtain ⟨r4, hc4, h⟩ := oc_ex h
        refine kc_i (va_runV (As := [.int (L.1 2), .int 0, .int r3.1, .int r2.1]) (rest := []) ⟨hx, hb, hml, hown, hts⟩ (c_y_X0_load l dC dI cy a z k (lI (lI (lI (lI lZ 1 ((L.1 2))) 2 0) 3 r3.1) 4 r2.1) r3.2 r4 hc4 H.size) (cwV 4 hts g_y_X0_sum_X0_load_V103 rfl rfl rfl hd_y_X0_load ⟨Nat.le_of_ble_eq_true rfl, Nat.le_of_ble_eq_true rfl⟩) ⟨nb_blind, va_recv hK hP (ci := 0) (q0 := 14) rfl rfl, (kb_pre hK hG hP hD)⟩ rfl rfl hl.1 rfl (lv_room (Nat.le_of_ble_eq_true rfl)) dX0_sum_108 ⟨Nat.le_refl _, Nat.le_refl _⟩) hA hP hD hS (fun H locs hP hD hS => ?_)
        refine lv_istore (lv' := [(4, .int r4.1), (0, .ref (a 14)), (1, .int (L.1 1)), (2, .int (L.1 2))]) hx hb dX0_sum_111 hl (by decide) rfl (fun ls hl => ?_)
        refine lv_aload_n hx hb dX0_sum_113 rfl (lv_at hl 1 rfl) ?_
        refine hg_14_0 hx hb hts in_y_X0_sum_X0 hown hK hP (hts _ (List.mem_cons_of_mem _ (List.mem_append_left _ (List.mem_append_left _ (List.mem_of_getElem? (i := 0) rfl))))) dX0_sum_114 ?_
        refine lv_aload_n hx hb dX0_sum_117 rfl (lv_at hl 1 rfl) ?_
        refine hg_14_4 hx hb hts in_y_X0_sum_X0 hown hK hP (hts _ (List.mem_cons_of_mem _ (List.mem_append_left _ (List.mem_append_left _ (List.mem_of_getElem? (i := 21) rfl))))) dX0_sum_118 ?_
        refine lv_iconst (v := 0) hx hb dX0_sum_121 (by decide) ?_
        refine lv_iload hx hb dX0_sum_122 (lv_at hl 0 rfl) ?_
        obtain ⟨r5, hc5, h⟩ := oc_ex h
        refine kc_i (va_runV (As := [.ref (a 16), .int 0, .int r4.1]) (rest := []) ⟨hx, hb, hml, hown, hts⟩ (c_y_X1_makeTuple__a16 l dC dI cy a z k (lI (lI lZ 2 0) 3 r4.1) r4.2 r5 hc5 H.size) (cwV 3 hts g_y_X0_sum_X1_makeTuple__a16_V107 rfl rfl rfl hd_y_X1_makeTuple__a16 ⟨Nat.le_of_ble_eq_true rfl, Nat.le_of_ble_eq_true rfl⟩) ⟨nb_blind, va_recv hK hP (ci := 1) (q0 := 0) rfl rfl, (kb_pre hK hG hP hD)⟩ rfl rfl hl.1 rfl (lv_room (Nat.le_of_ble_eq_true rfl)) dX0_sum_124 ⟨Nat.le_refl _, Nat.le_refl _⟩) hA hP hD hS (fun H locs hP hD hS => ?_)
        obtain rfl := Option.some.inj h
        exact W.iret (v := r5.1) hx hb hr (fun t ht hW => ⟨⟨r5.1, (), rfl, rfl, by rw [ht]; exact hP, va_K.moved hW.alike hK, hD⟩, hS.F ht⟩) hS.2.2 dX0_sum_127
      · intro L σ r h H locs ls hP hD hS hl
        rw [y_X0_sum] at h
        refine lv_aload_n hx hb dX0_sum_128 rfl (lv_at hl 0 rfl) ?_
        refine hg_14_0 hx hb hts in_y_X0_sum_X0 hown hK hP (hts _ (List.mem_cons_of_mem _ (List.mem_append_left _ (List.mem_append_left _ (List.mem_of_getElem? (i := 0) rfl))))) dX0_sum_129 ?_
        refine lv_iload_n hx hb dX0_sum_132 rfl (lv_at hl 1 rfl) ?_
        obtain ⟨r1, hc1, h⟩ := oc_ex h
        refine kc_i (va_runV (As := [.int (L.1 1)]) (rest := []) ⟨hx, hb, hml, hown, hts⟩ (c_y_X1_length l dC dI cy a z k (lI lZ 1 ((L.1 1))) σ r1 hc1 H.size) (cwV 1 hts g_y_X0_sum_X1_length_V100 rfl rfl rfl hd_y_X1_length ⟨Nat.le_of_ble_eq_true rfl, Nat.le_of_ble_eq_true rfl⟩) ⟨nb_blind, va_recv hK hP (ci := 1) (q0 := 0) rfl rfl, (kb_pre hK hG hP hD)⟩ rfl rfl hl.1 rfl (lv_room (Nat.le_of_ble_eq_true rfl)) dX0_sum_133 ⟨Nat.le_refl _, Nat.le_refl _⟩) hA hP hD hS (fun H locs hP hD hS => ?_)
        refine lv_aload_n hx hb dX0_sum_136 rfl (lv_at hl 0 rfl) ?_
        refine hg_14_0 hx hb hts in_y_X0_sum_X0 hown hK hP (hts _ (List.mem_cons_of_mem _ (List.mem_append_left _ (List.mem_append_left _ (List.mem_of_getElem? (i := 0) rfl))))) dX0_sum_137 ?_
        refine lv_iload_n hx hb dX0_sum_140 rfl (lv_at hl 2 rfl) ?_
        obtain ⟨r2, hc2, h⟩ := oc_ex h
        refine kc_i (va_runV (As := [.int (L.1 2)]) (rest := [.int r1.1]) ⟨hx, hb, hml, hown, hts⟩ (c_y_X1_length l dC dI cy a z k (lI lZ 1 ((L.1 2))) r1.2 r2 hc2 H.size) (cwV 1 hts g_y_X0_sum_X1_length_V100 rfl rfl rfl hd_y_X1_length ⟨Nat.le_of_ble_eq_true rfl, Nat.le_of_ble_eq_true rfl⟩) ⟨nb_blind, va_recv hK hP (ci := 1) (q0 := 0) rfl rfl, (kb_pre hK hG hP hD)⟩ rfl rfl hl.1 rfl (lv_room (Nat.le_of_ble_eq_true rfl)) dX0_sum_141 ⟨Nat.le_refl _, Nat.le_refl _⟩) hA hP hD hS (fun H locs hP hD hS => ?_)
        refine lv_icmp_ge (tgt := 156) hx hb dX0_sum_144 (by decide) (fun c3 => ?_) (fun c3 => ?_)
        · rw [if_pos c3] at h
          exact ih.2.2.2.2.2.2.2.1 L r2.2 r h H locs ls hP hD hS (lv_sub hl [0, 1, 2] rfl)
        · rw [if_neg c3] at h
          refine lv_aload_n hx hb dX0_sum_147 rfl (lv_at hl 0 rfl) ?_
          refine lv_iload_n hx hb dX0_sum_148 rfl (lv_at hl 2 rfl) ?_
          refine lv_iload_n hx hb dX0_sum_149 rfl (lv_at hl 1 rfl) ?_
          obtain ⟨r4, hc4, h⟩ := oc_ex h
          refine kc_i (va_runV (As := [.int (L.1 2), .int (L.1 1)]) (rest := []) ⟨hx, hb, hml, hown, hts⟩ (c_y_X0_union l dC dI cy a z k (lI (lI lZ 1 ((L.1 2))) 2 ((L.1 1))) r2.2 r4 hc4 H.size) (cwV 2 hts g_y_X0_sum_X0_union_V111 rfl rfl rfl hd_y_X0_union ⟨Nat.le_of_ble_eq_true rfl, Nat.le_of_ble_eq_true rfl⟩) ⟨nb_blind, va_recv hK hP (ci := 0) (q0 := 14) rfl rfl, (kb_pre hK hG hP hD)⟩ rfl rfl hl.1 rfl (lv_room (Nat.le_of_ble_eq_true rfl)) dX0_sum_150 ⟨Nat.le_refl _, Nat.le_refl _⟩) hA hP hD hS (fun H locs hP hD hS => ?_)
          refine lv_goto (tgt := 162) hx hb dX0_sum_153 (by decide) ?_
          exact ih.2.2.2.2.2.2.2.2 (lI L 100 r4.1) r4.2 r h H locs ls hP hD hS (lv_sub hl [] rfl)
      · intro L σ r h H locs ls hP hD hS hl
        rw [y_X0_sum] at h
        refine lv_aload_n hx hb dX0_sum_156 rfl (lv_at hl 0 rfl) ?_
        refine lv_iload_n hx hb dX0_sum_157 rfl (lv_at hl 1 rfl) ?_
        refine lv_iload_n hx hb dX0_sum_158 rfl (lv_at hl 2 rfl) ?_
        obtain ⟨r1, hc1, h⟩ := oc_ex h
        refine kc_i (va_runV (As := [.int (L.1 1), .int (L.1 2)]) (rest := []) ⟨hx, hb, hml, hown, hts⟩ (c_y_X0_union l dC dI cy a z k (lI (lI lZ 1 ((L.1 1))) 2 ((L.1 2))) σ r1 hc1 H.size) (cwV 2 hts g_y_X0_sum_X0_union_V111 rfl rfl rfl hd_y_X0_union ⟨Nat.le_of_ble_eq_true rfl, Nat.le_of_ble_eq_true rfl⟩) ⟨nb_blind, va_recv hK hP (ci := 0) (q0 := 14) rfl rfl, (kb_pre hK hG hP hD)⟩ rfl rfl hl.1 rfl (lv_room (Nat.le_of_ble_eq_true rfl)) dX0_sum_159 ⟨Nat.le_refl _, Nat.le_refl _⟩) hA hP hD hS (fun H locs hP hD hS => ?_)
        exact ih.2.2.2.2.2.2.2.2 (lI L 100 r1.1) r1.2 r h H locs ls hP hD hS (lv_sub hl [] rfl)
      · intro L σ r h H locs ls hP hD hS hl
        rw [y_X0_sum] at h
        obtain rfl := Option.some.inj h
        exact W.iret (v := (L.1 100)) hx hb hr (fun t ht hW => ⟨⟨(L.1 100), (), rfl, rfl, by rw [ht]; exact hP, va_K.moved hW.alike hK, hD⟩, hS.F ht⟩) hS.2.2 dX0_sum_162
  exact (blk k0).1 L0 σ0 r0 h0 s.heap [] ls hP hD hS hl
/-! X0_areWholes -/
def y_X0_areWholes : Nat → Nat → LV → CS → Option (Int32 × CS)
  | 0, _, _, _ => none
  | k + 1, 0, L, σ => oc (y_X1_kind k 0 (lI lZ 1 ((L.1 1))) σ) (fun r1 => if r1.1 = 2 then (oc (y_X1_kind k 0 (lI lZ 1 ((L.1 2))) r1.2) (fun r3 => if r3.1 = 2 then (y_X0_areWholes k 2 (lI L 100 1) r3.2) else (y_X0_areWholes k 1 L r3.2))) else (y_X0_areWholes k 1 L r1.2))
  | k + 1, 1, L, σ => y_X0_areWholes k 2 (lI L 100 0) σ
  | k + 1, 2, L, σ => if ((L.1 100)) = 0 ∨ ((L.1 100)) = 1 then some ((L.1 100), σ) else none
  | _ + 1, _ + 3, _, _ => none
def o_y_X0_areWholes : List Cond := [.fieldLink RX0 22 "SetHouse$Algebra" "heap" "LSetHouse$Heap;", .methodLink RX0 87 yX1_kind, .instanceMethod yX1_kind, .selects RX1 yX1_kind yX1_kind, .initialized RX1]
theorem o_y_X0_areWholes_good : o_y_X0_areWholes.all goodWord = true := by decide +kernel
def p_y_X0_areWholes : List Cond := o_y_X0_areWholes ++ ((.code yX1_kind cX1_kind 2 (some .int) :: p_y_X1_kind) ++ [])
theorem p_y_X0_areWholes_good : p_y_X0_areWholes.all goodWord = true := nb_all2 o_y_X0_areWholes_good (nb_all2 (nb_allc (by decide +kernel) p_y_X1_kind_good) rfl)
def w_y_X0_areWholes : List Cond := .code yX0_areWholes cX0_areWholes 3 (some .boolean) :: (p_y_X0_areWholes ++ fC)
theorem w_y_X0_areWholes_good : w_y_X0_areWholes.all goodWord = true := nb_allc (by decide +kernel) (nb_all2 p_y_X0_areWholes_good fC_good)
theorem in_y_X0_areWholes_X0 : ∀ w ∈ wsX00, w ∈ w_y_X0_areWholes := fun _ h => List.mem_cons_of_mem _ (List.mem_append_right _ (List.mem_append_left _ h))
theorem hd_y_X0_areWholes : yX0_areWholes.cls = RX0 ∧ yX0_areWholes.cls ≠ "java/lang/invoke/MethodHandle" ∧ yX0_areWholes.cls ≠ "java/lang/invoke/VarHandle" ∧ (parseMethodDescriptor yX0_areWholes.desc).map (fun d => d.parameters.length) = some 2 := by decide +kernel
theorem gg_y_X0_areWholes_X1_kind : GoodIn w_y_X0_areWholes w_y_X1_kind := goodIn_sub (fun w h => (List.mem_cons.mp h).elim (fun e => (List.mem_cons_of_mem _ (List.mem_append_left _ (List.mem_append_right _ (List.mem_append_left _ (List.mem_cons.mpr (Or.inl e))))))) (fun h => (List.mem_append.mp h).elim (fun h => (List.mem_cons_of_mem _ (List.mem_append_left _ (List.mem_append_right _ (List.mem_append_left _ (List.mem_cons_of_mem _ h)))))) (fun h => List.mem_cons_of_mem _ (List.mem_append_right _ h)))) w_y_X1_kind_good
theorem g_y_X0_areWholes_X1_kind_V87 : GoodIn w_y_X0_areWholes (wsV RX0 87 RX1 yX1_kind w_y_X1_kind) := goodIn_app (nb_g4 (List.mem_cons_of_mem _ (List.mem_append_left _ (List.mem_append_left _ (List.mem_of_getElem? (i := 1) rfl)))) (List.mem_cons_of_mem _ (List.mem_append_left _ (List.mem_append_left _ (List.mem_of_getElem? (i := 2) rfl)))) (List.mem_cons_of_mem _ (List.mem_append_left _ (List.mem_append_left _ (List.mem_of_getElem? (i := 3) rfl)))) (List.mem_cons_of_mem _ (List.mem_append_left _ (List.mem_append_left _ (List.mem_of_getElem? (i := 4) rfl)))) (by decide +kernel)) gg_y_X0_areWholes_X1_kind
set_option maxHeartbeats 40000000 in
set_option maxRecDepth 100000 in
theorem c_y_X0_areWholes (l : Launch) (dC : Nat → ClassId) (dI : Nat → Nat → Nat) (cy : Nat → ClassId) (a z : Nat → Nat) (k0 : Nat) (L0 : LV) (σ0 : CS) (r0 : Int32 × CS) (h0 : y_X0_areWholes k0 0 L0 σ0 = some r0) (sz : Nat) : Met l yX0_areWholes w_y_X0_areWholes ({ frames := 1, cells := 0, slots := 0, locals := 21 }) (va_Pc [.ref (a 14), .int (L0.1 1), .int (L0.1 2)] (nIn (dC, dI) cy sz (vC cy a z σ0))) (va_Qi (fun (x : Int32) (_ : Unit) => x = r0.1) (fun _ t => nOut (dC, dI) cy (va_A (vC cy a z σ0) sz) (vC cy a z r0.2) t) (va_A (vC cy a z σ0) sz)) 0 0 (va_A (vC cy a z σ0) sz) := by
  refine Met.ofW (cc := cX0_areWholes) (maxL := 3) (ret := (some .boolean)) (by decide) rfl ?_
  intro p e s m args below meth c s₁ B hml hv
  obtain ⟨rfl, hsz, hP, hK, hD0, hG⟩ := hv
  have hx := B.exec
  have hb := B.bytes
  have hr := B.returns
  have hts := atoms_spec (ws := w_y_X0_areWholes) B.pre
  have hown : s.vm.findClass RX0 = some m.cls := findClass_of_methodNamed B.named
  have hlocks := B.notSynchronized
  subst hsz
  have hD := hD0.self (sz := s.heap.size)
  generalize hAe : va_A (vC cy a z σ0) s.heap.size = A at hD ⊢
  have hA : ∀ q : Nat, s.heap.size ≤ q → A q := fun q h => by rw [← hAe]; exact Or.inr h
  have hS : va_S A s.heap s.heap [] := va_S.rf
  have hl := lv_entry ([.ref (a 14), .int (L0.1 1), .int (L0.1 2)]) (n := 3) (Nat.le_of_ble_eq_true rfl)
  rw [lg_entry_eq]
  generalize (lg_sl ([.ref (a 14), .int (L0.1 1), .int (L0.1 2)]) ++ List.replicate (3 - (lg_sl ([.ref (a 14), .int (L0.1 1), .int (L0.1 2)])).length) Slot.unset).toArray = ls at hl ⊢
  have hl : lv_has ls 3 [(0, .ref (a 14)), (1, .int (L0.1 1)), (2, .int (L0.1 2))] := hl
  have blk : ∀ k : Nat, (bC p l e (headSpec w_y_X0_areWholes ({ frames := 1, cells := 0, slots := 0, locals := 21 })).room s m #[.ref (a 14), .int (L0.1 1), .int (L0.1 2)] below meth c dC dI cy a z A (kI dC dI cy a z A below #[.ref (a 14), .int (L0.1 1), .int (L0.1 2)] s) 3 (y_X0_areWholes k 0) (fun L => [(0, .ref (a 14)), (1, .int (L.1 1)), (2, .int (L.1 2))]) 0 (fun L => [])) ∧ (bC p l e (headSpec w_y_X0_areWholes ({ frames := 1, cells := 0, slots := 0, locals := 21 })).room s m #[.ref (a 14), .int (L0.1 1), .int (L0.1 2)] below meth c dC dI cy a z A (kI dC dI cy a z A below #[.ref (a 14), .int (L0.1 1), .int (L0.1 2)] s) 3 (y_X0_areWholes k 1) (fun L => []) 28 (fun L => [])) ∧ (bC p l e (headSpec w_y_X0_areWholes ({ frames := 1, cells := 0, slots := 0, locals := 21 })).room s m #[.ref (a 14), .int (L0.1 1), .int (L0.1 2)] below meth c dC dI cy a z A (kI dC dI cy a z A below #[.ref (a 14), .int (L0.1 1), .int (L0.1 2)] s) 3 (y_X0_areWholes k 2) (fun L => []) 29 (fun L => [.int (L.1 100)])) := by
    intro k
    induction k with
    | zero => exact ⟨fun L σ r h => (by cases h), fun L σ r h => (by cases h), fun L σ r h => (by cases h)⟩
    | succ k ih =>
      refine ⟨?_, ?_, ?_⟩
      · intro L σ r h H locs ls hP hD hS hl
        rw [y_X0_areWholes] at h
        refine lv_aload_n hx hb dX0_areWholes_0 rfl (lv_at hl 0 rfl) ?_
        refine hg_14_0 hx hb hts in_y_X0_areWholes_X0 hown hK hP (hts _ (List.mem_cons_of_mem _ (List.mem_append_left _ (List.mem_append_left _ (List.mem_of_getElem? (i := 0) rfl))))) dX0_areWholes_1 ?_
        refine lv_iload_n hx hb dX0_areWholes_4 rfl (lv_at hl 1 rfl) ?_
        obtain ⟨r1, hc1, h⟩ := oc_ex h
        refine kc_i (va_runV (As := [.int (L.1 1)]) (rest := []) ⟨hx, hb, hml, hown, hts⟩ (c_y_X1_kind l dC dI cy a z k (lI lZ 1 ((L.1 1))) σ r1 hc1 H.size) (cwV 1 hts g_y_X0_areWholes_X1_kind_V87 rfl rfl rfl hd_y_X1_kind ⟨Nat.le_of_ble_eq_true rfl, Nat.le_of_ble_eq_true rfl⟩) ⟨nb_blind, va_recv hK hP (ci := 1) (q0 := 0) rfl rfl, (kb_pre hK hG hP hD)⟩ rfl rfl hl.1 rfl (lv_room (Nat.le_of_ble_eq_true rfl)) dX0_areWholes_5 ⟨Nat.le_refl _, Nat.le_refl _⟩) hA hP hD hS (fun H locs hP hD hS => ?_)
        refine lv_iconst (v := 2) hx hb dX0_areWholes_8 (by decide) ?_
        refine lv_icmp_ne (tgt := 28) hx hb dX0_areWholes_9 (by decide) (fun c2 => ?_) (fun c2 => ?_)
        · rw [if_neg c2] at h
          exact ih.2.1 L r1.2 r h H locs ls hP hD hS (lv_sub hl [] rfl)
        · rw [if_pos c2] at h
          refine lv_aload_n hx hb dX0_areWholes_12 rfl (lv_at hl 0 rfl) ?_
          refine hg_14_0 hx hb hts in_y_X0_areWholes_X0 hown hK hP (hts _ (List.mem_cons_of_mem _ (List.mem_append_left _ (List.mem_append_left _ (List.mem_of_getElem? (i := 0) rfl))))) dX0_areWholes_13 ?_
          refine lv_iload_n hx hb dX0_areWholes_16 rfl (lv_at hl 2 rfl) ?_
          obtain ⟨r3, hc3, h⟩ := oc_ex h
          refine kc_i (va_runV (As := [.int (L.1 2)]) (rest := []) ⟨hx, hb, hml, hown, hts⟩ (c_y_X1_kind l dC dI cy a z k (lI lZ 1 ((L.1 2))) r1.2 r3 hc3 H.size) (cwV 1 hts g_y_X0_areWholes_X1_kind_V87 rfl rfl rfl hd_y_X1_kind ⟨Nat.le_of_ble_eq_true rfl, Nat.le_of_ble_eq_true rfl⟩) ⟨nb_blind, va_recv hK hP (ci := 1) (q0 := 0) rfl rfl, (kb_pre hK hG hP hD)⟩ rfl rfl hl.1 rfl (lv_room (Nat.le_of_ble_eq_true rfl)) dX0_areWholes_17 ⟨Nat.le_refl _, Nat.le_refl _⟩) hA hP hD hS (fun H locs hP hD hS => ?_)
          refine lv_iconst (v := 2) hx hb dX0_areWholes_20 (by decide) ?_
          refine lv_icmp_ne (tgt := 28) hx hb dX0_areWholes_21 (by decide) (fun c4 => ?_) (fun c4 => ?_)
          · rw [if_neg c4] at h
            exact ih.2.1 L r3.2 r h H locs ls hP hD hS (lv_sub hl [] rfl)
          · rw [if_pos c4] at h
            refine lv_iconst (v := 1) hx hb dX0_areWholes_24 (by decide) ?_
            refine lv_goto (tgt := 29) hx hb dX0_areWholes_25 (by decide) ?_
            exact ih.2.2 (lI L 100 1) r3.2 r h H locs ls hP hD hS (lv_sub hl [] rfl)
      · intro L σ r h H locs ls hP hD hS hl
        rw [y_X0_areWholes] at h
        refine lv_iconst (v := 0) hx hb dX0_areWholes_28 (by decide) ?_
        exact ih.2.2 (lI L 100 0) σ r h H locs ls hP hD hS (lv_sub hl [] rfl)
      · intro L σ r h H locs ls hP hD hS hl
        rw [y_X0_areWholes] at h
        obtain ⟨q1, h⟩ := kb_ite1 h
        obtain rfl := Option.some.inj h
        exact W.zret (v := (L.1 100)) hx hb hr (nb_bz q1) (fun t ht hW => ⟨⟨(L.1 100), (), rfl, rfl, by rw [ht]; exact hP, va_K.moved hW.alike hK, hD⟩, hS.F ht⟩) hS.2.2 dX0_areWholes_29
  exact (blk k0).1 L0 σ0 r0 h0 s.heap [] ls hP hD hS hl
/-! X0_areSets -/
def y_X0_areSets : Nat → Nat → LV → CS → Option (Int32 × CS)
  | 0, _, _, _ => none
  | k + 1, 0, L, σ => oc (y_X1_kind k 0 (lI lZ 1 ((L.1 1))) σ) (fun r1 => if r1.1 = 6 then (oc (y_X1_kind k 0 (lI lZ 1 ((L.1 2))) r1.2) (fun r3 => if r3.1 = 6 then (y_X0_areSets k 2 (lI L 100 1) r3.2) else (y_X0_areSets k 1 L r3.2))) else (y_X0_areSets k 1 L r1.2))
  | k + 1, 1, L, σ => y_X0_areSets k 2 (lI L 100 0) σ
  | k + 1, 2, L, σ => if ((L.1 100)) = 0 ∨ ((L.1 100)) = 1 then some ((L.1 100), σ) else none
  | _ + 1, _ + 3, _, _ => none
def o_y_X0_areSets : List Cond := [.fieldLink RX0 22 "SetHouse$Algebra" "heap" "LSetHouse$Heap;", .methodLink RX0 87 yX1_kind, .instanceMethod yX1_kind, .selects RX1 yX1_kind yX1_kind, .initialized RX1]
theorem o_y_X0_areSets_good : o_y_X0_areSets.all goodWord = true := by decide +kernel
def p_y_X0_areSets : List Cond := o_y_X0_areSets ++ ((.code yX1_kind cX1_kind 2 (some .int) :: p_y_X1_kind) ++ [])
theorem p_y_X0_areSets_good : p_y_X0_areSets.all goodWord = true := nb_all2 o_y_X0_areSets_good (nb_all2 (nb_allc (by decide +kernel) p_y_X1_kind_good) rfl)
def w_y_X0_areSets : List Cond := .code yX0_areSets cX0_areSets 3 (some .boolean) :: (p_y_X0_areSets ++ fC)
theorem w_y_X0_areSets_good : w_y_X0_areSets.all goodWord = true := nb_allc (by decide +kernel) (nb_all2 p_y_X0_areSets_good fC_good)
theorem in_y_X0_areSets_X0 : ∀ w ∈ wsX00, w ∈ w_y_X0_areSets := fun _ h => List.mem_cons_of_mem _ (List.mem_append_right _ (List.mem_append_left _ h))
theorem hd_y_X0_areSets : yX0_areSets.cls = RX0 ∧ yX0_areSets.cls ≠ "java/lang/invoke/MethodHandle" ∧ yX0_areSets.cls ≠ "java/lang/invoke/VarHandle" ∧ (parseMethodDescriptor yX0_areSets.desc).map (fun d => d.parameters.length) = some 2 := by decide +kernel
theorem gg_y_X0_areSets_X1_kind : GoodIn w_y_X0_areSets w_y_X1_kind := goodIn_sub (fun w h => (List.mem_cons.mp h).elim (fun e => (List.mem_cons_of_mem _ (List.mem_append_left _ (List.mem_append_right _ (List.mem_append_left _ (List.mem_cons.mpr (Or.inl e))))))) (fun h => (List.mem_append.mp h).elim (fun h => (List.mem_cons_of_mem _ (List.mem_append_left _ (List.mem_append_right _ (List.mem_append_left _ (List.mem_cons_of_mem _ h)))))) (fun h => List.mem_cons_of_mem _ (List.mem_append_right _ h)))) w_y_X1_kind_good
theorem g_y_X0_areSets_X1_kind_V87 : GoodIn w_y_X0_areSets (wsV RX0 87 RX1 yX1_kind w_y_X1_kind) := goodIn_app (nb_g4 (List.mem_cons_of_mem _ (List.mem_append_left _ (List.mem_append_left _ (List.mem_of_getElem? (i := 1) rfl)))) (List.mem_cons_of_mem _ (List.mem_append_left _ (List.mem_append_left _ (List.mem_of_getElem? (i := 2) rfl)))) (List.mem_cons_of_mem _ (List.mem_append_left _ (List.mem_append_left _ (List.mem_of_getElem? (i := 3) rfl)))) (List.mem_cons_of_mem _ (List.mem_append_left _ (List.mem_append_left _ (List.mem_of_getElem? (i := 4) rfl)))) (by decide +kernel)) gg_y_X0_areSets_X1_kind
set_option maxHeartbeats 40000000 in
set_option maxRecDepth 100000 in
theorem c_y_X0_areSets (l : Launch) (dC : Nat → ClassId) (dI : Nat → Nat → Nat) (cy : Nat → ClassId) (a z : Nat → Nat) (k0 : Nat) (L0 : LV) (σ0 : CS) (r0 : Int32 × CS) (h0 : y_X0_areSets k0 0 L0 σ0 = some r0) (sz : Nat) : Met l yX0_areSets w_y_X0_areSets ({ frames := 1, cells := 0, slots := 0, locals := 21 }) (va_Pc [.ref (a 14), .int (L0.1 1), .int (L0.1 2)] (nIn (dC, dI) cy sz (vC cy a z σ0))) (va_Qi (fun (x : Int32) (_ : Unit) => x = r0.1) (fun _ t => nOut (dC, dI) cy (va_A (vC cy a z σ0) sz) (vC cy a z r0.2) t) (va_A (vC cy a z σ0) sz)) 0 0 (va_A (vC cy a z σ0) sz) := by
  refine Met.ofW (cc := cX0_areSets) (maxL := 3) (ret := (some .boolean)) (by decide) rfl ?_
  intro p e s m args below meth c s₁ B hml hv
  obtain ⟨rfl, hsz, hP, hK, hD0, hG⟩ := hv
  have hx := B.exec
  have hb := B.bytes
  have hr := B.returns
  have hts := atoms_spec (ws := w_y_X0_areSets) B.pre
  have hown : s.vm.findClass RX0 = some m.cls := findClass_of_methodNamed B.named
  have hlocks := B.notSynchronized
  subst hsz
  have hD := hD0.self (sz := s.heap.size)
  generalize hAe : va_A (vC cy a z σ0) s.heap.size = A at hD ⊢
  have hA : ∀ q : Nat, s.heap.size ≤ q → A q := fun q h => by rw [← hAe]; exact Or.inr h
  have hS : va_S A s.heap s.heap [] := va_S.rf
  have hl := lv_entry ([.ref (a 14), .int (L0.1 1), .int (L0.1 2)]) (n := 3) (Nat.le_of_ble_eq_true rfl)
  rw [lg_entry_eq]
  generalize (lg_sl ([.ref (a 14), .int (L0.1 1), .int (L0.1 2)]) ++ List.replicate (3 - (lg_sl ([.ref (a 14), .int (L0.1 1), .int (L0.1 2)])).length) Slot.unset).toArray = ls at hl ⊢
  have hl : lv_has ls 3 [(0, .ref (a 14)), (1, .int (L0.1 1)), (2, .int (L0.1 2))] := hl
  have blk : ∀ k : Nat, (bC p l e (headSpec w_y_X0_areSets ({ frames := 1, cells := 0, slots := 0, locals := 21 })).room s m #[.ref (a 14), .int (L0.1 1), .int (L0.1 2)] below meth c dC dI cy a z A (kI dC dI cy a z A below #[.ref (a 14), .int (L0.1 1), .int (L0.1 2)] s) 3 (y_X0_areSets k 0) (fun L => [(0, .ref (a 14)), (1, .int (L.1 1)), (2, .int (L.1 2))]) 0 (fun L => [])) ∧ (bC p l e (headSpec w_y_X0_areSets ({ frames := 1, cells := 0, slots := 0, locals := 21 })).room s m #[.ref (a 14), .int (L0.1 1), .int (L0.1 2)] below meth c dC dI cy a z A (kI dC dI cy a z A below #[.ref (a 14), .int (L0.1 1), .int (L0.1 2)] s) 3 (y_X0_areSets k 1) (fun L => []) 30 (fun L => [])) ∧ (bC p l e (headSpec w_y_X0_areSets ({ frames := 1, cells := 0, slots := 0, locals := 21 })).room s m #[.ref (a 14), .int (L0.1 1), .int (L0.1 2)] below meth c dC dI cy a z A (kI dC dI cy a z A below #[.ref (a 14), .int (L0.1 1), .int (L0.1 2)] s) 3 (y_X0_areSets k 2) (fun L => []) 31 (fun L => [.int (L.1 100)])) := by
    intro k
    induction k with
    | zero => exact ⟨fun L σ r h => (by cases h), fun L σ r h => (by cases h), fun L σ r h => (by cases h)⟩
    | succ k ih =>
      refine ⟨?_, ?_, ?_⟩
      · intro L σ r h H locs ls hP hD hS hl
        rw [y_X0_areSets] at h
        refine lv_aload_n hx hb dX0_areSets_0 rfl (lv_at hl 0 rfl) ?_
        refine hg_14_0 hx hb hts in_y_X0_areSets_X0 hown hK hP (hts _ (List.mem_cons_of_mem _ (List.mem_append_left _ (List.mem_append_left _ (List.mem_of_getElem? (i := 0) rfl))))) dX0_areSets_1 ?_
        refine lv_iload_n hx hb dX0_areSets_4 rfl (lv_at hl 1 rfl) ?_
        obtain ⟨r1, hc1, h⟩ := oc_ex h
        refine kc_i (va_runV (As := [.int (L.1 1)]) (rest := []) ⟨hx, hb, hml, hown, hts⟩ (c_y_X1_kind l dC dI cy a z k (lI lZ 1 ((L.1 1))) σ r1 hc1 H.size) (cwV 1 hts g_y_X0_areSets_X1_kind_V87 rfl rfl rfl hd_y_X1_kind ⟨Nat.le_of_ble_eq_true rfl, Nat.le_of_ble_eq_true rfl⟩) ⟨nb_blind, va_recv hK hP (ci := 1) (q0 := 0) rfl rfl, (kb_pre hK hG hP hD)⟩ rfl rfl hl.1 rfl (lv_room (Nat.le_of_ble_eq_true rfl)) dX0_areSets_5 ⟨Nat.le_refl _, Nat.le_refl _⟩) hA hP hD hS (fun H locs hP hD hS => ?_)
        refine lv_bipush (v := 6) hx hb dX0_areSets_8 (by decide) ?_
        refine lv_icmp_ne (tgt := 30) hx hb dX0_areSets_10 (by decide) (fun c2 => ?_) (fun c2 => ?_)
        · rw [if_neg c2] at h
          exact ih.2.1 L r1.2 r h H locs ls hP hD hS (lv_sub hl [] rfl)
        · rw [if_pos c2] at h
          refine lv_aload_n hx hb dX0_areSets_13 rfl (lv_at hl 0 rfl) ?_
          refine hg_14_0 hx hb hts in_y_X0_areSets_X0 hown hK hP (hts _ (List.mem_cons_of_mem _ (List.mem_append_left _ (List.mem_append_left _ (List.mem_of_getElem? (i := 0) rfl))))) dX0_areSets_14 ?_
          refine lv_iload_n hx hb dX0_areSets_17 rfl (lv_at hl 2 rfl) ?_
          obtain ⟨r3, hc3, h⟩ := oc_ex h
          refine kc_i (va_runV (As := [.int (L.1 2)]) (rest := []) ⟨hx, hb, hml, hown, hts⟩ (c_y_X1_kind l dC dI cy a z k (lI lZ 1 ((L.1 2))) r1.2 r3 hc3 H.size) (cwV 1 hts g_y_X0_areSets_X1_kind_V87 rfl rfl rfl hd_y_X1_kind ⟨Nat.le_of_ble_eq_true rfl, Nat.le_of_ble_eq_true rfl⟩) ⟨nb_blind, va_recv hK hP (ci := 1) (q0 := 0) rfl rfl, (kb_pre hK hG hP hD)⟩ rfl rfl hl.1 rfl (lv_room (Nat.le_of_ble_eq_true rfl)) dX0_areSets_18 ⟨Nat.le_refl _, Nat.le_refl _⟩) hA hP hD hS (fun H locs hP hD hS => ?_)
          refine lv_bipush (v := 6) hx hb dX0_areSets_21 (by decide) ?_
          refine lv_icmp_ne (tgt := 30) hx hb dX0_areSets_23 (by decide) (fun c4 => ?_) (fun c4 => ?_)
          · rw [if_neg c4] at h
            exact ih.2.1 L r3.2 r h H locs ls hP hD hS (lv_sub hl [] rfl)
          · rw [if_pos c4] at h
            refine lv_iconst (v := 1) hx hb dX0_areSets_26 (by decide) ?_
            refine lv_goto (tgt := 31) hx hb dX0_areSets_27 (by decide) ?_
            exact ih.2.2 (lI L 100 1) r3.2 r h H locs ls hP hD hS (lv_sub hl [] rfl)
      · intro L σ r h H locs ls hP hD hS hl
        rw [y_X0_areSets] at h
        refine lv_iconst (v := 0) hx hb dX0_areSets_30 (by decide) ?_
        exact ih.2.2 (lI L 100 0) σ r h H locs ls hP hD hS (lv_sub hl [] rfl)
      · intro L σ r h H locs ls hP hD hS hl
        rw [y_X0_areSets] at h
        obtain ⟨q1, h⟩ := kb_ite1 h
        obtain rfl := Option.some.inj h
        exact W.zret (v := (L.1 100)) hx hb hr (nb_bz q1) (fun t ht hW => ⟨⟨(L.1 100), (), rfl, rfl, by rw [ht]; exact hP, va_K.moved hW.alike hK, hD⟩, hS.F ht⟩) hS.2.2 dX0_areSets_31
  exact (blk k0).1 L0 σ0 r0 h0 s.heap [] ls hP hD hS hl
/-! X0_chosen -/
def y_X0_chosen : Nat → Nat → LV → CS → Option (Int32 × CS)
  | 0, _, _, _ => none
  | k + 1, 0, L, σ => y_X0_chosen k 1 (lI (lI L 4 0) 5 0) σ
  | k + 1, 1, L, σ => oc (y_X1_length k 0 (lI lZ 1 ((L.1 1))) σ) (fun r1 => if r1.1 ≤ ((L.1 5)) then (y_X0_chosen k 2 L r1.2) else (if ((Int32.ofNat 2048)) ≤ ((L.1 4)) then (y_X0_chosen k 2 L r1.2) else (oc (y_X1_member k 0 (lI (lI lZ 1 ((L.1 1))) 2 ((L.1 5))) r1.2) (fun r4 => oc (y_X0_placeOf k 0 (lI (lI (lI lZ 1 ((L.1 2))) 2 0) 3 r4.1) r4.2) (fun r5 => oc (y_X1_length k 0 (lI lZ 1 ((L.1 2))) r5.2) (fun r6 => if r6.1 ≤ r5.1 then (y_X0_chosen k 3 (lI L 6 r4.1) r6.2) else (oc (y_X1_member k 0 (lI (lI lZ 1 ((L.1 2))) 2 r5.1) r6.2) (fun r8 => oc (y_X1_same k 0 (lI (lI lZ 1 r8.1) 2 r4.1) r8.2) (fun r9 => if r9.1 = 0 then (y_X0_chosen k 3 (lI L 6 r4.1) r9.2) else (y_X0_chosen k 4 (lI (lI L 6 r4.1) 100 1) r9.2))))))))))
  | k + 1, 2, L, σ => oc (y_X1_makeRow__a16 k 0 (lI (lI (lI lZ 1 6) 3 0) 4 ((L.1 4))) σ) (fun r1 => some (r1.1, r1.2))
  | k + 1, 3, L, σ => y_X0_chosen k 4 (lI L 100 0) σ
  | k + 1, 4, L, σ => if ((L.1 100)) = ((L.1 3)) then (if ¬ (((L.1 4)) < 0 ∨ 2048 ≤ ((L.1 4)).toNatClampNeg) then (y_X0_chosen k 5 (lI L 4 ((((L.1 4)) + 1))) (uA σ 16 ((L.1 4)).toNatClampNeg ((L.1 6)))) else none) else (y_X0_chosen k 5 L σ)
  | k + 1, 5, L, σ => y_X0_chosen k 1 (lI L 5 ((((L.1 5)) + 1))) σ
  | _ + 1, _ + 6, _, _ => none
def o_y_X0_chosen : List Cond := [.fieldLink RX0 22 "SetHouse$Algebra" "heap" "LSetHouse$Heap;", .methodLink RX0 100 yX1_length, .instanceMethod yX1_length, .selects RX1 yX1_length yX1_length, .initialized RX1, .fieldLink RX0 15 "SetHouse$Algebra" "row" "[I", .methodLink RX0 154 yX1_member, .instanceMethod yX1_member, .selects RX1 yX1_member yX1_member, .methodLink RX0 157 yX0_placeOf, .instanceMethod yX0_placeOf, .selects RX0 yX0_placeOf yX0_placeOf, .initialized RX0, .methodLink RX0 60 yX1_same, .instanceMethod yX1_same, .selects RX1 yX1_same yX1_same, .methodLink RX0 160 yX1_makeRow, .instanceMethod yX1_makeRow, .selects RX1 yX1_makeRow yX1_makeRow]
theorem o_y_X0_chosen_good : o_y_X0_chosen.all goodWord = true := by decide +kernel
def p_y_X0_chosen : List Cond := o_y_X0_chosen ++ ((.code yX1_length cX1_length 2 (some .int) :: p_y_X1_length) ++ ((.code yX1_member cX1_member 3 (some .int) :: p_y_X1_member) ++ ((.code yX0_placeOf cX0_placeOf 8 (some .int) :: p_y_X0_placeOf) ++ ((.code yX1_same cX1_same 3 (some .boolean) :: p_y_X1_same) ++ ((.code yX1_makeRow cX1_makeRow 11 (some .int) :: p_y_X1_makeRow__a16) ++ [])))))
theorem p_y_X0_chosen_good : p_y_X0_chosen.all goodWord = true := nb_all2 o_y_X0_chosen_good (nb_all2 (nb_allc (by decide +kernel) p_y_X1_length_good) (nb_all2 (nb_allc (by decide +kernel) p_y_X1_member_good) (nb_all2 (nb_allc (by decide +kernel) p_y_X0_placeOf_good) (nb_all2 (nb_allc (by decide +kernel) p_y_X1_same_good) (nb_all2 (nb_allc (by decide +kernel) p_y_X1_makeRow__a16_good) rfl)))))
def w_y_X0_chosen : List Cond := .code yX0_chosen cX0_chosen 8 (some .int) :: (p_y_X0_chosen ++ fC)
theorem w_y_X0_chosen_good : w_y_X0_chosen.all goodWord = true := nb_allc (by decide +kernel) (nb_all2 p_y_X0_chosen_good fC_good)
theorem in_y_X0_chosen_X0 : ∀ w ∈ wsX00, w ∈ w_y_X0_chosen := fun _ h => List.mem_cons_of_mem _ (List.mem_append_right _ (List.mem_append_left _ h))
theorem hd_y_X0_chosen : yX0_chosen.cls = RX0 ∧ yX0_chosen.cls ≠ "java/lang/invoke/MethodHandle" ∧ yX0_chosen.cls ≠ "java/lang/invoke/VarHandle" ∧ (parseMethodDescriptor yX0_chosen.desc).map (fun d => d.parameters.length) = some 3 := by decide +kernel
theorem gg_y_X0_chosen_X0_placeOf : GoodIn w_y_X0_chosen w_y_X0_placeOf := goodIn_sub (fun w h => (List.mem_cons.mp h).elim (fun e => (List.mem_cons_of_mem _ (List.mem_append_left _ (List.mem_append_right _ (List.mem_append_right _ (List.mem_append_right _ (List.mem_append_left _ (List.mem_cons.mpr (Or.inl e))))))))) (fun h => (List.mem_append.mp h).elim (fun h => (List.mem_cons_of_mem _ (List.mem_append_left _ (List.mem_append_right _ (List.mem_append_right _ (List.mem_append_right _ (List.mem_append_left _ (List.mem_cons_of_mem _ h)))))))) (fun h => List.mem_cons_of_mem _ (List.mem_append_right _ h)))) w_y_X0_placeOf_good
theorem g_y_X0_chosen_X0_placeOf_V157 : GoodIn w_y_X0_chosen (wsV RX0 157 RX0 yX0_placeOf w_y_X0_placeOf) := goodIn_app (nb_g4 (List.mem_cons_of_mem _ (List.mem_append_left _ (List.mem_append_left _ (List.mem_of_getElem? (i := 9) rfl)))) (List.mem_cons_of_mem _ (List.mem_append_left _ (List.mem_append_left _ (List.mem_of_getElem? (i := 10) rfl)))) (List.mem_cons_of_mem _ (List.mem_append_left _ (List.mem_append_left _ (List.mem_of_getElem? (i := 11) rfl)))) (List.mem_cons_of_mem _ (List.mem_append_left _ (List.mem_append_left _ (List.mem_of_getElem? (i := 12) rfl)))) (by decide +kernel)) gg_y_X0_chosen_X0_placeOf
theorem gg_y_X0_chosen_X1_length : GoodIn w_y_X0_chosen w_y_X1_length := goodIn_sub (fun w h => (List.mem_cons.mp h).elim (fun e => (List.mem_cons_of_mem _ (List.mem_append_left _ (List.mem_append_right _ (List.mem_append_left _ (List.mem_cons.mpr (Or.inl e))))))) (fun h => (List.mem_append.mp h).elim (fun h => (List.mem_cons_of_mem _ (List.mem_append_left _ (List.mem_append_right _ (List.mem_append_left _ (List.mem_cons_of_mem _ h)))))) (fun h => List.mem_cons_of_mem _ (List.mem_append_right _ h)))) w_y_X1_length_good
theorem g_y_X0_chosen_X1_length_V100 : GoodIn w_y_X0_chosen (wsV RX0 100 RX1 yX1_length w_y_X1_length) := goodIn_app (nb_g4 (List.mem_cons_of_mem _ (List.mem_append_left _ (List.mem_append_left _ (List.mem_of_getElem? (i := 1) rfl)))) (List.mem_cons_of_mem _ (List.mem_append_left _ (List.mem_append_left _ (List.mem_of_getElem? (i := 2) rfl)))) (List.mem_cons_of_mem _ (List.mem_append_left _ (List.mem_append_left _ (List.mem_of_getElem? (i := 3) rfl)))) (List.mem_cons_of_mem _ (List.mem_append_left _ (List.mem_append_left _ (List.mem_of_getElem? (i := 4) rfl)))) (by decide +kernel)) gg_y_X0_chosen_X1_length
theorem gg_y_X0_chosen_X1_makeRow__a16 : GoodIn w_y_X0_chosen w_y_X1_makeRow__a16 := goodIn_sub (fun w h => (List.mem_cons.mp h).elim (fun e => (List.mem_cons_of_mem _ (List.mem_append_left _ (List.mem_append_right _ (List.mem_append_right _ (List.mem_append_right _ (List.mem_append_right _ (List.mem_append_right _ (List.mem_append_left _ (List.mem_cons.mpr (Or.inl e))))))))))) (fun h => (List.mem_append.mp h).elim (fun h => (List.mem_cons_of_mem _ (List.mem_append_left _ (List.mem_append_right _ (List.mem_append_right _ (List.mem_append_right _ (List.mem_append_right _ (List.mem_append_right _ (List.mem_append_left _ (List.mem_cons_of_mem _ h)))))))))) (fun h => List.mem_cons_of_mem _ (List.mem_append_right _ h)))) w_y_X1_makeRow__a16_good
theorem g_y_X0_chosen_X1_makeRow__a16_V160 : GoodIn w_y_X0_chosen (wsV RX0 160 RX1 yX1_makeRow w_y_X1_makeRow__a16) := goodIn_app (nb_g4 (List.mem_cons_of_mem _ (List.mem_append_left _ (List.mem_append_left _ (List.mem_of_getElem? (i := 16) rfl)))) (List.mem_cons_of_mem _ (List.mem_append_left _ (List.mem_append_left _ (List.mem_of_getElem? (i := 17) rfl)))) (List.mem_cons_of_mem _ (List.mem_append_left _ (List.mem_append_left _ (List.mem_of_getElem? (i := 18) rfl)))) (List.mem_cons_of_mem _ (List.mem_append_left _ (List.mem_append_left _ (List.mem_of_getElem? (i := 4) rfl)))) (by decide +kernel)) gg_y_X0_chosen_X1_makeRow__a16
theorem gg_y_X0_chosen_X1_member : GoodIn w_y_X0_chosen w_y_X1_member := goodIn_sub (fun w h => (List.mem_cons.mp h).elim (fun e => (List.mem_cons_of_mem _ (List.mem_append_left _ (List.mem_append_right _ (List.mem_append_right _ (List.mem_append_left _ (List.mem_cons.mpr (Or.inl e)))))))) (fun h => (List.mem_append.mp h).elim (fun h => (List.mem_cons_of_mem _ (List.mem_append_left _ (List.mem_append_right _ (List.mem_append_right _ (List.mem_append_left _ (List.mem_cons_of_mem _ h))))))) (fun h => List.mem_cons_of_mem _ (List.mem_append_right _ h)))) w_y_X1_member_good
theorem g_y_X0_chosen_X1_member_V154 : GoodIn w_y_X0_chosen (wsV RX0 154 RX1 yX1_member w_y_X1_member) := goodIn_app (nb_g4 (List.mem_cons_of_mem _ (List.mem_append_left _ (List.mem_append_left _ (List.mem_of_getElem? (i := 6) rfl)))) (List.mem_cons_of_mem _ (List.mem_append_left _ (List.mem_append_left _ (List.mem_of_getElem? (i := 7) rfl)))) (List.mem_cons_of_mem _ (List.mem_append_left _ (List.mem_append_left _ (List.mem_of_getElem? (i := 8) rfl)))) (List.mem_cons_of_mem _ (List.mem_append_left _ (List.mem_append_left _ (List.mem_of_getElem? (i := 4) rfl)))) (by decide +kernel)) gg_y_X0_chosen_X1_member
theorem gg_y_X0_chosen_X1_same : GoodIn w_y_X0_chosen w_y_X1_same := goodIn_sub (fun w h => (List.mem_cons.mp h).elim (fun e => (List.mem_cons_of_mem _ (List.mem_append_left _ (List.mem_append_right _ (List.mem_append_right _ (List.mem_append_right _ (List.mem_append_right _ (List.mem_append_left _ (List.mem_cons.mpr (Or.inl e)))))))))) (fun h => (List.mem_append.mp h).elim (fun h => (List.mem_cons_of_mem _ (List.mem_append_left _ (List.mem_append_right _ (List.mem_append_right _ (List.mem_append_right _ (List.mem_append_right _ (List.mem_append_left _ (List.mem_cons_of_mem _ h))))))))) (fun h => List.mem_cons_of_mem _ (List.mem_append_right _ h)))) w_y_X1_same_good
theorem g_y_X0_chosen_X1_same_V60 : GoodIn w_y_X0_chosen (wsV RX0 60 RX1 yX1_same w_y_X1_same) := goodIn_app (nb_g4 (List.mem_cons_of_mem _ (List.mem_append_left _ (List.mem_append_left _ (List.mem_of_getElem? (i := 13) rfl)))) (List.mem_cons_of_mem _ (List.mem_append_left _ (List.mem_append_left _ (List.mem_of_getElem? (i := 14) rfl)))) (List.mem_cons_of_mem _ (List.mem_append_left _ (List.mem_append_left _ (List.mem_of_getElem? (i := 15) rfl)))) (List.mem_cons_of_mem _ (List.mem_append_left _ (List.mem_append_left _ (List.mem_of_getElem? (i := 4) rfl)))) (by decide +kernel)) gg_y_X0_chosen_X1_same
set_option maxHeartbeats 40000000 in
set_option maxRecDepth 100000 in
theorem c_y_X0_chosen (l : Launch) (dC : Nat → ClassId) (dI : Nat → Nat → Nat) (cy : Nat → ClassId) (a z : Nat → Nat) (k0 : Nat) (L0 : LV) (σ0 : CS) (r0 : Int32 × CS) (h0 : y_X0_chosen k0 0 L0 σ0 = some r0) (sz : Nat) : Met l yX0_chosen w_y_X0_chosen ({ frames := 63, cells := 0, slots := 0, locals := 1765 }) (va_Pc [.ref (a 14), .int (L0.1 1), .int (L0.1 2), .int (L0.1 3)] (nIn (dC, dI) cy sz (vC cy a z σ0))) (va_Qi (fun (x : Int32) (_ : Unit) => x = r0.1) (fun _ t => nOut (dC, dI) cy (va_A (vC cy a z σ0) sz) (vC cy a z r0.2) t) (va_A (vC cy a z σ0) sz)) 0 0 (va_A (vC cy a z σ0) sz) := by
  refine Met.ofW (cc := cX0_chosen) (maxL := 8) (ret := (some .int)) (by decide) rfl ?_
  intro p e s m args below meth c s₁ B hml hv
  obtain ⟨rfl, hsz, hP, hK, hD0, hG⟩ := hv
  have hx := B.exec
  have hb := B.bytes
  have hr := B.returns
  have hts := atoms_spec (ws := w_y_X0_chosen) B.pre
  have hown : s.vm.findClass RX0 = some m.cls := findClass_of_methodNamed B.named
  have hlocks := B.notSynchronized
  subst hsz
  have hD := hD0.self (sz := s.heap.size)
  generalize hAe : va_A (vC cy a z σ0) s.heap.size = A at hD ⊢
  have hA : ∀ q : Nat, s.heap.size ≤ q → A q := fun q h => by rw [← hAe]; exact Or.inr h
  have hS : va_S A s.heap s.heap [] := va_S.rf
  have hl := lv_entry ([.ref (a 14), .int (L0.1 1), .int (L0.1 2), .int (L0.1 3)]) (n := 8) (Nat.le_of_ble_eq_true rfl)
  rw [lg_entry_eq]
  generalize (lg_sl ([.ref (a 14), .int (L0.1 1), .int (L0.1 2), .int (L0.1 3)]) ++ List.replicate (8 - (lg_sl ([.ref (a 14), .int (L0.1 1), .int (L0.1 2), .int (L0.1 3)])).length) Slot.unset).toArray = ls at hl ⊢
  have hl : lv_has ls 8 [(0, .ref (a 14)), (1, .int (L0.1 1)), (2, .int (L0.1 2)), (3, .int (L0.1 3))] := hl
  have blk : ∀ k : Nat, (bC p l e (headSpec w_y_X0_chosen ({ frames := 63, cells := 0, slots := 0, locals := 1765 })).room s m #[.ref (a 14), .int (L0.1 1), .int (L0.1 2), .int (L0.1 3)] below meth c dC dI cy a z A (kI dC dI cy a z A below #[.ref (a 14), .int (L0.1 1), .int (L0.1 2), .int (L0.1 3)] s) 8 (y_X0_chosen k 0) (fun L => [(0, .ref (a 14)), (1, .int (L.1 1)), (2, .int (L.1 2)), (3, .int (L.1 3))]) 0 (fun L => [])) ∧ (bC p l e (headSpec w_y_X0_chosen ({ frames := 63, cells := 0, slots := 0, locals := 1765 })).room s m #[.ref (a 14), .int (L0.1 1), .int (L0.1 2), .int (L0.1 3)] below meth c dC dI cy a z A (kI dC dI cy a z A below #[.ref (a 14), .int (L0.1 1), .int (L0.1 2), .int (L0.1 3)] s) 8 (y_X0_chosen k 1) (fun L => [(0, .ref (a 14)), (1, .int (L.1 1)), (2, .int (L.1 2)), (3, .int (L.1 3)), (4, .int (L.1 4)), (5, .int (L.1 5))]) 6 (fun L => [])) ∧ (bC p l e (headSpec w_y_X0_chosen ({ frames := 63, cells := 0, slots := 0, locals := 1765 })).room s m #[.ref (a 14), .int (L0.1 1), .int (L0.1 2), .int (L0.1 3)] below meth c dC dI cy a z A (kI dC dI cy a z A below #[.ref (a 14), .int (L0.1 1), .int (L0.1 2), .int (L0.1 3)] s) 8 (y_X0_chosen k 2) (fun L => [(0, .ref (a 14)), (4, .int (L.1 4))]) 113 (fun L => [])) ∧ (bC p l e (headSpec w_y_X0_chosen ({ frames := 63, cells := 0, slots := 0, locals := 1765 })).room s m #[.ref (a 14), .int (L0.1 1), .int (L0.1 2), .int (L0.1 3)] below meth c dC dI cy a z A (kI dC dI cy a z A below #[.ref (a 14), .int (L0.1 1), .int (L0.1 2), .int (L0.1 3)] s) 8 (y_X0_chosen k 3) (fun L => [(0, .ref (a 14)), (1, .int (L.1 1)), (2, .int (L.1 2)), (3, .int (L.1 3)), (4, .int (L.1 4)), (5, .int (L.1 5)), (6, .int (L.1 6))]) 90 (fun L => [])) ∧ (bC p l e (headSpec w_y_X0_chosen ({ frames := 63, cells := 0, slots := 0, locals := 1765 })).room s m #[.ref (a 14), .int (L0.1 1), .int (L0.1 2), .int (L0.1 3)] below meth c dC dI cy a z A (kI dC dI cy a z A below #[.ref (a 14), .int (L0.1 1), .int (L0.1 2), .int (L0.1 3)] s) 8 (y_X0_chosen k 4) (fun L => [(0, .ref (a 14)), (1, .int (L.1 1)), (2, .int (L.1 2)), (3, .int (L.1 3)), (4, .int (L.1 4)), (5, .int (L.1 5)), (6, .int (L.1 6))]) 91 (fun L => [.int (L.1 100)])) ∧ (bC p l e (headSpec w_y_X0_chosen ({ frames := 63, cells := 0, slots := 0, locals := 1765 })).room s m #[.ref (a 14), .int (L0.1 1), .int (L0.1 2), .int (L0.1 3)] below meth c dC dI cy a z A (kI dC dI cy a z A below #[.ref (a 14), .int (L0.1 1), .int (L0.1 2), .int (L0.1 3)] s) 8 (y_X0_chosen k 5) (fun L => [(0, .ref (a 14)), (1, .int (L.1 1)), (2, .int (L.1 2)), (3, .int (L.1 3)), (4, .int (L.1 4)), (5, .int (L.1 5))]) 107 (fun L => [])) := by
    intro k
    induction k with
    | zero => exact ⟨fun L σ r h => (by cases h), fun L σ r h => (by cases h), fun L σ r h => (by cases h), fun L σ r h => (by cases h), fun L σ r h => (by cases h), fun L σ r h => (by cases h)⟩
    | succ k ih =>
      refine ⟨?_, ?_, ?_, ?_, ?_, ?_⟩
      · intro L σ r h H locs ls hP hD hS hl
        rw [y_X0_chosen] at h
        refine lv_iconst (v := 0) hx hb dX0_chosen_0 (by decide) ?_
        refine lv_istore (lv' := [(4, .int 0), (0, .ref (a 14)), (1, .int (L.1 1)), (2, .int (L.1 2)), (3, .int (L.1 3))]) hx hb dX0_chosen_1 hl (by decide) rfl (fun ls hl => ?_)
        refine lv_iconst (v := 0) hx hb dX0_chosen_3 (by decide) ?_
        refine lv_istore (lv' := [(5, .int 0), (4, .int 0), (0, .ref (a 14)), (1, .int (L.1 1)), (2, .int (L.1 2)), (3, .int (L.1 3))]) hx hb dX0_chosen_4 hl (by decide) rfl (fun ls hl => ?_)
        exact ih.2.1 (lI (lI L 4 0) 5 0) σ r h H locs ls hP hD hS (lv_sub hl [2, 3, 4, 5, 1, 0] rfl)
      · intro L σ r h H locs ls hP hD hS hl
        rw [y_X0_chosen] at h
        refine lv_iload hx hb dX0_chosen_6 (lv_at hl 5 rfl) ?_
        refine lv_aload_n hx hb dX0_chosen_8 rfl (lv_at hl 0 rfl) ?_
        refine hg_14_0 hx hb hts in_y_X0_chosen_X0 hown hK hP (hts _ (List.mem_cons_of_mem _ (List.mem_append_left _ (List.mem_append_left _ (List.mem_of_getElem? (i := 0) rfl))))) dX0_chosen_9 ?_
        refine lv_iload_n hx hb dX0_chosen_12 rfl (lv_at hl 1 rfl) ?_
        obtain ⟨r1, hc1, h⟩ := oc_ex h
        refine kc_i (va_runV (As := [.int (L.1 1)]) (rest := [.int (L.1 5)]) ⟨hx, hb, hml, hown, hts⟩ (c_y_X1_length l dC dI cy a z k (lI lZ 1 ((L.1 1))) σ r1 hc1 H.size) (cwV 1 hts g_y_X0_chosen_X1_length_V100 rfl rfl rfl hd_y_X1_length ⟨Nat.le_of_ble_eq_true rfl, Nat.le_of_ble_eq_true rfl⟩) ⟨nb_blind, va_recv hK hP (ci := 1) (q0 := 0) rfl rfl, (kb_pre hK hG hP hD)⟩ rfl rfl hl.1 rfl (lv_room (Nat.le_of_ble_eq_true rfl)) dX0_chosen_13 ⟨Nat.le_refl _, Nat.le_refl _⟩) hA hP hD hS (fun H locs hP hD hS => ?_)
        refine lv_icmp_ge (tgt := 113) hx hb dX0_chosen_16 (by decide) (fun c2 => ?_) (fun c2 => ?_)
        · rw [if_pos c2] at h
          exact ih.2.2.1 L r1.2 r h H locs ls hP hD hS (lv_sub hl [0, 4] rfl)
        · rw [if_neg c2] at h
          refine lv_iload hx hb dX0_chosen_19 (lv_at hl 4 rfl) ?_
          refine lv_aload_n hx hb dX0_chosen_21 rfl (lv_at hl 0 rfl) ?_
          refine hg_14_4 hx hb hts in_y_X0_chosen_X0 hown hK hP (hts _ (List.mem_cons_of_mem _ (List.mem_append_left _ (List.mem_append_left _ (List.mem_of_getElem? (i := 5) rfl))))) dX0_chosen_22 ?_
          refine hn_16 hx hb hK hP dX0_chosen_25 ?_
          refine lv_icmp_ge (tgt := 113) hx hb dX0_chosen_26 (by decide) (fun c3 => ?_) (fun c3 => ?_)
          · rw [if_pos c3] at h
            exact ih.2.2.1 L r1.2 r h H locs ls hP hD hS (lv_sub hl [0, 4] rfl)
          · rw [if_neg c3] at h
            refine lv_aload_n hx hb dX0_chosen_29 rfl (lv_at hl 0 rfl) ?_
            refine hg_14_0 hx hb hts in_y_X0_chosen_X0 hown hK hP (hts _ (List.mem_cons_of_mem _ (List.mem_append_left _ (List.mem_append_left _ (List.mem_of_getElem? (i := 0) rfl))))) dX0_chosen_30 ?_
            refine lv_iload_n hx hb dX0_chosen_33 rfl (lv_at hl 1 rfl) ?_
            refine lv_iload hx hb dX0_chosen_34 (lv_at hl 5 rfl) ?_
            obtain ⟨r4, hc4, h⟩ := oc_ex h
            refine kc_i (va_runV (As := [.int (L.1 1), .int (L.1 5)]) (rest := []) ⟨hx, hb, hml, hown, hts⟩ (c_y_X1_member l dC dI cy a z k (lI (lI lZ 1 ((L.1 1))) 2 ((L.1 5))) r1.2 r4 hc4 H.size) (cwV 2 hts g_y_X0_chosen_X1_member_V154 rfl rfl rfl hd_y_X1_member ⟨Nat.le_of_ble_eq_true rfl, Nat.le_of_ble_eq_true rfl⟩) ⟨nb_blind, va_recv hK hP (ci := 1) (q0 := 0) rfl rfl, (kb_pre hK hG hP hD)⟩ rfl rfl hl.1 rfl (lv_room (Nat.le_of_ble_eq_true rfl)) dX0_chosen_36 ⟨Nat.le_refl _, Nat.le_refl _⟩) hA hP hD hS (fun H locs hP hD hS => ?_)
            refine lv_istore (lv' := [(6, .int r4.1), (0, .ref (a 14)), (1, .int (L.1 1)), (2, .int (L.1 2)), (3, .int (L.1 3)), (4, .int (L.1 4)), (5, .int (L.1 5))]) hx hb dX0_chosen_39 hl (by decide) rfl (fun ls hl => ?_)
            refine lv_aload_n hx hb dX0_chosen_41 rfl (lv_at hl 1 rfl) ?_
            refine lv_iload_n hx hb dX0_chosen_42 rfl (lv_at hl 3 rfl) ?_
            refine lv_iconst (v := 0) hx hb dX0_chosen_43 (by decide) ?_
            refine lv_iload hx hb dX0_chosen_44 (lv_at hl 0 rfl) ?_
            obtain ⟨r5, hc5, h⟩ := oc_ex h
            refine kc_i (va_runV (As := [.int (L.1 2), .int 0, .int r4.1]) (rest := []) ⟨hx, hb, hml, hown, hts⟩ (c_y_X0_placeOf l dC dI cy a z k (lI (lI (lI lZ 1 ((L.1 2))) 2 0) 3 r4.1) r4.2 r5 hc5 H.size) (cwV 3 hts g_y_X0_chosen_X0_placeOf_V157 rfl rfl rfl hd_y_X0_placeOf ⟨Nat.le_of_ble_eq_true rfl, Nat.le_of_ble_eq_true rfl⟩) ⟨nb_blind, va_recv hK hP (ci := 0) (q0 := 14) rfl rfl, (kb_pre hK hG hP hD)⟩ rfl rfl hl.1 rfl (lv_room (Nat.le_of_ble_eq_true rfl)) dX0_chosen_46 ⟨Nat.le_refl _, Nat.le_refl _⟩) hA hP hD hS (fun H locs hP hD hS => ?_)
            refine lv_istore (lv' := [(7, .int r5.1), (6, .int r4.1), (0, .ref (a 14)), (1, .int (L.1 1)), (2, .int (L.1 2)), (3, .int (L.1 3)), (4, .int (L.1 4)), (5, .int (L.1 5))]) hx hb dX0_chosen_49 hl (by decide) rfl (fun ls hl => ?_)
            refine lv_iload hx hb dX0_chosen_51 (lv_at hl 0 rfl) ?_
            refine lv_aload_n hx hb dX0_chosen_53 rfl (lv_at hl 2 rfl) ?_
            refine hg_14_0 hx hb hts in_y_X0_chosen_X0 hown hK hP (hts _ (List.mem_cons_of_mem _ (List.mem_append_left _ (List.mem_append_left _ (List.mem_of_getElem? (i := 0) rfl))))) dX0_chosen_54 ?_
            refine lv_iload_n hx hb dX0_chosen_57 rfl (lv_at hl 4 rfl) ?_
            obtain ⟨r6, hc6, h⟩ := oc_ex h
            refine kc_i (va_runV (As := [.int (L.1 2)]) (rest := [.int r5.1]) ⟨hx, hb, hml, hown, hts⟩ (c_y_X1_length l dC dI cy a z k (lI lZ 1 ((L.1 2))) r5.2 r6 hc6 H.size) (cwV 1 hts g_y_X0_chosen_X1_length_V100 rfl rfl rfl hd_y_X1_length ⟨Nat.le_of_ble_eq_true rfl, Nat.le_of_ble_eq_true rfl⟩) ⟨nb_blind, va_recv hK hP (ci := 1) (q0 := 0) rfl rfl, (kb_pre hK hG hP hD)⟩ rfl rfl hl.1 rfl (lv_room (Nat.le_of_ble_eq_true rfl)) dX0_chosen_58 ⟨Nat.le_refl _, Nat.le_refl _⟩) hA hP hD hS (fun H locs hP hD hS => ?_)
            refine lv_icmp_ge (tgt := 90) hx hb dX0_chosen_61 (by decide) (fun c7 => ?_) (fun c7 => ?_)
            · rw [if_pos c7] at h
              exact ih.2.2.2.1 (lI L 6 r4.1) r6.2 r h H locs ls hP hD hS (lv_sub hl [2, 3, 4, 5, 6, 7, 1] rfl)
            · rw [if_neg c7] at h
              refine lv_aload_n hx hb dX0_chosen_64 rfl (lv_at hl 2 rfl) ?_
              refine hg_14_0 hx hb hts in_y_X0_chosen_X0 hown hK hP (hts _ (List.mem_cons_of_mem _ (List.mem_append_left _ (List.mem_append_left _ (List.mem_of_getElem? (i := 0) rfl))))) dX0_chosen_65 ?_
              refine lv_aload_n hx hb dX0_chosen_68 rfl (lv_at hl 2 rfl) ?_
              refine hg_14_0 hx hb hts in_y_X0_chosen_X0 hown hK hP (hts _ (List.mem_cons_of_mem _ (List.mem_append_left _ (List.mem_append_left _ (List.mem_of_getElem? (i := 0) rfl))))) dX0_chosen_69 ?_
              refine lv_iload_n hx hb dX0_chosen_72 rfl (lv_at hl 4 rfl) ?_
              refine lv_iload hx hb dX0_chosen_73 (lv_at hl 0 rfl) ?_
              obtain ⟨r8, hc8, h⟩ := oc_ex h
              refine kc_i (va_runV (As := [.int (L.1 2), .int r5.1]) (rest := [.ref (a 0)]) ⟨hx, hb, hml, hown, hts⟩ (c_y_X1_member l dC dI cy a z k (lI (lI lZ 1 ((L.1 2))) 2 r5.1) r6.2 r8 hc8 H.size) (cwV 2 hts g_y_X0_chosen_X1_member_V154 rfl rfl rfl hd_y_X1_member ⟨Nat.le_of_ble_eq_true rfl, Nat.le_of_ble_eq_true rfl⟩) ⟨nb_blind, va_recv hK hP (ci := 1) (q0 := 0) rfl rfl, (kb_pre hK hG hP hD)⟩ rfl rfl hl.1 rfl (lv_room (Nat.le_of_ble_eq_true rfl)) dX0_chosen_75 ⟨Nat.le_refl _, Nat.le_refl _⟩) hA hP hD hS (fun H locs hP hD hS => ?_)
              refine lv_iload hx hb dX0_chosen_78 (lv_at hl 1 rfl) ?_
              obtain ⟨r9, hc9, h⟩ := oc_ex h
              refine kc_i (va_runV (As := [.int r8.1, .int r4.1]) (rest := []) ⟨hx, hb, hml, hown, hts⟩ (c_y_X1_same l dC dI cy a z k (lI (lI lZ 1 r8.1) 2 r4.1) r8.2 r9 hc9 H.size) (cwV 2 hts g_y_X0_chosen_X1_same_V60 rfl rfl rfl hd_y_X1_same ⟨Nat.le_of_ble_eq_true rfl, Nat.le_of_ble_eq_true rfl⟩) ⟨nb_blind, va_recv hK hP (ci := 1) (q0 := 0) rfl rfl, (kb_pre hK hG hP hD)⟩ rfl rfl hl.1 rfl (lv_room (Nat.le_of_ble_eq_true rfl)) dX0_chosen_80 ⟨Nat.le_refl _, Nat.le_refl _⟩) hA hP hD hS (fun H locs hP hD hS => ?_)
              refine lv_if_eq (tgt := 90) hx hb dX0_chosen_83 (by decide) (fun c10 => ?_) (fun c10 => ?_)
              · rw [if_pos c10] at h
                exact ih.2.2.2.1 (lI L 6 r4.1) r9.2 r h H locs ls hP hD hS (lv_sub hl [2, 3, 4, 5, 6, 7, 1] rfl)
              · rw [if_neg c10] at h
                refine lv_iconst (v := 1) hx hb dX0_chosen_86 (by decide) ?_
                refine lv_goto (tgt := 91) hx hb dX0_chosen_87 (by decide) ?_
                exact ih.2.2.2.2.1 (lI (lI L 6 r4.1) 100 1) r9.2 r h H locs ls hP hD hS (lv_sub hl [2, 3, 4, 5, 6, 7, 1] rfl)
      · intro L σ r h H locs ls hP hD hS hl
        rw [y_X0_chosen] at h
        refine lv_aload_n hx hb dX0_chosen_113 rfl (lv_at hl 0 rfl) ?_
        refine hg_14_0 hx hb hts in_y_X0_chosen_X0 hown hK hP (hts _ (List.mem_cons_of_mem _ (List.mem_append_left _ (List.mem_append_left _ (List.mem_of_getElem? (i := 0) rfl))))) dX0_chosen_114 ?_
        refine lv_bipush (v := 6) hx hb dX0_chosen_117 (by decide) ?_
        refine lv_aload_n hx hb dX0_chosen_119 rfl (lv_at hl 0 rfl) ?_
        refine hg_14_4 hx hb hts in_y_X0_chosen_X0 hown hK hP (hts _ (List.mem_cons_of_mem _ (List.mem_append_left _ (List.mem_append_left _ (List.mem_of_getElem? (i := 5) rfl))))) dX0_chosen_120 ?_
        refine lv_iconst (v := 0) hx hb dX0_chosen_123 (by decide) ?_
        refine lv_iload hx hb dX0_chosen_124 (lv_at hl 1 rfl) ?_
        obtain ⟨r1, hc1, h⟩ := oc_ex h
        refine kc_i (va_runV (As := [.int 6, .ref (a 16), .int 0, .int (L.1 4)]) (rest := []) ⟨hx, hb, hml, hown, hts⟩ (c_y_X1_makeRow__a16 l dC dI cy a z k (lI (lI (lI lZ 1 6) 3 0) 4 ((L.1 4))) σ r1 hc1 H.size) (cwV 4 hts g_y_X0_chosen_X1_makeRow__a16_V160 rfl rfl rfl hd_y_X1_makeRow__a16 ⟨Nat.le_of_ble_eq_true rfl, Nat.le_of_ble_eq_true rfl⟩) ⟨nb_blind, va_recv hK hP (ci := 1) (q0 := 0) rfl rfl, (kb_pre hK hG hP hD)⟩ rfl rfl hl.1 rfl (lv_room (Nat.le_of_ble_eq_true rfl)) dX0_chosen_126 ⟨Nat.le_refl _, Nat.le_refl _⟩) hA hP hD hS (fun H locs hP hD hS => ?_)
        obtain rfl := Option.some.inj h
        exact W.iret (v := r1.1) hx hb hr (fun t ht hW => ⟨⟨r1.1, (), rfl, rfl, by rw [ht]; exact hP, va_K.moved hW.alike hK, hD⟩, hS.F ht⟩) hS.2.2 dX0_chosen_129
      · intro L σ r h H locs ls hP hD hS hl
        rw [y_X0_chosen] at h
        refine lv_iconst (v := 0) hx hb dX0_chosen_90 (by decide) ?_
        exact ih.2.2.2.2.1 (lI L 100 0) σ r h H locs ls hP hD hS (lv_sub hl [0, 1, 2, 3, 4, 5, 6] rfl)
      · intro L σ r h H locs ls hP hD hS hl
        rw [y_X0_chosen] at h
        refine lv_iload_n hx hb dX0_chosen_91 rfl (lv_at hl 3 rfl) ?_
        refine lv_icmp_ne (tgt := 107) hx hb dX0_chosen_92 (by decide) (fun c1 => ?_) (fun c1 => ?_)
        · rw [if_neg c1] at h
          exact ih.2.2.2.2.2 L σ r h H locs ls hP hD hS (lv_sub hl [0, 1, 2, 3, 4, 5] rfl)
        · rw [if_pos c1] at h
          refine lv_aload_n hx hb dX0_chosen_95 rfl (lv_at hl 0 rfl) ?_
          refine hg_14_4 hx hb hts in_y_X0_chosen_X0 hown hK hP (hts _ (List.mem_cons_of_mem _ (List.mem_append_left _ (List.mem_append_left _ (List.mem_of_getElem? (i := 5) rfl))))) dX0_chosen_96 ?_
          refine lv_iload hx hb dX0_chosen_99 (lv_at hl 4 rfl) ?_
          refine lv_iload hx hb dX0_chosen_101 (lv_at hl 6 rfl) ?_
          obtain ⟨q2, h⟩ := kb_ite1 h
          refine hs_16 hx hb hK hP hD hS q2 dX0_chosen_103 (fun H locs hP hD hS => ?_)
          refine lv_iinc (v := ((L.1 4)) + 1) (lv' := [(4, .int (((L.1 4)) + 1)), (0, .ref (a 14)), (1, .int (L.1 1)), (2, .int (L.1 2)), (3, .int (L.1 3)), (5, .int (L.1 5)), (6, .int (L.1 6))]) hx hb dX0_chosen_104 hl (k := 4) rfl rfl (by decide) rfl (fun ls hl => ?_)
          exact ih.2.2.2.2.2 (lI L 4 ((((L.1 4)) + 1))) (uA σ 16 ((L.1 4)).toNatClampNeg ((L.1 6))) r h H locs ls hP hD hS (lv_sub hl [1, 2, 3, 4, 0, 5] rfl)
      · intro L σ r h H locs ls hP hD hS hl
        rw [y_X0_chosen] at h
        refine lv_iinc (v := ((L.1 5)) + 1) (lv' := [(5, .int (((L.1 5)) + 1)), (0, .ref (a 14)), (1, .int (L.1 1)), (2, .int (L.1 2)), (3, .int (L.1 3)), (4, .int (L.1 4))]) hx hb dX0_chosen_107 hl (k := 5) rfl rfl (by decide) rfl (fun ls hl => ?_)
        refine lv_goto (tgt := 6) hx hb dX0_chosen_110 (by decide) ?_
        exact ih.2.1 (lI L 5 ((((L.1 5)) + 1))) σ r h H locs ls hP hD hS (lv_sub hl [1, 2, 3, 4, 5, 0] rfl)
  exact (blk k0).1 L0 σ0 r0 h0 s.heap [] ls hP hD hS hl
/-! X0_without -/
def y_X0_without : Nat → Nat → LV → CS → Option (Int32 × CS)
  | 0, _, _, _ => none
  | k + 1, 0, L, σ => y_X0_without k 1 (lI (lI (lI L 3 0) 4 0) 5 0) σ
  | k + 1, 1, L, σ => oc (y_X1_length k 0 (lI lZ 1 ((L.1 2))) σ) (fun r1 => if r1.1 ≤ ((L.1 5)) then (y_X0_without k 2 L r1.2) else (oc (y_X1_member k 0 (lI (lI lZ 1 ((L.1 2))) 2 ((L.1 5))) r1.2) (fun r3 => oc (y_X0_placeOf k 0 (lI (lI (lI lZ 1 ((L.1 1))) 2 ((L.1 3))) 3 r3.1) r3.2) (fun r4 => oc (y_X0_load k 0 (lI (lI (lI (lI lZ 1 ((L.1 1))) 2 ((L.1 3))) 3 r4.1) 4 ((L.1 4))) r4.2) (fun r5 => oc (y_X1_length k 0 (lI lZ 1 ((L.1 1))) r5.2) (fun r6 => if r6.1 ≤ r4.1 then (y_X0_without k 3 (lI (lI L 4 r5.1) 7 r4.1) r6.2) else (oc (y_X1_member k 0 (lI (lI lZ 1 ((L.1 1))) 2 r4.1) r6.2) (fun r8 => oc (y_X1_same k 0 (lI (lI lZ 1 r8.1) 2 r3.1) r8.2) (fun r9 => if r9.1 = 0 then (y_X0_without k 3 (lI (lI L 4 r5.1) 7 r4.1) r9.2) else (y_X0_without k 4 (lI (lI L 4 r5.1) 100 ((r4.1 + 1))) r9.2))))))))))
  | k + 1, 2, L, σ => oc (y_X1_length k 0 (lI lZ 1 ((L.1 1))) σ) (fun r1 => oc (y_X0_load k 0 (lI (lI (lI (lI lZ 1 ((L.1 1))) 2 ((L.1 3))) 3 r1.1) 4 ((L.1 4))) r1.2) (fun r2 => oc (y_X1_makeRow__a16 k 0 (lI (lI (lI lZ 1 6) 3 0) 4 r2.1) r2.2) (fun r3 => some (r3.1, r3.2))))
  | k + 1, 3, L, σ => y_X0_without k 4 (lI L 100 ((L.1 7))) σ
  | k + 1, 4, L, σ => y_X0_without k 1 (lI (lI L 3 ((L.1 100))) 5 ((((L.1 5)) + 1))) σ
  | _ + 1, _ + 5, _, _ => none
def o_y_X0_without : List Cond := [.fieldLink RX0 22 "SetHouse$Algebra" "heap" "LSetHouse$Heap;", .methodLink RX0 100 yX1_length, .instanceMethod yX1_length, .selects RX1 yX1_length yX1_length, .initialized RX1, .methodLink RX0 154 yX1_member, .instanceMethod yX1_member, .selects RX1 yX1_member yX1_member, .methodLink RX0 157 yX0_placeOf, .instanceMethod yX0_placeOf, .selects RX0 yX0_placeOf yX0_placeOf, .initialized RX0, .methodLink RX0 103 yX0_load, .instanceMethod yX0_load, .selects RX0 yX0_load yX0_load, .methodLink RX0 60 yX1_same, .instanceMethod yX1_same, .selects RX1 yX1_same yX1_same, .fieldLink RX0 15 "SetHouse$Algebra" "row" "[I", .methodLink RX0 160 yX1_makeRow, .instanceMethod yX1_makeRow, .selects RX1 yX1_makeRow yX1_makeRow]
theorem o_y_X0_without_good : o_y_X0_without.all goodWord = true := by decide +kernel
def p_y_X0_without : List Cond := o_y_X0_without ++ ((.code yX1_length cX1_length 2 (some .int) :: p_y_X1_length) ++ ((.code yX1_member cX1_member 3 (some .int) :: p_y_X1_member) ++ ((.code yX0_placeOf cX0_placeOf 8 (some .int) :: p_y_X0_placeOf) ++ ((.code yX0_load cX0_load 6 (some .int) :: p_y_X0_load) ++ ((.code yX1_same cX1_same 3 (some .boolean) :: p_y_X1_same) ++ ((.code yX1_makeRow cX1_makeRow 11 (some .int) :: p_y_X1_makeRow__a16) ++ []))))))
theorem p_y_X0_without_good : p_y_X0_without.all goodWord = true := nb_all2 o_y_X0_without_good (nb_all2 (nb_allc (by decide +kernel) p_y_X1_length_good) (nb_all2 (nb_allc (by decide +kernel) p_y_X1_member_good) (nb_all2 (nb_allc (by decide +kernel) p_y_X0_placeOf_good) (nb_all2 (nb_allc (by decide +kernel) p_y_X0_load_good) (nb_all2 (nb_allc (by decide +kernel) p_y_X1_same_good) (nb_all2 (nb_allc (by decide +kernel) p_y_X1_makeRow__a16_good) rfl))))))
def w_y_X0_without : List Cond := .code yX0_without cX0_without 8 (some .int) :: (p_y_X0_without ++ fC)
theorem w_y_X0_without_good : w_y_X0_without.all goodWord = true := nb_allc (by decide +kernel) (nb_all2 p_y_X0_without_good fC_good)
theorem in_y_X0_without_X0 : ∀ w ∈ wsX00, w ∈ w_y_X0_without := fun _ h => List.mem_cons_of_mem _ (List.mem_append_right _ (List.mem_append_left _ h))
theorem hd_y_X0_without : yX0_without.cls = RX0 ∧ yX0_without.cls ≠ "java/lang/invoke/MethodHandle" ∧ yX0_without.cls ≠ "java/lang/invoke/VarHandle" ∧ (parseMethodDescriptor yX0_without.desc).map (fun d => d.parameters.length) = some 2 := by decide +kernel
theorem gg_y_X0_without_X0_load : GoodIn w_y_X0_without w_y_X0_load := goodIn_sub (fun w h => (List.mem_cons.mp h).elim (fun e => (List.mem_cons_of_mem _ (List.mem_append_left _ (List.mem_append_right _ (List.mem_append_right _ (List.mem_append_right _ (List.mem_append_right _ (List.mem_append_left _ (List.mem_cons.mpr (Or.inl e)))))))))) (fun h => (List.mem_append.mp h).elim (fun h => (List.mem_cons_of_mem _ (List.mem_append_left _ (List.mem_append_right _ (List.mem_append_right _ (List.mem_append_right _ (List.mem_append_right _ (List.mem_append_left _ (List.mem_cons_of_mem _ h))))))))) (fun h => List.mem_cons_of_mem _ (List.mem_append_right _ h)))) w_y_X0_load_good
theorem g_y_X0_without_X0_load_V103 : GoodIn w_y_X0_without (wsV RX0 103 RX0 yX0_load w_y_X0_load) := goodIn_app (nb_g4 (List.mem_cons_of_mem _ (List.mem_append_left _ (List.mem_append_left _ (List.mem_of_getElem? (i := 12) rfl)))) (List.mem_cons_of_mem _ (List.mem_append_left _ (List.mem_append_left _ (List.mem_of_getElem? (i := 13) rfl)))) (List.mem_cons_of_mem _ (List.mem_append_left _ (List.mem_append_left _ (List.mem_of_getElem? (i := 14) rfl)))) (List.mem_cons_of_mem _ (List.mem_append_left _ (List.mem_append_left _ (List.mem_of_getElem? (i := 11) rfl)))) (by decide +kernel)) gg_y_X0_without_X0_load
theorem gg_y_X0_without_X0_placeOf : GoodIn w_y_X0_without w_y_X0_placeOf := goodIn_sub (fun w h => (List.mem_cons.mp h).elim (fun e => (List.mem_cons_of_mem _ (List.mem_append_left _ (List.mem_append_right _ (List.mem_append_right _ (List.mem_append_right _ (List.mem_append_left _ (List.mem_cons.mpr (Or.inl e))))))))) (fun h => (List.mem_append.mp h).elim (fun h => (List.mem_cons_of_mem _ (List.mem_append_left _ (List.mem_append_right _ (List.mem_append_right _ (List.mem_append_right _ (List.mem_append_left _ (List.mem_cons_of_mem _ h)))))))) (fun h => List.mem_cons_of_mem _ (List.mem_append_right _ h)))) w_y_X0_placeOf_good
theorem g_y_X0_without_X0_placeOf_V157 : GoodIn w_y_X0_without (wsV RX0 157 RX0 yX0_placeOf w_y_X0_placeOf) := goodIn_app (nb_g4 (List.mem_cons_of_mem _ (List.mem_append_left _ (List.mem_append_left _ (List.mem_of_getElem? (i := 8) rfl)))) (List.mem_cons_of_mem _ (List.mem_append_left _ (List.mem_append_left _ (List.mem_of_getElem? (i := 9) rfl)))) (List.mem_cons_of_mem _ (List.mem_append_left _ (List.mem_append_left _ (List.mem_of_getElem? (i := 10) rfl)))) (List.mem_cons_of_mem _ (List.mem_append_left _ (List.mem_append_left _ (List.mem_of_getElem? (i := 11) rfl)))) (by decide +kernel)) gg_y_X0_without_X0_placeOf
theorem gg_y_X0_without_X1_length : GoodIn w_y_X0_without w_y_X1_length := goodIn_sub (fun w h => (List.mem_cons.mp h).elim (fun e => (List.mem_cons_of_mem _ (List.mem_append_left _ (List.mem_append_right _ (List.mem_append_left _ (List.mem_cons.mpr (Or.inl e))))))) (fun h => (List.mem_append.mp h).elim (fun h => (List.mem_cons_of_mem _ (List.mem_append_left _ (List.mem_append_right _ (List.mem_append_left _ (List.mem_cons_of_mem _ h)))))) (fun h => List.mem_cons_of_mem _ (List.mem_append_right _ h)))) w_y_X1_length_good
theorem g_y_X0_without_X1_length_V100 : GoodIn w_y_X0_without (wsV RX0 100 RX1 yX1_length w_y_X1_length) := goodIn_app (nb_g4 (List.mem_cons_of_mem _ (List.mem_append_left _ (List.mem_append_left _ (List.mem_of_getElem? (i := 1) rfl)))) (List.mem_cons_of_mem _ (List.mem_append_left _ (List.mem_append_left _ (List.mem_of_getElem? (i := 2) rfl)))) (List.mem_cons_of_mem _ (List.mem_append_left _ (List.mem_append_left _ (List.mem_of_getElem? (i := 3) rfl)))) (List.mem_cons_of_mem _ (List.mem_append_left _ (List.mem_append_left _ (List.mem_of_getElem? (i := 4) rfl)))) (by decide +kernel)) gg_y_X0_without_X1_length
theorem gg_y_X0_without_X1_makeRow__a16 : GoodIn w_y_X0_without w_y_X1_makeRow__a16 := goodIn_sub (fun w h => (List.mem_cons.mp h).elim (fun e => (List.mem_cons_of_mem _ (List.mem_append_left _ (List.mem_append_right _ (List.mem_append_right _ (List.mem_append_right _ (List.mem_append_right _ (List.mem_append_right _ (List.mem_append_right _ (List.mem_append_left _ (List.mem_cons.mpr (Or.inl e)))))))))))) (fun h => (List.mem_append.mp h).elim (fun h => (List.mem_cons_of_mem _ (List.mem_append_left _ (List.mem_append_right _ (List.mem_append_right _ (List.mem_append_right _ (List.mem_append_right _ (List.mem_append_right _ (List.mem_append_right _ (List.mem_append_left _ (List.mem_cons_of_mem _ h))))))))))) (fun h => List.mem_cons_of_mem _ (List.mem_append_right _ h)))) w_y_X1_makeRow__a16_good
theorem g_y_X0_without_X1_makeRow__a16_V160 : GoodIn w_y_X0_without (wsV RX0 160 RX1 yX1_makeRow w_y_X1_makeRow__a16) := goodIn_app (nb_g4 (List.mem_cons_of_mem _ (List.mem_append_left _ (List.mem_append_left _ (List.mem_of_getElem? (i := 19) rfl)))) (List.mem_cons_of_mem _ (List.mem_append_left _ (List.mem_append_left _ (List.mem_of_getElem? (i := 20) rfl)))) (List.mem_cons_of_mem _ (List.mem_append_left _ (List.mem_append_left _ (List.mem_of_getElem? (i := 21) rfl)))) (List.mem_cons_of_mem _ (List.mem_append_left _ (List.mem_append_left _ (List.mem_of_getElem? (i := 4) rfl)))) (by decide +kernel)) gg_y_X0_without_X1_makeRow__a16
theorem gg_y_X0_without_X1_member : GoodIn w_y_X0_without w_y_X1_member := goodIn_sub (fun w h => (List.mem_cons.mp h).elim (fun e => (List.mem_cons_of_mem _ (List.mem_append_left _ (List.mem_append_right _ (List.mem_append_right _ (List.mem_append_left _ (List.mem_cons.mpr (Or.inl e)))))))) (fun h => (List.mem_append.mp h).elim (fun h => (List.mem_cons_of_mem _ (List.mem_append_left _ (List.mem_append_right _ (List.mem_append_right _ (List.mem_append_left _ (List.mem_cons_of_mem _ h))))))) (fun h => List.mem_cons_of_mem _ (List.mem_append_right _ h)))) w_y_X1_member_good
theorem g_y_X0_without_X1_member_V154 : GoodIn w_y_X0_without (wsV RX0 154 RX1 yX1_member w_y_X1_member) := goodIn_app (nb_g4 (List.mem_cons_of_mem _ (List.mem_append_left _ (List.mem_append_left _ (List.mem_of_getElem? (i := 5) rfl)))) (List.mem_cons_of_mem _ (List.mem_append_left _ (List.mem_append_left _ (List.mem_of_getElem? (i := 6) rfl)))) (List.mem_cons_of_mem _ (List.mem_append_left _ (List.mem_append_left _ (List.mem_of_getElem? (i := 7) rfl)))) (List.mem_cons_of_mem _ (List.mem_append_left _ (List.mem_append_left _ (List.mem_of_getElem? (i := 4) rfl)))) (by decide +kernel)) gg_y_X0_without_X1_member
theorem gg_y_X0_without_X1_same : GoodIn w_y_X0_without w_y_X1_same := goodIn_sub (fun w h => (List.mem_cons.mp h).elim (fun e => (List.mem_cons_of_mem _ (List.mem_append_left _ (List.mem_append_right _ (List.mem_append_right _ (List.mem_append_right _ (List.mem_append_right _ (List.mem_append_right _ (List.mem_append_left _ (List.mem_cons.mpr (Or.inl e))))))))))) (fun h => (List.mem_append.mp h).elim (fun h => (List.mem_cons_of_mem _ (List.mem_append_left _ (List.mem_append_right _ (List.mem_append_right _ (List.mem_append_right _ (List.mem_append_right _ (List.mem_append_right _ (List.mem_append_left _ (List.mem_cons_of_mem _ h)))))))))) (fun h => List.mem_cons_of_mem _ (List.mem_append_right _ h)))) w_y_X1_same_good
theorem g_y_X0_without_X1_same_V60 : GoodIn w_y_X0_without (wsV RX0 60 RX1 yX1_same w_y_X1_same) := goodIn_app (nb_g4 (List.mem_cons_of_mem _ (List.mem_append_left _ (List.mem_append_left _ (List.mem_of_getElem? (i := 15) rfl)))) (List.mem_cons_of_mem _ (List.mem_append_left _ (List.mem_append_left _ (List.mem_of_getElem? (i := 16) rfl)))) (List.mem_cons_of_mem _ (List.mem_append_left _ (List.mem_append_left _ (List.mem_of_getElem? (i := 17) rfl)))) (List.mem_cons_of_mem _ (List.mem_append_left _ (List.mem_append_left _ (List.mem_of_getElem? (i := 4) rfl)))) (by decide +kernel)) gg_y_X0_without_X1_same
set_option maxHeartbeats 40000000 in
set_option maxRecDepth 100000 in
theorem c_y_X0_without (l : Launch) (dC : Nat → ClassId) (dI : Nat → Nat → Nat) (cy : Nat → ClassId) (a z : Nat → Nat) (k0 : Nat) (L0 : LV) (σ0 : CS) (r0 : Int32 × CS) (h0 : y_X0_without k0 0 L0 σ0 = some r0) (sz : Nat) : Met l yX0_without w_y_X0_without ({ frames := 63, cells := 0, slots := 0, locals := 1765 }) (va_Pc [.ref (a 14), .int (L0.1 1), .int (L0.1 2)] (nIn (dC, dI) cy sz (vC cy a z σ0))) (va_Qi (fun (x : Int32) (_ : Unit) => x = r0.1) (fun _ t => nOut (dC, dI) cy (va_A (vC cy a z σ0) sz) (vC cy a z r0.2) t) (va_A (vC cy a z σ0) sz)) 0 0 (va_A (vC cy a z σ0) sz) := by
  refine Met.ofW (cc := cX0_without) (maxL := 8) (ret := (some .int)) (by decide) rfl ?_
  intro p e s m args below meth c s₁ B hml hv
  obtain ⟨rfl, hsz, hP, hK, hD0, hG⟩ := hv
  have hx := B.exec
  have hb := B.bytes
  have hr := B.returns
  have hts := atoms_spec (ws := w_y_X0_without) B.pre
  have hown : s.vm.findClass RX0 = some m.cls := findClass_of_methodNamed B.named
  have hlocks := B.notSynchronized
  subst hsz
  have hD := hD0.self (sz := s.heap.size)
  generalize hAe : va_A (vC cy a z σ0) s.heap.size = A at hD ⊢
  have hA : ∀ q : Nat, s.heap.size ≤ q → A q := fun q h => by rw [← hAe]; exact Or.inr h
  have hS : va_S A s.heap s.heap [] := va_S.rf
  have hl := lv_entry ([.ref (a 14), .int (L0.1 1), .int (L0.1 2)]) (n := 8) (Nat.le_of_ble_eq_true rfl)
  rw [lg_entry_eq]
  generalize (lg_sl ([.ref (a 14), .int (L0.1 1), .int (L0.1 2)]) ++ List.replicate (8 - (lg_sl ([.ref (a 14), .int (L0.1 1), .int (L0.1 2)])).length) Slot.unset).toArray = ls at hl ⊢
  have hl : lv_has ls 8 [(0, .ref (a 14)), (1, .int (L0.1 1)), (2, .int (L0.1 2))] := hl
  have blk : ∀ k : Nat, (bC p l e (headSpec w_y_X0_without ({ frames := 63, cells := 0, slots := 0, locals := 1765 })).room s m #[.ref (a 14), .int (L0.1 1), .int (L0.1 2)] below meth c dC dI cy a z A (kI dC dI cy a z A below #[.ref (a 14), .int (L0.1 1), .int (L0.1 2)] s) 8 (y_X0_without k 0) (fun L => [(0, .ref (a 14)), (1, .int (L.1 1)), (2, .int (L.1 2))]) 0 (fun L => [])) ∧ (bC p l e (headSpec w_y_X0_without ({ frames := 63, cells := 0, slots := 0, locals := 1765 })).room s m #[.ref (a 14), .int (L0.1 1), .int (L0.1 2)] below meth c dC dI cy a z A (kI dC dI cy a z A below #[.ref (a 14), .int (L0.1 1), .int (L0.1 2)] s) 8 (y_X0_without k 1) (fun L => [(0, .ref (a 14)), (1, .int (L.1 1)), (2, .int (L.1 2)), (3, .int (L.1 3)), (4, .int (L.1 4)), (5, .int (L.1 5))]) 8 (fun L => [])) ∧ (bC p l e (headSpec w_y_X0_without ({ frames := 63, cells := 0, slots := 0, locals := 1765 })).room s m #[.ref (a 14), .int (L0.1 1), .int (L0.1 2)] below meth c dC dI cy a z A (kI dC dI cy a z A below #[.ref (a 14), .int (L0.1 1), .int (L0.1 2)] s) 8 (y_X0_without k 2) (fun L => [(0, .ref (a 14)), (1, .int (L.1 1)), (3, .int (L.1 3)), (4, .int (L.1 4))]) 106 (fun L => [])) ∧ (bC p l e (headSpec w_y_X0_without ({ frames := 63, cells := 0, slots := 0, locals := 1765 })).room s m #[.ref (a 14), .int (L0.1 1), .int (L0.1 2)] below meth c dC dI cy a z A (kI dC dI cy a z A below #[.ref (a 14), .int (L0.1 1), .int (L0.1 2)] s) 8 (y_X0_without k 3) (fun L => [(0, .ref (a 14)), (1, .int (L.1 1)), (2, .int (L.1 2)), (4, .int (L.1 4)), (5, .int (L.1 5)), (7, .int (L.1 7))]) 97 (fun L => [])) ∧ (bC p l e (headSpec w_y_X0_without ({ frames := 63, cells := 0, slots := 0, locals := 1765 })).room s m #[.ref (a 14), .int (L0.1 1), .int (L0.1 2)] below meth c dC dI cy a z A (kI dC dI cy a z A below #[.ref (a 14), .int (L0.1 1), .int (L0.1 2)] s) 8 (y_X0_without k 4) (fun L => [(0, .ref (a 14)), (1, .int (L.1 1)), (2, .int (L.1 2)), (4, .int (L.1 4)), (5, .int (L.1 5))]) 99 (fun L => [.int (L.1 100)])) := by
    intro k
    induction k with
    | zero => exact ⟨fun L σ r h => (by cases h), fun L σ r h => (by cases h), fun L σ r h => (by cases h), fun L σ r h => (by cases h), fun L σ r h => (by cases h)⟩
    | succ k ih =>
      refine ⟨?_, ?_, ?_, ?_, ?_⟩
      · intro L σ r h H locs ls hP hD hS hl
        rw [y_X0_without] at h
        refine lv_iconst (v := 0) hx hb dX0_without_0 (by decide) ?_
        refine lv_istore_n (lv' := [(3, .int 0), (0, .ref (a 14)), (1, .int (L.1 1)), (2, .int (L.1 2))]) hx hb dX0_without_1 rfl hl (by decide) rfl (fun ls hl => ?_)
        refine lv_iconst (v := 0) hx hb dX0_without_2 (by decide) ?_
        refine lv_istore (lv' := [(4, .int 0), (3, .int 0), (0, .ref (a 14)), (1, .int (L.1 1)), (2, .int (L.1 2))]) hx hb dX0_without_3 hl (by decide) rfl (fun ls hl => ?_)
        refine lv_iconst (v := 0) hx hb dX0_without_5 (by decide) ?_
        refine lv_istore (lv' := [(5, .int 0), (4, .int 0), (3, .int 0), (0, .ref (a 14)), (1, .int (L.1 1)), (2, .int (L.1 2))]) hx hb dX0_without_6 hl (by decide) rfl (fun ls hl => ?_)
        exact ih.2.1 (lI (lI (lI L 3 0) 4 0) 5 0) σ r h H locs ls hP hD hS (lv_sub hl [3, 4, 5, 2, 1, 0] rfl)
      · intro L σ r h H locs ls hP hD hS hl
        rw [y_X0_without] at h
        refine lv_iload hx hb dX0_without_8 (lv_at hl 5 rfl) ?_
        refine lv_aload_n hx hb dX0_without_10 rfl (lv_at hl 0 rfl) ?_
        refine hg_14_0 hx hb hts in_y_X0_without_X0 hown hK hP (hts _ (List.mem_cons_of_mem _ (List.mem_append_left _ (List.mem_append_left _ (List.mem_of_getElem? (i := 0) rfl))))) dX0_without_11 ?_
        refine lv_iload_n hx hb dX0_without_14 rfl (lv_at hl 2 rfl) ?_
        obtain ⟨r1, hc1, h⟩ := oc_ex h
        refine kc_i (va_runV (As := [.int (L.1 2)]) (rest := [.int (L.1 5)]) ⟨hx, hb, hml, hown, hts⟩ (c_y_X1_length l dC dI cy a z k (lI lZ 1 ((L.1 2))) σ r1 hc1 H.size) (cwV 1 hts g_y_X0_without_X1_length_V100 rfl rfl rfl hd_y_X1_length ⟨Nat.le_of_ble_eq_true rfl, Nat.le_of_ble_eq_true rfl⟩) ⟨nb_blind, va_recv hK hP (ci := 1) (q0 := 0) rfl rfl, (kb_pre hK hG hP hD)⟩ rfl rfl hl.1 rfl (lv_room (Nat.le_of_ble_eq_true rfl)) dX0_without_15 ⟨Nat.le_refl _, Nat.le_refl _⟩) hA hP hD hS (fun H locs hP hD hS => ?_)
        refine lv_icmp_ge (tgt := 106) hx hb dX0_without_18 (by decide) (fun c2 => ?_) (fun c2 => ?_)
        · rw [if_pos c2] at h
          exact ih.2.2.1 L r1.2 r h H locs ls hP hD hS (lv_sub hl [0, 1, 3, 4] rfl)
        · rw [if_neg c2] at h
          refine lv_aload_n hx hb dX0_without_21 rfl (lv_at hl 0 rfl) ?_
          refine hg_14_0 hx hb hts in_y_X0_without_X0 hown hK hP (hts _ (List.mem_cons_of_mem _ (List.mem_append_left _ (List.mem_append_left _ (List.mem_of_getElem? (i := 0) rfl))))) dX0_without_22 ?_
          refine lv_iload_n hx hb dX0_without_25 rfl (lv_at hl 2 rfl) ?_
          refine lv_iload hx hb dX0_without_26 (lv_at hl 5 rfl) ?_
          obtain ⟨r3, hc3, h⟩ := oc_ex h
          refine kc_i (va_runV (As := [.int (L.1 2), .int (L.1 5)]) (rest := []) ⟨hx, hb, hml, hown, hts⟩ (c_y_X1_member l dC dI cy a z k (lI (lI lZ 1 ((L.1 2))) 2 ((L.1 5))) r1.2 r3 hc3 H.size) (cwV 2 hts g_y_X0_without_X1_member_V154 rfl rfl rfl hd_y_X1_member ⟨Nat.le_of_ble_eq_true rfl, Nat.le_of_ble_eq_true rfl⟩) ⟨nb_blind, va_recv hK hP (ci := 1) (q0 := 0) rfl rfl, (kb_pre hK hG hP hD)⟩ rfl rfl hl.1 rfl (lv_room (Nat.le_of_ble_eq_true rfl)) dX0_without_28 ⟨Nat.le_refl _, Nat.le_refl _⟩) hA hP hD hS (fun H locs hP hD hS => ?_)
          refine lv_istore (lv' := [(6, .int r3.1), (0, .ref (a 14)), (1, .int (L.1 1)), (2, .int (L.1 2)), (3, .int (L.1 3)), (4, .int (L.1 4)), (5, .int (L.1 5))]) hx hb dX0_without_31 hl (by decide) rfl (fun ls hl => ?_)
          refine lv_aload_n hx hb dX0_without_33 rfl (lv_at hl 1 rfl) ?_
          refine lv_iload_n hx hb dX0_without_34 rfl (lv_at hl 2 rfl) ?_
          refine lv_iload_n hx hb dX0_without_35 rfl (lv_at hl 4 rfl) ?_
          refine lv_iload hx hb dX0_without_36 (lv_at hl 0 rfl) ?_
          obtain ⟨r4, hc4, h⟩ := oc_ex h
          refine kc_i (va_runV (As := [.int (L.1 1), .int (L.1 3), .int r3.1]) (rest := []) ⟨hx, hb, hml, hown, hts⟩ (c_y_X0_placeOf l dC dI cy a z k (lI (lI (lI lZ 1 ((L.1 1))) 2 ((L.1 3))) 3 r3.1) r3.2 r4 hc4 H.size) (cwV 3 hts g_y_X0_without_X0_placeOf_V157 rfl rfl rfl hd_y_X0_placeOf ⟨Nat.le_of_ble_eq_true rfl, Nat.le_of_ble_eq_true rfl⟩) ⟨nb_blind, va_recv hK hP (ci := 0) (q0 := 14) rfl rfl, (kb_pre hK hG hP hD)⟩ rfl rfl hl.1 rfl (lv_room (Nat.le_of_ble_eq_true rfl)) dX0_without_38 ⟨Nat.le_refl _, Nat.le_refl _⟩) hA hP hD hS (fun H locs hP hD hS => ?_)
          refine lv_istore (lv' := [(7, .int r4.1), (6, .int r3.1), (0, .ref (a 14)), (1, .int (L.1 1)), (2, .int (L.1 2)), (3, .int (L.1 3)), (4, .int (L.1 4)), (5, .int (L.1 5))]) hx hb dX0_without_41 hl (by decide) rfl (fun ls hl => ?_)
          refine lv_aload_n hx hb dX0_without_43 rfl (lv_at hl 2 rfl) ?_
          refine lv_iload_n hx hb dX0_without_44 rfl (lv_at hl 3 rfl) ?_
          refine lv_iload_n hx hb dX0_without_45 rfl (lv_at hl 5 rfl) ?_
          refine lv_iload hx hb dX0_without_46 (lv_at hl 0 rfl) ?_
          refine lv_iload hx hb dX0_without_48 (lv_at hl 6 rfl) ?_
          obtain ⟨r5, hc5, h⟩ := oc_ex h
          refine kc_i (va_runV (As := [.int (L.1 1), .int (L.1 3), .int r4.1, .int (L.1 4)]) (rest := []) ⟨hx, hb, hml, hown, hts⟩ (c_y_X0_load l dC dI cy a z k (lI (lI (lI (lI lZ 1 ((L.1 1))) 2 ((L.1 3))) 3 r4.1) 4 ((L.1 4))) r4.2 r5 hc5 H.size) (cwV 4 hts g_y_X0_without_X0_load_V103 rfl rfl rfl hd_y_X0_load ⟨Nat.le_of_ble_eq_true rfl, Nat.le_of_ble_eq_true rfl⟩) ⟨nb_blind, va_recv hK hP (ci := 0) (q0 := 14) rfl rfl, (kb_pre hK hG hP hD)⟩ rfl rfl hl.1 rfl (lv_room (Nat.le_of_ble_eq_true rfl)) dX0_without_50 ⟨Nat.le_refl _, Nat.le_refl _⟩) hA hP hD hS (fun H locs hP hD hS => ?_)
          refine lv_istore (lv' := [(4, .int r5.1), (7, .int r4.1), (6, .int r3.1), (0, .ref (a 14)), (1, .int (L.1 1)), (2, .int (L.1 2)), (3, .int (L.1 3)), (5, .int (L.1 5))]) hx hb dX0_without_53 hl (by decide) rfl (fun ls hl => ?_)
          refine lv_iload hx hb dX0_without_55 (lv_at hl 1 rfl) ?_
          refine lv_aload_n hx hb dX0_without_57 rfl (lv_at hl 3 rfl) ?_
          refine hg_14_0 hx hb hts in_y_X0_without_X0 hown hK hP (hts _ (List.mem_cons_of_mem _ (List.mem_append_left _ (List.mem_append_left _ (List.mem_of_getElem? (i := 0) rfl))))) dX0_without_58 ?_
          refine lv_iload_n hx hb dX0_without_61 rfl (lv_at hl 4 rfl) ?_
          obtain ⟨r6, hc6, h⟩ := oc_ex h
          refine kc_i (va_runV (As := [.int (L.1 1)]) (rest := [.int r4.1]) ⟨hx, hb, hml, hown, hts⟩ (c_y_X1_length l dC dI cy a z k (lI lZ 1 ((L.1 1))) r5.2 r6 hc6 H.size) (cwV 1 hts g_y_X0_without_X1_length_V100 rfl rfl rfl hd_y_X1_length ⟨Nat.le_of_ble_eq_true rfl, Nat.le_of_ble_eq_true rfl⟩) ⟨nb_blind, va_recv hK hP (ci := 1) (q0 := 0) rfl rfl, (kb_pre hK hG hP hD)⟩ rfl rfl hl.1 rfl (lv_room (Nat.le_of_ble_eq_true rfl)) dX0_without_62 ⟨Nat.le_refl _, Nat.le_refl _⟩) hA hP hD hS (fun H locs hP hD hS => ?_)
          refine lv_icmp_ge (tgt := 97) hx hb dX0_without_65 (by decide) (fun c7 => ?_) (fun c7 => ?_)
          · rw [if_pos c7] at h
            exact ih.2.2.2.1 (lI (lI L 4 r5.1) 7 r4.1) r6.2 r h H locs ls hP hD hS (lv_sub hl [3, 4, 5, 0, 7, 1] rfl)
          · rw [if_neg c7] at h
            refine lv_aload_n hx hb dX0_without_68 rfl (lv_at hl 3 rfl) ?_
            refine hg_14_0 hx hb hts in_y_X0_without_X0 hown hK hP (hts _ (List.mem_cons_of_mem _ (List.mem_append_left _ (List.mem_append_left _ (List.mem_of_getElem? (i := 0) rfl))))) dX0_without_69 ?_
            refine lv_aload_n hx hb dX0_without_72 rfl (lv_at hl 3 rfl) ?_
            refine hg_14_0 hx hb hts in_y_X0_without_X0 hown hK hP (hts _ (List.mem_cons_of_mem _ (List.mem_append_left _ (List.mem_append_left _ (List.mem_of_getElem? (i := 0) rfl))))) dX0_without_73 ?_
            refine lv_iload_n hx hb dX0_without_76 rfl (lv_at hl 4 rfl) ?_
            refine lv_iload hx hb dX0_without_77 (lv_at hl 1 rfl) ?_
            obtain ⟨r8, hc8, h⟩ := oc_ex h
            refine kc_i (va_runV (As := [.int (L.1 1), .int r4.1]) (rest := [.ref (a 0)]) ⟨hx, hb, hml, hown, hts⟩ (c_y_X1_member l dC dI cy a z k (lI (lI lZ 1 ((L.1 1))) 2 r4.1) r6.2 r8 hc8 H.size) (cwV 2 hts g_y_X0_without_X1_member_V154 rfl rfl rfl hd_y_X1_member ⟨Nat.le_of_ble_eq_true rfl, Nat.le_of_ble_eq_true rfl⟩) ⟨nb_blind, va_recv hK hP (ci := 1) (q0 := 0) rfl rfl, (kb_pre hK hG hP hD)⟩ rfl rfl hl.1 rfl (lv_room (Nat.le_of_ble_eq_true rfl)) dX0_without_79 ⟨Nat.le_refl _, Nat.le_refl _⟩) hA hP hD hS (fun H locs hP hD hS => ?_)
            refine lv_iload hx hb dX0_without_82 (lv_at hl 2 rfl) ?_
            obtain ⟨r9, hc9, h⟩ := oc_ex h
            refine kc_i (va_runV (As := [.int r8.1, .int r3.1]) (rest := []) ⟨hx, hb, hml, hown, hts⟩ (c_y_X1_same l dC dI cy a z k (lI (lI lZ 1 r8.1) 2 r3.1) r8.2 r9 hc9 H.size) (cwV 2 hts g_y_X0_without_X1_same_V60 rfl rfl rfl hd_y_X1_same ⟨Nat.le_of_ble_eq_true rfl, Nat.le_of_ble_eq_true rfl⟩) ⟨nb_blind, va_recv hK hP (ci := 1) (q0 := 0) rfl rfl, (kb_pre hK hG hP hD)⟩ rfl rfl hl.1 rfl (lv_room (Nat.le_of_ble_eq_true rfl)) dX0_without_84 ⟨Nat.le_refl _, Nat.le_refl _⟩) hA hP hD hS (fun H locs hP hD hS => ?_)
            refine lv_if_eq (tgt := 97) hx hb dX0_without_87 (by decide) (fun c10 => ?_) (fun c10 => ?_)
            · rw [if_pos c10] at h
              exact ih.2.2.2.1 (lI (lI L 4 r5.1) 7 r4.1) r9.2 r h H locs ls hP hD hS (lv_sub hl [3, 4, 5, 0, 7, 1] rfl)
            · rw [if_neg c10] at h
              refine lv_iload hx hb dX0_without_90 (lv_at hl 1 rfl) ?_
              refine lv_iconst (v := 1) hx hb dX0_without_92 (by decide) ?_
              refine lv_iadd hx hb dX0_without_93 ?_
              refine lv_goto (tgt := 99) hx hb dX0_without_94 (by decide) ?_
              exact ih.2.2.2.2 (lI (lI L 4 r5.1) 100 ((r4.1 + 1))) r9.2 r h H locs ls hP hD hS (lv_sub hl [3, 4, 5, 0, 7] rfl)
      · intro L σ r h H locs ls hP hD hS hl
        rw [y_X0_without] at h
        refine lv_aload_n hx hb dX0_without_106 rfl (lv_at hl 0 rfl) ?_
        refine lv_iload_n hx hb dX0_without_107 rfl (lv_at hl 1 rfl) ?_
        refine lv_iload_n hx hb dX0_without_108 rfl (lv_at hl 2 rfl) ?_
        refine lv_aload_n hx hb dX0_without_109 rfl (lv_at hl 0 rfl) ?_
        refine hg_14_0 hx hb hts in_y_X0_without_X0 hown hK hP (hts _ (List.mem_cons_of_mem _ (List.mem_append_left _ (List.mem_append_left _ (List.mem_of_getElem? (i := 0) rfl))))) dX0_without_110 ?_
        refine lv_iload_n hx hb dX0_without_113 rfl (lv_at hl 1 rfl) ?_
        obtain ⟨r1, hc1, h⟩ := oc_ex h
        refine kc_i (va_runV (As := [.int (L.1 1)]) (rest := [.int (L.1 3), .int (L.1 1), .ref (a 14)]) ⟨hx, hb, hml, hown, hts⟩ (c_y_X1_length l dC dI cy a z k (lI lZ 1 ((L.1 1))) σ r1 hc1 H.size) (cwV 1 hts g_y_X0_without_X1_length_V100 rfl rfl rfl hd_y_X1_length ⟨Nat.le_of_ble_eq_true rfl, Nat.le_of_ble_eq_true rfl⟩) ⟨nb_blind, va_recv hK hP (ci := 1) (q0 := 0) rfl rfl, (kb_pre hK hG hP hD)⟩ rfl rfl hl.1 rfl (lv_room (Nat.le_of_ble_eq_true rfl)) dX0_without_114 ⟨Nat.le_refl _, Nat.le_refl _⟩) hA hP hD hS (fun H locs hP hD hS => ?_)
        refine lv_iload hx hb dX0_without_117 (lv_at hl 3 rfl) ?_
        obtain ⟨r2, hc2, h⟩ := oc_ex h
        refine kc_i (va_runV (As := [.int (L.1 1), .int (L.1 3), .int r1.1, .int (L.1 4)]) (rest := []) ⟨hx, hb, hml, hown, hts⟩ (c_y_X0_load l dC dI cy a z k (lI (lI (lI (lI lZ 1 ((L.1 1))) 2 ((L.1 3))) 3 r1.1) 4 ((L.1 4))) r1.2 r2 hc2 H.size) (cwV 4 hts g_y_X0_without_X0_load_V103 rfl rfl rfl hd_y_X0_load ⟨Nat.le_of_ble_eq_true rfl, Nat.le_of_ble_eq_true rfl⟩) ⟨nb_blind, va_recv hK hP (ci := 0) (q0 := 14) rfl rfl, (kb_pre hK hG hP hD)⟩ rfl rfl hl.1 rfl (lv_room (Nat.le_of_ble_eq_true rfl)) dX0_without_119 ⟨Nat.le_refl _, Nat.le_refl _⟩) hA hP hD hS (fun H locs hP hD hS => ?_)
        refine lv_istore (lv' := [(4, .int r2.1), (0, .ref (a 14)), (1, .int (L.1 1)), (3, .int (L.1 3))]) hx hb dX0_without_122 hl (by decide) rfl (fun ls hl => ?_)
        refine lv_aload_n hx hb dX0_without_124 rfl (lv_at hl 1 rfl) ?_
        refine hg_14_0 hx hb hts in_y_X0_without_X0 hown hK hP (hts _ (List.mem_cons_of_mem _ (List.mem_append_left _ (List.mem_append_left _ (List.mem_of_getElem? (i := 0) rfl))))) dX0_without_125 ?_
        refine lv_bipush (v := 6) hx hb dX0_without_128 (by decide) ?_
        refine lv_aload_n hx hb dX0_without_130 rfl (lv_at hl 1 rfl) ?_
        refine hg_14_4 hx hb hts in_y_X0_without_X0 hown hK hP (hts _ (List.mem_cons_of_mem _ (List.mem_append_left _ (List.mem_append_left _ (List.mem_of_getElem? (i := 18) rfl))))) dX0_without_131 ?_
        refine lv_iconst (v := 0) hx hb dX0_without_134 (by decide) ?_
        refine lv_iload hx hb dX0_without_135 (lv_at hl 0 rfl) ?_
        obtain ⟨r3, hc3, h⟩ := oc_ex h
        refine kc_i (va_runV (As := [.int 6, .ref (a 16), .int 0, .int r2.1]) (rest := []) ⟨hx, hb, hml, hown, hts⟩ (c_y_X1_makeRow__a16 l dC dI cy a z k (lI (lI (lI lZ 1 6) 3 0) 4 r2.1) r2.2 r3 hc3 H.size) (cwV 4 hts g_y_X0_without_X1_makeRow__a16_V160 rfl rfl rfl hd_y_X1_makeRow__a16 ⟨Nat.le_of_ble_eq_true rfl, Nat.le_of_ble_eq_true rfl⟩) ⟨nb_blind, va_recv hK hP (ci := 1) (q0 := 0) rfl rfl, (kb_pre hK hG hP hD)⟩ rfl rfl hl.1 rfl (lv_room (Nat.le_of_ble_eq_true rfl)) dX0_without_137 ⟨Nat.le_refl _, Nat.le_refl _⟩) hA hP hD hS (fun H locs hP hD hS => ?_)
        obtain rfl := Option.some.inj h
        exact W.iret (v := r3.1) hx hb hr (fun t ht hW => ⟨⟨r3.1, (), rfl, rfl, by rw [ht]; exact hP, va_K.moved hW.alike hK, hD⟩, hS.F ht⟩) hS.2.2 dX0_without_140
      · intro L σ r h H locs ls hP hD hS hl
        rw [y_X0_without] at h
        refine lv_iload hx hb dX0_without_97 (lv_at hl 5 rfl) ?_
        exact ih.2.2.2.2 (lI L 100 ((L.1 7))) σ r h H locs ls hP hD hS (lv_sub hl [0, 1, 2, 3, 4] rfl)
      · intro L σ r h H locs ls hP hD hS hl
        rw [y_X0_without] at h
        refine lv_istore_n (lv' := [(3, .int (L.1 100)), (0, .ref (a 14)), (1, .int (L.1 1)), (2, .int (L.1 2)), (4, .int (L.1 4)), (5, .int (L.1 5))]) hx hb dX0_without_99 rfl hl (by decide) rfl (fun ls hl => ?_)
        refine lv_iinc (v := ((L.1 5)) + 1) (lv' := [(5, .int (((L.1 5)) + 1)), (3, .int (L.1 100)), (0, .ref (a 14)), (1, .int (L.1 1)), (2, .int (L.1 2)), (4, .int (L.1 4))]) hx hb dX0_without_100 hl (k := 5) rfl rfl (by decide) rfl (fun ls hl => ?_)
        refine lv_goto (tgt := 8) hx hb dX0_without_103 (by decide) ?_
        exact ih.2.1 (lI (lI L 3 ((L.1 100))) 5 ((((L.1 5)) + 1))) σ r h H locs ls hP hD hS (lv_sub hl [2, 3, 4, 1, 5, 0] rfl)
  exact (blk k0).1 L0 σ0 r0 h0 s.heap [] ls hP hD hS hl

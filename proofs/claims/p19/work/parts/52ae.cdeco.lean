/-! X0_difference -/
def y_X0_difference : Nat → Nat → LV → CS → Option (Int32 × CS)
  | 0, _, _, _ => none
  | k + 1, 0, L, σ => oc (y_X0_areWholes k 0 (lI (lI lZ 1 ((L.1 1))) 2 ((L.1 2))) σ) (fun r1 => if r1.1 = 0 then (y_X0_difference k 1 L r1.2) else (oc (y_X10_added k 0 (lI (lI (lI lZ 1 ((L.1 1))) 2 ((L.1 2))) 3 1) r1.2) (fun r3 => some (r3.1, r3.2))))
  | k + 1, 1, L, σ => oc (y_X0_areSets k 0 (lI (lI lZ 1 ((L.1 1))) 2 ((L.1 2))) σ) (fun r1 => if r1.1 = 0 then (some ((-268435455), r1.2)) else (y_X0_difference k 2 L r1.2))
  | k + 1, 2, L, σ => oc (y_X1_length k 0 (lI lZ 1 ((L.1 2))) σ) (fun r1 => oc (y_X1_length k 0 (lI lZ 1 ((L.1 1))) r1.2) (fun r2 => if r1.1 ≤ r2.1 then (y_X0_difference k 3 L r2.2) else (oc (y_X0_chosen k 0 (lI (lI (lI lZ 1 ((L.1 1))) 2 ((L.1 2))) 3 0) r2.2) (fun r4 => y_X0_difference k 4 (lI L 100 r4.1) r4.2))))
  | k + 1, 3, L, σ => oc (y_X0_without k 0 (lI (lI lZ 1 ((L.1 1))) 2 ((L.1 2))) σ) (fun r1 => y_X0_difference k 4 (lI L 100 r1.1) r1.2)
  | k + 1, 4, L, σ => some ((L.1 100), σ)
  | _ + 1, _ + 5, _, _ => none
def o_y_X0_difference : List Cond := [.methodLink RX0 44 yX0_areWholes, .instanceMethod yX0_areWholes, .selects RX0 yX0_areWholes yX0_areWholes, .initialized RX0, .fieldLink RX0 26 "SetHouse$Algebra" "wholes" "LSetHouse$Wholes;", .methodLink RX0 94 yX10_added, .instanceMethod yX10_added, .selects RX10 yX10_added yX10_added, .initialized RX10, .methodLink RX0 77 yX0_areSets, .instanceMethod yX0_areSets, .selects RX0 yX0_areSets yX0_areSets, .constant RX0 56 (-268435455), .fieldLink RX0 22 "SetHouse$Algebra" "heap" "LSetHouse$Heap;", .methodLink RX0 100 yX1_length, .instanceMethod yX1_length, .selects RX1 yX1_length yX1_length, .initialized RX1, .methodLink RX0 122 yX0_chosen, .instanceMethod yX0_chosen, .selects RX0 yX0_chosen yX0_chosen, .methodLink RX0 125 yX0_without, .instanceMethod yX0_without, .selects RX0 yX0_without yX0_without]
theorem o_y_X0_difference_good : o_y_X0_difference.all goodWord = true := by decide +kernel
def p_y_X0_difference : List Cond := o_y_X0_difference ++ ((.code yX0_areWholes cX0_areWholes 3 (some .boolean) :: p_y_X0_areWholes) ++ ((.code yX10_added cX10_added 9 (some .int) :: p_y_X10_added) ++ ((.code yX0_areSets cX0_areSets 3 (some .boolean) :: p_y_X0_areSets) ++ ((.code yX1_length cX1_length 2 (some .int) :: p_y_X1_length) ++ ((.code yX0_chosen cX0_chosen 8 (some .int) :: p_y_X0_chosen) ++ ((.code yX0_without cX0_without 8 (some .int) :: p_y_X0_without) ++ []))))))
theorem p_y_X0_difference_good : p_y_X0_difference.all goodWord = true := nb_all2 o_y_X0_difference_good (nb_all2 (nb_allc (by decide +kernel) p_y_X0_areWholes_good) (nb_all2 (nb_allc (by decide +kernel) p_y_X10_added_good) (nb_all2 (nb_allc (by decide +kernel) p_y_X0_areSets_good) (nb_all2 (nb_allc (by decide +kernel) p_y_X1_length_good) (nb_all2 (nb_allc (by decide +kernel) p_y_X0_chosen_good) (nb_all2 (nb_allc (by decide +kernel) p_y_X0_without_good) rfl))))))
def w_y_X0_difference : List Cond := .code yX0_difference cX0_difference 3 (some .int) :: (p_y_X0_difference ++ fC)
theorem w_y_X0_difference_good : w_y_X0_difference.all goodWord = true := nb_allc (by decide +kernel) (nb_all2 p_y_X0_difference_good fC_good)
theorem in_y_X0_difference_X0 : ∀ w ∈ wsX00, w ∈ w_y_X0_difference := fun _ h => List.mem_cons_of_mem _ (List.mem_append_right _ (List.mem_append_left _ h))
theorem hd_y_X0_difference : yX0_difference.cls = RX0 ∧ yX0_difference.cls ≠ "java/lang/invoke/MethodHandle" ∧ yX0_difference.cls ≠ "java/lang/invoke/VarHandle" ∧ (parseMethodDescriptor yX0_difference.desc).map (fun d => d.parameters.length) = some 2 := by decide +kernel
theorem gg_y_X0_difference_X0_areSets : GoodIn w_y_X0_difference w_y_X0_areSets := goodIn_sub (fun w h => (List.mem_cons.mp h).elim (fun e => (List.mem_cons_of_mem _ (List.mem_append_left _ (List.mem_append_right _ (List.mem_append_right _ (List.mem_append_right _ (List.mem_append_left _ (List.mem_cons.mpr (Or.inl e))))))))) (fun h => (List.mem_append.mp h).elim (fun h => (List.mem_cons_of_mem _ (List.mem_append_left _ (List.mem_append_right _ (List.mem_append_right _ (List.mem_append_right _ (List.mem_append_left _ (List.mem_cons_of_mem _ h)))))))) (fun h => List.mem_cons_of_mem _ (List.mem_append_right _ h)))) w_y_X0_areSets_good
theorem g_y_X0_difference_X0_areSets_V77 : GoodIn w_y_X0_difference (wsV RX0 77 RX0 yX0_areSets w_y_X0_areSets) := goodIn_app (nb_g4 (List.mem_cons_of_mem _ (List.mem_append_left _ (List.mem_append_left _ (List.mem_of_getElem? (i := 9) rfl)))) (List.mem_cons_of_mem _ (List.mem_append_left _ (List.mem_append_left _ (List.mem_of_getElem? (i := 10) rfl)))) (List.mem_cons_of_mem _ (List.mem_append_left _ (List.mem_append_left _ (List.mem_of_getElem? (i := 11) rfl)))) (List.mem_cons_of_mem _ (List.mem_append_left _ (List.mem_append_left _ (List.mem_of_getElem? (i := 3) rfl)))) (by decide +kernel)) gg_y_X0_difference_X0_areSets
theorem gg_y_X0_difference_X0_areWholes : GoodIn w_y_X0_difference w_y_X0_areWholes := goodIn_sub (fun w h => (List.mem_cons.mp h).elim (fun e => (List.mem_cons_of_mem _ (List.mem_append_left _ (List.mem_append_right _ (List.mem_append_left _ (List.mem_cons.mpr (Or.inl e))))))) (fun h => (List.mem_append.mp h).elim (fun h => (List.mem_cons_of_mem _ (List.mem_append_left _ (List.mem_append_right _ (List.mem_append_left _ (List.mem_cons_of_mem _ h)))))) (fun h => List.mem_cons_of_mem _ (List.mem_append_right _ h)))) w_y_X0_areWholes_good
theorem g_y_X0_difference_X0_areWholes_V44 : GoodIn w_y_X0_difference (wsV RX0 44 RX0 yX0_areWholes w_y_X0_areWholes) := goodIn_app (nb_g4 (List.mem_cons_of_mem _ (List.mem_append_left _ (List.mem_append_left _ (List.mem_of_getElem? (i := 0) rfl)))) (List.mem_cons_of_mem _ (List.mem_append_left _ (List.mem_append_left _ (List.mem_of_getElem? (i := 1) rfl)))) (List.mem_cons_of_mem _ (List.mem_append_left _ (List.mem_append_left _ (List.mem_of_getElem? (i := 2) rfl)))) (List.mem_cons_of_mem _ (List.mem_append_left _ (List.mem_append_left _ (List.mem_of_getElem? (i := 3) rfl)))) (by decide +kernel)) gg_y_X0_difference_X0_areWholes
theorem gg_y_X0_difference_X0_chosen : GoodIn w_y_X0_difference w_y_X0_chosen := goodIn_sub (fun w h => (List.mem_cons.mp h).elim (fun e => (List.mem_cons_of_mem _ (List.mem_append_left _ (List.mem_append_right _ (List.mem_append_right _ (List.mem_append_right _ (List.mem_append_right _ (List.mem_append_right _ (List.mem_append_left _ (List.mem_cons.mpr (Or.inl e))))))))))) (fun h => (List.mem_append.mp h).elim (fun h => (List.mem_cons_of_mem _ (List.mem_append_left _ (List.mem_append_right _ (List.mem_append_right _ (List.mem_append_right _ (List.mem_append_right _ (List.mem_append_right _ (List.mem_append_left _ (List.mem_cons_of_mem _ h)))))))))) (fun h => List.mem_cons_of_mem _ (List.mem_append_right _ h)))) w_y_X0_chosen_good
theorem g_y_X0_difference_X0_chosen_V122 : GoodIn w_y_X0_difference (wsV RX0 122 RX0 yX0_chosen w_y_X0_chosen) := goodIn_app (nb_g4 (List.mem_cons_of_mem _ (List.mem_append_left _ (List.mem_append_left _ (List.mem_of_getElem? (i := 18) rfl)))) (List.mem_cons_of_mem _ (List.mem_append_left _ (List.mem_append_left _ (List.mem_of_getElem? (i := 19) rfl)))) (List.mem_cons_of_mem _ (List.mem_append_left _ (List.mem_append_left _ (List.mem_of_getElem? (i := 20) rfl)))) (List.mem_cons_of_mem _ (List.mem_append_left _ (List.mem_append_left _ (List.mem_of_getElem? (i := 3) rfl)))) (by decide +kernel)) gg_y_X0_difference_X0_chosen
theorem gg_y_X0_difference_X0_without : GoodIn w_y_X0_difference w_y_X0_without := goodIn_sub (fun w h => (List.mem_cons.mp h).elim (fun e => (List.mem_cons_of_mem _ (List.mem_append_left _ (List.mem_append_right _ (List.mem_append_right _ (List.mem_append_right _ (List.mem_append_right _ (List.mem_append_right _ (List.mem_append_right _ (List.mem_append_left _ (List.mem_cons.mpr (Or.inl e)))))))))))) (fun h => (List.mem_append.mp h).elim (fun h => (List.mem_cons_of_mem _ (List.mem_append_left _ (List.mem_append_right _ (List.mem_append_right _ (List.mem_append_right _ (List.mem_append_right _ (List.mem_append_right _ (List.mem_append_right _ (List.mem_append_left _ (List.mem_cons_of_mem _ h))))))))))) (fun h => List.mem_cons_of_mem _ (List.mem_append_right _ h)))) w_y_X0_without_good
theorem g_y_X0_difference_X0_without_V125 : GoodIn w_y_X0_difference (wsV RX0 125 RX0 yX0_without w_y_X0_without) := goodIn_app (nb_g4 (List.mem_cons_of_mem _ (List.mem_append_left _ (List.mem_append_left _ (List.mem_of_getElem? (i := 21) rfl)))) (List.mem_cons_of_mem _ (List.mem_append_left _ (List.mem_append_left _ (List.mem_of_getElem? (i := 22) rfl)))) (List.mem_cons_of_mem _ (List.mem_append_left _ (List.mem_append_left _ (List.mem_of_getElem? (i := 23) rfl)))) (List.mem_cons_of_mem _ (List.mem_append_left _ (List.mem_append_left _ (List.mem_of_getElem? (i := 3) rfl)))) (by decide +kernel)) gg_y_X0_difference_X0_without
theorem gg_y_X0_difference_X10_added : GoodIn w_y_X0_difference w_y_X10_added := goodIn_sub (fun w h => (List.mem_cons.mp h).elim (fun e => (List.mem_cons_of_mem _ (List.mem_append_left _ (List.mem_append_right _ (List.mem_append_right _ (List.mem_append_left _ (List.mem_cons.mpr (Or.inl e)))))))) (fun h => (List.mem_append.mp h).elim (fun h => (List.mem_cons_of_mem _ (List.mem_append_left _ (List.mem_append_right _ (List.mem_append_right _ (List.mem_append_left _ (List.mem_cons_of_mem _ h))))))) (fun h => List.mem_cons_of_mem _ (List.mem_append_right _ h)))) w_y_X10_added_good
theorem g_y_X0_difference_X10_added_V94 : GoodIn w_y_X0_difference (wsV RX0 94 RX10 yX10_added w_y_X10_added) := goodIn_app (nb_g4 (List.mem_cons_of_mem _ (List.mem_append_left _ (List.mem_append_left _ (List.mem_of_getElem? (i := 5) rfl)))) (List.mem_cons_of_mem _ (List.mem_append_left _ (List.mem_append_left _ (List.mem_of_getElem? (i := 6) rfl)))) (List.mem_cons_of_mem _ (List.mem_append_left _ (List.mem_append_left _ (List.mem_of_getElem? (i := 7) rfl)))) (List.mem_cons_of_mem _ (List.mem_append_left _ (List.mem_append_left _ (List.mem_of_getElem? (i := 8) rfl)))) (by decide +kernel)) gg_y_X0_difference_X10_added
theorem gg_y_X0_difference_X1_length : GoodIn w_y_X0_difference w_y_X1_length := goodIn_sub (fun w h => (List.mem_cons.mp h).elim (fun e => (List.mem_cons_of_mem _ (List.mem_append_left _ (List.mem_append_right _ (List.mem_append_right _ (List.mem_append_right _ (List.mem_append_right _ (List.mem_append_left _ (List.mem_cons.mpr (Or.inl e)))))))))) (fun h => (List.mem_append.mp h).elim (fun h => (List.mem_cons_of_mem _ (List.mem_append_left _ (List.mem_append_right _ (List.mem_append_right _ (List.mem_append_right _ (List.mem_append_right _ (List.mem_append_left _ (List.mem_cons_of_mem _ h))))))))) (fun h => List.mem_cons_of_mem _ (List.mem_append_right _ h)))) w_y_X1_length_good
theorem g_y_X0_difference_X1_length_V100 : GoodIn w_y_X0_difference (wsV RX0 100 RX1 yX1_length w_y_X1_length) := goodIn_app (nb_g4 (List.mem_cons_of_mem _ (List.mem_append_left _ (List.mem_append_left _ (List.mem_of_getElem? (i := 14) rfl)))) (List.mem_cons_of_mem _ (List.mem_append_left _ (List.mem_append_left _ (List.mem_of_getElem? (i := 15) rfl)))) (List.mem_cons_of_mem _ (List.mem_append_left _ (List.mem_append_left _ (List.mem_of_getElem? (i := 16) rfl)))) (List.mem_cons_of_mem _ (List.mem_append_left _ (List.mem_append_left _ (List.mem_of_getElem? (i := 17) rfl)))) (by decide +kernel)) gg_y_X0_difference_X1_length
set_option maxHeartbeats 40000000 in
set_option maxRecDepth 100000 in
theorem c_y_X0_difference (l : Launch) (dC : Nat → ClassId) (dI : Nat → Nat → Nat) (cy : Nat → ClassId) (a z : Nat → Nat) (k0 : Nat) (L0 : LV) (σ0 : CS) (r0 : Int32 × CS) (h0 : y_X0_difference k0 0 L0 σ0 = some r0) (sz : Nat) : Met l yX0_difference w_y_X0_difference ({ frames := 64, cells := 0, slots := 0, locals := 1792 }) (va_Pc [.ref (a 14), .int (L0.1 1), .int (L0.1 2)] (nIn (dC, dI) cy sz (vC cy a z σ0))) (va_Qi (fun (x : Int32) (_ : Unit) => x = r0.1) (fun _ t => nOut (dC, dI) cy (va_A (vC cy a z σ0) sz) (vC cy a z r0.2) t) (va_A (vC cy a z σ0) sz)) 0 0 (va_A (vC cy a z σ0) sz) := by
  refine Met.ofW (cc := cX0_difference) (maxL := 3) (ret := (some .int)) (by decide) rfl ?_
  intro p e s m args below meth c s₁ B hml hv
  obtain ⟨rfl, hsz, hP, hK, hD0, hG⟩ := hv
  have hx := B.exec
  have hb := B.bytes
  have hr := B.returns
  have hts := atoms_spec (ws := w_y_X0_difference) B.pre
  have hown : s.vm.findClass RX0 = some m.cls := findClass_of_methodNamed B.named
  have hlocks := B.notSynchronized
  subst hsz
  have hD := hD0.self (sz := s.heap.size)
  generalize hAe : va_A (vC cy a z σ0) s.heap.size = A at hD ⊢
  have hA : ∀ q : Nat, s.heap.size ≤ q → A q := fun q h => by rw [← hAe]; exact Or.inr h
  have hS : va_S A s.heap s.heap [] := va_S.rf
  have hl := lv_entry ([.ref (a 14), .int (L0.1 1), .int (L0.1 2)]) (n := 3) (Nat.le_of_ble_eq_true rfl)
  rw [lg_entry_eq]
  generalize (lg_sl ([.ref (a 14), .int (L0.1 1), .int (L0.1 2)]) ++ List.replicate (3 - (lg_sl ([.ref (a 14), .int (L0.1 1), .int (L0.1 2)])).length) Slot.unset).toArray = ls at hl ⊢
  have hl : lv_has ls 3 [(0, .ref (a 14)), (1, .int (L0.1 1)), (2, .int (L0.1 2))] := hl
  have blk : ∀ k : Nat, (bC p l e (headSpec w_y_X0_difference ({ frames := 64, cells := 0, slots := 0, locals := 1792 })).room s m #[.ref (a 14), .int (L0.1 1), .int (L0.1 2)] below meth c dC dI cy a z A (kI dC dI cy a z A below #[.ref (a 14), .int (L0.1 1), .int (L0.1 2)] s) 3 (y_X0_difference k 0) (fun L => [(0, .ref (a 14)), (1, .int (L.1 1)), (2, .int (L.1 2))]) 0 (fun L => [])) ∧ (bC p l e (headSpec w_y_X0_difference ({ frames := 64, cells := 0, slots := 0, locals := 1792 })).room s m #[.ref (a 14), .int (L0.1 1), .int (L0.1 2)] below meth c dC dI cy a z A (kI dC dI cy a z A below #[.ref (a 14), .int (L0.1 1), .int (L0.1 2)] s) 3 (y_X0_difference k 1) (fun L => [(0, .ref (a 14)), (1, .int (L.1 1)), (2, .int (L.1 2))]) 20 (fun L => [])) ∧ (bC p l e (headSpec w_y_X0_difference ({ frames := 64, cells := 0, slots := 0, locals := 1792 })).room s m #[.ref (a 14), .int (L0.1 1), .int (L0.1 2)] below meth c dC dI cy a z A (kI dC dI cy a z A below #[.ref (a 14), .int (L0.1 1), .int (L0.1 2)] s) 3 (y_X0_difference k 2) (fun L => [(0, .ref (a 14)), (1, .int (L.1 1)), (2, .int (L.1 2))]) 32 (fun L => [])) ∧ (bC p l e (headSpec w_y_X0_difference ({ frames := 64, cells := 0, slots := 0, locals := 1792 })).room s m #[.ref (a 14), .int (L0.1 1), .int (L0.1 2)] below meth c dC dI cy a z A (kI dC dI cy a z A below #[.ref (a 14), .int (L0.1 1), .int (L0.1 2)] s) 3 (y_X0_difference k 3) (fun L => [(0, .ref (a 14)), (1, .int (L.1 1)), (2, .int (L.1 2))]) 61 (fun L => [])) ∧ (bC p l e (headSpec w_y_X0_difference ({ frames := 64, cells := 0, slots := 0, locals := 1792 })).room s m #[.ref (a 14), .int (L0.1 1), .int (L0.1 2)] below meth c dC dI cy a z A (kI dC dI cy a z A below #[.ref (a 14), .int (L0.1 1), .int (L0.1 2)] s) 3 (y_X0_difference k 4) (fun L => []) 67 (fun L => [.int (L.1 100)])) := by
    intro k
    induction k with
    | zero => exact ⟨fun L σ r h => (by cases h), fun L σ r h => (by cases h), fun L σ r h => (by cases h), fun L σ r h => (by cases h), fun L σ r h => (by cases h)⟩
    | succ k ih =>
      refine ⟨?_, ?_, ?_, ?_, ?_⟩
      · intro L σ r h H locs ls hP hD hS hl
        rw [y_X0_difference] at h
        refine lv_aload_n hx hb dX0_difference_0 rfl (lv_at hl 0 rfl) ?_
        refine lv_iload_n hx hb dX0_difference_1 rfl (lv_at hl 1 rfl) ?_
        refine lv_iload_n hx hb dX0_difference_2 rfl (lv_at hl 2 rfl) ?_
        obtain ⟨r1, hc1, h⟩ := oc_ex h
        refine kc_i (va_runV (As := [.int (L.1 1), .int (L.1 2)]) (rest := []) ⟨hx, hb, hml, hown, hts⟩ (c_y_X0_areWholes l dC dI cy a z k (lI (lI lZ 1 ((L.1 1))) 2 ((L.1 2))) σ r1 hc1 H.size) (cwV 2 hts g_y_X0_difference_X0_areWholes_V44 rfl rfl rfl hd_y_X0_areWholes ⟨Nat.le_of_ble_eq_true rfl, Nat.le_of_ble_eq_true rfl⟩) ⟨nb_blind, va_recv hK hP (ci := 0) (q0 := 14) rfl rfl, (kb_pre hK hG hP hD)⟩ rfl rfl hl.1 rfl (lv_room (Nat.le_of_ble_eq_true rfl)) dX0_difference_3 ⟨Nat.le_refl _, Nat.le_refl _⟩) hA hP hD hS (fun H locs hP hD hS => ?_)
        refine lv_if_eq (tgt := 20) hx hb dX0_difference_6 (by decide) (fun c2 => ?_) (fun c2 => ?_)
        · rw [if_pos c2] at h
          exact ih.2.1 L r1.2 r h H locs ls hP hD hS (lv_sub hl [0, 1, 2] rfl)
        · rw [if_neg c2] at h
          refine lv_aload_n hx hb dX0_difference_9 rfl (lv_at hl 0 rfl) ?_
          refine hg_14_1 hx hb hts in_y_X0_difference_X0 hown hK hP (hts _ (List.mem_cons_of_mem _ (List.mem_append_left _ (List.mem_append_left _ (List.mem_of_getElem? (i := 4) rfl))))) dX0_difference_10 ?_
          refine lv_iload_n hx hb dX0_difference_13 rfl (lv_at hl 1 rfl) ?_
          refine lv_iload_n hx hb dX0_difference_14 rfl (lv_at hl 2 rfl) ?_
          refine lv_iconst (v := 1) hx hb dX0_difference_15 (by decide) ?_
          obtain ⟨r3, hc3, h⟩ := oc_ex h
          refine kc_i (va_runV (As := [.int (L.1 1), .int (L.1 2), .int 1]) (rest := []) ⟨hx, hb, hml, hown, hts⟩ (c_y_X10_added l dC dI cy a z k (lI (lI (lI lZ 1 ((L.1 1))) 2 ((L.1 2))) 3 1) r1.2 r3 hc3 H.size) (cwV 3 hts g_y_X0_difference_X10_added_V94 rfl rfl rfl hd_y_X10_added ⟨Nat.le_of_ble_eq_true rfl, Nat.le_of_ble_eq_true rfl⟩) ⟨nb_blind, va_recv hK hP (ci := 9) (q0 := 4) rfl rfl, (kb_pre hK hG hP hD)⟩ rfl rfl hl.1 rfl (lv_room (Nat.le_of_ble_eq_true rfl)) dX0_difference_16 ⟨Nat.le_refl _, Nat.le_refl _⟩) hA hP hD hS (fun H locs hP hD hS => ?_)
          obtain rfl := Option.some.inj h
          exact W.iret (v := r3.1) hx hb hr (fun t ht hW => ⟨⟨r3.1, (), rfl, rfl, by rw [ht]; exact hP, va_K.moved hW.alike hK, hD⟩, hS.F ht⟩) hS.2.2 dX0_difference_19
      · intro L σ r h H locs ls hP hD hS hl
        rw [y_X0_difference] at h
        refine lv_aload_n hx hb dX0_difference_20 rfl (lv_at hl 0 rfl) ?_
        refine lv_iload_n hx hb dX0_difference_21 rfl (lv_at hl 1 rfl) ?_
        refine lv_iload_n hx hb dX0_difference_22 rfl (lv_at hl 2 rfl) ?_
        obtain ⟨r1, hc1, h⟩ := oc_ex h
        refine kc_i (va_runV (As := [.int (L.1 1), .int (L.1 2)]) (rest := []) ⟨hx, hb, hml, hown, hts⟩ (c_y_X0_areSets l dC dI cy a z k (lI (lI lZ 1 ((L.1 1))) 2 ((L.1 2))) σ r1 hc1 H.size) (cwV 2 hts g_y_X0_difference_X0_areSets_V77 rfl rfl rfl hd_y_X0_areSets ⟨Nat.le_of_ble_eq_true rfl, Nat.le_of_ble_eq_true rfl⟩) ⟨nb_blind, va_recv hK hP (ci := 0) (q0 := 14) rfl rfl, (kb_pre hK hG hP hD)⟩ rfl rfl hl.1 rfl (lv_room (Nat.le_of_ble_eq_true rfl)) dX0_difference_23 ⟨Nat.le_refl _, Nat.le_refl _⟩) hA hP hD hS (fun H locs hP hD hS => ?_)
        refine lv_if_ne (tgt := 32) hx hb dX0_difference_26 (by decide) (fun c2 => ?_) (fun c2 => ?_)
        · rw [if_neg c2] at h
          exact ih.2.2.1 L r1.2 r h H locs ls hP hD hS (lv_sub hl [0, 1, 2] rfl)
        · rw [if_pos c2] at h
          refine lv_ldc (v := (-268435455)) hx hb hown (hts _ (List.mem_cons_of_mem _ (List.mem_append_left _ (List.mem_append_left _ (List.mem_of_getElem? (i := 12) rfl))))) dX0_difference_29 ?_
          obtain rfl := Option.some.inj h
          exact W.iret (v := (-268435455)) hx hb hr (fun t ht hW => ⟨⟨(-268435455), (), rfl, rfl, by rw [ht]; exact hP, va_K.moved hW.alike hK, hD⟩, hS.F ht⟩) hS.2.2 dX0_difference_31
      · intro L σ r h H locs ls hP hD hS hl
        rw [y_X0_difference] at h
        refine lv_aload_n hx hb dX0_difference_32 rfl (lv_at hl 0 rfl) ?_
        refine hg_14_0 hx hb hts in_y_X0_difference_X0 hown hK hP (hts _ (List.mem_cons_of_mem _ (List.mem_append_left _ (List.mem_append_left _ (List.mem_of_getElem? (i := 13) rfl))))) dX0_difference_33 ?_
        refine lv_iload_n hx hb dX0_difference_36 rfl (lv_at hl 2 rfl) ?_
        obtain ⟨r1, hc1, h⟩ := oc_ex h
        refine kc_i (va_runV (As := [.int (L.1 2)]) (rest := []) ⟨hx, hb, hml, hown, hts⟩ (c_y_X1_length l dC dI cy a z k (lI lZ 1 ((L.1 2))) σ r1 hc1 H.size) (cwV 1 hts g_y_X0_difference_X1_length_V100 rfl rfl rfl hd_y_X1_length ⟨Nat.le_of_ble_eq_true rfl, Nat.le_of_ble_eq_true rfl⟩) ⟨nb_blind, va_recv hK hP (ci := 1) (q0 := 0) rfl rfl, (kb_pre hK hG hP hD)⟩ rfl rfl hl.1 rfl (lv_room (Nat.le_of_ble_eq_true rfl)) dX0_difference_37 ⟨Nat.le_refl _, Nat.le_refl _⟩) hA hP hD hS (fun H locs hP hD hS => ?_)
        refine lv_aload_n hx hb dX0_difference_40 rfl (lv_at hl 0 rfl) ?_
        refine hg_14_0 hx hb hts in_y_X0_difference_X0 hown hK hP (hts _ (List.mem_cons_of_mem _ (List.mem_append_left _ (List.mem_append_left _ (List.mem_of_getElem? (i := 13) rfl))))) dX0_difference_41 ?_
        refine lv_iload_n hx hb dX0_difference_44 rfl (lv_at hl 1 rfl) ?_
        obtain ⟨r2, hc2, h⟩ := oc_ex h
        refine kc_i (va_runV (As := [.int (L.1 1)]) (rest := [.int r1.1]) ⟨hx, hb, hml, hown, hts⟩ (c_y_X1_length l dC dI cy a z k (lI lZ 1 ((L.1 1))) r1.2 r2 hc2 H.size) (cwV 1 hts g_y_X0_difference_X1_length_V100 rfl rfl rfl hd_y_X1_length ⟨Nat.le_of_ble_eq_true rfl, Nat.le_of_ble_eq_true rfl⟩) ⟨nb_blind, va_recv hK hP (ci := 1) (q0 := 0) rfl rfl, (kb_pre hK hG hP hD)⟩ rfl rfl hl.1 rfl (lv_room (Nat.le_of_ble_eq_true rfl)) dX0_difference_45 ⟨Nat.le_refl _, Nat.le_refl _⟩) hA hP hD hS (fun H locs hP hD hS => ?_)
        refine lv_icmp_le (tgt := 61) hx hb dX0_difference_48 (by decide) (fun c3 => ?_) (fun c3 => ?_)
        · rw [if_pos c3] at h
          exact ih.2.2.2.1 L r2.2 r h H locs ls hP hD hS (lv_sub hl [0, 1, 2] rfl)
        · rw [if_neg c3] at h
          refine lv_aload_n hx hb dX0_difference_51 rfl (lv_at hl 0 rfl) ?_
          refine lv_iload_n hx hb dX0_difference_52 rfl (lv_at hl 1 rfl) ?_
          refine lv_iload_n hx hb dX0_difference_53 rfl (lv_at hl 2 rfl) ?_
          refine lv_iconst (v := 0) hx hb dX0_difference_54 (by decide) ?_
          obtain ⟨r4, hc4, h⟩ := oc_ex h
          refine kc_i (va_runV (As := [.int (L.1 1), .int (L.1 2), .int 0]) (rest := []) ⟨hx, hb, hml, hown, hts⟩ (c_y_X0_chosen l dC dI cy a z k (lI (lI (lI lZ 1 ((L.1 1))) 2 ((L.1 2))) 3 0) r2.2 r4 hc4 H.size) (cwV 3 hts g_y_X0_difference_X0_chosen_V122 rfl rfl rfl hd_y_X0_chosen ⟨Nat.le_of_ble_eq_true rfl, Nat.le_of_ble_eq_true rfl⟩) ⟨nb_blind, va_recv hK hP (ci := 0) (q0 := 14) rfl rfl, (kb_pre hK hG hP hD)⟩ rfl rfl hl.1 rfl (lv_room (Nat.le_of_ble_eq_true rfl)) dX0_difference_55 ⟨Nat.le_refl _, Nat.le_refl _⟩) hA hP hD hS (fun H locs hP hD hS => ?_)
          refine lv_goto (tgt := 67) hx hb dX0_difference_58 (by decide) ?_
          exact ih.2.2.2.2 (lI L 100 r4.1) r4.2 r h H locs ls hP hD hS (lv_sub hl [] rfl)
      · intro L σ r h H locs ls hP hD hS hl
        rw [y_X0_difference] at h
        refine lv_aload_n hx hb dX0_difference_61 rfl (lv_at hl 0 rfl) ?_
        refine lv_iload_n hx hb dX0_difference_62 rfl (lv_at hl 1 rfl) ?_
        refine lv_iload_n hx hb dX0_difference_63 rfl (lv_at hl 2 rfl) ?_
        obtain ⟨r1, hc1, h⟩ := oc_ex h
        refine kc_i (va_runV (As := [.int (L.1 1), .int (L.1 2)]) (rest := []) ⟨hx, hb, hml, hown, hts⟩ (c_y_X0_without l dC dI cy a z k (lI (lI lZ 1 ((L.1 1))) 2 ((L.1 2))) σ r1 hc1 H.size) (cwV 2 hts g_y_X0_difference_X0_without_V125 rfl rfl rfl hd_y_X0_without ⟨Nat.le_of_ble_eq_true rfl, Nat.le_of_ble_eq_true rfl⟩) ⟨nb_blind, va_recv hK hP (ci := 0) (q0 := 14) rfl rfl, (kb_pre hK hG hP hD)⟩ rfl rfl hl.1 rfl (lv_room (Nat.le_of_ble_eq_true rfl)) dX0_difference_64 ⟨Nat.le_refl _, Nat.le_refl _⟩) hA hP hD hS (fun H locs hP hD hS => ?_)
        exact ih.2.2.2.2 (lI L 100 r1.1) r1.2 r h H locs ls hP hD hS (lv_sub hl [] rfl)
      · intro L σ r h H locs ls hP hD hS hl
        rw [y_X0_difference] at h
        obtain rfl := Option.some.inj h
        exact W.iret (v := (L.1 100)) hx hb hr (fun t ht hW => ⟨⟨(L.1 100), (), rfl, rfl, by rw [ht]; exact hP, va_K.moved hW.alike hK, hD⟩, hS.F ht⟩) hS.2.2 dX0_difference_67
  exact (blk k0).1 L0 σ0 r0 h0 s.heap [] ls hP hD hS hl
/-! X10_product -/
def y_X10_product : Nat → Nat → LV → CS → Option (Int32 × CS)
  | 0, _, _, _ => none
  | k + 1, 0, L, σ => if 0 ≤ ((L.1 1)) then (y_X10_product k 1 L σ) else (if 0 ≤ ((L.1 2)) then (y_X10_product k 1 L σ) else (oc (y_X10_of k 0 (lJ lZ 1 ((((((((((L.1 1)) <<< ((4 : Int32) &&& 31))) >>> ((4 : Int32) &&& 31))).toInt64)) * ((((((((L.1 2)) <<< ((4 : Int32) &&& 31))) >>> ((4 : Int32) &&& 31))).toInt64))))) σ) (fun r3 => some (r3.1, r3.2))))
  | k + 1, 1, L, σ => oc (y_X10_load__a5 k 0 (lI lZ 1 ((L.1 1))) σ) (fun r1 => oc (y_X10_load__a6 k 0 (lI lZ 1 ((L.1 2))) r1.2) (fun r2 => if ((r1.1 + r2.1)) ≤ 33 then (y_X10_product k 2 (lI (lI L 3 r1.1) 4 r2.1) r2.2) else (if r1.1 = 0 then (y_X10_product k 3 L r2.2) else (if r2.1 = 0 then (y_X10_product k 3 L r2.2) else (y_X10_product k 4 L r2.2)))))
  | k + 1, 2, L, σ => y_X10_product k 5 (lI L 5 0) σ
  | k + 1, 3, L, σ => y_X10_product k 6 (lI L 100 ((-1610612736))) σ
  | k + 1, 4, L, σ => y_X10_product k 6 (lI L 100 ((-268435451))) σ
  | k + 1, 5, L, σ => if ((((L.1 3)) + ((L.1 4)))) ≤ ((L.1 5)) then (y_X10_product k 7 L σ) else (if ¬ (((L.1 5)) < 0 ∨ 72 ≤ ((L.1 5)).toNatClampNeg) then (y_X10_product k 5 (lI L 5 ((((L.1 5)) + 1))) (uA σ 7 ((L.1 5)).toNatClampNeg 0)) else none)
  | k + 1, 6, L, σ => some ((L.1 100), σ)
  | k + 1, 7, L, σ => y_X10_product k 8 (lI L 5 0) σ
  | k + 1, 8, L, σ => if ((L.1 3)) ≤ ((L.1 5)) then (y_X10_product k 9 L σ) else (if ¬ (((L.1 5)) < 0 ∨ 72 ≤ ((L.1 5)).toNatClampNeg) then (y_X10_product k 10 (lI (lJ (lJ L 6 ((((((σ.2.2.1 5 ((L.1 5)).toNatClampNeg)).toInt64)) &&& 4294967295))) 8 0) 10 0) σ) else none)
  | k + 1, 9, L, σ => oc (y_X10_isBelow k 0 (lI lZ 1 ((L.1 1))) σ) (fun r1 => oc (y_X10_isBelow k 0 (lI lZ 1 ((L.1 2))) r1.2) (fun r2 => if r1.1 = r2.1 then (y_X10_product k 11 (lI L 100 ((((L.1 3)) + ((L.1 4))))) r2.2) else (y_X10_product k 12 (lI (lI L 100 1) 101 ((((L.1 3)) + ((L.1 4))))) r2.2)))
  | k + 1, 10, L, σ => if ((L.1 4)) ≤ ((L.1 10)) then (y_X10_product k 13 L σ) else (if ¬ (((L.1 10)) < 0 ∨ 72 ≤ ((L.1 10)).toNatClampNeg) then (if ¬ (((((L.1 5)) + ((L.1 10)))) < 0 ∨ 72 ≤ ((((L.1 5)) + ((L.1 10)))).toNatClampNeg) then (if ¬ (((((L.1 5)) + ((L.1 10)))) < 0 ∨ 72 ≤ ((((L.1 5)) + ((L.1 10)))).toNatClampNeg) then (y_X10_product k 10 (lI (lJ L 8 (((((((((L.2.1 8)) + ((((L.2.1 6)) * ((((((σ.2.2.1 6 ((L.1 10)).toNatClampNeg)).toInt64)) &&& 4294967295)))))) + ((((((σ.2.2.1 7 ((((L.1 5)) + ((L.1 10)))).toNatClampNeg)).toInt64)) &&& 4294967295)))).toUInt64 >>> ((32 : Int32).toInt64.toUInt64 &&& Int64.toUInt64 63)).toInt64))) 10 ((((L.1 10)) + 1))) (uA σ 7 ((((L.1 5)) + ((L.1 10)))).toNatClampNeg ((((((((L.2.1 8)) + ((((L.2.1 6)) * ((((((σ.2.2.1 6 ((L.1 10)).toNatClampNeg)).toInt64)) &&& 4294967295)))))) + ((((((σ.2.2.1 7 ((((L.1 5)) + ((L.1 10)))).toNatClampNeg)).toInt64)) &&& 4294967295)))).toInt32)))) else none) else none) else none)
  | k + 1, 11, L, σ => y_X10_product k 12 (lI (lI L 100 0) 101 ((L.1 100))) σ
  | k + 1, 12, L, σ => oc (y_X10_made k 0 (lI (lI lZ 1 ((L.1 101))) 2 ((L.1 100))) σ) (fun r1 => some (r1.1, r1.2))
  | k + 1, 13, L, σ => if ¬ (((((L.1 5)) + ((L.1 4)))) < 0 ∨ 72 ≤ ((((L.1 5)) + ((L.1 4)))).toNatClampNeg) then (y_X10_product k 8 (lI L 5 ((((L.1 5)) + 1))) (uA σ 7 ((((L.1 5)) + ((L.1 4)))).toNatClampNeg ((((L.2.1 8)).toInt32)))) else none
  | _ + 1, _ + 14, _, _ => none
def o_y_X10_product : List Cond := [.methodLink RX10 79 yX10_of, .instanceMethod yX10_of, .selects RX10 yX10_of yX10_of, .initialized RX10, .fieldLink RX10 9 "SetHouse$Wholes" "left" "[I", .methodLink RX10 64 yX10_load, .instanceMethod yX10_load, .selects RX10 yX10_load yX10_load, .fieldLink RX10 15 "SetHouse$Wholes" "right" "[I", .constant RX10 37 (-1610612736), .constant RX10 107 (-268435451), .fieldLink RX10 18 "SetHouse$Wholes" "result" "[I", .constantLong RX10 105 (4294967295), .methodLink RX10 68 yX10_isBelow, .instanceMethod yX10_isBelow, .selects RX10 yX10_isBelow yX10_isBelow, .methodLink RX10 72 yX10_made, .instanceMethod yX10_made, .selects RX10 yX10_made yX10_made]
theorem o_y_X10_product_good : o_y_X10_product.all goodWord = true := by decide +kernel
def p_y_X10_product : List Cond := o_y_X10_product ++ ((.code yX10_of cX10_of 5 (some .int) :: p_y_X10_of) ++ ((.code yX10_load cX10_load 4 (some .int) :: p_y_X10_load__a5) ++ ((.code yX10_load cX10_load 4 (some .int) :: p_y_X10_load__a6) ++ ((.code yX10_isBelow cX10_isBelow 2 (some .boolean) :: p_y_X10_isBelow) ++ ((.code yX10_made cX10_made 5 (some .int) :: p_y_X10_made) ++ [])))))
theorem p_y_X10_product_good : p_y_X10_product.all goodWord = true := nb_all2 o_y_X10_product_good (nb_all2 (nb_allc (by decide +kernel) p_y_X10_of_good) (nb_all2 (nb_allc (by decide +kernel) p_y_X10_load__a5_good) (nb_all2 (nb_allc (by decide +kernel) p_y_X10_load__a6_good) (nb_all2 (nb_allc (by decide +kernel) p_y_X10_isBelow_good) (nb_all2 (nb_allc (by decide +kernel) p_y_X10_made_good) rfl)))))
def w_y_X10_product : List Cond := .code yX10_product cX10_product 11 (some .int) :: (p_y_X10_product ++ fC)
theorem w_y_X10_product_good : w_y_X10_product.all goodWord = true := nb_allc (by decide +kernel) (nb_all2 p_y_X10_product_good fC_good)
theorem in_y_X10_product_X10 : ∀ w ∈ wsX100, w ∈ w_y_X10_product := fun _ h => List.mem_cons_of_mem _ (List.mem_append_right _ (List.mem_append_right _ (List.mem_append_right _ (List.mem_append_right _ (List.mem_append_right _ (List.mem_append_right _ (List.mem_append_right _ (List.mem_append_right _ (List.mem_append_right _ (List.mem_append_right _ (List.mem_append_left _ h)))))))))))
theorem hd_y_X10_product : yX10_product.cls = RX10 ∧ yX10_product.cls ≠ "java/lang/invoke/MethodHandle" ∧ yX10_product.cls ≠ "java/lang/invoke/VarHandle" ∧ (parseMethodDescriptor yX10_product.desc).map (fun d => d.parameters.length) = some 2 := by decide +kernel
theorem gg_y_X10_product_X10_isBelow : GoodIn w_y_X10_product w_y_X10_isBelow := goodIn_sub (fun w h => (List.mem_cons.mp h).elim (fun e => (List.mem_cons_of_mem _ (List.mem_append_left _ (List.mem_append_right _ (List.mem_append_right _ (List.mem_append_right _ (List.mem_append_right _ (List.mem_append_left _ (List.mem_cons.mpr (Or.inl e)))))))))) (fun h => (List.mem_append.mp h).elim (fun h => (List.mem_cons_of_mem _ (List.mem_append_left _ (List.mem_append_right _ (List.mem_append_right _ (List.mem_append_right _ (List.mem_append_right _ (List.mem_append_left _ (List.mem_cons_of_mem _ h))))))))) (fun h => List.mem_cons_of_mem _ (List.mem_append_right _ h)))) w_y_X10_isBelow_good
theorem g_y_X10_product_X10_isBelow_V68 : GoodIn w_y_X10_product (wsV RX10 68 RX10 yX10_isBelow w_y_X10_isBelow) := goodIn_app (nb_g4 (List.mem_cons_of_mem _ (List.mem_append_left _ (List.mem_append_left _ (List.mem_of_getElem? (i := 13) rfl)))) (List.mem_cons_of_mem _ (List.mem_append_left _ (List.mem_append_left _ (List.mem_of_getElem? (i := 14) rfl)))) (List.mem_cons_of_mem _ (List.mem_append_left _ (List.mem_append_left _ (List.mem_of_getElem? (i := 15) rfl)))) (List.mem_cons_of_mem _ (List.mem_append_left _ (List.mem_append_left _ (List.mem_of_getElem? (i := 3) rfl)))) (by decide +kernel)) gg_y_X10_product_X10_isBelow
theorem gg_y_X10_product_X10_load__a5 : GoodIn w_y_X10_product w_y_X10_load__a5 := goodIn_sub (fun w h => (List.mem_cons.mp h).elim (fun e => (List.mem_cons_of_mem _ (List.mem_append_left _ (List.mem_append_right _ (List.mem_append_right _ (List.mem_append_left _ (List.mem_cons.mpr (Or.inl e)))))))) (fun h => (List.mem_append.mp h).elim (fun h => (List.mem_cons_of_mem _ (List.mem_append_left _ (List.mem_append_right _ (List.mem_append_right _ (List.mem_append_left _ (List.mem_cons_of_mem _ h))))))) (fun h => List.mem_cons_of_mem _ (List.mem_append_right _ h)))) w_y_X10_load__a5_good
theorem g_y_X10_product_X10_load__a5_V64 : GoodIn w_y_X10_product (wsV RX10 64 RX10 yX10_load w_y_X10_load__a5) := goodIn_app (nb_g4 (List.mem_cons_of_mem _ (List.mem_append_left _ (List.mem_append_left _ (List.mem_of_getElem? (i := 5) rfl)))) (List.mem_cons_of_mem _ (List.mem_append_left _ (List.mem_append_left _ (List.mem_of_getElem? (i := 6) rfl)))) (List.mem_cons_of_mem _ (List.mem_append_left _ (List.mem_append_left _ (List.mem_of_getElem? (i := 7) rfl)))) (List.mem_cons_of_mem _ (List.mem_append_left _ (List.mem_append_left _ (List.mem_of_getElem? (i := 3) rfl)))) (by decide +kernel)) gg_y_X10_product_X10_load__a5
theorem gg_y_X10_product_X10_load__a6 : GoodIn w_y_X10_product w_y_X10_load__a6 := goodIn_sub (fun w h => (List.mem_cons.mp h).elim (fun e => (List.mem_cons_of_mem _ (List.mem_append_left _ (List.mem_append_right _ (List.mem_append_right _ (List.mem_append_right _ (List.mem_append_left _ (List.mem_cons.mpr (Or.inl e))))))))) (fun h => (List.mem_append.mp h).elim (fun h => (List.mem_cons_of_mem _ (List.mem_append_left _ (List.mem_append_right _ (List.mem_append_right _ (List.mem_append_right _ (List.mem_append_left _ (List.mem_cons_of_mem _ h)))))))) (fun h => List.mem_cons_of_mem _ (List.mem_append_right _ h)))) w_y_X10_load__a6_good
theorem g_y_X10_product_X10_load__a6_V64 : GoodIn w_y_X10_product (wsV RX10 64 RX10 yX10_load w_y_X10_load__a6) := goodIn_app (nb_g4 (List.mem_cons_of_mem _ (List.mem_append_left _ (List.mem_append_left _ (List.mem_of_getElem? (i := 5) rfl)))) (List.mem_cons_of_mem _ (List.mem_append_left _ (List.mem_append_left _ (List.mem_of_getElem? (i := 6) rfl)))) (List.mem_cons_of_mem _ (List.mem_append_left _ (List.mem_append_left _ (List.mem_of_getElem? (i := 7) rfl)))) (List.mem_cons_of_mem _ (List.mem_append_left _ (List.mem_append_left _ (List.mem_of_getElem? (i := 3) rfl)))) (by decide +kernel)) gg_y_X10_product_X10_load__a6
theorem gg_y_X10_product_X10_made : GoodIn w_y_X10_product w_y_X10_made := goodIn_sub (fun w h => (List.mem_cons.mp h).elim (fun e => (List.mem_cons_of_mem _ (List.mem_append_left _ (List.mem_append_right _ (List.mem_append_right _ (List.mem_append_right _ (List.mem_append_right _ (List.mem_append_right _ (List.mem_append_left _ (List.mem_cons.mpr (Or.inl e))))))))))) (fun h => (List.mem_append.mp h).elim (fun h => (List.mem_cons_of_mem _ (List.mem_append_left _ (List.mem_append_right _ (List.mem_append_right _ (List.mem_append_right _ (List.mem_append_right _ (List.mem_append_right _ (List.mem_append_left _ (List.mem_cons_of_mem _ h)))))))))) (fun h => List.mem_cons_of_mem _ (List.mem_append_right _ h)))) w_y_X10_made_good
theorem g_y_X10_product_X10_made_V72 : GoodIn w_y_X10_product (wsV RX10 72 RX10 yX10_made w_y_X10_made) := goodIn_app (nb_g4 (List.mem_cons_of_mem _ (List.mem_append_left _ (List.mem_append_left _ (List.mem_of_getElem? (i := 16) rfl)))) (List.mem_cons_of_mem _ (List.mem_append_left _ (List.mem_append_left _ (List.mem_of_getElem? (i := 17) rfl)))) (List.mem_cons_of_mem _ (List.mem_append_left _ (List.mem_append_left _ (List.mem_of_getElem? (i := 18) rfl)))) (List.mem_cons_of_mem _ (List.mem_append_left _ (List.mem_append_left _ (List.mem_of_getElem? (i := 3) rfl)))) (by decide +kernel)) gg_y_X10_product_X10_made
theorem gg_y_X10_product_X10_of : GoodIn w_y_X10_product w_y_X10_of := goodIn_sub (fun w h => (List.mem_cons.mp h).elim (fun e => (List.mem_cons_of_mem _ (List.mem_append_left _ (List.mem_append_right _ (List.mem_append_left _ (List.mem_cons.mpr (Or.inl e))))))) (fun h => (List.mem_append.mp h).elim (fun h => (List.mem_cons_of_mem _ (List.mem_append_left _ (List.mem_append_right _ (List.mem_append_left _ (List.mem_cons_of_mem _ h)))))) (fun h => List.mem_cons_of_mem _ (List.mem_append_right _ h)))) w_y_X10_of_good
theorem g_y_X10_product_X10_of_V79 : GoodIn w_y_X10_product (wsV RX10 79 RX10 yX10_of w_y_X10_of) := goodIn_app (nb_g4 (List.mem_cons_of_mem _ (List.mem_append_left _ (List.mem_append_left _ (List.mem_of_getElem? (i := 0) rfl)))) (List.mem_cons_of_mem _ (List.mem_append_left _ (List.mem_append_left _ (List.mem_of_getElem? (i := 1) rfl)))) (List.mem_cons_of_mem _ (List.mem_append_left _ (List.mem_append_left _ (List.mem_of_getElem? (i := 2) rfl)))) (List.mem_cons_of_mem _ (List.mem_append_left _ (List.mem_append_left _ (List.mem_of_getElem? (i := 3) rfl)))) (by decide +kernel)) gg_y_X10_product_X10_of
set_option maxHeartbeats 40000000 in
set_option maxRecDepth 100000 in
theorem c_y_X10_product (l : Launch) (dC : Nat → ClassId) (dI : Nat → Nat → Nat) (cy : Nat → ClassId) (a z : Nat → Nat) (k0 : Nat) (L0 : LV) (σ0 : CS) (r0 : Int32 × CS) (h0 : y_X10_product k0 0 L0 σ0 = some r0) (sz : Nat) : Met l yX10_product w_y_X10_product ({ frames := 3, cells := 0, slots := 0, locals := 108 }) (va_Pc [.ref (a 4), .int (L0.1 1), .int (L0.1 2)] (nIn (dC, dI) cy sz (vC cy a z σ0))) (va_Qi (fun (x : Int32) (_ : Unit) => x = r0.1) (fun _ t => nOut (dC, dI) cy (va_A (vC cy a z σ0) sz) (vC cy a z r0.2) t) (va_A (vC cy a z σ0) sz)) 0 0 (va_A (vC cy a z σ0) sz) := by
  refine Met.ofW (cc := cX10_product) (maxL := 11) (ret := (some .int)) (by decide) rfl ?_
  intro p e s m args below meth c s₁ B hml hv
  obtain ⟨rfl, hsz, hP, hK, hD0, hG⟩ := hv
  have hx := B.exec
  have hb := B.bytes
  have hr := B.returns
  have hts := atoms_spec (ws := w_y_X10_product) B.pre
  have hown : s.vm.findClass RX10 = some m.cls := findClass_of_methodNamed B.named
  have hlocks := B.notSynchronized
  subst hsz
  have hD := hD0.self (sz := s.heap.size)
  generalize hAe : va_A (vC cy a z σ0) s.heap.size = A at hD ⊢
  have hA : ∀ q : Nat, s.heap.size ≤ q → A q := fun q h => by rw [← hAe]; exact Or.inr h
  have hS : va_S A s.heap s.heap [] := va_S.rf
  have hl := lv_entry ([.ref (a 4), .int (L0.1 1), .int (L0.1 2)]) (n := 11) (Nat.le_of_ble_eq_true rfl)
  rw [lg_entry_eq]
  generalize (lg_sl ([.ref (a 4), .int (L0.1 1), .int (L0.1 2)]) ++ List.replicate (11 - (lg_sl ([.ref (a 4), .int (L0.1 1), .int (L0.1 2)])).length) Slot.unset).toArray = ls at hl ⊢
  have hl : lv_has ls 11 [(0, .ref (a 4)), (1, .int (L0.1 1)), (2, .int (L0.1 2))] := hl
  have blk : ∀ k : Nat, (bC p l e (headSpec w_y_X10_product ({ frames := 3, cells := 0, slots := 0, locals := 108 })).room s m #[.ref (a 4), .int (L0.1 1), .int (L0.1 2)] below meth c dC dI cy a z A (kI dC dI cy a z A below #[.ref (a 4), .int (L0.1 1), .int (L0.1 2)] s) 11 (y_X10_product k 0) (fun L => [(0, .ref (a 4)), (1, .int (L.1 1)), (2, .int (L.1 2))]) 0 (fun L => [])) ∧ (bC p l e (headSpec w_y_X10_product ({ frames := 3, cells := 0, slots := 0, locals := 108 })).room s m #[.ref (a 4), .int (L0.1 1), .int (L0.1 2)] below meth c dC dI cy a z A (kI dC dI cy a z A below #[.ref (a 4), .int (L0.1 1), .int (L0.1 2)] s) 11 (y_X10_product k 1) (fun L => [(0, .ref (a 4)), (1, .int (L.1 1)), (2, .int (L.1 2))]) 26 (fun L => [])) ∧ (bC p l e (headSpec w_y_X10_product ({ frames := 3, cells := 0, slots := 0, locals := 108 })).room s m #[.ref (a 4), .int (L0.1 1), .int (L0.1 2)] below meth c dC dI cy a z A (kI dC dI cy a z A below #[.ref (a 4), .int (L0.1 1), .int (L0.1 2)] s) 11 (y_X10_product k 2) (fun L => [(0, .ref (a 4)), (1, .int (L.1 1)), (2, .int (L.1 2)), (3, .int (L.1 3)), (4, .int (L.1 4))]) 73 (fun L => [])) ∧ (bC p l e (headSpec w_y_X10_product ({ frames := 3, cells := 0, slots := 0, locals := 108 })).room s m #[.ref (a 4), .int (L0.1 1), .int (L0.1 2)] below meth c dC dI cy a z A (kI dC dI cy a z A below #[.ref (a 4), .int (L0.1 1), .int (L0.1 2)] s) 11 (y_X10_product k 3) (fun L => []) 65 (fun L => [])) ∧ (bC p l e (headSpec w_y_X10_product ({ frames := 3, cells := 0, slots := 0, locals := 108 })).room s m #[.ref (a 4), .int (L0.1 1), .int (L0.1 2)] below meth c dC dI cy a z A (kI dC dI cy a z A below #[.ref (a 4), .int (L0.1 1), .int (L0.1 2)] s) 11 (y_X10_product k 4) (fun L => []) 70 (fun L => [])) ∧ (bC p l e (headSpec w_y_X10_product ({ frames := 3, cells := 0, slots := 0, locals := 108 })).room s m #[.ref (a 4), .int (L0.1 1), .int (L0.1 2)] below meth c dC dI cy a z A (kI dC dI cy a z A below #[.ref (a 4), .int (L0.1 1), .int (L0.1 2)] s) 11 (y_X10_product k 5) (fun L => [(0, .ref (a 4)), (1, .int (L.1 1)), (2, .int (L.1 2)), (3, .int (L.1 3)), (4, .int (L.1 4)), (5, .int (L.1 5))]) 76 (fun L => [])) ∧ (bC p l e (headSpec w_y_X10_product ({ frames := 3, cells := 0, slots := 0, locals := 108 })).room s m #[.ref (a 4), .int (L0.1 1), .int (L0.1 2)] below meth c dC dI cy a z A (kI dC dI cy a z A below #[.ref (a 4), .int (L0.1 1), .int (L0.1 2)] s) 11 (y_X10_product k 6) (fun L => []) 72 (fun L => [.int (L.1 100)])) ∧ (bC p l e (headSpec w_y_X10_product ({ frames := 3, cells := 0, slots := 0, locals := 108 })).room s m #[.ref (a 4), .int (L0.1 1), .int (L0.1 2)] below meth c dC dI cy a z A (kI dC dI cy a z A below #[.ref (a 4), .int (L0.1 1), .int (L0.1 2)] s) 11 (y_X10_product k 7) (fun L => [(0, .ref (a 4)), (1, .int (L.1 1)), (2, .int (L.1 2)), (3, .int (L.1 3)), (4, .int (L.1 4))]) 99 (fun L => [])) ∧ (bC p l e (headSpec w_y_X10_product ({ frames := 3, cells := 0, slots := 0, locals := 108 })).room s m #[.ref (a 4), .int (L0.1 1), .int (L0.1 2)] below meth c dC dI cy a z A (kI dC dI cy a z A below #[.ref (a 4), .int (L0.1 1), .int (L0.1 2)] s) 11 (y_X10_product k 8) (fun L => [(0, .ref (a 4)), (1, .int (L.1 1)), (2, .int (L.1 2)), (3, .int (L.1 3)), (4, .int (L.1 4)), (5, .int (L.1 5))]) 102 (fun L => [])) ∧ (bC p l e (headSpec w_y_X10_product ({ frames := 3, cells := 0, slots := 0, locals := 108 })).room s m #[.ref (a 4), .int (L0.1 1), .int (L0.1 2)] below meth c dC dI cy a z A (kI dC dI cy a z A below #[.ref (a 4), .int (L0.1 1), .int (L0.1 2)] s) 11 (y_X10_product k 9) (fun L => [(0, .ref (a 4)), (1, .int (L.1 1)), (2, .int (L.1 2)), (3, .int (L.1 3)), (4, .int (L.1 4))]) 216 (fun L => [])) ∧ (bC p l e (headSpec w_y_X10_product ({ frames := 3, cells := 0, slots := 0, locals := 108 })).room s m #[.ref (a 4), .int (L0.1 1), .int (L0.1 2)] below meth c dC dI cy a z A (kI dC dI cy a z A below #[.ref (a 4), .int (L0.1 1), .int (L0.1 2)] s) 11 (y_X10_product k 10) (fun L => [(0, .ref (a 4)), (1, .int (L.1 1)), (2, .int (L.1 2)), (3, .int (L.1 3)), (4, .int (L.1 4)), (5, .int (L.1 5)), (6, .long (L.2.1 6)), (8, .long (L.2.1 8)), (10, .int (L.1 10))]) 128 (fun L => [])) ∧ (bC p l e (headSpec w_y_X10_product ({ frames := 3, cells := 0, slots := 0, locals := 108 })).room s m #[.ref (a 4), .int (L0.1 1), .int (L0.1 2)] below meth c dC dI cy a z A (kI dC dI cy a z A below #[.ref (a 4), .int (L0.1 1), .int (L0.1 2)] s) 11 (y_X10_product k 11) (fun L => []) 238 (fun L => [.int (L.1 100), .ref (a 4)])) ∧ (bC p l e (headSpec w_y_X10_product ({ frames := 3, cells := 0, slots := 0, locals := 108 })).room s m #[.ref (a 4), .int (L0.1 1), .int (L0.1 2)] below meth c dC dI cy a z A (kI dC dI cy a z A below #[.ref (a 4), .int (L0.1 1), .int (L0.1 2)] s) 11 (y_X10_product k 12) (fun L => []) 239 (fun L => [.int (L.1 100), .int (L.1 101), .ref (a 4)])) ∧ (bC p l e (headSpec w_y_X10_product ({ frames := 3, cells := 0, slots := 0, locals := 108 })).room s m #[.ref (a 4), .int (L0.1 1), .int (L0.1 2)] below meth c dC dI cy a z A (kI dC dI cy a z A below #[.ref (a 4), .int (L0.1 1), .int (L0.1 2)] s) 11 (y_X10_product k 13) (fun L => [(0, .ref (a 4)), (1, .int (L.1 1)), (2, .int (L.1 2)), (3, .int (L.1 3)), (4, .int (L.1 4)), (5, .int (L.1 5)), (8, .long (L.2.1 8))]) 197 (fun L => [])) := by
    intro k
    induction k with
    | zero => exact ⟨fun L σ r h => (by cases h), fun L σ r h => (by cases h), fun L σ r h => (by cases h), fun L σ r h => (by cases h), fun L σ r h => (by cases h), fun L σ r h => (by cases h), fun L σ r h => (by cases h), fun L σ r h => (by cases h), fun L σ r h => (by cases h), fun L σ r h => (by cases h), fun L σ r h => (by cases h), fun L σ r h => (by cases h), fun L σ r h => (by cases h), fun L σ r h => (by cases h)⟩
    | succ k ih =>
      refine ⟨?_, ?_, ?_, ?_, ?_, ?_, ?_, ?_, ?_, ?_, ?_, ?_, ?_, ?_⟩
      · intro L σ r h H locs ls hP hD hS hl
        rw [y_X10_product] at h
        refine lv_iload_n hx hb dX10_product_0 rfl (lv_at hl 1 rfl) ?_
        refine lv_if_ge (tgt := 26) hx hb dX10_product_1 (by decide) (fun c1 => ?_) (fun c1 => ?_)
        · rw [if_pos c1] at h
          exact ih.2.1 L σ r h H locs ls hP hD hS (lv_sub hl [0, 1, 2] rfl)
        · rw [if_neg c1] at h
          refine lv_iload_n hx hb dX10_product_4 rfl (lv_at hl 2 rfl) ?_
          refine lv_if_ge (tgt := 26) hx hb dX10_product_5 (by decide) (fun c2 => ?_) (fun c2 => ?_)
          · rw [if_pos c2] at h
            exact ih.2.1 L σ r h H locs ls hP hD hS (lv_sub hl [0, 1, 2] rfl)
          · rw [if_neg c2] at h
            refine lv_aload_n hx hb dX10_product_8 rfl (lv_at hl 0 rfl) ?_
            refine lv_iload_n hx hb dX10_product_9 rfl (lv_at hl 1 rfl) ?_
            refine lv_iconst (v := 4) hx hb dX10_product_10 (by decide) ?_
            refine lv_ishl hx hb dX10_product_11 ?_
            refine lv_iconst (v := 4) hx hb dX10_product_12 (by decide) ?_
            refine lv_ishr hx hb dX10_product_13 ?_
            refine lv_i2l (v := ((((((L.1 1)) <<< ((4 : Int32) &&& 31))) >>> ((4 : Int32) &&& 31))).toInt64) hx hb dX10_product_14 rfl ?_
            refine lv_iload_n hx hb dX10_product_15 rfl (lv_at hl 2 rfl) ?_
            refine lv_iconst (v := 4) hx hb dX10_product_16 (by decide) ?_
            refine lv_ishl hx hb dX10_product_17 ?_
            refine lv_iconst (v := 4) hx hb dX10_product_18 (by decide) ?_
            refine lv_ishr hx hb dX10_product_19 ?_
            refine lv_i2l (v := ((((((L.1 2)) <<< ((4 : Int32) &&& 31))) >>> ((4 : Int32) &&& 31))).toInt64) hx hb dX10_product_20 rfl ?_
            refine lv_lmul hx hb dX10_product_21 ?_
            obtain ⟨r3, hc3, h⟩ := oc_ex h
            refine kc_i (va_runV (As := [.long (((((((((L.1 1)) <<< ((4 : Int32) &&& 31))) >>> ((4 : Int32) &&& 31))).toInt64)) * ((((((((L.1 2)) <<< ((4 : Int32) &&& 31))) >>> ((4 : Int32) &&& 31))).toInt64)))]) (rest := []) ⟨hx, hb, hml, hown, hts⟩ (c_y_X10_of l dC dI cy a z k (lJ lZ 1 ((((((((((L.1 1)) <<< ((4 : Int32) &&& 31))) >>> ((4 : Int32) &&& 31))).toInt64)) * ((((((((L.1 2)) <<< ((4 : Int32) &&& 31))) >>> ((4 : Int32) &&& 31))).toInt64))))) σ r3 hc3 H.size) (cwV 1 hts g_y_X10_product_X10_of_V79 rfl rfl rfl hd_y_X10_of ⟨Nat.le_of_ble_eq_true rfl, Nat.le_of_ble_eq_true rfl⟩) ⟨nb_blind, va_recv hK hP (ci := 9) (q0 := 4) rfl rfl, (kb_pre hK hG hP hD)⟩ rfl rfl hl.1 rfl (lv_room (Nat.le_of_ble_eq_true rfl)) dX10_product_22 ⟨Nat.le_refl _, Nat.le_refl _⟩) hA hP hD hS (fun H locs hP hD hS => ?_)
            obtain rfl := Option.some.inj h
            exact W.iret (v := r3.1) hx hb hr (fun t ht hW => ⟨⟨r3.1, (), rfl, rfl, by rw [ht]; exact hP, va_K.moved hW.alike hK, hD⟩, hS.F ht⟩) hS.2.2 dX10_product_25
      · intro L σ r h H locs ls hP hD hS hl
        rw [y_X10_product] at h
        refine lv_aload_n hx hb dX10_product_26 rfl (lv_at hl 0 rfl) ?_
        refine lv_iload_n hx hb dX10_product_27 rfl (lv_at hl 1 rfl) ?_
        refine lv_aload_n hx hb dX10_product_28 rfl (lv_at hl 0 rfl) ?_
        refine hg_4_1 hx hb hts in_y_X10_product_X10 hown hK hP (hts _ (List.mem_cons_of_mem _ (List.mem_append_left _ (List.mem_append_left _ (List.mem_of_getElem? (i := 4) rfl))))) dX10_product_29 ?_
        obtain ⟨r1, hc1, h⟩ := oc_ex h
        refine kc_i (va_runV (As := [.int (L.1 1), .ref (a 5)]) (rest := []) ⟨hx, hb, hml, hown, hts⟩ (c_y_X10_load__a5 l dC dI cy a z k (lI lZ 1 ((L.1 1))) σ r1 hc1 H.size) (cwV 2 hts g_y_X10_product_X10_load__a5_V64 rfl rfl rfl hd_y_X10_load__a5 ⟨Nat.le_of_ble_eq_true rfl, Nat.le_of_ble_eq_true rfl⟩) ⟨nb_blind, va_recv hK hP (ci := 9) (q0 := 4) rfl rfl, (kb_pre hK hG hP hD)⟩ rfl rfl hl.1 rfl (lv_room (Nat.le_of_ble_eq_true rfl)) dX10_product_32 ⟨Nat.le_refl _, Nat.le_refl _⟩) hA hP hD hS (fun H locs hP hD hS => ?_)
        refine lv_istore_n (lv' := [(3, .int r1.1), (0, .ref (a 4)), (1, .int (L.1 1)), (2, .int (L.1 2))]) hx hb dX10_product_35 rfl hl (by decide) rfl (fun ls hl => ?_)
        refine lv_aload_n hx hb dX10_product_36 rfl (lv_at hl 1 rfl) ?_
        refine lv_iload_n hx hb dX10_product_37 rfl (lv_at hl 3 rfl) ?_
        refine lv_aload_n hx hb dX10_product_38 rfl (lv_at hl 1 rfl) ?_
        refine hg_4_2 hx hb hts in_y_X10_product_X10 hown hK hP (hts _ (List.mem_cons_of_mem _ (List.mem_append_left _ (List.mem_append_left _ (List.mem_of_getElem? (i := 8) rfl))))) dX10_product_39 ?_
        obtain ⟨r2, hc2, h⟩ := oc_ex h
        refine kc_i (va_runV (As := [.int (L.1 2), .ref (a 6)]) (rest := []) ⟨hx, hb, hml, hown, hts⟩ (c_y_X10_load__a6 l dC dI cy a z k (lI lZ 1 ((L.1 2))) r1.2 r2 hc2 H.size) (cwV 2 hts g_y_X10_product_X10_load__a6_V64 rfl rfl rfl hd_y_X10_load__a6 ⟨Nat.le_of_ble_eq_true rfl, Nat.le_of_ble_eq_true rfl⟩) ⟨nb_blind, va_recv hK hP (ci := 9) (q0 := 4) rfl rfl, (kb_pre hK hG hP hD)⟩ rfl rfl hl.1 rfl (lv_room (Nat.le_of_ble_eq_true rfl)) dX10_product_42 ⟨Nat.le_refl _, Nat.le_refl _⟩) hA hP hD hS (fun H locs hP hD hS => ?_)
        refine lv_istore (lv' := [(4, .int r2.1), (3, .int r1.1), (0, .ref (a 4)), (1, .int (L.1 1)), (2, .int (L.1 2))]) hx hb dX10_product_45 hl (by decide) rfl (fun ls hl => ?_)
        refine lv_iload_n hx hb dX10_product_47 rfl (lv_at hl 1 rfl) ?_
        refine lv_iload hx hb dX10_product_48 (lv_at hl 0 rfl) ?_
        refine lv_iadd hx hb dX10_product_50 ?_
        refine lv_bipush (v := 33) hx hb dX10_product_51 (by decide) ?_
        refine lv_icmp_le (tgt := 73) hx hb dX10_product_53 (by decide) (fun c3 => ?_) (fun c3 => ?_)
        · rw [if_pos c3] at h
          exact ih.2.2.1 (lI (lI L 3 r1.1) 4 r2.1) r2.2 r h H locs ls hP hD hS (lv_sub hl [2, 3, 4, 1, 0] rfl)
        · rw [if_neg c3] at h
          refine lv_iload_n hx hb dX10_product_56 rfl (lv_at hl 1 rfl) ?_
          refine lv_if_eq (tgt := 65) hx hb dX10_product_57 (by decide) (fun c4 => ?_) (fun c4 => ?_)
          · rw [if_pos c4] at h
            exact ih.2.2.2.1 L r2.2 r h H locs ls hP hD hS (lv_sub hl [] rfl)
          · rw [if_neg c4] at h
            refine lv_iload hx hb dX10_product_60 (lv_at hl 0 rfl) ?_
            refine lv_if_ne (tgt := 70) hx hb dX10_product_62 (by decide) (fun c5 => ?_) (fun c5 => ?_)
            · rw [if_neg c5] at h
              exact ih.2.2.2.2.1 L r2.2 r h H locs ls hP hD hS (lv_sub hl [] rfl)
            · rw [if_pos c5] at h
              exact ih.2.2.2.1 L r2.2 r h H locs ls hP hD hS (lv_sub hl [] rfl)
      · intro L σ r h H locs ls hP hD hS hl
        rw [y_X10_product] at h
        refine lv_iconst (v := 0) hx hb dX10_product_73 (by decide) ?_
        refine lv_istore (lv' := [(5, .int 0), (0, .ref (a 4)), (1, .int (L.1 1)), (2, .int (L.1 2)), (3, .int (L.1 3)), (4, .int (L.1 4))]) hx hb dX10_product_74 hl (by decide) rfl (fun ls hl => ?_)
        exact ih.2.2.2.2.2.1 (lI L 5 0) σ r h H locs ls hP hD hS (lv_sub hl [1, 2, 3, 4, 5, 0] rfl)
      · intro L σ r h H locs ls hP hD hS hl
        rw [y_X10_product] at h
        refine lv_ldc (v := (-1610612736)) hx hb hown (hts _ (List.mem_cons_of_mem _ (List.mem_append_left _ (List.mem_append_left _ (List.mem_of_getElem? (i := 9) rfl))))) dX10_product_65 ?_
        refine lv_goto (tgt := 72) hx hb dX10_product_67 (by decide) ?_
        exact ih.2.2.2.2.2.2.1 (lI L 100 ((-1610612736))) σ r h H locs ls hP hD hS (lv_sub hl [] rfl)
      · intro L σ r h H locs ls hP hD hS hl
        rw [y_X10_product] at h
        refine lv_ldc (v := (-268435451)) hx hb hown (hts _ (List.mem_cons_of_mem _ (List.mem_append_left _ (List.mem_append_left _ (List.mem_of_getElem? (i := 10) rfl))))) dX10_product_70 ?_
        exact ih.2.2.2.2.2.2.1 (lI L 100 ((-268435451))) σ r h H locs ls hP hD hS (lv_sub hl [] rfl)
      · intro L σ r h H locs ls hP hD hS hl
        rw [y_X10_product] at h
        refine lv_iload hx hb dX10_product_76 (lv_at hl 5 rfl) ?_
        refine lv_iload_n hx hb dX10_product_78 rfl (lv_at hl 3 rfl) ?_
        refine lv_iload hx hb dX10_product_79 (lv_at hl 4 rfl) ?_
        refine lv_iadd hx hb dX10_product_81 ?_
        refine lv_icmp_ge (tgt := 99) hx hb dX10_product_82 (by decide) (fun c1 => ?_) (fun c1 => ?_)
        · rw [if_pos c1] at h
          exact ih.2.2.2.2.2.2.2.1 L σ r h H locs ls hP hD hS (lv_sub hl [0, 1, 2, 3, 4] rfl)
        · rw [if_neg c1] at h
          refine lv_aload_n hx hb dX10_product_85 rfl (lv_at hl 0 rfl) ?_
          refine hg_4_3 hx hb hts in_y_X10_product_X10 hown hK hP (hts _ (List.mem_cons_of_mem _ (List.mem_append_left _ (List.mem_append_left _ (List.mem_of_getElem? (i := 11) rfl))))) dX10_product_86 ?_
          refine lv_iload hx hb dX10_product_89 (lv_at hl 5 rfl) ?_
          refine lv_iconst (v := 0) hx hb dX10_product_91 (by decide) ?_
          obtain ⟨q2, h⟩ := kb_ite1 h
          refine hs_7 hx hb hK hP hD hS q2 dX10_product_92 (fun H locs hP hD hS => ?_)
          refine lv_iinc (v := ((L.1 5)) + 1) (lv' := [(5, .int (((L.1 5)) + 1)), (0, .ref (a 4)), (1, .int (L.1 1)), (2, .int (L.1 2)), (3, .int (L.1 3)), (4, .int (L.1 4))]) hx hb dX10_product_93 hl (k := 5) rfl rfl (by decide) rfl (fun ls hl => ?_)
          refine lv_goto (tgt := 76) hx hb dX10_product_96 (by decide) ?_
          exact ih.2.2.2.2.2.1 (lI L 5 ((((L.1 5)) + 1))) (uA σ 7 ((L.1 5)).toNatClampNeg 0) r h H locs ls hP hD hS (lv_sub hl [1, 2, 3, 4, 5, 0] rfl)
      · intro L σ r h H locs ls hP hD hS hl
        rw [y_X10_product] at h
        obtain rfl := Option.some.inj h
        exact W.iret (v := (L.1 100)) hx hb hr (fun t ht hW => ⟨⟨(L.1 100), (), rfl, rfl, by rw [ht]; exact hP, va_K.moved hW.alike hK, hD⟩, hS.F ht⟩) hS.2.2 dX10_product_72
      · intro L σ r h H locs ls hP hD hS hl
        rw [y_X10_product] at h
        refine lv_iconst (v := 0) hx hb dX10_product_99 (by decide) ?_
        refine lv_istore (lv' := [(5, .int 0), (0, .ref (a 4)), (1, .int (L.1 1)), (2, .int (L.1 2)), (3, .int (L.1 3)), (4, .int (L.1 4))]) hx hb dX10_product_100 hl (by decide) rfl (fun ls hl => ?_)
        exact ih.2.2.2.2.2.2.2.2.1 (lI L 5 0) σ r h H locs ls hP hD hS (lv_sub hl [1, 2, 3, 4, 5, 0] rfl)
      · intro L σ r h H locs ls hP hD hS hl
        rw [y_X10_product] at h
        refine lv_iload hx hb dX10_product_102 (lv_at hl 5 rfl) ?_
        refine lv_iload_n hx hb dX10_product_104 rfl (lv_at hl 3 rfl) ?_
        refine lv_icmp_ge (tgt := 216) hx hb dX10_product_105 (by decide) (fun c1 => ?_) (fun c1 => ?_)
        · rw [if_pos c1] at h
          exact ih.2.2.2.2.2.2.2.2.2.1 L σ r h H locs ls hP hD hS (lv_sub hl [0, 1, 2, 3, 4] rfl)
        · rw [if_neg c1] at h
          refine lv_aload_n hx hb dX10_product_108 rfl (lv_at hl 0 rfl) ?_
          refine hg_4_1 hx hb hts in_y_X10_product_X10 hown hK hP (hts _ (List.mem_cons_of_mem _ (List.mem_append_left _ (List.mem_append_left _ (List.mem_of_getElem? (i := 4) rfl))))) dX10_product_109 ?_
          refine lv_iload hx hb dX10_product_112 (lv_at hl 5 rfl) ?_
          obtain ⟨q2, h⟩ := kb_ite1 h
          refine hl_5 hx hb hK hP q2 dX10_product_114 ?_
          refine lv_i2l (v := ((σ.2.2.1 5 ((L.1 5)).toNatClampNeg)).toInt64) hx hb dX10_product_115 rfl ?_
          refine lv_ldc2 (v := 4294967295) hx hb hown (hts _ (List.mem_cons_of_mem _ (List.mem_append_left _ (List.mem_append_left _ (List.mem_of_getElem? (i := 12) rfl))))) dX10_product_116 ?_
          refine lv_land hx hb dX10_product_119 ?_
          refine lv_lstore (lv' := [(6, .long (((((σ.2.2.1 5 ((L.1 5)).toNatClampNeg)).toInt64)) &&& 4294967295)), (0, .ref (a 4)), (1, .int (L.1 1)), (2, .int (L.1 2)), (3, .int (L.1 3)), (4, .int (L.1 4)), (5, .int (L.1 5))]) hx hb dX10_product_120 hl (by decide) rfl (fun ls hl => ?_)
          refine lv_lconst (v := 0) hx hb dX10_product_122 (by decide) ?_
          refine lv_lstore (lv' := [(8, .long 0), (6, .long (((((σ.2.2.1 5 ((L.1 5)).toNatClampNeg)).toInt64)) &&& 4294967295)), (0, .ref (a 4)), (1, .int (L.1 1)), (2, .int (L.1 2)), (3, .int (L.1 3)), (4, .int (L.1 4)), (5, .int (L.1 5))]) hx hb dX10_product_123 hl (by decide) rfl (fun ls hl => ?_)
          refine lv_iconst (v := 0) hx hb dX10_product_125 (by decide) ?_
          refine lv_istore (lv' := [(10, .int 0), (8, .long 0), (6, .long (((((σ.2.2.1 5 ((L.1 5)).toNatClampNeg)).toInt64)) &&& 4294967295)), (0, .ref (a 4)), (1, .int (L.1 1)), (2, .int (L.1 2)), (3, .int (L.1 3)), (4, .int (L.1 4)), (5, .int (L.1 5))]) hx hb dX10_product_126 hl (by decide) rfl (fun ls hl => ?_)
          exact ih.2.2.2.2.2.2.2.2.2.2.1 (lI (lJ (lJ L 6 ((((((σ.2.2.1 5 ((L.1 5)).toNatClampNeg)).toInt64)) &&& 4294967295))) 8 0) 10 0) σ r h H locs ls hP hD hS (lv_sub hl [3, 4, 5, 6, 7, 8, 2, 1, 0] rfl)
      · intro L σ r h H locs ls hP hD hS hl
        rw [y_X10_product] at h
        refine lv_aload_n hx hb dX10_product_216 rfl (lv_at hl 0 rfl) ?_
        refine lv_iload_n hx hb dX10_product_217 rfl (lv_at hl 3 rfl) ?_
        refine lv_iload hx hb dX10_product_218 (lv_at hl 4 rfl) ?_
        refine lv_iadd hx hb dX10_product_220 ?_
        refine lv_aload_n hx hb dX10_product_221 rfl (lv_at hl 0 rfl) ?_
        refine lv_iload_n hx hb dX10_product_222 rfl (lv_at hl 1 rfl) ?_
        obtain ⟨r1, hc1, h⟩ := oc_ex h
        refine kc_i (va_runV (As := [.int (L.1 1)]) (rest := [.int (((L.1 3)) + ((L.1 4))), .ref (a 4)]) ⟨hx, hb, hml, hown, hts⟩ (c_y_X10_isBelow l dC dI cy a z k (lI lZ 1 ((L.1 1))) σ r1 hc1 H.size) (cwV 1 hts g_y_X10_product_X10_isBelow_V68 rfl rfl rfl hd_y_X10_isBelow ⟨Nat.le_of_ble_eq_true rfl, Nat.le_of_ble_eq_true rfl⟩) ⟨nb_blind, va_recv hK hP (ci := 9) (q0 := 4) rfl rfl, (kb_pre hK hG hP hD)⟩ rfl rfl hl.1 rfl (lv_room (Nat.le_of_ble_eq_true rfl)) dX10_product_223 ⟨Nat.le_refl _, Nat.le_refl _⟩) hA hP hD hS (fun H locs hP hD hS => ?_)
        refine lv_aload_n hx hb dX10_product_226 rfl (lv_at hl 0 rfl) ?_
        refine lv_iload_n hx hb dX10_product_227 rfl (lv_at hl 2 rfl) ?_
        obtain ⟨r2, hc2, h⟩ := oc_ex h
        refine kc_i (va_runV (As := [.int (L.1 2)]) (rest := [.int r1.1, .int (((L.1 3)) + ((L.1 4))), .ref (a 4)]) ⟨hx, hb, hml, hown, hts⟩ (c_y_X10_isBelow l dC dI cy a z k (lI lZ 1 ((L.1 2))) r1.2 r2 hc2 H.size) (cwV 1 hts g_y_X10_product_X10_isBelow_V68 rfl rfl rfl hd_y_X10_isBelow ⟨Nat.le_of_ble_eq_true rfl, Nat.le_of_ble_eq_true rfl⟩) ⟨nb_blind, va_recv hK hP (ci := 9) (q0 := 4) rfl rfl, (kb_pre hK hG hP hD)⟩ rfl rfl hl.1 rfl (lv_room (Nat.le_of_ble_eq_true rfl)) dX10_product_228 ⟨Nat.le_refl _, Nat.le_refl _⟩) hA hP hD hS (fun H locs hP hD hS => ?_)
        refine lv_icmp_eq (tgt := 238) hx hb dX10_product_231 (by decide) (fun c3 => ?_) (fun c3 => ?_)
        · rw [if_pos c3] at h
          exact ih.2.2.2.2.2.2.2.2.2.2.2.1 (lI L 100 ((((L.1 3)) + ((L.1 4))))) r2.2 r h H locs ls hP hD hS (lv_sub hl [] rfl)
        · rw [if_neg c3] at h
          refine lv_iconst (v := 1) hx hb dX10_product_234 (by decide) ?_
          refine lv_goto (tgt := 239) hx hb dX10_product_235 (by decide) ?_
          exact ih.2.2.2.2.2.2.2.2.2.2.2.2.1 (lI (lI L 100 1) 101 ((((L.1 3)) + ((L.1 4))))) r2.2 r h H locs ls hP hD hS (lv_sub hl [] rfl)
      · intro L σ r h H locs ls hP hD hS hl
        rw [y_X10_product] at h
        refine lv_iload hx hb dX10_product_128 (lv_at hl 8 rfl) ?_
        refine lv_iload hx hb dX10_product_130 (lv_at hl 4 rfl) ?_
        refine lv_icmp_ge (tgt := 197) hx hb dX10_product_132 (by decide) (fun c1 => ?_) (fun c1 => ?_)
        · rw [if_pos c1] at h
          exact ih.2.2.2.2.2.2.2.2.2.2.2.2.2 L σ r h H locs ls hP hD hS (lv_sub hl [0, 1, 2, 3, 4, 5, 7] rfl)
        · rw [if_neg c1] at h
          refine lv_lload hx hb dX10_product_135 (lv_at hl 7 rfl) ?_
          refine lv_lload hx hb dX10_product_137 (lv_at hl 6 rfl) ?_
          refine lv_aload_n hx hb dX10_product_139 rfl (lv_at hl 0 rfl) ?_
          refine hg_4_2 hx hb hts in_y_X10_product_X10 hown hK hP (hts _ (List.mem_cons_of_mem _ (List.mem_append_left _ (List.mem_append_left _ (List.mem_of_getElem? (i := 8) rfl))))) dX10_product_140 ?_
          refine lv_iload hx hb dX10_product_143 (lv_at hl 8 rfl) ?_
          obtain ⟨q2, h⟩ := kb_ite1 h
          refine hl_6 hx hb hK hP q2 dX10_product_145 ?_
          refine lv_i2l (v := ((σ.2.2.1 6 ((L.1 10)).toNatClampNeg)).toInt64) hx hb dX10_product_146 rfl ?_
          refine lv_ldc2 (v := 4294967295) hx hb hown (hts _ (List.mem_cons_of_mem _ (List.mem_append_left _ (List.mem_append_left _ (List.mem_of_getElem? (i := 12) rfl))))) dX10_product_147 ?_
          refine lv_land hx hb dX10_product_150 ?_
          refine lv_lmul hx hb dX10_product_151 ?_
          refine lv_ladd hx hb dX10_product_152 ?_
          refine lv_aload_n hx hb dX10_product_153 rfl (lv_at hl 0 rfl) ?_
          refine hg_4_3 hx hb hts in_y_X10_product_X10 hown hK hP (hts _ (List.mem_cons_of_mem _ (List.mem_append_left _ (List.mem_append_left _ (List.mem_of_getElem? (i := 11) rfl))))) dX10_product_154 ?_
          refine lv_iload hx hb dX10_product_157 (lv_at hl 5 rfl) ?_
          refine lv_iload hx hb dX10_product_159 (lv_at hl 8 rfl) ?_
          refine lv_iadd hx hb dX10_product_161 ?_
          obtain ⟨q3, h⟩ := kb_ite1 h
          refine hl_7 hx hb hK hP q3 dX10_product_162 ?_
          refine lv_i2l (v := ((σ.2.2.1 7 ((((L.1 5)) + ((L.1 10)))).toNatClampNeg)).toInt64) hx hb dX10_product_163 rfl ?_
          refine lv_ldc2 (v := 4294967295) hx hb hown (hts _ (List.mem_cons_of_mem _ (List.mem_append_left _ (List.mem_append_left _ (List.mem_of_getElem? (i := 12) rfl))))) dX10_product_164 ?_
          refine lv_land hx hb dX10_product_167 ?_
          refine lv_ladd hx hb dX10_product_168 ?_
          refine lv_lstore (lv' := [(8, .long (((((L.2.1 8)) + ((((L.2.1 6)) * ((((((σ.2.2.1 6 ((L.1 10)).toNatClampNeg)).toInt64)) &&& 4294967295)))))) + ((((((σ.2.2.1 7 ((((L.1 5)) + ((L.1 10)))).toNatClampNeg)).toInt64)) &&& 4294967295)))), (0, .ref (a 4)), (1, .int (L.1 1)), (2, .int (L.1 2)), (3, .int (L.1 3)), (4, .int (L.1 4)), (5, .int (L.1 5)), (6, .long (L.2.1 6)), (10, .int (L.1 10))]) hx hb dX10_product_169 hl (by decide) rfl (fun ls hl => ?_)
          refine lv_aload_n hx hb dX10_product_171 rfl (lv_at hl 1 rfl) ?_
          refine hg_4_3 hx hb hts in_y_X10_product_X10 hown hK hP (hts _ (List.mem_cons_of_mem _ (List.mem_append_left _ (List.mem_append_left _ (List.mem_of_getElem? (i := 11) rfl))))) dX10_product_172 ?_
          refine lv_iload hx hb dX10_product_175 (lv_at hl 6 rfl) ?_
          refine lv_iload hx hb dX10_product_177 (lv_at hl 8 rfl) ?_
          refine lv_iadd hx hb dX10_product_179 ?_
          refine lv_lload hx hb dX10_product_180 (lv_at hl 0 rfl) ?_
          refine lv_l2i (v := ((((((L.2.1 8)) + ((((L.2.1 6)) * ((((((σ.2.2.1 6 ((L.1 10)).toNatClampNeg)).toInt64)) &&& 4294967295)))))) + ((((((σ.2.2.1 7 ((((L.1 5)) + ((L.1 10)))).toNatClampNeg)).toInt64)) &&& 4294967295)))).toInt32) hx hb dX10_product_182 rfl ?_
          obtain ⟨q4, h⟩ := kb_ite1 h
          refine hs_7 hx hb hK hP hD hS q4 dX10_product_183 (fun H locs hP hD hS => ?_)
          refine lv_lload hx hb dX10_product_184 (lv_at hl 0 rfl) ?_
          refine lv_bipush (v := 32) hx hb dX10_product_186 (by decide) ?_
          refine lv_lushr (v := (((((((L.2.1 8)) + ((((L.2.1 6)) * ((((((σ.2.2.1 6 ((L.1 10)).toNatClampNeg)).toInt64)) &&& 4294967295)))))) + ((((((σ.2.2.1 7 ((((L.1 5)) + ((L.1 10)))).toNatClampNeg)).toInt64)) &&& 4294967295)))).toUInt64 >>> ((32 : Int32).toInt64.toUInt64 &&& Int64.toUInt64 63)).toInt64) hx hb dX10_product_188 rfl ?_
          refine lv_lstore (lv' := [(8, .long ((((((((L.2.1 8)) + ((((L.2.1 6)) * ((((((σ.2.2.1 6 ((L.1 10)).toNatClampNeg)).toInt64)) &&& 4294967295)))))) + ((((((σ.2.2.1 7 ((((L.1 5)) + ((L.1 10)))).toNatClampNeg)).toInt64)) &&& 4294967295)))).toUInt64 >>> ((32 : Int32).toInt64.toUInt64 &&& Int64.toUInt64 63)).toInt64)), (0, .ref (a 4)), (1, .int (L.1 1)), (2, .int (L.1 2)), (3, .int (L.1 3)), (4, .int (L.1 4)), (5, .int (L.1 5)), (6, .long (L.2.1 6)), (10, .int (L.1 10))]) hx hb dX10_product_189 hl (by decide) rfl (fun ls hl => ?_)
          refine lv_iinc (v := ((L.1 10)) + 1) (lv' := [(10, .int (((L.1 10)) + 1)), (8, .long ((((((((L.2.1 8)) + ((((L.2.1 6)) * ((((((σ.2.2.1 6 ((L.1 10)).toNatClampNeg)).toInt64)) &&& 4294967295)))))) + ((((((σ.2.2.1 7 ((((L.1 5)) + ((L.1 10)))).toNatClampNeg)).toInt64)) &&& 4294967295)))).toUInt64 >>> ((32 : Int32).toInt64.toUInt64 &&& Int64.toUInt64 63)).toInt64)), (0, .ref (a 4)), (1, .int (L.1 1)), (2, .int (L.1 2)), (3, .int (L.1 3)), (4, .int (L.1 4)), (5, .int (L.1 5)), (6, .long (L.2.1 6))]) hx hb dX10_product_191 hl (k := 8) rfl rfl (by decide) rfl (fun ls hl => ?_)
          refine lv_goto (tgt := 128) hx hb dX10_product_194 (by decide) ?_
          exact ih.2.2.2.2.2.2.2.2.2.2.1 (lI (lJ L 8 (((((((((L.2.1 8)) + ((((L.2.1 6)) * ((((((σ.2.2.1 6 ((L.1 10)).toNatClampNeg)).toInt64)) &&& 4294967295)))))) + ((((((σ.2.2.1 7 ((((L.1 5)) + ((L.1 10)))).toNatClampNeg)).toInt64)) &&& 4294967295)))).toUInt64 >>> ((32 : Int32).toInt64.toUInt64 &&& Int64.toUInt64 63)).toInt64))) 10 ((((L.1 10)) + 1))) (uA σ 7 ((((L.1 5)) + ((L.1 10)))).toNatClampNeg ((((((((L.2.1 8)) + ((((L.2.1 6)) * ((((((σ.2.2.1 6 ((L.1 10)).toNatClampNeg)).toInt64)) &&& 4294967295)))))) + ((((((σ.2.2.1 7 ((((L.1 5)) + ((L.1 10)))).toNatClampNeg)).toInt64)) &&& 4294967295)))).toInt32))) r h H locs ls hP hD hS (lv_sub hl [2, 3, 4, 5, 6, 7, 8, 1, 0] rfl)
      · intro L σ r h H locs ls hP hD hS hl
        rw [y_X10_product] at h
        refine lv_iconst (v := 0) hx hb dX10_product_238 (by decide) ?_
        exact ih.2.2.2.2.2.2.2.2.2.2.2.2.1 (lI (lI L 100 0) 101 ((L.1 100))) σ r h H locs ls hP hD hS (lv_sub hl [] rfl)
      · intro L σ r h H locs ls hP hD hS hl
        rw [y_X10_product] at h
        obtain ⟨r1, hc1, h⟩ := oc_ex h
        refine kc_i (va_runV (As := [.int (L.1 101), .int (L.1 100)]) (rest := []) ⟨hx, hb, hml, hown, hts⟩ (c_y_X10_made l dC dI cy a z k (lI (lI lZ 1 ((L.1 101))) 2 ((L.1 100))) σ r1 hc1 H.size) (cwV 2 hts g_y_X10_product_X10_made_V72 rfl rfl rfl hd_y_X10_made ⟨Nat.le_of_ble_eq_true rfl, Nat.le_of_ble_eq_true rfl⟩) ⟨nb_blind, va_recv hK hP (ci := 9) (q0 := 4) rfl rfl, (kb_pre hK hG hP hD)⟩ rfl rfl hl.1 rfl (lv_room (Nat.le_of_ble_eq_true rfl)) dX10_product_239 ⟨Nat.le_refl _, Nat.le_refl _⟩) hA hP hD hS (fun H locs hP hD hS => ?_)
        obtain rfl := Option.some.inj h
        exact W.iret (v := r1.1) hx hb hr (fun t ht hW => ⟨⟨r1.1, (), rfl, rfl, by rw [ht]; exact hP, va_K.moved hW.alike hK, hD⟩, hS.F ht⟩) hS.2.2 dX10_product_242
      · intro L σ r h H locs ls hP hD hS hl
        rw [y_X10_product] at h
        refine lv_aload_n hx hb dX10_product_197 rfl (lv_at hl 0 rfl) ?_
        refine hg_4_3 hx hb hts in_y_X10_product_X10 hown hK hP (hts _ (List.mem_cons_of_mem _ (List.mem_append_left _ (List.mem_append_left _ (List.mem_of_getElem? (i := 11) rfl))))) dX10_product_198 ?_
        refine lv_iload hx hb dX10_product_201 (lv_at hl 5 rfl) ?_
        refine lv_iload hx hb dX10_product_203 (lv_at hl 4 rfl) ?_
        refine lv_iadd hx hb dX10_product_205 ?_
        refine lv_lload hx hb dX10_product_206 (lv_at hl 6 rfl) ?_
        refine lv_l2i (v := ((L.2.1 8)).toInt32) hx hb dX10_product_208 rfl ?_
        obtain ⟨q1, h⟩ := kb_ite1 h
        refine hs_7 hx hb hK hP hD hS q1 dX10_product_209 (fun H locs hP hD hS => ?_)
        refine lv_iinc (v := ((L.1 5)) + 1) (lv' := [(5, .int (((L.1 5)) + 1)), (0, .ref (a 4)), (1, .int (L.1 1)), (2, .int (L.1 2)), (3, .int (L.1 3)), (4, .int (L.1 4)), (8, .long (L.2.1 8))]) hx hb dX10_product_210 hl (k := 5) rfl rfl (by decide) rfl (fun ls hl => ?_)
        refine lv_goto (tgt := 102) hx hb dX10_product_213 (by decide) ?_
        exact ih.2.2.2.2.2.2.2.2.1 (lI L 5 ((((L.1 5)) + 1))) (uA σ 7 ((((L.1 5)) + ((L.1 4)))).toNatClampNeg ((((L.2.1 8)).toInt32))) r h H locs ls hP hD hS (lv_sub hl [1, 2, 3, 4, 5, 0] rfl)
  exact (blk k0).1 L0 σ0 r0 h0 s.heap [] ls hP hD hS hl
/-! X10_clamped -/
def y_X10_clamped : Nat → Nat → LV → CS → Option (Int32 × CS)
  | 0, _, _, _ => none
  | k + 1, 0, L, σ => if 0 ≤ ((L.1 1)) then (y_X10_clamped k 1 L σ) else (some ((((((L.1 1)) <<< ((4 : Int32) &&& 31))) >>> ((4 : Int32) &&& 31)), σ))
  | k + 1, 1, L, σ => if ¬ (((L.1 1)) < 0 ∨ (sN σ 3) ≤ ((L.1 1)).toNatClampNeg) then (if ((((σ.2.2.1 3 ((L.1 1)).toNatClampNeg)) &&& 8)) = 0 then (y_X10_clamped k 2 L σ) else (y_X10_clamped k 3 (lI L 100 ((-134217728))) σ)) else none
  | k + 1, 2, L, σ => y_X10_clamped k 3 (lI L 100 134217728) σ
  | k + 1, 3, L, σ => some ((L.1 100), σ)
  | _ + 1, _ + 4, _, _ => none
def o_y_X10_clamped : List Cond := [.fieldLink RX10 33 "SetHouse$Wholes" "heap" "LSetHouse$Heap;", .constant RX10 56 (-134217728), .constant RX10 57 (134217728)]
theorem o_y_X10_clamped_good : o_y_X10_clamped.all goodWord = true := by decide +kernel
def p_y_X10_clamped : List Cond := o_y_X10_clamped ++ []
theorem p_y_X10_clamped_good : p_y_X10_clamped.all goodWord = true := nb_all2 o_y_X10_clamped_good rfl
def w_y_X10_clamped : List Cond := .code yX10_clamped cX10_clamped 2 (some .int) :: (p_y_X10_clamped ++ fC)
theorem w_y_X10_clamped_good : w_y_X10_clamped.all goodWord = true := nb_allc (by decide +kernel) (nb_all2 p_y_X10_clamped_good fC_good)
theorem in_y_X10_clamped_X1 : ∀ w ∈ wsX10, w ∈ w_y_X10_clamped := fun _ h => List.mem_cons_of_mem _ (List.mem_append_right _ (List.mem_append_right _ (List.mem_append_left _ h)))
theorem in_y_X10_clamped_X10 : ∀ w ∈ wsX100, w ∈ w_y_X10_clamped := fun _ h => List.mem_cons_of_mem _ (List.mem_append_right _ (List.mem_append_right _ (List.mem_append_right _ (List.mem_append_right _ (List.mem_append_right _ (List.mem_append_right _ (List.mem_append_right _ (List.mem_append_right _ (List.mem_append_right _ (List.mem_append_right _ (List.mem_append_left _ h)))))))))))
theorem hd_y_X10_clamped : yX10_clamped.cls = RX10 ∧ yX10_clamped.cls ≠ "java/lang/invoke/MethodHandle" ∧ yX10_clamped.cls ≠ "java/lang/invoke/VarHandle" ∧ (parseMethodDescriptor yX10_clamped.desc).map (fun d => d.parameters.length) = some 1 := by decide +kernel
set_option maxHeartbeats 40000000 in
set_option maxRecDepth 100000 in
theorem c_y_X10_clamped (l : Launch) (dC : Nat → ClassId) (dI : Nat → Nat → Nat) (cy : Nat → ClassId) (a z : Nat → Nat) (k0 : Nat) (L0 : LV) (σ0 : CS) (r0 : Int32 × CS) (h0 : y_X10_clamped k0 0 L0 σ0 = some r0) (sz : Nat) : Met l yX10_clamped w_y_X10_clamped ({ frames := 0, cells := 0, slots := 0, locals := 0 }) (va_Pc [.ref (a 4), .int (L0.1 1)] (nIn (dC, dI) cy sz (vC cy a z σ0))) (va_Qi (fun (x : Int32) (_ : Unit) => x = r0.1) (fun _ t => nOut (dC, dI) cy (va_A (vC cy a z σ0) sz) (vC cy a z r0.2) t) (va_A (vC cy a z σ0) sz)) 0 0 (va_A (vC cy a z σ0) sz) := by
  refine Met.ofW (cc := cX10_clamped) (maxL := 2) (ret := (some .int)) (by decide) rfl ?_
  intro p e s m args below meth c s₁ B hml hv
  obtain ⟨rfl, hsz, hP, hK, hD0, hG⟩ := hv
  have hx := B.exec
  have hb := B.bytes
  have hr := B.returns
  have hts := atoms_spec (ws := w_y_X10_clamped) B.pre
  have hown : s.vm.findClass RX10 = some m.cls := findClass_of_methodNamed B.named
  have hlocks := B.notSynchronized
  subst hsz
  have hD := hD0.self (sz := s.heap.size)
  generalize hAe : va_A (vC cy a z σ0) s.heap.size = A at hD ⊢
  have hA : ∀ q : Nat, s.heap.size ≤ q → A q := fun q h => by rw [← hAe]; exact Or.inr h
  have hS : va_S A s.heap s.heap [] := va_S.rf
  have hl := lv_entry ([.ref (a 4), .int (L0.1 1)]) (n := 2) (Nat.le_of_ble_eq_true rfl)
  rw [lg_entry_eq]
  generalize (lg_sl ([.ref (a 4), .int (L0.1 1)]) ++ List.replicate (2 - (lg_sl ([.ref (a 4), .int (L0.1 1)])).length) Slot.unset).toArray = ls at hl ⊢
  have hl : lv_has ls 2 [(0, .ref (a 4)), (1, .int (L0.1 1))] := hl
  have blk : ∀ k : Nat, (bC p l e (headSpec w_y_X10_clamped ({ frames := 0, cells := 0, slots := 0, locals := 0 })).room s m #[.ref (a 4), .int (L0.1 1)] below meth c dC dI cy a z A (kI dC dI cy a z A below #[.ref (a 4), .int (L0.1 1)] s) 2 (y_X10_clamped k 0) (fun L => [(0, .ref (a 4)), (1, .int (L.1 1))]) 0 (fun L => [])) ∧ (bC p l e (headSpec w_y_X10_clamped ({ frames := 0, cells := 0, slots := 0, locals := 0 })).room s m #[.ref (a 4), .int (L0.1 1)] below meth c dC dI cy a z A (kI dC dI cy a z A below #[.ref (a 4), .int (L0.1 1)] s) 2 (y_X10_clamped k 1) (fun L => [(0, .ref (a 4)), (1, .int (L.1 1))]) 10 (fun L => [])) ∧ (bC p l e (headSpec w_y_X10_clamped ({ frames := 0, cells := 0, slots := 0, locals := 0 })).room s m #[.ref (a 4), .int (L0.1 1)] below meth c dC dI cy a z A (kI dC dI cy a z A below #[.ref (a 4), .int (L0.1 1)] s) 2 (y_X10_clamped k 2) (fun L => []) 30 (fun L => [])) ∧ (bC p l e (headSpec w_y_X10_clamped ({ frames := 0, cells := 0, slots := 0, locals := 0 })).room s m #[.ref (a 4), .int (L0.1 1)] below meth c dC dI cy a z A (kI dC dI cy a z A below #[.ref (a 4), .int (L0.1 1)] s) 2 (y_X10_clamped k 3) (fun L => []) 32 (fun L => [.int (L.1 100)])) := by
    intro k
    induction k with
    | zero => exact ⟨fun L σ r h => (by cases h), fun L σ r h => (by cases h), fun L σ r h => (by cases h), fun L σ r h => (by cases h)⟩
    | succ k ih =>
      refine ⟨?_, ?_, ?_, ?_⟩
      · intro L σ r h H locs ls hP hD hS hl
        rw [y_X10_clamped] at h
        refine lv_iload_n hx hb dX10_clamped_0 rfl (lv_at hl 1 rfl) ?_
        refine lv_if_ge (tgt := 10) hx hb dX10_clamped_1 (by decide) (fun c1 => ?_) (fun c1 => ?_)
        · rw [if_pos c1] at h
          exact ih.2.1 L σ r h H locs ls hP hD hS (lv_sub hl [0, 1] rfl)
        · rw [if_neg c1] at h
          refine lv_iload_n hx hb dX10_clamped_4 rfl (lv_at hl 1 rfl) ?_
          refine lv_iconst (v := 4) hx hb dX10_clamped_5 (by decide) ?_
          refine lv_ishl hx hb dX10_clamped_6 ?_
          refine lv_iconst (v := 4) hx hb dX10_clamped_7 (by decide) ?_
          refine lv_ishr hx hb dX10_clamped_8 ?_
          obtain rfl := Option.some.inj h
          exact W.iret (v := (((((L.1 1)) <<< ((4 : Int32) &&& 31))) >>> ((4 : Int32) &&& 31))) hx hb hr (fun t ht hW => ⟨⟨(((((L.1 1)) <<< ((4 : Int32) &&& 31))) >>> ((4 : Int32) &&& 31)), (), rfl, rfl, by rw [ht]; exact hP, va_K.moved hW.alike hK, hD⟩, hS.F ht⟩) hS.2.2 dX10_clamped_9
      · intro L σ r h H locs ls hP hD hS hl
        rw [y_X10_clamped] at h
        refine lv_aload_n hx hb dX10_clamped_10 rfl (lv_at hl 0 rfl) ?_
        refine hg_4_0 hx hb hts in_y_X10_clamped_X10 hown hK hP (hts _ (List.mem_cons_of_mem _ (List.mem_append_left _ (List.mem_append_left _ (List.mem_of_getElem? (i := 0) rfl))))) dX10_clamped_11 ?_
        refine hg_0_0n hx hb hts in_y_X10_clamped_X1 hown hK hP (va_Nw.use rfl (hG.1 _ (List.mem_of_getElem? (i := 0) rfl))) dX10_clamped_14 ?_
        refine lv_iload_n hx hb dX10_clamped_17 rfl (lv_at hl 1 rfl) ?_
        obtain ⟨q1, h⟩ := kb_ite1 h
        refine hl_3 hx hb hK hP q1 dX10_clamped_18 ?_
        refine lv_bipush (v := 8) hx hb dX10_clamped_19 (by decide) ?_
        refine lv_iand hx hb dX10_clamped_21 ?_
        refine lv_if_eq (tgt := 30) hx hb dX10_clamped_22 (by decide) (fun c2 => ?_) (fun c2 => ?_)
        · rw [if_pos c2] at h
          exact ih.2.2.1 L σ r h H locs ls hP hD hS (lv_sub hl [] rfl)
        · rw [if_neg c2] at h
          refine lv_ldc (v := (-134217728)) hx hb hown (hts _ (List.mem_cons_of_mem _ (List.mem_append_left _ (List.mem_append_left _ (List.mem_of_getElem? (i := 1) rfl))))) dX10_clamped_25 ?_
          refine lv_goto (tgt := 32) hx hb dX10_clamped_27 (by decide) ?_
          exact ih.2.2.2 (lI L 100 ((-134217728))) σ r h H locs ls hP hD hS (lv_sub hl [] rfl)
      · intro L σ r h H locs ls hP hD hS hl
        rw [y_X10_clamped] at h
        refine lv_ldc (v := 134217728) hx hb hown (hts _ (List.mem_cons_of_mem _ (List.mem_append_left _ (List.mem_append_left _ (List.mem_of_getElem? (i := 2) rfl))))) dX10_clamped_30 ?_
        exact ih.2.2.2 (lI L 100 134217728) σ r h H locs ls hP hD hS (lv_sub hl [] rfl)
      · intro L σ r h H locs ls hP hD hS hl
        rw [y_X10_clamped] at h
        obtain rfl := Option.some.inj h
        exact W.iret (v := (L.1 100)) hx hb hr (fun t ht hW => ⟨⟨(L.1 100), (), rfl, rfl, by rw [ht]; exact hP, va_K.moved hW.alike hK, hD⟩, hS.F ht⟩) hS.2.2 dX10_clamped_32
  exact (blk k0).1 L0 σ0 r0 h0 s.heap [] ls hP hD hS hl
/-! X0_repeated -/
def y_X0_repeated : Nat → Nat → LV → CS → Option (Int32 × CS)
  | 0, _, _, _ => none
  | k + 1, 0, L, σ => oc (y_X1_length k 0 (lI lZ 1 ((L.1 1))) σ) (fun r1 => if r1.1 = 0 then (y_X0_repeated k 1 L r1.2) else (if ((L.1 3)) = 0 then (y_X0_repeated k 1 L r1.2) else (y_X0_repeated k 2 (lI L 4 r1.1) r1.2)))
  | k + 1, 1, L, σ => if ((L.1 2)) = 4 then (y_X0_repeated k 4 (lI L 100 0) σ) else (y_X0_repeated k 3 L σ)
  | k + 1, 2, L, σ => if ((L.1 2)) = 4 then (y_X0_repeated k 6 (lJ (lI L 100 4000) 101 ((((((L.1 4)).toInt64)) * ((((L.1 3)).toInt64))))) σ) else (y_X0_repeated k 5 (lJ L 100 ((((((L.1 4)).toInt64)) * ((((L.1 3)).toInt64))))) σ)
  | k + 1, 3, L, σ => y_X0_repeated k 4 (lI L 100 1) σ
  | k + 1, 4, L, σ => some ((L.1 100), σ)
  | k + 1, 5, L, σ => y_X0_repeated k 6 (lJ (lI L 100 1000) 101 ((L.2.1 100))) σ
  | k + 1, 6, L, σ => if ((nbCmp ((L.2.1 101)) ((((L.1 100)).toInt64)))) ≤ 0 then (y_X0_repeated k 7 L σ) else (some ((-268435451), σ))
  | k + 1, 7, L, σ => y_X0_repeated k 8 (lI (lI L 5 0) 6 0) σ
  | k + 1, 8, L, σ => if ((L.1 3)) ≤ ((L.1 6)) then (y_X0_repeated k 9 L σ) else (if ((L.1 2)) = 4 then (oc (y_X1_copyBytes__a15 k 0 (lI (lI (lI (lI lZ 1 ((L.1 1))) 2 0) 3 ((L.1 4))) 5 ((L.1 5))) σ) (fun r3 => y_X0_repeated k 11 (lI L 100 r3.1) r3.2)) else (y_X0_repeated k 10 L σ))
  | k + 1, 9, L, σ => if ((L.1 2)) = 4 then (oc (y_X1_makeString__a15 k 0 (lI (lI lZ 2 0) 3 ((L.1 5))) σ) (fun r2 => y_X0_repeated k 13 (lI L 100 r2.1) r2.2)) else (y_X0_repeated k 12 L σ)
  | k + 1, 10, L, σ => oc (y_X0_load k 0 (lI (lI (lI (lI lZ 1 ((L.1 1))) 2 0) 3 ((L.1 4))) 4 ((L.1 5))) σ) (fun r1 => y_X0_repeated k 11 (lI L 100 r1.1) r1.2)
  | k + 1, 11, L, σ => y_X0_repeated k 8 (lI (lI L 5 ((L.1 100))) 6 ((((L.1 6)) + 1))) σ
  | k + 1, 12, L, σ => oc (y_X1_makeTuple__a16 k 0 (lI (lI lZ 2 0) 3 ((L.1 5))) σ) (fun r1 => y_X0_repeated k 13 (lI L 100 r1.1) r1.2)
  | k + 1, 13, L, σ => some ((L.1 100), σ)
  | _ + 1, _ + 14, _, _ => none
def o_y_X0_repeated : List Cond := [.fieldLink RX0 22 "SetHouse$Algebra" "heap" "LSetHouse$Heap;", .methodLink RX0 100 yX1_length, .instanceMethod yX1_length, .selects RX1 yX1_length yX1_length, .initialized RX1, .constant RX0 139 (-268435451), .fieldLink RX0 9 "SetHouse$Algebra" "bytes" "[B", .methodLink RX0 114 yX1_copyBytes, .instanceMethod yX1_copyBytes, .selects RX1 yX1_copyBytes yX1_copyBytes, .methodLink RX0 118 yX1_makeString, .instanceMethod yX1_makeString, .selects RX1 yX1_makeString yX1_makeString, .methodLink RX0 103 yX0_load, .instanceMethod yX0_load, .selects RX0 yX0_load yX0_load, .initialized RX0, .fieldLink RX0 15 "SetHouse$Algebra" "row" "[I", .methodLink RX0 107 yX1_makeTuple, .instanceMethod yX1_makeTuple, .selects RX1 yX1_makeTuple yX1_makeTuple]
theorem o_y_X0_repeated_good : o_y_X0_repeated.all goodWord = true := by decide +kernel
def p_y_X0_repeated : List Cond := o_y_X0_repeated ++ ((.code yX1_length cX1_length 2 (some .int) :: p_y_X1_length) ++ ((.code yX1_copyBytes cX1_copyBytes 8 (some .int) :: p_y_X1_copyBytes__a15) ++ ((.code yX1_makeString cX1_makeString 9 (some .int) :: p_y_X1_makeString__a15) ++ ((.code yX0_load cX0_load 6 (some .int) :: p_y_X0_load) ++ ((.code yX1_makeTuple cX1_makeTuple 6 (some .int) :: p_y_X1_makeTuple__a16) ++ [])))))
theorem p_y_X0_repeated_good : p_y_X0_repeated.all goodWord = true := nb_all2 o_y_X0_repeated_good (nb_all2 (nb_allc (by decide +kernel) p_y_X1_length_good) (nb_all2 (nb_allc (by decide +kernel) p_y_X1_copyBytes__a15_good) (nb_all2 (nb_allc (by decide +kernel) p_y_X1_makeString__a15_good) (nb_all2 (nb_allc (by decide +kernel) p_y_X0_load_good) (nb_all2 (nb_allc (by decide +kernel) p_y_X1_makeTuple__a16_good) rfl)))))
def w_y_X0_repeated : List Cond := .code yX0_repeated cX0_repeated 7 (some .int) :: (p_y_X0_repeated ++ fC)
theorem w_y_X0_repeated_good : w_y_X0_repeated.all goodWord = true := nb_allc (by decide +kernel) (nb_all2 p_y_X0_repeated_good fC_good)
theorem in_y_X0_repeated_X0 : ∀ w ∈ wsX00, w ∈ w_y_X0_repeated := fun _ h => List.mem_cons_of_mem _ (List.mem_append_right _ (List.mem_append_left _ h))
theorem hd_y_X0_repeated : yX0_repeated.cls = RX0 ∧ yX0_repeated.cls ≠ "java/lang/invoke/MethodHandle" ∧ yX0_repeated.cls ≠ "java/lang/invoke/VarHandle" ∧ (parseMethodDescriptor yX0_repeated.desc).map (fun d => d.parameters.length) = some 3 := by decide +kernel
theorem gg_y_X0_repeated_X0_load : GoodIn w_y_X0_repeated w_y_X0_load := goodIn_sub (fun w h => (List.mem_cons.mp h).elim (fun e => (List.mem_cons_of_mem _ (List.mem_append_left _ (List.mem_append_right _ (List.mem_append_right _ (List.mem_append_right _ (List.mem_append_right _ (List.mem_append_left _ (List.mem_cons.mpr (Or.inl e)))))))))) (fun h => (List.mem_append.mp h).elim (fun h => (List.mem_cons_of_mem _ (List.mem_append_left _ (List.mem_append_right _ (List.mem_append_right _ (List.mem_append_right _ (List.mem_append_right _ (List.mem_append_left _ (List.mem_cons_of_mem _ h))))))))) (fun h => List.mem_cons_of_mem _ (List.mem_append_right _ h)))) w_y_X0_load_good
theorem g_y_X0_repeated_X0_load_V103 : GoodIn w_y_X0_repeated (wsV RX0 103 RX0 yX0_load w_y_X0_load) := goodIn_app (nb_g4 (List.mem_cons_of_mem _ (List.mem_append_left _ (List.mem_append_left _ (List.mem_of_getElem? (i := 13) rfl)))) (List.mem_cons_of_mem _ (List.mem_append_left _ (List.mem_append_left _ (List.mem_of_getElem? (i := 14) rfl)))) (List.mem_cons_of_mem _ (List.mem_append_left _ (List.mem_append_left _ (List.mem_of_getElem? (i := 15) rfl)))) (List.mem_cons_of_mem _ (List.mem_append_left _ (List.mem_append_left _ (List.mem_of_getElem? (i := 16) rfl)))) (by decide +kernel)) gg_y_X0_repeated_X0_load
theorem gg_y_X0_repeated_X1_copyBytes__a15 : GoodIn w_y_X0_repeated w_y_X1_copyBytes__a15 := goodIn_sub (fun w h => (List.mem_cons.mp h).elim (fun e => (List.mem_cons_of_mem _ (List.mem_append_left _ (List.mem_append_right _ (List.mem_append_right _ (List.mem_append_left _ (List.mem_cons.mpr (Or.inl e)))))))) (fun h => (List.mem_append.mp h).elim (fun h => (List.mem_cons_of_mem _ (List.mem_append_left _ (List.mem_append_right _ (List.mem_append_right _ (List.mem_append_left _ (List.mem_cons_of_mem _ h))))))) (fun h => List.mem_cons_of_mem _ (List.mem_append_right _ h)))) w_y_X1_copyBytes__a15_good
theorem g_y_X0_repeated_X1_copyBytes__a15_V114 : GoodIn w_y_X0_repeated (wsV RX0 114 RX1 yX1_copyBytes w_y_X1_copyBytes__a15) := goodIn_app (nb_g4 (List.mem_cons_of_mem _ (List.mem_append_left _ (List.mem_append_left _ (List.mem_of_getElem? (i := 7) rfl)))) (List.mem_cons_of_mem _ (List.mem_append_left _ (List.mem_append_left _ (List.mem_of_getElem? (i := 8) rfl)))) (List.mem_cons_of_mem _ (List.mem_append_left _ (List.mem_append_left _ (List.mem_of_getElem? (i := 9) rfl)))) (List.mem_cons_of_mem _ (List.mem_append_left _ (List.mem_append_left _ (List.mem_of_getElem? (i := 4) rfl)))) (by decide +kernel)) gg_y_X0_repeated_X1_copyBytes__a15
theorem gg_y_X0_repeated_X1_length : GoodIn w_y_X0_repeated w_y_X1_length := goodIn_sub (fun w h => (List.mem_cons.mp h).elim (fun e => (List.mem_cons_of_mem _ (List.mem_append_left _ (List.mem_append_right _ (List.mem_append_left _ (List.mem_cons.mpr (Or.inl e))))))) (fun h => (List.mem_append.mp h).elim (fun h => (List.mem_cons_of_mem _ (List.mem_append_left _ (List.mem_append_right _ (List.mem_append_left _ (List.mem_cons_of_mem _ h)))))) (fun h => List.mem_cons_of_mem _ (List.mem_append_right _ h)))) w_y_X1_length_good
theorem g_y_X0_repeated_X1_length_V100 : GoodIn w_y_X0_repeated (wsV RX0 100 RX1 yX1_length w_y_X1_length) := goodIn_app (nb_g4 (List.mem_cons_of_mem _ (List.mem_append_left _ (List.mem_append_left _ (List.mem_of_getElem? (i := 1) rfl)))) (List.mem_cons_of_mem _ (List.mem_append_left _ (List.mem_append_left _ (List.mem_of_getElem? (i := 2) rfl)))) (List.mem_cons_of_mem _ (List.mem_append_left _ (List.mem_append_left _ (List.mem_of_getElem? (i := 3) rfl)))) (List.mem_cons_of_mem _ (List.mem_append_left _ (List.mem_append_left _ (List.mem_of_getElem? (i := 4) rfl)))) (by decide +kernel)) gg_y_X0_repeated_X1_length
theorem gg_y_X0_repeated_X1_makeString__a15 : GoodIn w_y_X0_repeated w_y_X1_makeString__a15 := goodIn_sub (fun w h => (List.mem_cons.mp h).elim (fun e => (List.mem_cons_of_mem _ (List.mem_append_left _ (List.mem_append_right _ (List.mem_append_right _ (List.mem_append_right _ (List.mem_append_left _ (List.mem_cons.mpr (Or.inl e))))))))) (fun h => (List.mem_append.mp h).elim (fun h => (List.mem_cons_of_mem _ (List.mem_append_left _ (List.mem_append_right _ (List.mem_append_right _ (List.mem_append_right _ (List.mem_append_left _ (List.mem_cons_of_mem _ h)))))))) (fun h => List.mem_cons_of_mem _ (List.mem_append_right _ h)))) w_y_X1_makeString__a15_good
theorem g_y_X0_repeated_X1_makeString__a15_V118 : GoodIn w_y_X0_repeated (wsV RX0 118 RX1 yX1_makeString w_y_X1_makeString__a15) := goodIn_app (nb_g4 (List.mem_cons_of_mem _ (List.mem_append_left _ (List.mem_append_left _ (List.mem_of_getElem? (i := 10) rfl)))) (List.mem_cons_of_mem _ (List.mem_append_left _ (List.mem_append_left _ (List.mem_of_getElem? (i := 11) rfl)))) (List.mem_cons_of_mem _ (List.mem_append_left _ (List.mem_append_left _ (List.mem_of_getElem? (i := 12) rfl)))) (List.mem_cons_of_mem _ (List.mem_append_left _ (List.mem_append_left _ (List.mem_of_getElem? (i := 4) rfl)))) (by decide +kernel)) gg_y_X0_repeated_X1_makeString__a15
theorem gg_y_X0_repeated_X1_makeTuple__a16 : GoodIn w_y_X0_repeated w_y_X1_makeTuple__a16 := goodIn_sub (fun w h => (List.mem_cons.mp h).elim (fun e => (List.mem_cons_of_mem _ (List.mem_append_left _ (List.mem_append_right _ (List.mem_append_right _ (List.mem_append_right _ (List.mem_append_right _ (List.mem_append_right _ (List.mem_append_left _ (List.mem_cons.mpr (Or.inl e))))))))))) (fun h => (List.mem_append.mp h).elim (fun h => (List.mem_cons_of_mem _ (List.mem_append_left _ (List.mem_append_right _ (List.mem_append_right _ (List.mem_append_right _ (List.mem_append_right _ (List.mem_append_right _ (List.mem_append_left _ (List.mem_cons_of_mem _ h)))))))))) (fun h => List.mem_cons_of_mem _ (List.mem_append_right _ h)))) w_y_X1_makeTuple__a16_good
theorem g_y_X0_repeated_X1_makeTuple__a16_V107 : GoodIn w_y_X0_repeated (wsV RX0 107 RX1 yX1_makeTuple w_y_X1_makeTuple__a16) := goodIn_app (nb_g4 (List.mem_cons_of_mem _ (List.mem_append_left _ (List.mem_append_left _ (List.mem_of_getElem? (i := 18) rfl)))) (List.mem_cons_of_mem _ (List.mem_append_left _ (List.mem_append_left _ (List.mem_of_getElem? (i := 19) rfl)))) (List.mem_cons_of_mem _ (List.mem_append_left _ (List.mem_append_left _ (List.mem_of_getElem? (i := 20) rfl)))) (List.mem_cons_of_mem _ (List.mem_append_left _ (List.mem_append_left _ (List.mem_of_getElem? (i := 4) rfl)))) (by decide +kernel)) gg_y_X0_repeated_X1_makeTuple__a16
set_option maxHeartbeats 40000000 in
set_option maxRecDepth 100000 in
theorem c_y_X0_repeated (l : Launch) (dC : Nat → ClassId) (dI : Nat → Nat → Nat) (cy : Nat → ClassId) (a z : Nat → Nat) (k0 : Nat) (L0 : LV) (σ0 : CS) (r0 : Int32 × CS) (h0 : y_X0_repeated k0 0 L0 σ0 = some r0) (sz : Nat) : Met l yX0_repeated w_y_X0_repeated ({ frames := 3, cells := 0, slots := 0, locals := 115 }) (va_Pc [.ref (a 14), .int (L0.1 1), .int (L0.1 2), .int (L0.1 3)] (nIn (dC, dI) cy sz (vC cy a z σ0))) (va_Qi (fun (x : Int32) (_ : Unit) => x = r0.1) (fun _ t => nOut (dC, dI) cy (va_A (vC cy a z σ0) sz) (vC cy a z r0.2) t) (va_A (vC cy a z σ0) sz)) 0 0 (va_A (vC cy a z σ0) sz) := by
  refine Met.ofW (cc := cX0_repeated) (maxL := 7) (ret := (some .int)) (by decide) rfl ?_
  intro p e s m args below meth c s₁ B hml hv
  obtain ⟨rfl, hsz, hP, hK, hD0, hG⟩ := hv
  have hx := B.exec
  have hb := B.bytes
  have hr := B.returns
  have hts := atoms_spec (ws := w_y_X0_repeated) B.pre
  have hown : s.vm.findClass RX0 = some m.cls := findClass_of_methodNamed B.named
  have hlocks := B.notSynchronized
  subst hsz
  have hD := hD0.self (sz := s.heap.size)
  generalize hAe : va_A (vC cy a z σ0) s.heap.size = A at hD ⊢
  have hA : ∀ q : Nat, s.heap.size ≤ q → A q := fun q h => by rw [← hAe]; exact Or.inr h
  have hS : va_S A s.heap s.heap [] := va_S.rf
  have hl := lv_entry ([.ref (a 14), .int (L0.1 1), .int (L0.1 2), .int (L0.1 3)]) (n := 7) (Nat.le_of_ble_eq_true rfl)
  rw [lg_entry_eq]
  generalize (lg_sl ([.ref (a 14), .int (L0.1 1), .int (L0.1 2), .int (L0.1 3)]) ++ List.replicate (7 - (lg_sl ([.ref (a 14), .int (L0.1 1), .int (L0.1 2), .int (L0.1 3)])).length) Slot.unset).toArray = ls at hl ⊢
  have hl : lv_has ls 7 [(0, .ref (a 14)), (1, .int (L0.1 1)), (2, .int (L0.1 2)), (3, .int (L0.1 3))] := hl
  have blk : ∀ k : Nat, (bC p l e (headSpec w_y_X0_repeated ({ frames := 3, cells := 0, slots := 0, locals := 115 })).room s m #[.ref (a 14), .int (L0.1 1), .int (L0.1 2), .int (L0.1 3)] below meth c dC dI cy a z A (kI dC dI cy a z A below #[.ref (a 14), .int (L0.1 1), .int (L0.1 2), .int (L0.1 3)] s) 7 (y_X0_repeated k 0) (fun L => [(0, .ref (a 14)), (1, .int (L.1 1)), (2, .int (L.1 2)), (3, .int (L.1 3))]) 0 (fun L => [])) ∧ (bC p l e (headSpec w_y_X0_repeated ({ frames := 3, cells := 0, slots := 0, locals := 115 })).room s m #[.ref (a 14), .int (L0.1 1), .int (L0.1 2), .int (L0.1 3)] below meth c dC dI cy a z A (kI dC dI cy a z A below #[.ref (a 14), .int (L0.1 1), .int (L0.1 2), .int (L0.1 3)] s) 7 (y_X0_repeated k 1) (fun L => [(2, .int (L.1 2))]) 19 (fun L => [])) ∧ (bC p l e (headSpec w_y_X0_repeated ({ frames := 3, cells := 0, slots := 0, locals := 115 })).room s m #[.ref (a 14), .int (L0.1 1), .int (L0.1 2), .int (L0.1 3)] below meth c dC dI cy a z A (kI dC dI cy a z A below #[.ref (a 14), .int (L0.1 1), .int (L0.1 2), .int (L0.1 3)] s) 7 (y_X0_repeated k 2) (fun L => [(0, .ref (a 14)), (1, .int (L.1 1)), (2, .int (L.1 2)), (3, .int (L.1 3)), (4, .int (L.1 4))]) 30 (fun L => [])) ∧ (bC p l e (headSpec w_y_X0_repeated ({ frames := 3, cells := 0, slots := 0, locals := 115 })).room s m #[.ref (a 14), .int (L0.1 1), .int (L0.1 2), .int (L0.1 3)] below meth c dC dI cy a z A (kI dC dI cy a z A below #[.ref (a 14), .int (L0.1 1), .int (L0.1 2), .int (L0.1 3)] s) 7 (y_X0_repeated k 3) (fun L => []) 28 (fun L => [])) ∧ (bC p l e (headSpec w_y_X0_repeated ({ frames := 3, cells := 0, slots := 0, locals := 115 })).room s m #[.ref (a 14), .int (L0.1 1), .int (L0.1 2), .int (L0.1 3)] below meth c dC dI cy a z A (kI dC dI cy a z A below #[.ref (a 14), .int (L0.1 1), .int (L0.1 2), .int (L0.1 3)] s) 7 (y_X0_repeated k 4) (fun L => []) 29 (fun L => [.int (L.1 100)])) ∧ (bC p l e (headSpec w_y_X0_repeated ({ frames := 3, cells := 0, slots := 0, locals := 115 })).room s m #[.ref (a 14), .int (L0.1 1), .int (L0.1 2), .int (L0.1 3)] below meth c dC dI cy a z A (kI dC dI cy a z A below #[.ref (a 14), .int (L0.1 1), .int (L0.1 2), .int (L0.1 3)] s) 7 (y_X0_repeated k 5) (fun L => [(0, .ref (a 14)), (1, .int (L.1 1)), (2, .int (L.1 2)), (3, .int (L.1 3)), (4, .int (L.1 4))]) 47 (fun L => [.long (L.2.1 100)])) ∧ (bC p l e (headSpec w_y_X0_repeated ({ frames := 3, cells := 0, slots := 0, locals := 115 })).room s m #[.ref (a 14), .int (L0.1 1), .int (L0.1 2), .int (L0.1 3)] below meth c dC dI cy a z A (kI dC dI cy a z A below #[.ref (a 14), .int (L0.1 1), .int (L0.1 2), .int (L0.1 3)] s) 7 (y_X0_repeated k 6) (fun L => [(0, .ref (a 14)), (1, .int (L.1 1)), (2, .int (L.1 2)), (3, .int (L.1 3)), (4, .int (L.1 4))]) 50 (fun L => [.int (L.1 100), .long (L.2.1 101)])) ∧ (bC p l e (headSpec w_y_X0_repeated ({ frames := 3, cells := 0, slots := 0, locals := 115 })).room s m #[.ref (a 14), .int (L0.1 1), .int (L0.1 2), .int (L0.1 3)] below meth c dC dI cy a z A (kI dC dI cy a z A below #[.ref (a 14), .int (L0.1 1), .int (L0.1 2), .int (L0.1 3)] s) 7 (y_X0_repeated k 7) (fun L => [(0, .ref (a 14)), (1, .int (L.1 1)), (2, .int (L.1 2)), (3, .int (L.1 3)), (4, .int (L.1 4))]) 58 (fun L => [])) ∧ (bC p l e (headSpec w_y_X0_repeated ({ frames := 3, cells := 0, slots := 0, locals := 115 })).room s m #[.ref (a 14), .int (L0.1 1), .int (L0.1 2), .int (L0.1 3)] below meth c dC dI cy a z A (kI dC dI cy a z A below #[.ref (a 14), .int (L0.1 1), .int (L0.1 2), .int (L0.1 3)] s) 7 (y_X0_repeated k 8) (fun L => [(0, .ref (a 14)), (1, .int (L.1 1)), (2, .int (L.1 2)), (3, .int (L.1 3)), (4, .int (L.1 4)), (5, .int (L.1 5)), (6, .int (L.1 6))]) 64 (fun L => [])) ∧ (bC p l e (headSpec w_y_X0_repeated ({ frames := 3, cells := 0, slots := 0, locals := 115 })).room s m #[.ref (a 14), .int (L0.1 1), .int (L0.1 2), .int (L0.1 3)] below meth c dC dI cy a z A (kI dC dI cy a z A below #[.ref (a 14), .int (L0.1 1), .int (L0.1 2), .int (L0.1 3)] s) 7 (y_X0_repeated k 9) (fun L => [(0, .ref (a 14)), (2, .int (L.1 2)), (5, .int (L.1 5))]) 113 (fun L => [])) ∧ (bC p l e (headSpec w_y_X0_repeated ({ frames := 3, cells := 0, slots := 0, locals := 115 })).room s m #[.ref (a 14), .int (L0.1 1), .int (L0.1 2), .int (L0.1 3)] below meth c dC dI cy a z A (kI dC dI cy a z A below #[.ref (a 14), .int (L0.1 1), .int (L0.1 2), .int (L0.1 3)] s) 7 (y_X0_repeated k 10) (fun L => [(0, .ref (a 14)), (1, .int (L.1 1)), (2, .int (L.1 2)), (3, .int (L.1 3)), (4, .int (L.1 4)), (5, .int (L.1 5)), (6, .int (L.1 6))]) 95 (fun L => [])) ∧ (bC p l e (headSpec w_y_X0_repeated ({ frames := 3, cells := 0, slots := 0, locals := 115 })).room s m #[.ref (a 14), .int (L0.1 1), .int (L0.1 2), .int (L0.1 3)] below meth c dC dI cy a z A (kI dC dI cy a z A below #[.ref (a 14), .int (L0.1 1), .int (L0.1 2), .int (L0.1 3)] s) 7 (y_X0_repeated k 11) (fun L => [(0, .ref (a 14)), (1, .int (L.1 1)), (2, .int (L.1 2)), (3, .int (L.1 3)), (4, .int (L.1 4)), (6, .int (L.1 6))]) 105 (fun L => [.int (L.1 100)])) ∧ (bC p l e (headSpec w_y_X0_repeated ({ frames := 3, cells := 0, slots := 0, locals := 115 })).room s m #[.ref (a 14), .int (L0.1 1), .int (L0.1 2), .int (L0.1 3)] below meth c dC dI cy a z A (kI dC dI cy a z A below #[.ref (a 14), .int (L0.1 1), .int (L0.1 2), .int (L0.1 3)] s) 7 (y_X0_repeated k 12) (fun L => [(0, .ref (a 14)), (5, .int (L.1 5))]) 135 (fun L => [])) ∧ (bC p l e (headSpec w_y_X0_repeated ({ frames := 3, cells := 0, slots := 0, locals := 115 })).room s m #[.ref (a 14), .int (L0.1 1), .int (L0.1 2), .int (L0.1 3)] below meth c dC dI cy a z A (kI dC dI cy a z A below #[.ref (a 14), .int (L0.1 1), .int (L0.1 2), .int (L0.1 3)] s) 7 (y_X0_repeated k 13) (fun L => []) 149 (fun L => [.int (L.1 100)])) := by
    intro k
    induction k with
    | zero => exact ⟨fun L σ r h => (by cases h), fun L σ r h => (by cases h), fun L σ r h => (by cases h), fun L σ r h => (by cases h), fun L σ r h => (by cases h), fun L σ r h => (by cases h), fun L σ r h => (by cases h), fun L σ r h => (by cases h), fun L σ r h => (by cases h), fun L σ r h => (by cases h), fun L σ r h => (by cases h), fun L σ r h => (by cases h), fun L σ r h => (by cases h), fun L σ r h => (by cases h)⟩
    | succ k ih =>
      refine ⟨?_, ?_, ?_, ?_, ?_, ?_, ?_, ?_, ?_, ?_, ?_, ?_, ?_, ?_⟩
      · intro L σ r h H locs ls hP hD hS hl
        rw [y_X0_repeated] at h
        refine lv_aload_n hx hb dX0_repeated_0 rfl (lv_at hl 0 rfl) ?_
        refine hg_14_0 hx hb hts in_y_X0_repeated_X0 hown hK hP (hts _ (List.mem_cons_of_mem _ (List.mem_append_left _ (List.mem_append_left _ (List.mem_of_getElem? (i := 0) rfl))))) dX0_repeated_1 ?_
        refine lv_iload_n hx hb dX0_repeated_4 rfl (lv_at hl 1 rfl) ?_
        obtain ⟨r1, hc1, h⟩ := oc_ex h
        refine kc_i (va_runV (As := [.int (L.1 1)]) (rest := []) ⟨hx, hb, hml, hown, hts⟩ (c_y_X1_length l dC dI cy a z k (lI lZ 1 ((L.1 1))) σ r1 hc1 H.size) (cwV 1 hts g_y_X0_repeated_X1_length_V100 rfl rfl rfl hd_y_X1_length ⟨Nat.le_of_ble_eq_true rfl, Nat.le_of_ble_eq_true rfl⟩) ⟨nb_blind, va_recv hK hP (ci := 1) (q0 := 0) rfl rfl, (kb_pre hK hG hP hD)⟩ rfl rfl hl.1 rfl (lv_room (Nat.le_of_ble_eq_true rfl)) dX0_repeated_5 ⟨Nat.le_refl _, Nat.le_refl _⟩) hA hP hD hS (fun H locs hP hD hS => ?_)
        refine lv_istore (lv' := [(4, .int r1.1), (0, .ref (a 14)), (1, .int (L.1 1)), (2, .int (L.1 2)), (3, .int (L.1 3))]) hx hb dX0_repeated_8 hl (by decide) rfl (fun ls hl => ?_)
        refine lv_iload hx hb dX0_repeated_10 (lv_at hl 0 rfl) ?_
        refine lv_if_eq (tgt := 19) hx hb dX0_repeated_12 (by decide) (fun c2 => ?_) (fun c2 => ?_)
        · rw [if_pos c2] at h
          exact ih.2.1 L r1.2 r h H locs ls hP hD hS (lv_sub hl [3] rfl)
        · rw [if_neg c2] at h
          refine lv_iload_n hx hb dX0_repeated_15 rfl (lv_at hl 4 rfl) ?_
          refine lv_if_ne (tgt := 30) hx hb dX0_repeated_16 (by decide) (fun c3 => ?_) (fun c3 => ?_)
          · rw [if_neg c3] at h
            exact ih.2.2.1 (lI L 4 r1.1) r1.2 r h H locs ls hP hD hS (lv_sub hl [1, 2, 3, 4, 0] rfl)
          · rw [if_pos c3] at h
            exact ih.2.1 L r1.2 r h H locs ls hP hD hS (lv_sub hl [3] rfl)
      · intro L σ r h H locs ls hP hD hS hl
        rw [y_X0_repeated] at h
        refine lv_iload_n hx hb dX0_repeated_19 rfl (lv_at hl 0 rfl) ?_
        refine lv_iconst (v := 4) hx hb dX0_repeated_20 (by decide) ?_
        refine lv_icmp_ne (tgt := 28) hx hb dX0_repeated_21 (by decide) (fun c1 => ?_) (fun c1 => ?_)
        · rw [if_neg c1] at h
          exact ih.2.2.2.1 L σ r h H locs ls hP hD hS (lv_sub hl [] rfl)
        · rw [if_pos c1] at h
          refine lv_iconst (v := 0) hx hb dX0_repeated_24 (by decide) ?_
          refine lv_goto (tgt := 29) hx hb dX0_repeated_25 (by decide) ?_
          exact ih.2.2.2.2.1 (lI L 100 0) σ r h H locs ls hP hD hS (lv_sub hl [] rfl)
      · intro L σ r h H locs ls hP hD hS hl
        rw [y_X0_repeated] at h
        refine lv_iload hx hb dX0_repeated_30 (lv_at hl 4 rfl) ?_
        refine lv_i2l (v := ((L.1 4)).toInt64) hx hb dX0_repeated_32 rfl ?_
        refine lv_iload_n hx hb dX0_repeated_33 rfl (lv_at hl 3 rfl) ?_
        refine lv_i2l (v := ((L.1 3)).toInt64) hx hb dX0_repeated_34 rfl ?_
        refine lv_lmul hx hb dX0_repeated_35 ?_
        refine lv_iload_n hx hb dX0_repeated_36 rfl (lv_at hl 2 rfl) ?_
        refine lv_iconst (v := 4) hx hb dX0_repeated_37 (by decide) ?_
        refine lv_icmp_ne (tgt := 47) hx hb dX0_repeated_38 (by decide) (fun c1 => ?_) (fun c1 => ?_)
        · rw [if_neg c1] at h
          exact ih.2.2.2.2.2.1 (lJ L 100 ((((((L.1 4)).toInt64)) * ((((L.1 3)).toInt64))))) σ r h H locs ls hP hD hS (lv_sub hl [0, 1, 2, 3, 4] rfl)
        · rw [if_pos c1] at h
          refine lv_sipush (v := 4000) hx hb dX0_repeated_41 (by decide) ?_
          refine lv_goto (tgt := 50) hx hb dX0_repeated_44 (by decide) ?_
          exact ih.2.2.2.2.2.2.1 (lJ (lI L 100 4000) 101 ((((((L.1 4)).toInt64)) * ((((L.1 3)).toInt64))))) σ r h H locs ls hP hD hS (lv_sub hl [0, 1, 2, 3, 4] rfl)
      · intro L σ r h H locs ls hP hD hS hl
        rw [y_X0_repeated] at h
        refine lv_iconst (v := 1) hx hb dX0_repeated_28 (by decide) ?_
        exact ih.2.2.2.2.1 (lI L 100 1) σ r h H locs ls hP hD hS (lv_sub hl [] rfl)
      · intro L σ r h H locs ls hP hD hS hl
        rw [y_X0_repeated] at h
        obtain rfl := Option.some.inj h
        exact W.iret (v := (L.1 100)) hx hb hr (fun t ht hW => ⟨⟨(L.1 100), (), rfl, rfl, by rw [ht]; exact hP, va_K.moved hW.alike hK, hD⟩, hS.F ht⟩) hS.2.2 dX0_repeated_29
      · intro L σ r h H locs ls hP hD hS hl
        rw [y_X0_repeated] at h
        refine lv_sipush (v := 1000) hx hb dX0_repeated_47 (by decide) ?_
        exact ih.2.2.2.2.2.2.1 (lJ (lI L 100 1000) 101 ((L.2.1 100))) σ r h H locs ls hP hD hS (lv_sub hl [0, 1, 2, 3, 4] rfl)
      · intro L σ r h H locs ls hP hD hS hl
        rw [y_X0_repeated] at h
        refine lv_i2l (v := ((L.1 100)).toInt64) hx hb dX0_repeated_50 rfl ?_
        refine nb_lcmp hx hb dX0_repeated_51 ?_
        refine lv_if_le (tgt := 58) hx hb dX0_repeated_52 (by decide) (fun c1 => ?_) (fun c1 => ?_)
        · rw [if_pos c1] at h
          exact ih.2.2.2.2.2.2.2.1 L σ r h H locs ls hP hD hS (lv_sub hl [0, 1, 2, 3, 4] rfl)
        · rw [if_neg c1] at h
          refine lv_ldc (v := (-268435451)) hx hb hown (hts _ (List.mem_cons_of_mem _ (List.mem_append_left _ (List.mem_append_left _ (List.mem_of_getElem? (i := 5) rfl))))) dX0_repeated_55 ?_
          obtain rfl := Option.some.inj h
          exact W.iret (v := (-268435451)) hx hb hr (fun t ht hW => ⟨⟨(-268435451), (), rfl, rfl, by rw [ht]; exact hP, va_K.moved hW.alike hK, hD⟩, hS.F ht⟩) hS.2.2 dX0_repeated_57
      · intro L σ r h H locs ls hP hD hS hl
        rw [y_X0_repeated] at h
        refine lv_iconst (v := 0) hx hb dX0_repeated_58 (by decide) ?_
        refine lv_istore (lv' := [(5, .int 0), (0, .ref (a 14)), (1, .int (L.1 1)), (2, .int (L.1 2)), (3, .int (L.1 3)), (4, .int (L.1 4))]) hx hb dX0_repeated_59 hl (by decide) rfl (fun ls hl => ?_)
        refine lv_iconst (v := 0) hx hb dX0_repeated_61 (by decide) ?_
        refine lv_istore (lv' := [(6, .int 0), (5, .int 0), (0, .ref (a 14)), (1, .int (L.1 1)), (2, .int (L.1 2)), (3, .int (L.1 3)), (4, .int (L.1 4))]) hx hb dX0_repeated_62 hl (by decide) rfl (fun ls hl => ?_)
        exact ih.2.2.2.2.2.2.2.2.1 (lI (lI L 5 0) 6 0) σ r h H locs ls hP hD hS (lv_sub hl [2, 3, 4, 5, 6, 1, 0] rfl)
      · intro L σ r h H locs ls hP hD hS hl
        rw [y_X0_repeated] at h
        refine lv_iload hx hb dX0_repeated_64 (lv_at hl 6 rfl) ?_
        refine lv_iload_n hx hb dX0_repeated_66 rfl (lv_at hl 3 rfl) ?_
        refine lv_icmp_ge (tgt := 113) hx hb dX0_repeated_67 (by decide) (fun c1 => ?_) (fun c1 => ?_)
        · rw [if_pos c1] at h
          exact ih.2.2.2.2.2.2.2.2.2.1 L σ r h H locs ls hP hD hS (lv_sub hl [0, 2, 5] rfl)
        · rw [if_neg c1] at h
          refine lv_iload_n hx hb dX0_repeated_70 rfl (lv_at hl 2 rfl) ?_
          refine lv_iconst (v := 4) hx hb dX0_repeated_71 (by decide) ?_
          refine lv_icmp_ne (tgt := 95) hx hb dX0_repeated_72 (by decide) (fun c2 => ?_) (fun c2 => ?_)
          · rw [if_neg c2] at h
            exact ih.2.2.2.2.2.2.2.2.2.2.1 L σ r h H locs ls hP hD hS (lv_sub hl [0, 1, 2, 3, 4, 5, 6] rfl)
          · rw [if_pos c2] at h
            refine lv_aload_n hx hb dX0_repeated_75 rfl (lv_at hl 0 rfl) ?_
            refine hg_14_0 hx hb hts in_y_X0_repeated_X0 hown hK hP (hts _ (List.mem_cons_of_mem _ (List.mem_append_left _ (List.mem_append_left _ (List.mem_of_getElem? (i := 0) rfl))))) dX0_repeated_76 ?_
            refine lv_iload_n hx hb dX0_repeated_79 rfl (lv_at hl 1 rfl) ?_
            refine lv_iconst (v := 0) hx hb dX0_repeated_80 (by decide) ?_
            refine lv_iload hx hb dX0_repeated_81 (lv_at hl 4 rfl) ?_
            refine lv_aload_n hx hb dX0_repeated_83 rfl (lv_at hl 0 rfl) ?_
            refine hg_14_3 hx hb hts in_y_X0_repeated_X0 hown hK hP (hts _ (List.mem_cons_of_mem _ (List.mem_append_left _ (List.mem_append_left _ (List.mem_of_getElem? (i := 6) rfl))))) dX0_repeated_84 ?_
            refine lv_iload hx hb dX0_repeated_87 (lv_at hl 5 rfl) ?_
            obtain ⟨r3, hc3, h⟩ := oc_ex h
            refine kc_i (va_runV (As := [.int (L.1 1), .int 0, .int (L.1 4), .ref (a 15), .int (L.1 5)]) (rest := []) ⟨hx, hb, hml, hown, hts⟩ (c_y_X1_copyBytes__a15 l dC dI cy a z k (lI (lI (lI (lI lZ 1 ((L.1 1))) 2 0) 3 ((L.1 4))) 5 ((L.1 5))) σ r3 hc3 H.size) (cwV 5 hts g_y_X0_repeated_X1_copyBytes__a15_V114 rfl rfl rfl hd_y_X1_copyBytes__a15 ⟨Nat.le_of_ble_eq_true rfl, Nat.le_of_ble_eq_true rfl⟩) ⟨nb_blind, va_recv hK hP (ci := 1) (q0 := 0) rfl rfl, (kb_pre hK hG hP hD)⟩ rfl rfl hl.1 rfl (lv_room (Nat.le_of_ble_eq_true rfl)) dX0_repeated_89 ⟨Nat.le_refl _, Nat.le_refl _⟩) hA hP hD hS (fun H locs hP hD hS => ?_)
            refine lv_goto (tgt := 105) hx hb dX0_repeated_92 (by decide) ?_
            exact ih.2.2.2.2.2.2.2.2.2.2.2.1 (lI L 100 r3.1) r3.2 r h H locs ls hP hD hS (lv_sub hl [0, 1, 2, 3, 4, 6] rfl)
      · intro L σ r h H locs ls hP hD hS hl
        rw [y_X0_repeated] at h
        refine lv_iload_n hx hb dX0_repeated_113 rfl (lv_at hl 1 rfl) ?_
        refine lv_iconst (v := 4) hx hb dX0_repeated_114 (by decide) ?_
        refine lv_icmp_ne (tgt := 135) hx hb dX0_repeated_115 (by decide) (fun c1 => ?_) (fun c1 => ?_)
        · rw [if_neg c1] at h
          exact ih.2.2.2.2.2.2.2.2.2.2.2.2.1 L σ r h H locs ls hP hD hS (lv_sub hl [0, 2] rfl)
        · rw [if_pos c1] at h
          refine lv_aload_n hx hb dX0_repeated_118 rfl (lv_at hl 0 rfl) ?_
          refine hg_14_0 hx hb hts in_y_X0_repeated_X0 hown hK hP (hts _ (List.mem_cons_of_mem _ (List.mem_append_left _ (List.mem_append_left _ (List.mem_of_getElem? (i := 0) rfl))))) dX0_repeated_119 ?_
          refine lv_aload_n hx hb dX0_repeated_122 rfl (lv_at hl 0 rfl) ?_
          refine hg_14_3 hx hb hts in_y_X0_repeated_X0 hown hK hP (hts _ (List.mem_cons_of_mem _ (List.mem_append_left _ (List.mem_append_left _ (List.mem_of_getElem? (i := 6) rfl))))) dX0_repeated_123 ?_
          refine lv_iconst (v := 0) hx hb dX0_repeated_126 (by decide) ?_
          refine lv_iload hx hb dX0_repeated_127 (lv_at hl 2 rfl) ?_
          obtain ⟨r2, hc2, h⟩ := oc_ex h
          refine kc_i (va_runV (As := [.ref (a 15), .int 0, .int (L.1 5)]) (rest := []) ⟨hx, hb, hml, hown, hts⟩ (c_y_X1_makeString__a15 l dC dI cy a z k (lI (lI lZ 2 0) 3 ((L.1 5))) σ r2 hc2 H.size) (cwV 3 hts g_y_X0_repeated_X1_makeString__a15_V118 rfl rfl rfl hd_y_X1_makeString__a15 ⟨Nat.le_of_ble_eq_true rfl, Nat.le_of_ble_eq_true rfl⟩) ⟨nb_blind, va_recv hK hP (ci := 1) (q0 := 0) rfl rfl, (kb_pre hK hG hP hD)⟩ rfl rfl hl.1 rfl (lv_room (Nat.le_of_ble_eq_true rfl)) dX0_repeated_129 ⟨Nat.le_refl _, Nat.le_refl _⟩) hA hP hD hS (fun H locs hP hD hS => ?_)
          refine lv_goto (tgt := 149) hx hb dX0_repeated_132 (by decide) ?_
          exact ih.2.2.2.2.2.2.2.2.2.2.2.2.2 (lI L 100 r2.1) r2.2 r h H locs ls hP hD hS (lv_sub hl [] rfl)
      · intro L σ r h H locs ls hP hD hS hl
        rw [y_X0_repeated] at h
        refine lv_aload_n hx hb dX0_repeated_95 rfl (lv_at hl 0 rfl) ?_
        refine lv_iload_n hx hb dX0_repeated_96 rfl (lv_at hl 1 rfl) ?_
        refine lv_iconst (v := 0) hx hb dX0_repeated_97 (by decide) ?_
        refine lv_iload hx hb dX0_repeated_98 (lv_at hl 4 rfl) ?_
        refine lv_iload hx hb dX0_repeated_100 (lv_at hl 5 rfl) ?_
        obtain ⟨r1, hc1, h⟩ := oc_ex h
        refine kc_i (va_runV (As := [.int (L.1 1), .int 0, .int (L.1 4), .int (L.1 5)]) (rest := []) ⟨hx, hb, hml, hown, hts⟩ (c_y_X0_load l dC dI cy a z k (lI (lI (lI (lI lZ 1 ((L.1 1))) 2 0) 3 ((L.1 4))) 4 ((L.1 5))) σ r1 hc1 H.size) (cwV 4 hts g_y_X0_repeated_X0_load_V103 rfl rfl rfl hd_y_X0_load ⟨Nat.le_of_ble_eq_true rfl, Nat.le_of_ble_eq_true rfl⟩) ⟨nb_blind, va_recv hK hP (ci := 0) (q0 := 14) rfl rfl, (kb_pre hK hG hP hD)⟩ rfl rfl hl.1 rfl (lv_room (Nat.le_of_ble_eq_true rfl)) dX0_repeated_102 ⟨Nat.le_refl _, Nat.le_refl _⟩) hA hP hD hS (fun H locs hP hD hS => ?_)
        exact ih.2.2.2.2.2.2.2.2.2.2.2.1 (lI L 100 r1.1) r1.2 r h H locs ls hP hD hS (lv_sub hl [0, 1, 2, 3, 4, 6] rfl)
      · intro L σ r h H locs ls hP hD hS hl
        rw [y_X0_repeated] at h
        refine lv_istore (lv' := [(5, .int (L.1 100)), (0, .ref (a 14)), (1, .int (L.1 1)), (2, .int (L.1 2)), (3, .int (L.1 3)), (4, .int (L.1 4)), (6, .int (L.1 6))]) hx hb dX0_repeated_105 hl (by decide) rfl (fun ls hl => ?_)
        refine lv_iinc (v := ((L.1 6)) + 1) (lv' := [(6, .int (((L.1 6)) + 1)), (5, .int (L.1 100)), (0, .ref (a 14)), (1, .int (L.1 1)), (2, .int (L.1 2)), (3, .int (L.1 3)), (4, .int (L.1 4))]) hx hb dX0_repeated_107 hl (k := 6) rfl rfl (by decide) rfl (fun ls hl => ?_)
        refine lv_goto (tgt := 64) hx hb dX0_repeated_110 (by decide) ?_
        exact ih.2.2.2.2.2.2.2.2.1 (lI (lI L 5 ((L.1 100))) 6 ((((L.1 6)) + 1))) σ r h H locs ls hP hD hS (lv_sub hl [2, 3, 4, 5, 6, 1, 0] rfl)
      · intro L σ r h H locs ls hP hD hS hl
        rw [y_X0_repeated] at h
        refine lv_aload_n hx hb dX0_repeated_135 rfl (lv_at hl 0 rfl) ?_
        refine hg_14_0 hx hb hts in_y_X0_repeated_X0 hown hK hP (hts _ (List.mem_cons_of_mem _ (List.mem_append_left _ (List.mem_append_left _ (List.mem_of_getElem? (i := 0) rfl))))) dX0_repeated_136 ?_
        refine lv_aload_n hx hb dX0_repeated_139 rfl (lv_at hl 0 rfl) ?_
        refine hg_14_4 hx hb hts in_y_X0_repeated_X0 hown hK hP (hts _ (List.mem_cons_of_mem _ (List.mem_append_left _ (List.mem_append_left _ (List.mem_of_getElem? (i := 17) rfl))))) dX0_repeated_140 ?_
        refine lv_iconst (v := 0) hx hb dX0_repeated_143 (by decide) ?_
        refine lv_iload hx hb dX0_repeated_144 (lv_at hl 1 rfl) ?_
        obtain ⟨r1, hc1, h⟩ := oc_ex h
        refine kc_i (va_runV (As := [.ref (a 16), .int 0, .int (L.1 5)]) (rest := []) ⟨hx, hb, hml, hown, hts⟩ (c_y_X1_makeTuple__a16 l dC dI cy a z k (lI (lI lZ 2 0) 3 ((L.1 5))) σ r1 hc1 H.size) (cwV 3 hts g_y_X0_repeated_X1_makeTuple__a16_V107 rfl rfl rfl hd_y_X1_makeTuple__a16 ⟨Nat.le_of_ble_eq_true rfl, Nat.le_of_ble_eq_true rfl⟩) ⟨nb_blind, va_recv hK hP (ci := 1) (q0 := 0) rfl rfl, (kb_pre hK hG hP hD)⟩ rfl rfl hl.1 rfl (lv_room (Nat.le_of_ble_eq_true rfl)) dX0_repeated_146 ⟨Nat.le_refl _, Nat.le_refl _⟩) hA hP hD hS (fun H locs hP hD hS => ?_)
        exact ih.2.2.2.2.2.2.2.2.2.2.2.2.2 (lI L 100 r1.1) r1.2 r h H locs ls hP hD hS (lv_sub hl [] rfl)
      · intro L σ r h H locs ls hP hD hS hl
        rw [y_X0_repeated] at h
        obtain rfl := Option.some.inj h
        exact W.iret (v := (L.1 100)) hx hb hr (fun t ht hW => ⟨⟨(L.1 100), (), rfl, rfl, by rw [ht]; exact hP, va_K.moved hW.alike hK, hD⟩, hS.F ht⟩) hS.2.2 dX0_repeated_149
  exact (blk k0).1 L0 σ0 r0 h0 s.heap [] ls hP hD hS hl
/-! X0_product -/
def y_X0_product : Nat → Nat → LV → CS → Option (Int32 × CS)
  | 0, _, _, _ => none
  | k + 1, 0, L, σ => oc (y_X0_areWholes k 0 (lI (lI lZ 1 ((L.1 1))) 2 ((L.1 2))) σ) (fun r1 => if r1.1 = 0 then (y_X0_product k 1 L r1.2) else (oc (y_X10_product k 0 (lI (lI lZ 1 ((L.1 1))) 2 ((L.1 2))) r1.2) (fun r3 => some (r3.1, r3.2))))
  | k + 1, 1, L, σ => oc (y_X0_areSets k 0 (lI (lI lZ 1 ((L.1 1))) 2 ((L.1 2))) σ) (fun r1 => if r1.1 = 0 then (y_X0_product k 2 L r1.2) else (oc (y_X1_length k 0 (lI lZ 1 ((L.1 1))) r1.2) (fun r3 => oc (y_X1_length k 0 (lI lZ 1 ((L.1 2))) r3.2) (fun r4 => if r4.1 ≤ r3.1 then (y_X0_product k 3 L r4.2) else (oc (y_X0_chosen k 0 (lI (lI (lI lZ 1 ((L.1 1))) 2 ((L.1 2))) 3 1) r4.2) (fun r6 => y_X0_product k 4 (lI L 100 r6.1) r6.2))))))
  | k + 1, 2, L, σ => oc (y_X1_kind k 0 (lI lZ 1 ((L.1 1))) σ) (fun r1 => oc (y_X1_kind k 0 (lI lZ 1 ((L.1 2))) r1.2) (fun r2 => if r2.1 = 2 then (if r1.1 = 4 then (y_X0_product k 6 (lI L 3 r1.1) r2.2) else (if r1.1 = 5 then (y_X0_product k 6 (lI L 3 r1.1) r2.2) else (y_X0_product k 5 L r2.2))) else (y_X0_product k 5 L r2.2)))
  | k + 1, 3, L, σ => oc (y_X0_chosen k 0 (lI (lI (lI lZ 1 ((L.1 2))) 2 ((L.1 1))) 3 1) σ) (fun r1 => y_X0_product k 4 (lI L 100 r1.1) r1.2)
  | k + 1, 4, L, σ => some ((L.1 100), σ)
  | k + 1, 5, L, σ => some ((-268435455), σ)
  | k + 1, 6, L, σ => oc (y_X10_isBelow k 0 (lI lZ 1 ((L.1 2))) σ) (fun r1 => if r1.1 = 0 then (y_X0_product k 7 L r1.2) else (y_X0_product k 8 (lI L 100 ((-268435452))) r1.2))
  | k + 1, 7, L, σ => oc (y_X10_clamped k 0 (lI lZ 1 ((L.1 2))) σ) (fun r1 => oc (y_X0_repeated k 0 (lI (lI (lI lZ 1 ((L.1 1))) 2 ((L.1 3))) 3 r1.1) r1.2) (fun r2 => y_X0_product k 8 (lI L 100 r2.1) r2.2))
  | k + 1, 8, L, σ => some ((L.1 100), σ)
  | _ + 1, _ + 9, _, _ => none
def o_y_X0_product : List Cond := [.methodLink RX0 44 yX0_areWholes, .instanceMethod yX0_areWholes, .selects RX0 yX0_areWholes yX0_areWholes, .initialized RX0, .fieldLink RX0 26 "SetHouse$Algebra" "wholes" "LSetHouse$Wholes;", .methodLink RX0 128 yX10_product, .instanceMethod yX10_product, .selects RX10 yX10_product yX10_product, .initialized RX10, .methodLink RX0 77 yX0_areSets, .instanceMethod yX0_areSets, .selects RX0 yX0_areSets yX0_areSets, .fieldLink RX0 22 "SetHouse$Algebra" "heap" "LSetHouse$Heap;", .methodLink RX0 100 yX1_length, .instanceMethod yX1_length, .selects RX1 yX1_length yX1_length, .initialized RX1, .methodLink RX0 122 yX0_chosen, .instanceMethod yX0_chosen, .selects RX0 yX0_chosen yX0_chosen, .methodLink RX0 87 yX1_kind, .instanceMethod yX1_kind, .selects RX1 yX1_kind yX1_kind, .constant RX0 56 (-268435455), .methodLink RX0 129 yX10_isBelow, .instanceMethod yX10_isBelow, .selects RX10 yX10_isBelow yX10_isBelow, .constant RX0 132 (-268435452), .methodLink RX0 133 yX10_clamped, .instanceMethod yX10_clamped, .selects RX10 yX10_clamped yX10_clamped, .methodLink RX0 136 yX0_repeated, .instanceMethod yX0_repeated, .selects RX0 yX0_repeated yX0_repeated]
theorem o_y_X0_product_good : o_y_X0_product.all goodWord = true := by decide +kernel
def p_y_X0_product : List Cond := o_y_X0_product ++ ((.code yX0_areWholes cX0_areWholes 3 (some .boolean) :: p_y_X0_areWholes) ++ ((.code yX10_product cX10_product 11 (some .int) :: p_y_X10_product) ++ ((.code yX0_areSets cX0_areSets 3 (some .boolean) :: p_y_X0_areSets) ++ ((.code yX1_length cX1_length 2 (some .int) :: p_y_X1_length) ++ ((.code yX0_chosen cX0_chosen 8 (some .int) :: p_y_X0_chosen) ++ ((.code yX1_kind cX1_kind 2 (some .int) :: p_y_X1_kind) ++ ((.code yX10_isBelow cX10_isBelow 2 (some .boolean) :: p_y_X10_isBelow) ++ ((.code yX10_clamped cX10_clamped 2 (some .int) :: p_y_X10_clamped) ++ ((.code yX0_repeated cX0_repeated 7 (some .int) :: p_y_X0_repeated) ++ [])))))))))
theorem p_y_X0_product_good : p_y_X0_product.all goodWord = true := nb_all2 o_y_X0_product_good (nb_all2 (nb_allc (by decide +kernel) p_y_X0_areWholes_good) (nb_all2 (nb_allc (by decide +kernel) p_y_X10_product_good) (nb_all2 (nb_allc (by decide +kernel) p_y_X0_areSets_good) (nb_all2 (nb_allc (by decide +kernel) p_y_X1_length_good) (nb_all2 (nb_allc (by decide +kernel) p_y_X0_chosen_good) (nb_all2 (nb_allc (by decide +kernel) p_y_X1_kind_good) (nb_all2 (nb_allc (by decide +kernel) p_y_X10_isBelow_good) (nb_all2 (nb_allc (by decide +kernel) p_y_X10_clamped_good) (nb_all2 (nb_allc (by decide +kernel) p_y_X0_repeated_good) rfl)))))))))
def w_y_X0_product : List Cond := .code yX0_product cX0_product 4 (some .int) :: (p_y_X0_product ++ fC)
theorem w_y_X0_product_good : w_y_X0_product.all goodWord = true := nb_allc (by decide +kernel) (nb_all2 p_y_X0_product_good fC_good)
theorem in_y_X0_product_X0 : ∀ w ∈ wsX00, w ∈ w_y_X0_product := fun _ h => List.mem_cons_of_mem _ (List.mem_append_right _ (List.mem_append_left _ h))
theorem hd_y_X0_product : yX0_product.cls = RX0 ∧ yX0_product.cls ≠ "java/lang/invoke/MethodHandle" ∧ yX0_product.cls ≠ "java/lang/invoke/VarHandle" ∧ (parseMethodDescriptor yX0_product.desc).map (fun d => d.parameters.length) = some 2 := by decide +kernel
theorem gg_y_X0_product_X0_areSets : GoodIn w_y_X0_product w_y_X0_areSets := goodIn_sub (fun w h => (List.mem_cons.mp h).elim (fun e => (List.mem_cons_of_mem _ (List.mem_append_left _ (List.mem_append_right _ (List.mem_append_right _ (List.mem_append_right _ (List.mem_append_left _ (List.mem_cons.mpr (Or.inl e))))))))) (fun h => (List.mem_append.mp h).elim (fun h => (List.mem_cons_of_mem _ (List.mem_append_left _ (List.mem_append_right _ (List.mem_append_right _ (List.mem_append_right _ (List.mem_append_left _ (List.mem_cons_of_mem _ h)))))))) (fun h => List.mem_cons_of_mem _ (List.mem_append_right _ h)))) w_y_X0_areSets_good
theorem g_y_X0_product_X0_areSets_V77 : GoodIn w_y_X0_product (wsV RX0 77 RX0 yX0_areSets w_y_X0_areSets) := goodIn_app (nb_g4 (List.mem_cons_of_mem _ (List.mem_append_left _ (List.mem_append_left _ (List.mem_of_getElem? (i := 9) rfl)))) (List.mem_cons_of_mem _ (List.mem_append_left _ (List.mem_append_left _ (List.mem_of_getElem? (i := 10) rfl)))) (List.mem_cons_of_mem _ (List.mem_append_left _ (List.mem_append_left _ (List.mem_of_getElem? (i := 11) rfl)))) (List.mem_cons_of_mem _ (List.mem_append_left _ (List.mem_append_left _ (List.mem_of_getElem? (i := 3) rfl)))) (by decide +kernel)) gg_y_X0_product_X0_areSets
theorem gg_y_X0_product_X0_areWholes : GoodIn w_y_X0_product w_y_X0_areWholes := goodIn_sub (fun w h => (List.mem_cons.mp h).elim (fun e => (List.mem_cons_of_mem _ (List.mem_append_left _ (List.mem_append_right _ (List.mem_append_left _ (List.mem_cons.mpr (Or.inl e))))))) (fun h => (List.mem_append.mp h).elim (fun h => (List.mem_cons_of_mem _ (List.mem_append_left _ (List.mem_append_right _ (List.mem_append_left _ (List.mem_cons_of_mem _ h)))))) (fun h => List.mem_cons_of_mem _ (List.mem_append_right _ h)))) w_y_X0_areWholes_good
theorem g_y_X0_product_X0_areWholes_V44 : GoodIn w_y_X0_product (wsV RX0 44 RX0 yX0_areWholes w_y_X0_areWholes) := goodIn_app (nb_g4 (List.mem_cons_of_mem _ (List.mem_append_left _ (List.mem_append_left _ (List.mem_of_getElem? (i := 0) rfl)))) (List.mem_cons_of_mem _ (List.mem_append_left _ (List.mem_append_left _ (List.mem_of_getElem? (i := 1) rfl)))) (List.mem_cons_of_mem _ (List.mem_append_left _ (List.mem_append_left _ (List.mem_of_getElem? (i := 2) rfl)))) (List.mem_cons_of_mem _ (List.mem_append_left _ (List.mem_append_left _ (List.mem_of_getElem? (i := 3) rfl)))) (by decide +kernel)) gg_y_X0_product_X0_areWholes
theorem gg_y_X0_product_X0_chosen : GoodIn w_y_X0_product w_y_X0_chosen := goodIn_sub (fun w h => (List.mem_cons.mp h).elim (fun e => (List.mem_cons_of_mem _ (List.mem_append_left _ (List.mem_append_right _ (List.mem_append_right _ (List.mem_append_right _ (List.mem_append_right _ (List.mem_append_right _ (List.mem_append_left _ (List.mem_cons.mpr (Or.inl e))))))))))) (fun h => (List.mem_append.mp h).elim (fun h => (List.mem_cons_of_mem _ (List.mem_append_left _ (List.mem_append_right _ (List.mem_append_right _ (List.mem_append_right _ (List.mem_append_right _ (List.mem_append_right _ (List.mem_append_left _ (List.mem_cons_of_mem _ h)))))))))) (fun h => List.mem_cons_of_mem _ (List.mem_append_right _ h)))) w_y_X0_chosen_good
theorem g_y_X0_product_X0_chosen_V122 : GoodIn w_y_X0_product (wsV RX0 122 RX0 yX0_chosen w_y_X0_chosen) := goodIn_app (nb_g4 (List.mem_cons_of_mem _ (List.mem_append_left _ (List.mem_append_left _ (List.mem_of_getElem? (i := 17) rfl)))) (List.mem_cons_of_mem _ (List.mem_append_left _ (List.mem_append_left _ (List.mem_of_getElem? (i := 18) rfl)))) (List.mem_cons_of_mem _ (List.mem_append_left _ (List.mem_append_left _ (List.mem_of_getElem? (i := 19) rfl)))) (List.mem_cons_of_mem _ (List.mem_append_left _ (List.mem_append_left _ (List.mem_of_getElem? (i := 3) rfl)))) (by decide +kernel)) gg_y_X0_product_X0_chosen
theorem gg_y_X0_product_X0_repeated : GoodIn w_y_X0_product w_y_X0_repeated := goodIn_sub (fun w h => (List.mem_cons.mp h).elim (fun e => (List.mem_cons_of_mem _ (List.mem_append_left _ (List.mem_append_right _ (List.mem_append_right _ (List.mem_append_right _ (List.mem_append_right _ (List.mem_append_right _ (List.mem_append_right _ (List.mem_append_right _ (List.mem_append_right _ (List.mem_append_right _ (List.mem_append_left _ (List.mem_cons.mpr (Or.inl e))))))))))))))) (fun h => (List.mem_append.mp h).elim (fun h => (List.mem_cons_of_mem _ (List.mem_append_left _ (List.mem_append_right _ (List.mem_append_right _ (List.mem_append_right _ (List.mem_append_right _ (List.mem_append_right _ (List.mem_append_right _ (List.mem_append_right _ (List.mem_append_right _ (List.mem_append_right _ (List.mem_append_left _ (List.mem_cons_of_mem _ h)))))))))))))) (fun h => List.mem_cons_of_mem _ (List.mem_append_right _ h)))) w_y_X0_repeated_good
theorem g_y_X0_product_X0_repeated_V136 : GoodIn w_y_X0_product (wsV RX0 136 RX0 yX0_repeated w_y_X0_repeated) := goodIn_app (nb_g4 (List.mem_cons_of_mem _ (List.mem_append_left _ (List.mem_append_left _ (List.mem_of_getElem? (i := 31) rfl)))) (List.mem_cons_of_mem _ (List.mem_append_left _ (List.mem_append_left _ (List.mem_of_getElem? (i := 32) rfl)))) (List.mem_cons_of_mem _ (List.mem_append_left _ (List.mem_append_left _ (List.mem_of_getElem? (i := 33) rfl)))) (List.mem_cons_of_mem _ (List.mem_append_left _ (List.mem_append_left _ (List.mem_of_getElem? (i := 3) rfl)))) (by decide +kernel)) gg_y_X0_product_X0_repeated
theorem gg_y_X0_product_X10_clamped : GoodIn w_y_X0_product w_y_X10_clamped := goodIn_sub (fun w h => (List.mem_cons.mp h).elim (fun e => (List.mem_cons_of_mem _ (List.mem_append_left _ (List.mem_append_right _ (List.mem_append_right _ (List.mem_append_right _ (List.mem_append_right _ (List.mem_append_right _ (List.mem_append_right _ (List.mem_append_right _ (List.mem_append_right _ (List.mem_append_left _ (List.mem_cons.mpr (Or.inl e)))))))))))))) (fun h => (List.mem_append.mp h).elim (fun h => (List.mem_cons_of_mem _ (List.mem_append_left _ (List.mem_append_right _ (List.mem_append_right _ (List.mem_append_right _ (List.mem_append_right _ (List.mem_append_right _ (List.mem_append_right _ (List.mem_append_right _ (List.mem_append_right _ (List.mem_append_left _ (List.mem_cons_of_mem _ h))))))))))))) (fun h => List.mem_cons_of_mem _ (List.mem_append_right _ h)))) w_y_X10_clamped_good
theorem g_y_X0_product_X10_clamped_V133 : GoodIn w_y_X0_product (wsV RX0 133 RX10 yX10_clamped w_y_X10_clamped) := goodIn_app (nb_g4 (List.mem_cons_of_mem _ (List.mem_append_left _ (List.mem_append_left _ (List.mem_of_getElem? (i := 28) rfl)))) (List.mem_cons_of_mem _ (List.mem_append_left _ (List.mem_append_left _ (List.mem_of_getElem? (i := 29) rfl)))) (List.mem_cons_of_mem _ (List.mem_append_left _ (List.mem_append_left _ (List.mem_of_getElem? (i := 30) rfl)))) (List.mem_cons_of_mem _ (List.mem_append_left _ (List.mem_append_left _ (List.mem_of_getElem? (i := 8) rfl)))) (by decide +kernel)) gg_y_X0_product_X10_clamped
theorem gg_y_X0_product_X10_isBelow : GoodIn w_y_X0_product w_y_X10_isBelow := goodIn_sub (fun w h => (List.mem_cons.mp h).elim (fun e => (List.mem_cons_of_mem _ (List.mem_append_left _ (List.mem_append_right _ (List.mem_append_right _ (List.mem_append_right _ (List.mem_append_right _ (List.mem_append_right _ (List.mem_append_right _ (List.mem_append_right _ (List.mem_append_left _ (List.mem_cons.mpr (Or.inl e))))))))))))) (fun h => (List.mem_append.mp h).elim (fun h => (List.mem_cons_of_mem _ (List.mem_append_left _ (List.mem_append_right _ (List.mem_append_right _ (List.mem_append_right _ (List.mem_append_right _ (List.mem_append_right _ (List.mem_append_right _ (List.mem_append_right _ (List.mem_append_left _ (List.mem_cons_of_mem _ h)))))))))))) (fun h => List.mem_cons_of_mem _ (List.mem_append_right _ h)))) w_y_X10_isBelow_good
theorem g_y_X0_product_X10_isBelow_V129 : GoodIn w_y_X0_product (wsV RX0 129 RX10 yX10_isBelow w_y_X10_isBelow) := goodIn_app (nb_g4 (List.mem_cons_of_mem _ (List.mem_append_left _ (List.mem_append_left _ (List.mem_of_getElem? (i := 24) rfl)))) (List.mem_cons_of_mem _ (List.mem_append_left _ (List.mem_append_left _ (List.mem_of_getElem? (i := 25) rfl)))) (List.mem_cons_of_mem _ (List.mem_append_left _ (List.mem_append_left _ (List.mem_of_getElem? (i := 26) rfl)))) (List.mem_cons_of_mem _ (List.mem_append_left _ (List.mem_append_left _ (List.mem_of_getElem? (i := 8) rfl)))) (by decide +kernel)) gg_y_X0_product_X10_isBelow
theorem gg_y_X0_product_X10_product : GoodIn w_y_X0_product w_y_X10_product := goodIn_sub (fun w h => (List.mem_cons.mp h).elim (fun e => (List.mem_cons_of_mem _ (List.mem_append_left _ (List.mem_append_right _ (List.mem_append_right _ (List.mem_append_left _ (List.mem_cons.mpr (Or.inl e)))))))) (fun h => (List.mem_append.mp h).elim (fun h => (List.mem_cons_of_mem _ (List.mem_append_left _ (List.mem_append_right _ (List.mem_append_right _ (List.mem_append_left _ (List.mem_cons_of_mem _ h))))))) (fun h => List.mem_cons_of_mem _ (List.mem_append_right _ h)))) w_y_X10_product_good
theorem g_y_X0_product_X10_product_V128 : GoodIn w_y_X0_product (wsV RX0 128 RX10 yX10_product w_y_X10_product) := goodIn_app (nb_g4 (List.mem_cons_of_mem _ (List.mem_append_left _ (List.mem_append_left _ (List.mem_of_getElem? (i := 5) rfl)))) (List.mem_cons_of_mem _ (List.mem_append_left _ (List.mem_append_left _ (List.mem_of_getElem? (i := 6) rfl)))) (List.mem_cons_of_mem _ (List.mem_append_left _ (List.mem_append_left _ (List.mem_of_getElem? (i := 7) rfl)))) (List.mem_cons_of_mem _ (List.mem_append_left _ (List.mem_append_left _ (List.mem_of_getElem? (i := 8) rfl)))) (by decide +kernel)) gg_y_X0_product_X10_product
theorem gg_y_X0_product_X1_kind : GoodIn w_y_X0_product w_y_X1_kind := goodIn_sub (fun w h => (List.mem_cons.mp h).elim (fun e => (List.mem_cons_of_mem _ (List.mem_append_left _ (List.mem_append_right _ (List.mem_append_right _ (List.mem_append_right _ (List.mem_append_right _ (List.mem_append_right _ (List.mem_append_right _ (List.mem_append_left _ (List.mem_cons.mpr (Or.inl e)))))))))))) (fun h => (List.mem_append.mp h).elim (fun h => (List.mem_cons_of_mem _ (List.mem_append_left _ (List.mem_append_right _ (List.mem_append_right _ (List.mem_append_right _ (List.mem_append_right _ (List.mem_append_right _ (List.mem_append_right _ (List.mem_append_left _ (List.mem_cons_of_mem _ h))))))))))) (fun h => List.mem_cons_of_mem _ (List.mem_append_right _ h)))) w_y_X1_kind_good
theorem g_y_X0_product_X1_kind_V87 : GoodIn w_y_X0_product (wsV RX0 87 RX1 yX1_kind w_y_X1_kind) := goodIn_app (nb_g4 (List.mem_cons_of_mem _ (List.mem_append_left _ (List.mem_append_left _ (List.mem_of_getElem? (i := 20) rfl)))) (List.mem_cons_of_mem _ (List.mem_append_left _ (List.mem_append_left _ (List.mem_of_getElem? (i := 21) rfl)))) (List.mem_cons_of_mem _ (List.mem_append_left _ (List.mem_append_left _ (List.mem_of_getElem? (i := 22) rfl)))) (List.mem_cons_of_mem _ (List.mem_append_left _ (List.mem_append_left _ (List.mem_of_getElem? (i := 16) rfl)))) (by decide +kernel)) gg_y_X0_product_X1_kind
theorem gg_y_X0_product_X1_length : GoodIn w_y_X0_product w_y_X1_length := goodIn_sub (fun w h => (List.mem_cons.mp h).elim (fun e => (List.mem_cons_of_mem _ (List.mem_append_left _ (List.mem_append_right _ (List.mem_append_right _ (List.mem_append_right _ (List.mem_append_right _ (List.mem_append_left _ (List.mem_cons.mpr (Or.inl e)))))))))) (fun h => (List.mem_append.mp h).elim (fun h => (List.mem_cons_of_mem _ (List.mem_append_left _ (List.mem_append_right _ (List.mem_append_right _ (List.mem_append_right _ (List.mem_append_right _ (List.mem_append_left _ (List.mem_cons_of_mem _ h))))))))) (fun h => List.mem_cons_of_mem _ (List.mem_append_right _ h)))) w_y_X1_length_good
theorem g_y_X0_product_X1_length_V100 : GoodIn w_y_X0_product (wsV RX0 100 RX1 yX1_length w_y_X1_length) := goodIn_app (nb_g4 (List.mem_cons_of_mem _ (List.mem_append_left _ (List.mem_append_left _ (List.mem_of_getElem? (i := 13) rfl)))) (List.mem_cons_of_mem _ (List.mem_append_left _ (List.mem_append_left _ (List.mem_of_getElem? (i := 14) rfl)))) (List.mem_cons_of_mem _ (List.mem_append_left _ (List.mem_append_left _ (List.mem_of_getElem? (i := 15) rfl)))) (List.mem_cons_of_mem _ (List.mem_append_left _ (List.mem_append_left _ (List.mem_of_getElem? (i := 16) rfl)))) (by decide +kernel)) gg_y_X0_product_X1_length
set_option maxHeartbeats 40000000 in
set_option maxRecDepth 100000 in
theorem c_y_X0_product (l : Launch) (dC : Nat → ClassId) (dI : Nat → Nat → Nat) (cy : Nat → ClassId) (a z : Nat → Nat) (k0 : Nat) (L0 : LV) (σ0 : CS) (r0 : Int32 × CS) (h0 : y_X0_product k0 0 L0 σ0 = some r0) (sz : Nat) : Met l yX0_product w_y_X0_product ({ frames := 64, cells := 0, slots := 0, locals := 1792 }) (va_Pc [.ref (a 14), .int (L0.1 1), .int (L0.1 2)] (nIn (dC, dI) cy sz (vC cy a z σ0))) (va_Qi (fun (x : Int32) (_ : Unit) => x = r0.1) (fun _ t => nOut (dC, dI) cy (va_A (vC cy a z σ0) sz) (vC cy a z r0.2) t) (va_A (vC cy a z σ0) sz)) 0 0 (va_A (vC cy a z σ0) sz) := by
  refine Met.ofW (cc := cX0_product) (maxL := 4) (ret := (some .int)) (by decide) rfl ?_
  intro p e s m args below meth c s₁ B hml hv
  obtain ⟨rfl, hsz, hP, hK, hD0, hG⟩ := hv
  have hx := B.exec
  have hb := B.bytes
  have hr := B.returns
  have hts := atoms_spec (ws := w_y_X0_product) B.pre
  have hown : s.vm.findClass RX0 = some m.cls := findClass_of_methodNamed B.named
  have hlocks := B.notSynchronized
  subst hsz
  have hD := hD0.self (sz := s.heap.size)
  generalize hAe : va_A (vC cy a z σ0) s.heap.size = A at hD ⊢
  have hA : ∀ q : Nat, s.heap.size ≤ q → A q := fun q h => by rw [← hAe]; exact Or.inr h
  have hS : va_S A s.heap s.heap [] := va_S.rf
  have hl := lv_entry ([.ref (a 14), .int (L0.1 1), .int (L0.1 2)]) (n := 4) (Nat.le_of_ble_eq_true rfl)
  rw [lg_entry_eq]
  generalize (lg_sl ([.ref (a 14), .int (L0.1 1), .int (L0.1 2)]) ++ List.replicate (4 - (lg_sl ([.ref (a 14), .int (L0.1 1), .int (L0.1 2)])).length) Slot.unset).toArray = ls at hl ⊢
  have hl : lv_has ls 4 [(0, .ref (a 14)), (1, .int (L0.1 1)), (2, .int (L0.1 2))] := hl
  have blk : ∀ k : Nat, (bC p l e (headSpec w_y_X0_product ({ frames := 64, cells := 0, slots := 0, locals := 1792 })).room s m #[.ref (a 14), .int (L0.1 1), .int (L0.1 2)] below meth c dC dI cy a z A (kI dC dI cy a z A below #[.ref (a 14), .int (L0.1 1), .int (L0.1 2)] s) 4 (y_X0_product k 0) (fun L => [(0, .ref (a 14)), (1, .int (L.1 1)), (2, .int (L.1 2))]) 0 (fun L => [])) ∧ (bC p l e (headSpec w_y_X0_product ({ frames := 64, cells := 0, slots := 0, locals := 1792 })).room s m #[.ref (a 14), .int (L0.1 1), .int (L0.1 2)] below meth c dC dI cy a z A (kI dC dI cy a z A below #[.ref (a 14), .int (L0.1 1), .int (L0.1 2)] s) 4 (y_X0_product k 1) (fun L => [(0, .ref (a 14)), (1, .int (L.1 1)), (2, .int (L.1 2))]) 19 (fun L => [])) ∧ (bC p l e (headSpec w_y_X0_product ({ frames := 64, cells := 0, slots := 0, locals := 1792 })).room s m #[.ref (a 14), .int (L0.1 1), .int (L0.1 2)] below meth c dC dI cy a z A (kI dC dI cy a z A below #[.ref (a 14), .int (L0.1 1), .int (L0.1 2)] s) 4 (y_X0_product k 2) (fun L => [(0, .ref (a 14)), (1, .int (L.1 1)), (2, .int (L.1 2))]) 65 (fun L => [])) ∧ (bC p l e (headSpec w_y_X0_product ({ frames := 64, cells := 0, slots := 0, locals := 1792 })).room s m #[.ref (a 14), .int (L0.1 1), .int (L0.1 2)] below meth c dC dI cy a z A (kI dC dI cy a z A below #[.ref (a 14), .int (L0.1 1), .int (L0.1 2)] s) 4 (y_X0_product k 3) (fun L => [(0, .ref (a 14)), (1, .int (L.1 1)), (2, .int (L.1 2))]) 57 (fun L => [])) ∧ (bC p l e (headSpec w_y_X0_product ({ frames := 64, cells := 0, slots := 0, locals := 1792 })).room s m #[.ref (a 14), .int (L0.1 1), .int (L0.1 2)] below meth c dC dI cy a z A (kI dC dI cy a z A below #[.ref (a 14), .int (L0.1 1), .int (L0.1 2)] s) 4 (y_X0_product k 4) (fun L => []) 64 (fun L => [.int (L.1 100)])) ∧ (bC p l e (headSpec w_y_X0_product ({ frames := 64, cells := 0, slots := 0, locals := 1792 })).room s m #[.ref (a 14), .int (L0.1 1), .int (L0.1 2)] below meth c dC dI cy a z A (kI dC dI cy a z A below #[.ref (a 14), .int (L0.1 1), .int (L0.1 2)] s) 4 (y_X0_product k 5) (fun L => []) 96 (fun L => [])) ∧ (bC p l e (headSpec w_y_X0_product ({ frames := 64, cells := 0, slots := 0, locals := 1792 })).room s m #[.ref (a 14), .int (L0.1 1), .int (L0.1 2)] below meth c dC dI cy a z A (kI dC dI cy a z A below #[.ref (a 14), .int (L0.1 1), .int (L0.1 2)] s) 4 (y_X0_product k 6) (fun L => [(0, .ref (a 14)), (1, .int (L.1 1)), (2, .int (L.1 2)), (3, .int (L.1 3))]) 99 (fun L => [])) ∧ (bC p l e (headSpec w_y_X0_product ({ frames := 64, cells := 0, slots := 0, locals := 1792 })).room s m #[.ref (a 14), .int (L0.1 1), .int (L0.1 2)] below meth c dC dI cy a z A (kI dC dI cy a z A below #[.ref (a 14), .int (L0.1 1), .int (L0.1 2)] s) 4 (y_X0_product k 7) (fun L => [(0, .ref (a 14)), (1, .int (L.1 1)), (2, .int (L.1 2)), (3, .int (L.1 3))]) 115 (fun L => [])) ∧ (bC p l e (headSpec w_y_X0_product ({ frames := 64, cells := 0, slots := 0, locals := 1792 })).room s m #[.ref (a 14), .int (L0.1 1), .int (L0.1 2)] below meth c dC dI cy a z A (kI dC dI cy a z A below #[.ref (a 14), .int (L0.1 1), .int (L0.1 2)] s) 4 (y_X0_product k 8) (fun L => []) 129 (fun L => [.int (L.1 100)])) := by
    intro k
    induction k with
    | zero => exact ⟨fun L σ r h => (by cases h), fun L σ r h => (by cases h), fun L σ r h => (by cases h), fun L σ r h => (by cases h), fun L σ r h => (by cases h), fun L σ r h => (by cases h), fun L σ r h => (by cases h), fun L σ r h => (by cases h), fun L σ r h => (by cases h)⟩
    | succ k ih =>
      refine ⟨?_, ?_, ?_, ?_, ?_, ?_, ?_, ?_, ?_⟩
      · intro L σ r h H locs ls hP hD hS hl
        rw [y_X0_product] at h
        refine lv_aload_n hx hb dX0_product_0 rfl (lv_at hl 0 rfl) ?_
        refine lv_iload_n hx hb dX0_product_1 rfl (lv_at hl 1 rfl) ?_
        refine lv_iload_n hx hb dX0_product_2 rfl (lv_at hl 2 rfl) ?_
        obtain ⟨r1, hc1, h⟩ := oc_ex h
        refine kc_i (va_runV (As := [.int (L.1 1), .int (L.1 2)]) (rest := []) ⟨hx, hb, hml, hown, hts⟩ (c_y_X0_areWholes l dC dI cy a z k (lI (lI lZ 1 ((L.1 1))) 2 ((L.1 2))) σ r1 hc1 H.size) (cwV 2 hts g_y_X0_product_X0_areWholes_V44 rfl rfl rfl hd_y_X0_areWholes ⟨Nat.le_of_ble_eq_true rfl, Nat.le_of_ble_eq_true rfl⟩) ⟨nb_blind, va_recv hK hP (ci := 0) (q0 := 14) rfl rfl, (kb_pre hK hG hP hD)⟩ rfl rfl hl.1 rfl (lv_room (Nat.le_of_ble_eq_true rfl)) dX0_product_3 ⟨Nat.le_refl _, Nat.le_refl _⟩) hA hP hD hS (fun H locs hP hD hS => ?_)
        refine lv_if_eq (tgt := 19) hx hb dX0_product_6 (by decide) (fun c2 => ?_) (fun c2 => ?_)
        · rw [if_pos c2] at h
          exact ih.2.1 L r1.2 r h H locs ls hP hD hS (lv_sub hl [0, 1, 2] rfl)
        · rw [if_neg c2] at h
          refine lv_aload_n hx hb dX0_product_9 rfl (lv_at hl 0 rfl) ?_
          refine hg_14_1 hx hb hts in_y_X0_product_X0 hown hK hP (hts _ (List.mem_cons_of_mem _ (List.mem_append_left _ (List.mem_append_left _ (List.mem_of_getElem? (i := 4) rfl))))) dX0_product_10 ?_
          refine lv_iload_n hx hb dX0_product_13 rfl (lv_at hl 1 rfl) ?_
          refine lv_iload_n hx hb dX0_product_14 rfl (lv_at hl 2 rfl) ?_
          obtain ⟨r3, hc3, h⟩ := oc_ex h
          refine kc_i (va_runV (As := [.int (L.1 1), .int (L.1 2)]) (rest := []) ⟨hx, hb, hml, hown, hts⟩ (c_y_X10_product l dC dI cy a z k (lI (lI lZ 1 ((L.1 1))) 2 ((L.1 2))) r1.2 r3 hc3 H.size) (cwV 2 hts g_y_X0_product_X10_product_V128 rfl rfl rfl hd_y_X10_product ⟨Nat.le_of_ble_eq_true rfl, Nat.le_of_ble_eq_true rfl⟩) ⟨nb_blind, va_recv hK hP (ci := 9) (q0 := 4) rfl rfl, (kb_pre hK hG hP hD)⟩ rfl rfl hl.1 rfl (lv_room (Nat.le_of_ble_eq_true rfl)) dX0_product_15 ⟨Nat.le_refl _, Nat.le_refl _⟩) hA hP hD hS (fun H locs hP hD hS => ?_)
          obtain rfl := Option.some.inj h
          exact W.iret (v := r3.1) hx hb hr (fun t ht hW => ⟨⟨r3.1, (), rfl, rfl, by rw [ht]; exact hP, va_K.moved hW.alike hK, hD⟩, hS.F ht⟩) hS.2.2 dX0_product_18
      · intro L σ r h H locs ls hP hD hS hl
        rw [y_X0_product] at h
        refine lv_aload_n hx hb dX0_product_19 rfl (lv_at hl 0 rfl) ?_
        refine lv_iload_n hx hb dX0_product_20 rfl (lv_at hl 1 rfl) ?_
        refine lv_iload_n hx hb dX0_product_21 rfl (lv_at hl 2 rfl) ?_
        obtain ⟨r1, hc1, h⟩ := oc_ex h
        refine kc_i (va_runV (As := [.int (L.1 1), .int (L.1 2)]) (rest := []) ⟨hx, hb, hml, hown, hts⟩ (c_y_X0_areSets l dC dI cy a z k (lI (lI lZ 1 ((L.1 1))) 2 ((L.1 2))) σ r1 hc1 H.size) (cwV 2 hts g_y_X0_product_X0_areSets_V77 rfl rfl rfl hd_y_X0_areSets ⟨Nat.le_of_ble_eq_true rfl, Nat.le_of_ble_eq_true rfl⟩) ⟨nb_blind, va_recv hK hP (ci := 0) (q0 := 14) rfl rfl, (kb_pre hK hG hP hD)⟩ rfl rfl hl.1 rfl (lv_room (Nat.le_of_ble_eq_true rfl)) dX0_product_22 ⟨Nat.le_refl _, Nat.le_refl _⟩) hA hP hD hS (fun H locs hP hD hS => ?_)
        refine lv_if_eq (tgt := 65) hx hb dX0_product_25 (by decide) (fun c2 => ?_) (fun c2 => ?_)
        · rw [if_pos c2] at h
          exact ih.2.2.1 L r1.2 r h H locs ls hP hD hS (lv_sub hl [0, 1, 2] rfl)
        · rw [if_neg c2] at h
          refine lv_aload_n hx hb dX0_product_28 rfl (lv_at hl 0 rfl) ?_
          refine hg_14_0 hx hb hts in_y_X0_product_X0 hown hK hP (hts _ (List.mem_cons_of_mem _ (List.mem_append_left _ (List.mem_append_left _ (List.mem_of_getElem? (i := 12) rfl))))) dX0_product_29 ?_
          refine lv_iload_n hx hb dX0_product_32 rfl (lv_at hl 1 rfl) ?_
          obtain ⟨r3, hc3, h⟩ := oc_ex h
          refine kc_i (va_runV (As := [.int (L.1 1)]) (rest := []) ⟨hx, hb, hml, hown, hts⟩ (c_y_X1_length l dC dI cy a z k (lI lZ 1 ((L.1 1))) r1.2 r3 hc3 H.size) (cwV 1 hts g_y_X0_product_X1_length_V100 rfl rfl rfl hd_y_X1_length ⟨Nat.le_of_ble_eq_true rfl, Nat.le_of_ble_eq_true rfl⟩) ⟨nb_blind, va_recv hK hP (ci := 1) (q0 := 0) rfl rfl, (kb_pre hK hG hP hD)⟩ rfl rfl hl.1 rfl (lv_room (Nat.le_of_ble_eq_true rfl)) dX0_product_33 ⟨Nat.le_refl _, Nat.le_refl _⟩) hA hP hD hS (fun H locs hP hD hS => ?_)
          refine lv_aload_n hx hb dX0_product_36 rfl (lv_at hl 0 rfl) ?_
          refine hg_14_0 hx hb hts in_y_X0_product_X0 hown hK hP (hts _ (List.mem_cons_of_mem _ (List.mem_append_left _ (List.mem_append_left _ (List.mem_of_getElem? (i := 12) rfl))))) dX0_product_37 ?_
          refine lv_iload_n hx hb dX0_product_40 rfl (lv_at hl 2 rfl) ?_
          obtain ⟨r4, hc4, h⟩ := oc_ex h
          refine kc_i (va_runV (As := [.int (L.1 2)]) (rest := [.int r3.1]) ⟨hx, hb, hml, hown, hts⟩ (c_y_X1_length l dC dI cy a z k (lI lZ 1 ((L.1 2))) r3.2 r4 hc4 H.size) (cwV 1 hts g_y_X0_product_X1_length_V100 rfl rfl rfl hd_y_X1_length ⟨Nat.le_of_ble_eq_true rfl, Nat.le_of_ble_eq_true rfl⟩) ⟨nb_blind, va_recv hK hP (ci := 1) (q0 := 0) rfl rfl, (kb_pre hK hG hP hD)⟩ rfl rfl hl.1 rfl (lv_room (Nat.le_of_ble_eq_true rfl)) dX0_product_41 ⟨Nat.le_refl _, Nat.le_refl _⟩) hA hP hD hS (fun H locs hP hD hS => ?_)
          refine lv_icmp_ge (tgt := 57) hx hb dX0_product_44 (by decide) (fun c5 => ?_) (fun c5 => ?_)
          · rw [if_pos c5] at h
            exact ih.2.2.2.1 L r4.2 r h H locs ls hP hD hS (lv_sub hl [0, 1, 2] rfl)
          · rw [if_neg c5] at h
            refine lv_aload_n hx hb dX0_product_47 rfl (lv_at hl 0 rfl) ?_
            refine lv_iload_n hx hb dX0_product_48 rfl (lv_at hl 1 rfl) ?_
            refine lv_iload_n hx hb dX0_product_49 rfl (lv_at hl 2 rfl) ?_
            refine lv_iconst (v := 1) hx hb dX0_product_50 (by decide) ?_
            obtain ⟨r6, hc6, h⟩ := oc_ex h
            refine kc_i (va_runV (As := [.int (L.1 1), .int (L.1 2), .int 1]) (rest := []) ⟨hx, hb, hml, hown, hts⟩ (c_y_X0_chosen l dC dI cy a z k (lI (lI (lI lZ 1 ((L.1 1))) 2 ((L.1 2))) 3 1) r4.2 r6 hc6 H.size) (cwV 3 hts g_y_X0_product_X0_chosen_V122 rfl rfl rfl hd_y_X0_chosen ⟨Nat.le_of_ble_eq_true rfl, Nat.le_of_ble_eq_true rfl⟩) ⟨nb_blind, va_recv hK hP (ci := 0) (q0 := 14) rfl rfl, (kb_pre hK hG hP hD)⟩ rfl rfl hl.1 rfl (lv_room (Nat.le_of_ble_eq_true rfl)) dX0_product_51 ⟨Nat.le_refl _, Nat.le_refl _⟩) hA hP hD hS (fun H locs hP hD hS => ?_)
            refine lv_goto (tgt := 64) hx hb dX0_product_54 (by decide) ?_
            exact ih.2.2.2.2.1 (lI L 100 r6.1) r6.2 r h H locs ls hP hD hS (lv_sub hl [] rfl)
      · intro L σ r h H locs ls hP hD hS hl
        rw [y_X0_product] at h
        refine lv_aload_n hx hb dX0_product_65 rfl (lv_at hl 0 rfl) ?_
        refine hg_14_0 hx hb hts in_y_X0_product_X0 hown hK hP (hts _ (List.mem_cons_of_mem _ (List.mem_append_left _ (List.mem_append_left _ (List.mem_of_getElem? (i := 12) rfl))))) dX0_product_66 ?_
        refine lv_iload_n hx hb dX0_product_69 rfl (lv_at hl 1 rfl) ?_
        obtain ⟨r1, hc1, h⟩ := oc_ex h
        refine kc_i (va_runV (As := [.int (L.1 1)]) (rest := []) ⟨hx, hb, hml, hown, hts⟩ (c_y_X1_kind l dC dI cy a z k (lI lZ 1 ((L.1 1))) σ r1 hc1 H.size) (cwV 1 hts g_y_X0_product_X1_kind_V87 rfl rfl rfl hd_y_X1_kind ⟨Nat.le_of_ble_eq_true rfl, Nat.le_of_ble_eq_true rfl⟩) ⟨nb_blind, va_recv hK hP (ci := 1) (q0 := 0) rfl rfl, (kb_pre hK hG hP hD)⟩ rfl rfl hl.1 rfl (lv_room (Nat.le_of_ble_eq_true rfl)) dX0_product_70 ⟨Nat.le_refl _, Nat.le_refl _⟩) hA hP hD hS (fun H locs hP hD hS => ?_)
        refine lv_istore_n (lv' := [(3, .int r1.1), (0, .ref (a 14)), (1, .int (L.1 1)), (2, .int (L.1 2))]) hx hb dX0_product_73 rfl hl (by decide) rfl (fun ls hl => ?_)
        refine lv_aload_n hx hb dX0_product_74 rfl (lv_at hl 1 rfl) ?_
        refine hg_14_0 hx hb hts in_y_X0_product_X0 hown hK hP (hts _ (List.mem_cons_of_mem _ (List.mem_append_left _ (List.mem_append_left _ (List.mem_of_getElem? (i := 12) rfl))))) dX0_product_75 ?_
        refine lv_iload_n hx hb dX0_product_78 rfl (lv_at hl 3 rfl) ?_
        obtain ⟨r2, hc2, h⟩ := oc_ex h
        refine kc_i (va_runV (As := [.int (L.1 2)]) (rest := []) ⟨hx, hb, hml, hown, hts⟩ (c_y_X1_kind l dC dI cy a z k (lI lZ 1 ((L.1 2))) r1.2 r2 hc2 H.size) (cwV 1 hts g_y_X0_product_X1_kind_V87 rfl rfl rfl hd_y_X1_kind ⟨Nat.le_of_ble_eq_true rfl, Nat.le_of_ble_eq_true rfl⟩) ⟨nb_blind, va_recv hK hP (ci := 1) (q0 := 0) rfl rfl, (kb_pre hK hG hP hD)⟩ rfl rfl hl.1 rfl (lv_room (Nat.le_of_ble_eq_true rfl)) dX0_product_79 ⟨Nat.le_refl _, Nat.le_refl _⟩) hA hP hD hS (fun H locs hP hD hS => ?_)
        refine lv_iconst (v := 2) hx hb dX0_product_82 (by decide) ?_
        refine lv_icmp_ne (tgt := 96) hx hb dX0_product_83 (by decide) (fun c3 => ?_) (fun c3 => ?_)
        · rw [if_neg c3] at h
          exact ih.2.2.2.2.2.1 L r2.2 r h H locs ls hP hD hS (lv_sub hl [] rfl)
        · rw [if_pos c3] at h
          refine lv_iload_n hx hb dX0_product_86 rfl (lv_at hl 0 rfl) ?_
          refine lv_iconst (v := 4) hx hb dX0_product_87 (by decide) ?_
          refine lv_icmp_eq (tgt := 99) hx hb dX0_product_88 (by decide) (fun c4 => ?_) (fun c4 => ?_)
          · rw [if_pos c4] at h
            exact ih.2.2.2.2.2.2.1 (lI L 3 r1.1) r2.2 r h H locs ls hP hD hS (lv_sub hl [1, 2, 3, 0] rfl)
          · rw [if_neg c4] at h
            refine lv_iload_n hx hb dX0_product_91 rfl (lv_at hl 0 rfl) ?_
            refine lv_iconst (v := 5) hx hb dX0_product_92 (by decide) ?_
            refine lv_icmp_eq (tgt := 99) hx hb dX0_product_93 (by decide) (fun c5 => ?_) (fun c5 => ?_)
            · rw [if_pos c5] at h
              exact ih.2.2.2.2.2.2.1 (lI L 3 r1.1) r2.2 r h H locs ls hP hD hS (lv_sub hl [1, 2, 3, 0] rfl)
            · rw [if_neg c5] at h
              exact ih.2.2.2.2.2.1 L r2.2 r h H locs ls hP hD hS (lv_sub hl [] rfl)
      · intro L σ r h H locs ls hP hD hS hl
        rw [y_X0_product] at h
        refine lv_aload_n hx hb dX0_product_57 rfl (lv_at hl 0 rfl) ?_
        refine lv_iload_n hx hb dX0_product_58 rfl (lv_at hl 2 rfl) ?_
        refine lv_iload_n hx hb dX0_product_59 rfl (lv_at hl 1 rfl) ?_
        refine lv_iconst (v := 1) hx hb dX0_product_60 (by decide) ?_
        obtain ⟨r1, hc1, h⟩ := oc_ex h
        refine kc_i (va_runV (As := [.int (L.1 2), .int (L.1 1), .int 1]) (rest := []) ⟨hx, hb, hml, hown, hts⟩ (c_y_X0_chosen l dC dI cy a z k (lI (lI (lI lZ 1 ((L.1 2))) 2 ((L.1 1))) 3 1) σ r1 hc1 H.size) (cwV 3 hts g_y_X0_product_X0_chosen_V122 rfl rfl rfl hd_y_X0_chosen ⟨Nat.le_of_ble_eq_true rfl, Nat.le_of_ble_eq_true rfl⟩) ⟨nb_blind, va_recv hK hP (ci := 0) (q0 := 14) rfl rfl, (kb_pre hK hG hP hD)⟩ rfl rfl hl.1 rfl (lv_room (Nat.le_of_ble_eq_true rfl)) dX0_product_61 ⟨Nat.le_refl _, Nat.le_refl _⟩) hA hP hD hS (fun H locs hP hD hS => ?_)
        exact ih.2.2.2.2.1 (lI L 100 r1.1) r1.2 r h H locs ls hP hD hS (lv_sub hl [] rfl)
      · intro L σ r h H locs ls hP hD hS hl
        rw [y_X0_product] at h
        obtain rfl := Option.some.inj h
        exact W.iret (v := (L.1 100)) hx hb hr (fun t ht hW => ⟨⟨(L.1 100), (), rfl, rfl, by rw [ht]; exact hP, va_K.moved hW.alike hK, hD⟩, hS.F ht⟩) hS.2.2 dX0_product_64
      · intro L σ r h H locs ls hP hD hS hl
        rw [y_X0_product] at h
        refine lv_ldc (v := (-268435455)) hx hb hown (hts _ (List.mem_cons_of_mem _ (List.mem_append_left _ (List.mem_append_left _ (List.mem_of_getElem? (i := 23) rfl))))) dX0_product_96 ?_
        obtain rfl := Option.some.inj h
        exact W.iret (v := (-268435455)) hx hb hr (fun t ht hW => ⟨⟨(-268435455), (), rfl, rfl, by rw [ht]; exact hP, va_K.moved hW.alike hK, hD⟩, hS.F ht⟩) hS.2.2 dX0_product_98
      · intro L σ r h H locs ls hP hD hS hl
        rw [y_X0_product] at h
        refine lv_aload_n hx hb dX0_product_99 rfl (lv_at hl 0 rfl) ?_
        refine hg_14_1 hx hb hts in_y_X0_product_X0 hown hK hP (hts _ (List.mem_cons_of_mem _ (List.mem_append_left _ (List.mem_append_left _ (List.mem_of_getElem? (i := 4) rfl))))) dX0_product_100 ?_
        refine lv_iload_n hx hb dX0_product_103 rfl (lv_at hl 2 rfl) ?_
        obtain ⟨r1, hc1, h⟩ := oc_ex h
        refine kc_i (va_runV (As := [.int (L.1 2)]) (rest := []) ⟨hx, hb, hml, hown, hts⟩ (c_y_X10_isBelow l dC dI cy a z k (lI lZ 1 ((L.1 2))) σ r1 hc1 H.size) (cwV 1 hts g_y_X0_product_X10_isBelow_V129 rfl rfl rfl hd_y_X10_isBelow ⟨Nat.le_of_ble_eq_true rfl, Nat.le_of_ble_eq_true rfl⟩) ⟨nb_blind, va_recv hK hP (ci := 9) (q0 := 4) rfl rfl, (kb_pre hK hG hP hD)⟩ rfl rfl hl.1 rfl (lv_room (Nat.le_of_ble_eq_true rfl)) dX0_product_104 ⟨Nat.le_refl _, Nat.le_refl _⟩) hA hP hD hS (fun H locs hP hD hS => ?_)
        refine lv_if_eq (tgt := 115) hx hb dX0_product_107 (by decide) (fun c2 => ?_) (fun c2 => ?_)
        · rw [if_pos c2] at h
          exact ih.2.2.2.2.2.2.2.1 L r1.2 r h H locs ls hP hD hS (lv_sub hl [0, 1, 2, 3] rfl)
        · rw [if_neg c2] at h
          refine lv_ldc (v := (-268435452)) hx hb hown (hts _ (List.mem_cons_of_mem _ (List.mem_append_left _ (List.mem_append_left _ (List.mem_of_getElem? (i := 27) rfl))))) dX0_product_110 ?_
          refine lv_goto (tgt := 129) hx hb dX0_product_112 (by decide) ?_
          exact ih.2.2.2.2.2.2.2.2 (lI L 100 ((-268435452))) r1.2 r h H locs ls hP hD hS (lv_sub hl [] rfl)
      · intro L σ r h H locs ls hP hD hS hl
        rw [y_X0_product] at h
        refine lv_aload_n hx hb dX0_product_115 rfl (lv_at hl 0 rfl) ?_
        refine lv_iload_n hx hb dX0_product_116 rfl (lv_at hl 1 rfl) ?_
        refine lv_iload_n hx hb dX0_product_117 rfl (lv_at hl 3 rfl) ?_
        refine lv_aload_n hx hb dX0_product_118 rfl (lv_at hl 0 rfl) ?_
        refine hg_14_1 hx hb hts in_y_X0_product_X0 hown hK hP (hts _ (List.mem_cons_of_mem _ (List.mem_append_left _ (List.mem_append_left _ (List.mem_of_getElem? (i := 4) rfl))))) dX0_product_119 ?_
        refine lv_iload_n hx hb dX0_product_122 rfl (lv_at hl 2 rfl) ?_
        obtain ⟨r1, hc1, h⟩ := oc_ex h
        refine kc_i (va_runV (As := [.int (L.1 2)]) (rest := [.int (L.1 3), .int (L.1 1), .ref (a 14)]) ⟨hx, hb, hml, hown, hts⟩ (c_y_X10_clamped l dC dI cy a z k (lI lZ 1 ((L.1 2))) σ r1 hc1 H.size) (cwV 1 hts g_y_X0_product_X10_clamped_V133 rfl rfl rfl hd_y_X10_clamped ⟨Nat.le_of_ble_eq_true rfl, Nat.le_of_ble_eq_true rfl⟩) ⟨nb_blind, va_recv hK hP (ci := 9) (q0 := 4) rfl rfl, (kb_pre hK hG hP hD)⟩ rfl rfl hl.1 rfl (lv_room (Nat.le_of_ble_eq_true rfl)) dX0_product_123 ⟨Nat.le_refl _, Nat.le_refl _⟩) hA hP hD hS (fun H locs hP hD hS => ?_)
        obtain ⟨r2, hc2, h⟩ := oc_ex h
        refine kc_i (va_runV (As := [.int (L.1 1), .int (L.1 3), .int r1.1]) (rest := []) ⟨hx, hb, hml, hown, hts⟩ (c_y_X0_repeated l dC dI cy a z k (lI (lI (lI lZ 1 ((L.1 1))) 2 ((L.1 3))) 3 r1.1) r1.2 r2 hc2 H.size) (cwV 3 hts g_y_X0_product_X0_repeated_V136 rfl rfl rfl hd_y_X0_repeated ⟨Nat.le_of_ble_eq_true rfl, Nat.le_of_ble_eq_true rfl⟩) ⟨nb_blind, va_recv hK hP (ci := 0) (q0 := 14) rfl rfl, (kb_pre hK hG hP hD)⟩ rfl rfl hl.1 rfl (lv_room (Nat.le_of_ble_eq_true rfl)) dX0_product_126 ⟨Nat.le_refl _, Nat.le_refl _⟩) hA hP hD hS (fun H locs hP hD hS => ?_)
        exact ih.2.2.2.2.2.2.2.2 (lI L 100 r2.1) r2.2 r h H locs ls hP hD hS (lv_sub hl [] rfl)
      · intro L σ r h H locs ls hP hD hS hl
        rw [y_X0_product] at h
        obtain rfl := Option.some.inj h
        exact W.iret (v := (L.1 100)) hx hb hr (fun t ht hW => ⟨⟨(L.1 100), (), rfl, rfl, by rw [ht]; exact hP, va_K.moved hW.alike hK, hD⟩, hS.F ht⟩) hS.2.2 dX0_product_129
  exact (blk k0).1 L0 σ0 r0 h0 s.heap [] ls hP hD hS hl
/-! X10_number -/
def y_X10_number : Nat → Nat → LV → CS → Option (Int32 × CS)
  | 0, _, _, _ => none
  | k + 1, 0, L, σ => some ((((((L.1 0)) <<< ((4 : Int32) &&& 31))) >>> ((4 : Int32) &&& 31)), σ)
  | _ + 1, _ + 1, _, _ => none
def o_y_X10_number : List Cond := []
theorem o_y_X10_number_good : o_y_X10_number.all goodWord = true := by decide +kernel
def p_y_X10_number : List Cond := o_y_X10_number ++ []
theorem p_y_X10_number_good : p_y_X10_number.all goodWord = true := nb_all2 o_y_X10_number_good rfl
def w_y_X10_number : List Cond := .code yX10_number cX10_number 1 (some .int) :: (p_y_X10_number ++ fC)
theorem w_y_X10_number_good : w_y_X10_number.all goodWord = true := nb_allc (by decide +kernel) (nb_all2 p_y_X10_number_good fC_good)
theorem hd_y_X10_number : yX10_number.cls ≠ "java/lang/invoke/MethodHandle" ∧ yX10_number.cls ≠ "java/lang/invoke/VarHandle" ∧ (parseMethodDescriptor yX10_number.desc).map (fun d => d.parameters.length) = some 1 := by decide +kernel
set_option maxHeartbeats 40000000 in
set_option maxRecDepth 100000 in
theorem c_y_X10_number (l : Launch) (dC : Nat → ClassId) (dI : Nat → Nat → Nat) (cy : Nat → ClassId) (a z : Nat → Nat) (k0 : Nat) (L0 : LV) (σ0 : CS) (r0 : Int32 × CS) (h0 : y_X10_number k0 0 L0 σ0 = some r0) (sz : Nat) : Met l yX10_number w_y_X10_number ({ frames := 0, cells := 0, slots := 0, locals := 0 }) (va_Pc [.int (L0.1 0)] (nIn (dC, dI) cy sz (vC cy a z σ0))) (va_Qi (fun (x : Int32) (_ : Unit) => x = r0.1) (fun _ t => nOut (dC, dI) cy (va_A (vC cy a z σ0) sz) (vC cy a z r0.2) t) (va_A (vC cy a z σ0) sz)) 0 0 (va_A (vC cy a z σ0) sz) := by
  refine Met.ofW (cc := cX10_number) (maxL := 1) (ret := (some .int)) (by decide) rfl ?_
  intro p e s m args below meth c s₁ B hml hv
  obtain ⟨rfl, hsz, hP, hK, hD0, hG⟩ := hv
  have hx := B.exec
  have hb := B.bytes
  have hr := B.returns
  have hts := atoms_spec (ws := w_y_X10_number) B.pre
  have hown : s.vm.findClass RX10 = some m.cls := findClass_of_methodNamed B.named
  have hlocks := B.notSynchronized
  subst hsz
  have hD := hD0.self (sz := s.heap.size)
  generalize hAe : va_A (vC cy a z σ0) s.heap.size = A at hD ⊢
  have hA : ∀ q : Nat, s.heap.size ≤ q → A q := fun q h => by rw [← hAe]; exact Or.inr h
  have hS : va_S A s.heap s.heap [] := va_S.rf
  have hl := lv_entry ([.int (L0.1 0)]) (n := 1) (Nat.le_of_ble_eq_true rfl)
  rw [lg_entry_eq]
  generalize (lg_sl ([.int (L0.1 0)]) ++ List.replicate (1 - (lg_sl ([.int (L0.1 0)])).length) Slot.unset).toArray = ls at hl ⊢
  have hl : lv_has ls 1 [(0, .int (L0.1 0))] := hl
  have blk : ∀ k : Nat, (bC p l e (headSpec w_y_X10_number ({ frames := 0, cells := 0, slots := 0, locals := 0 })).room s m #[.int (L0.1 0)] below meth c dC dI cy a z A (kI dC dI cy a z A below #[.int (L0.1 0)] s) 1 (y_X10_number k 0) (fun L => [(0, .int (L.1 0))]) 0 (fun L => [])) := by
    intro k
    induction k with
    | zero => exact fun L σ r h => (by cases h)
    | succ k ih =>
      skip
      · intro L σ r h H locs ls hP hD hS hl
        rw [y_X10_number] at h
        refine lv_iload_n hx hb dX10_number_0 rfl (lv_at hl 0 rfl) ?_
        refine lv_iconst (v := 4) hx hb dX10_number_1 (by decide) ?_
        refine lv_ishl hx hb dX10_number_2 ?_
        refine lv_iconst (v := 4) hx hb dX10_number_3 (by decide) ?_
        refine lv_ishr hx hb dX10_number_4 ?_
        obtain rfl := Option.some.inj h
        exact W.iret (v := (((((L.1 0)) <<< ((4 : Int32) &&& 31))) >>> ((4 : Int32) &&& 31))) hx hb hr (fun t ht hW => ⟨⟨(((((L.1 0)) <<< ((4 : Int32) &&& 31))) >>> ((4 : Int32) &&& 31)), (), rfl, rfl, by rw [ht]; exact hP, va_K.moved hW.alike hK, hD⟩, hS.F ht⟩) hS.2.2 dX10_number_5
  exact (blk k0) L0 σ0 r0 h0 s.heap [] ls hP hD hS hl

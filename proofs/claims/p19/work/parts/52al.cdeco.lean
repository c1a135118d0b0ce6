/-! X0_part -/
def y_X0_part : Nat → Nat → LV → CS → Option (Int32 × CS)
  | 0, _, _, _ => none
  | k + 1, 0, L, σ => if ((L.1 1)) = (96 : Int32) then (y_X0_part k 1 L σ) else (if ((L.1 1)) = (97 : Int32) then (y_X0_part k 2 L σ) else (y_X0_part k 3 L σ))
  | k + 1, 1, L, σ => oc (y_X0_memberAt k 0 (lI (lI lZ 1 ((L.1 2))) 2 ((L.1 3))) σ) (fun r1 => some (r1.1, r1.2))
  | k + 1, 2, L, σ => oc (y_X0_slice k 0 (lI (lI (lI lZ 1 ((L.1 2))) 2 ((L.1 3))) 3 ((L.1 4))) σ) (fun r1 => some (r1.1, r1.2))
  | k + 1, 3, L, σ => oc (y_X1_isMap k 0 (lI lZ 1 ((L.1 2))) σ) (fun r1 => if r1.1 = 0 then (y_X0_part k 4 L r1.2) else (oc (y_X0_images k 0 (lI (lI lZ 1 ((L.1 2))) 2 ((L.1 3))) r1.2) (fun r3 => y_X0_part k 5 (lI L 100 r3.1) r3.2)))
  | k + 1, 4, L, σ => y_X0_part k 5 (lI L 100 ((-268435455))) σ
  | k + 1, 5, L, σ => some ((L.1 100), σ)
  | _ + 1, _ + 6, _, _ => none
def o_y_X0_part : List Cond := [.methodLink RX0 255 yX0_memberAt, .instanceMethod yX0_memberAt, .selects RX0 yX0_memberAt yX0_memberAt, .initialized RX0, .methodLink RX0 258 yX0_slice, .instanceMethod yX0_slice, .selects RX0 yX0_slice yX0_slice, .fieldLink RX0 22 "SetHouse$Algebra" "heap" "LSetHouse$Heap;", .methodLink RX0 191 yX1_isMap, .instanceMethod yX1_isMap, .selects RX1 yX1_isMap yX1_isMap, .initialized RX1, .methodLink RX0 261 yX0_images, .instanceMethod yX0_images, .selects RX0 yX0_images yX0_images, .constant RX0 56 (-268435455)]
theorem o_y_X0_part_good : o_y_X0_part.all goodWord = true := by decide +kernel
def p_y_X0_part : List Cond := o_y_X0_part ++ ((.code yX0_memberAt cX0_memberAt 5 (some .int) :: p_y_X0_memberAt) ++ ((.code yX0_slice cX0_slice 7 (some .int) :: p_y_X0_slice) ++ ((.code yX1_isMap cX1_isMap 2 (some .boolean) :: p_y_X1_isMap) ++ ((.code yX0_images cX0_images 7 (some .int) :: p_y_X0_images) ++ []))))
theorem p_y_X0_part_good : p_y_X0_part.all goodWord = true := nb_all2 o_y_X0_part_good (nb_all2 (nb_allc (by decide +kernel) p_y_X0_memberAt_good) (nb_all2 (nb_allc (by decide +kernel) p_y_X0_slice_good) (nb_all2 (nb_allc (by decide +kernel) p_y_X1_isMap_good) (nb_all2 (nb_allc (by decide +kernel) p_y_X0_images_good) rfl))))
def w_y_X0_part : List Cond := .code yX0_part cX0_part 5 (some .int) :: (p_y_X0_part ++ fC)
theorem w_y_X0_part_good : w_y_X0_part.all goodWord = true := nb_allc (by decide +kernel) (nb_all2 p_y_X0_part_good fC_good)
theorem in_y_X0_part_X0 : ∀ w ∈ wsX00, w ∈ w_y_X0_part := fun _ h => List.mem_cons_of_mem _ (List.mem_append_right _ (List.mem_append_left _ h))
theorem hd_y_X0_part : yX0_part.cls = RX0 ∧ yX0_part.cls ≠ "java/lang/invoke/MethodHandle" ∧ yX0_part.cls ≠ "java/lang/invoke/VarHandle" ∧ (parseMethodDescriptor yX0_part.desc).map (fun d => d.parameters.length) = some 4 := by decide +kernel
theorem gg_y_X0_part_X0_images : GoodIn w_y_X0_part w_y_X0_images := goodIn_sub (fun w h => (List.mem_cons.mp h).elim (fun e => (List.mem_cons_of_mem _ (List.mem_append_left _ (List.mem_append_right _ (List.mem_append_right _ (List.mem_append_right _ (List.mem_append_right _ (List.mem_append_left _ (List.mem_cons.mpr (Or.inl e)))))))))) (fun h => (List.mem_append.mp h).elim (fun h => (List.mem_cons_of_mem _ (List.mem_append_left _ (List.mem_append_right _ (List.mem_append_right _ (List.mem_append_right _ (List.mem_append_right _ (List.mem_append_left _ (List.mem_cons_of_mem _ h))))))))) (fun h => List.mem_cons_of_mem _ (List.mem_append_right _ h)))) w_y_X0_images_good
theorem g_y_X0_part_X0_images_V261 : GoodIn w_y_X0_part (wsV RX0 261 RX0 yX0_images w_y_X0_images) := goodIn_app (nb_g4 (List.mem_cons_of_mem _ (List.mem_append_left _ (List.mem_append_left _ (List.mem_of_getElem? (i := 12) rfl)))) (List.mem_cons_of_mem _ (List.mem_append_left _ (List.mem_append_left _ (List.mem_of_getElem? (i := 13) rfl)))) (List.mem_cons_of_mem _ (List.mem_append_left _ (List.mem_append_left _ (List.mem_of_getElem? (i := 14) rfl)))) (List.mem_cons_of_mem _ (List.mem_append_left _ (List.mem_append_left _ (List.mem_of_getElem? (i := 3) rfl)))) (by decide +kernel)) gg_y_X0_part_X0_images
theorem gg_y_X0_part_X0_memberAt : GoodIn w_y_X0_part w_y_X0_memberAt := goodIn_sub (fun w h => (List.mem_cons.mp h).elim (fun e => (List.mem_cons_of_mem _ (List.mem_append_left _ (List.mem_append_right _ (List.mem_append_left _ (List.mem_cons.mpr (Or.inl e))))))) (fun h => (List.mem_append.mp h).elim (fun h => (List.mem_cons_of_mem _ (List.mem_append_left _ (List.mem_append_right _ (List.mem_append_left _ (List.mem_cons_of_mem _ h)))))) (fun h => List.mem_cons_of_mem _ (List.mem_append_right _ h)))) w_y_X0_memberAt_good
theorem g_y_X0_part_X0_memberAt_V255 : GoodIn w_y_X0_part (wsV RX0 255 RX0 yX0_memberAt w_y_X0_memberAt) := goodIn_app (nb_g4 (List.mem_cons_of_mem _ (List.mem_append_left _ (List.mem_append_left _ (List.mem_of_getElem? (i := 0) rfl)))) (List.mem_cons_of_mem _ (List.mem_append_left _ (List.mem_append_left _ (List.mem_of_getElem? (i := 1) rfl)))) (List.mem_cons_of_mem _ (List.mem_append_left _ (List.mem_append_left _ (List.mem_of_getElem? (i := 2) rfl)))) (List.mem_cons_of_mem _ (List.mem_append_left _ (List.mem_append_left _ (List.mem_of_getElem? (i := 3) rfl)))) (by decide +kernel)) gg_y_X0_part_X0_memberAt
theorem gg_y_X0_part_X0_slice : GoodIn w_y_X0_part w_y_X0_slice := goodIn_sub (fun w h => (List.mem_cons.mp h).elim (fun e => (List.mem_cons_of_mem _ (List.mem_append_left _ (List.mem_append_right _ (List.mem_append_right _ (List.mem_append_left _ (List.mem_cons.mpr (Or.inl e)))))))) (fun h => (List.mem_append.mp h).elim (fun h => (List.mem_cons_of_mem _ (List.mem_append_left _ (List.mem_append_right _ (List.mem_append_right _ (List.mem_append_left _ (List.mem_cons_of_mem _ h))))))) (fun h => List.mem_cons_of_mem _ (List.mem_append_right _ h)))) w_y_X0_slice_good
theorem g_y_X0_part_X0_slice_V258 : GoodIn w_y_X0_part (wsV RX0 258 RX0 yX0_slice w_y_X0_slice) := goodIn_app (nb_g4 (List.mem_cons_of_mem _ (List.mem_append_left _ (List.mem_append_left _ (List.mem_of_getElem? (i := 4) rfl)))) (List.mem_cons_of_mem _ (List.mem_append_left _ (List.mem_append_left _ (List.mem_of_getElem? (i := 5) rfl)))) (List.mem_cons_of_mem _ (List.mem_append_left _ (List.mem_append_left _ (List.mem_of_getElem? (i := 6) rfl)))) (List.mem_cons_of_mem _ (List.mem_append_left _ (List.mem_append_left _ (List.mem_of_getElem? (i := 3) rfl)))) (by decide +kernel)) gg_y_X0_part_X0_slice
theorem gg_y_X0_part_X1_isMap : GoodIn w_y_X0_part w_y_X1_isMap := goodIn_sub (fun w h => (List.mem_cons.mp h).elim (fun e => (List.mem_cons_of_mem _ (List.mem_append_left _ (List.mem_append_right _ (List.mem_append_right _ (List.mem_append_right _ (List.mem_append_left _ (List.mem_cons.mpr (Or.inl e))))))))) (fun h => (List.mem_append.mp h).elim (fun h => (List.mem_cons_of_mem _ (List.mem_append_left _ (List.mem_append_right _ (List.mem_append_right _ (List.mem_append_right _ (List.mem_append_left _ (List.mem_cons_of_mem _ h)))))))) (fun h => List.mem_cons_of_mem _ (List.mem_append_right _ h)))) w_y_X1_isMap_good
theorem g_y_X0_part_X1_isMap_V191 : GoodIn w_y_X0_part (wsV RX0 191 RX1 yX1_isMap w_y_X1_isMap) := goodIn_app (nb_g4 (List.mem_cons_of_mem _ (List.mem_append_left _ (List.mem_append_left _ (List.mem_of_getElem? (i := 8) rfl)))) (List.mem_cons_of_mem _ (List.mem_append_left _ (List.mem_append_left _ (List.mem_of_getElem? (i := 9) rfl)))) (List.mem_cons_of_mem _ (List.mem_append_left _ (List.mem_append_left _ (List.mem_of_getElem? (i := 10) rfl)))) (List.mem_cons_of_mem _ (List.mem_append_left _ (List.mem_append_left _ (List.mem_of_getElem? (i := 11) rfl)))) (by decide +kernel)) gg_y_X0_part_X1_isMap
set_option maxHeartbeats 40000000 in
set_option maxRecDepth 100000 in
theorem c_y_X0_part (l : Launch) (dC : Nat → ClassId) (dI : Nat → Nat → Nat) (cy : Nat → ClassId) (a z : Nat → Nat) (k0 : Nat) (L0 : LV) (σ0 : CS) (r0 : Int32 × CS) (h0 : y_X0_part k0 0 L0 σ0 = some r0) (sz : Nat) : Met l yX0_part w_y_X0_part ({ frames := 64, cells := 0, slots := 0, locals := 1790 }) (va_Pc [.ref (a 14), .int (L0.1 1), .int (L0.1 2), .int (L0.1 3), .int (L0.1 4)] (nIn (dC, dI) cy sz (vC cy a z σ0))) (va_Qi (fun (x : Int32) (_ : Unit) => x = r0.1) (fun _ t => nOut (dC, dI) cy (va_A (vC cy a z σ0) sz) (vC cy a z r0.2) t) (va_A (vC cy a z σ0) sz)) 0 0 (va_A (vC cy a z σ0) sz) := by
  refine Met.ofW (cc := cX0_part) (maxL := 5) (ret := (some .int)) (by decide) rfl ?_
  intro p e s m args below meth c s₁ B hml hv
  obtain ⟨rfl, hsz, hP, hK, hD0, hG⟩ := hv
  have hx := B.exec
  have hb := B.bytes
  have hr := B.returns
  have hts := atoms_spec (ws := w_y_X0_part) B.pre
  have hown : s.vm.findClass RX0 = some m.cls := findClass_of_methodNamed B.named
  have hlocks := B.notSynchronized
  subst hsz
  have hD := hD0.self (sz := s.heap.size)
  generalize hAe : va_A (vC cy a z σ0) s.heap.size = A at hD ⊢
  have hA : ∀ q : Nat, s.heap.size ≤ q → A q := fun q h => by rw [← hAe]; exact Or.inr h
  have hS : va_S A s.heap s.heap [] := va_S.rf
  have hl := lv_entry ([.ref (a 14), .int (L0.1 1), .int (L0.1 2), .int (L0.1 3), .int (L0.1 4)]) (n := 5) (Nat.le_of_ble_eq_true rfl)
  rw [lg_entry_eq]
  generalize (lg_sl ([.ref (a 14), .int (L0.1 1), .int (L0.1 2), .int (L0.1 3), .int (L0.1 4)]) ++ List.replicate (5 - (lg_sl ([.ref (a 14), .int (L0.1 1), .int (L0.1 2), .int (L0.1 3), .int (L0.1 4)])).length) Slot.unset).toArray = ls at hl ⊢
  have hl : lv_has ls 5 [(0, .ref (a 14)), (1, .int (L0.1 1)), (2, .int (L0.1 2)), (3, .int (L0.1 3)), (4, .int (L0.1 4))] := hl
  have blk : ∀ k : Nat, (bC p l e (headSpec w_y_X0_part ({ frames := 64, cells := 0, slots := 0, locals := 1790 })).room s m #[.ref (a 14), .int (L0.1 1), .int (L0.1 2), .int (L0.1 3), .int (L0.1 4)] below meth c dC dI cy a z A (kI dC dI cy a z A below #[.ref (a 14), .int (L0.1 1), .int (L0.1 2), .int (L0.1 3), .int (L0.1 4)] s) 5 (y_X0_part k 0) (fun L => [(0, .ref (a 14)), (1, .int (L.1 1)), (2, .int (L.1 2)), (3, .int (L.1 3)), (4, .int (L.1 4))]) 0 (fun L => [])) ∧ (bC p l e (headSpec w_y_X0_part ({ frames := 64, cells := 0, slots := 0, locals := 1790 })).room s m #[.ref (a 14), .int (L0.1 1), .int (L0.1 2), .int (L0.1 3), .int (L0.1 4)] below meth c dC dI cy a z A (kI dC dI cy a z A below #[.ref (a 14), .int (L0.1 1), .int (L0.1 2), .int (L0.1 3), .int (L0.1 4)] s) 5 (y_X0_part k 1) (fun L => [(0, .ref (a 14)), (2, .int (L.1 2)), (3, .int (L.1 3))]) 28 (fun L => [])) ∧ (bC p l e (headSpec w_y_X0_part ({ frames := 64, cells := 0, slots := 0, locals := 1790 })).room s m #[.ref (a 14), .int (L0.1 1), .int (L0.1 2), .int (L0.1 3), .int (L0.1 4)] below meth c dC dI cy a z A (kI dC dI cy a z A below #[.ref (a 14), .int (L0.1 1), .int (L0.1 2), .int (L0.1 3), .int (L0.1 4)] s) 5 (y_X0_part k 2) (fun L => [(0, .ref (a 14)), (2, .int (L.1 2)), (3, .int (L.1 3)), (4, .int (L.1 4))]) 35 (fun L => [])) ∧ (bC p l e (headSpec w_y_X0_part ({ frames := 64, cells := 0, slots := 0, locals := 1790 })).room s m #[.ref (a 14), .int (L0.1 1), .int (L0.1 2), .int (L0.1 3), .int (L0.1 4)] below meth c dC dI cy a z A (kI dC dI cy a z A below #[.ref (a 14), .int (L0.1 1), .int (L0.1 2), .int (L0.1 3), .int (L0.1 4)] s) 5 (y_X0_part k 3) (fun L => [(0, .ref (a 14)), (2, .int (L.1 2)), (3, .int (L.1 3))]) 44 (fun L => [])) ∧ (bC p l e (headSpec w_y_X0_part ({ frames := 64, cells := 0, slots := 0, locals := 1790 })).room s m #[.ref (a 14), .int (L0.1 1), .int (L0.1 2), .int (L0.1 3), .int (L0.1 4)] below meth c dC dI cy a z A (kI dC dI cy a z A below #[.ref (a 14), .int (L0.1 1), .int (L0.1 2), .int (L0.1 3), .int (L0.1 4)] s) 5 (y_X0_part k 4) (fun L => []) 64 (fun L => [])) ∧ (bC p l e (headSpec w_y_X0_part ({ frames := 64, cells := 0, slots := 0, locals := 1790 })).room s m #[.ref (a 14), .int (L0.1 1), .int (L0.1 2), .int (L0.1 3), .int (L0.1 4)] below meth c dC dI cy a z A (kI dC dI cy a z A below #[.ref (a 14), .int (L0.1 1), .int (L0.1 2), .int (L0.1 3), .int (L0.1 4)] s) 5 (y_X0_part k 5) (fun L => []) 66 (fun L => [.int (L.1 100)])) := by
    intro k
    induction k with
    | zero => exact ⟨fun L σ r h => (by cases h), fun L σ r h => (by cases h), fun L σ r h => (by cases h), fun L σ r h => (by cases h), fun L σ r h => (by cases h), fun L σ r h => (by cases h)⟩
    | succ k ih =>
      refine ⟨?_, ?_, ?_, ?_, ?_, ?_⟩
      · intro L σ r h H locs ls hP hD hS hl
        rw [y_X0_part] at h
        refine lv_iload_n hx hb dX0_part_0 rfl (lv_at hl 1 rfl) ?_
        by_cases q1 : ((L.1 1)) = (96 : Int32)
        · rw [if_pos q1] at h
          refine lv_lookup (off := 27) (tgt := 28) hx hb dX0_part_1 (by decide) (by rw [q1]; decide) (by decide) ?_
          exact ih.2.1 L σ r h H locs ls hP hD hS (lv_sub hl [0, 2, 3] rfl)
        · rw [if_neg q1] at h
          by_cases q2 : ((L.1 1)) = (97 : Int32)
          · rw [if_pos q2] at h
            refine lv_lookup (off := 34) (tgt := 35) hx hb dX0_part_1 (by decide) (by rw [q2]; decide) (by decide) ?_
            exact ih.2.2.1 L σ r h H locs ls hP hD hS (lv_sub hl [0, 2, 3, 4] rfl)
          · rw [if_neg q2] at h
            have nq1 : ¬ ((L.1 1)).toInt = 96 := nb_ti q1 rfl
            have nq2 : ¬ ((L.1 1)).toInt = 97 := nb_ti q2 rfl
            refine lv_lookup (off := 43) (tgt := 44) hx hb dX0_part_1 (by decide) (nb_lk (by simp only [List.forall_mem_cons]; exact ⟨nq1, nq2, fun _ h => absurd h List.not_mem_nil⟩)) (by decide) ?_
            exact ih.2.2.2.1 L σ r h H locs ls hP hD hS (lv_sub hl [0, 2, 3] rfl)
      · intro L σ r h H locs ls hP hD hS hl
        rw [y_X0_part] at h
        refine lv_aload_n hx hb dX0_part_28 rfl (lv_at hl 0 rfl) ?_
        refine lv_iload_n hx hb dX0_part_29 rfl (lv_at hl 1 rfl) ?_
        refine lv_iload_n hx hb dX0_part_30 rfl (lv_at hl 2 rfl) ?_
        obtain ⟨r1, hc1, h⟩ := oc_ex h
        refine kc_i (va_runV (As := [.int (L.1 2), .int (L.1 3)]) (rest := []) ⟨hx, hb, hml, hown, hts⟩ (c_y_X0_memberAt l dC dI cy a z k (lI (lI lZ 1 ((L.1 2))) 2 ((L.1 3))) σ r1 hc1 H.size) (cwV 2 hts g_y_X0_part_X0_memberAt_V255 rfl rfl rfl hd_y_X0_memberAt ⟨Nat.le_of_ble_eq_true rfl, Nat.le_of_ble_eq_true rfl⟩) ⟨nb_blind, va_recv hK hP (ci := 0) (q0 := 14) rfl rfl, (kb_pre hK hG hP hD)⟩ rfl rfl hl.1 rfl (lv_room (Nat.le_of_ble_eq_true rfl)) dX0_part_31 ⟨Nat.le_refl _, Nat.le_refl _⟩) hA hP hD hS (fun H locs hP hD hS => ?_)
        obtain rfl := Option.some.inj h
        exact W.iret (v := r1.1) hx hb hr (fun t ht hW => ⟨⟨r1.1, (), rfl, rfl, by rw [ht]; exact hP, va_K.moved hW.alike hK, hD⟩, hS.F ht⟩) hS.2.2 dX0_part_34
      · intro L σ r h H locs ls hP hD hS hl
        rw [y_X0_part] at h
        refine lv_aload_n hx hb dX0_part_35 rfl (lv_at hl 0 rfl) ?_
        refine lv_iload_n hx hb dX0_part_36 rfl (lv_at hl 1 rfl) ?_
        refine lv_iload_n hx hb dX0_part_37 rfl (lv_at hl 2 rfl) ?_
        refine lv_iload hx hb dX0_part_38 (lv_at hl 3 rfl) ?_
        obtain ⟨r1, hc1, h⟩ := oc_ex h
        refine kc_i (va_runV (As := [.int (L.1 2), .int (L.1 3), .int (L.1 4)]) (rest := []) ⟨hx, hb, hml, hown, hts⟩ (c_y_X0_slice l dC dI cy a z k (lI (lI (lI lZ 1 ((L.1 2))) 2 ((L.1 3))) 3 ((L.1 4))) σ r1 hc1 H.size) (cwV 3 hts g_y_X0_part_X0_slice_V258 rfl rfl rfl hd_y_X0_slice ⟨Nat.le_of_ble_eq_true rfl, Nat.le_of_ble_eq_true rfl⟩) ⟨nb_blind, va_recv hK hP (ci := 0) (q0 := 14) rfl rfl, (kb_pre hK hG hP hD)⟩ rfl rfl hl.1 rfl (lv_room (Nat.le_of_ble_eq_true rfl)) dX0_part_40 ⟨Nat.le_refl _, Nat.le_refl _⟩) hA hP hD hS (fun H locs hP hD hS => ?_)
        obtain rfl := Option.some.inj h
        exact W.iret (v := r1.1) hx hb hr (fun t ht hW => ⟨⟨r1.1, (), rfl, rfl, by rw [ht]; exact hP, va_K.moved hW.alike hK, hD⟩, hS.F ht⟩) hS.2.2 dX0_part_43
      · intro L σ r h H locs ls hP hD hS hl
        rw [y_X0_part] at h
        refine lv_aload_n hx hb dX0_part_44 rfl (lv_at hl 0 rfl) ?_
        refine hg_14_0 hx hb hts in_y_X0_part_X0 hown hK hP (hts _ (List.mem_cons_of_mem _ (List.mem_append_left _ (List.mem_append_left _ (List.mem_of_getElem? (i := 7) rfl))))) dX0_part_45 ?_
        refine lv_iload_n hx hb dX0_part_48 rfl (lv_at hl 1 rfl) ?_
        obtain ⟨r1, hc1, h⟩ := oc_ex h
        refine kc_i (va_runV (As := [.int (L.1 2)]) (rest := []) ⟨hx, hb, hml, hown, hts⟩ (c_y_X1_isMap l dC dI cy a z k (lI lZ 1 ((L.1 2))) σ r1 hc1 H.size) (cwV 1 hts g_y_X0_part_X1_isMap_V191 rfl rfl rfl hd_y_X1_isMap ⟨Nat.le_of_ble_eq_true rfl, Nat.le_of_ble_eq_true rfl⟩) ⟨nb_blind, va_recv hK hP (ci := 1) (q0 := 0) rfl rfl, (kb_pre hK hG hP hD)⟩ rfl rfl hl.1 rfl (lv_room (Nat.le_of_ble_eq_true rfl)) dX0_part_49 ⟨Nat.le_refl _, Nat.le_refl _⟩) hA hP hD hS (fun H locs hP hD hS => ?_)
        refine lv_if_eq (tgt := 64) hx hb dX0_part_52 (by decide) (fun c2 => ?_) (fun c2 => ?_)
        · rw [if_pos c2] at h
          exact ih.2.2.2.2.1 L r1.2 r h H locs ls hP hD hS (lv_sub hl [] rfl)
        · rw [if_neg c2] at h
          refine lv_aload_n hx hb dX0_part_55 rfl (lv_at hl 0 rfl) ?_
          refine lv_iload_n hx hb dX0_part_56 rfl (lv_at hl 1 rfl) ?_
          refine lv_iload_n hx hb dX0_part_57 rfl (lv_at hl 2 rfl) ?_
          obtain ⟨r3, hc3, h⟩ := oc_ex h
          refine kc_i (va_runV (As := [.int (L.1 2), .int (L.1 3)]) (rest := []) ⟨hx, hb, hml, hown, hts⟩ (c_y_X0_images l dC dI cy a z k (lI (lI lZ 1 ((L.1 2))) 2 ((L.1 3))) r1.2 r3 hc3 H.size) (cwV 2 hts g_y_X0_part_X0_images_V261 rfl rfl rfl hd_y_X0_images ⟨Nat.le_of_ble_eq_true rfl, Nat.le_of_ble_eq_true rfl⟩) ⟨nb_blind, va_recv hK hP (ci := 0) (q0 := 14) rfl rfl, (kb_pre hK hG hP hD)⟩ rfl rfl hl.1 rfl (lv_room (Nat.le_of_ble_eq_true rfl)) dX0_part_58 ⟨Nat.le_refl _, Nat.le_refl _⟩) hA hP hD hS (fun H locs hP hD hS => ?_)
          refine lv_goto (tgt := 66) hx hb dX0_part_61 (by decide) ?_
          exact ih.2.2.2.2.2 (lI L 100 r3.1) r3.2 r h H locs ls hP hD hS (lv_sub hl [] rfl)
      · intro L σ r h H locs ls hP hD hS hl
        rw [y_X0_part] at h
        refine lv_ldc (v := (-268435455)) hx hb hown (hts _ (List.mem_cons_of_mem _ (List.mem_append_left _ (List.mem_append_left _ (List.mem_of_getElem? (i := 15) rfl))))) dX0_part_64 ?_
        exact ih.2.2.2.2.2 (lI L 100 ((-268435455))) σ r h H locs ls hP hD hS (lv_sub hl [] rfl)
      · intro L σ r h H locs ls hP hD hS hl
        rw [y_X0_part] at h
        obtain rfl := Option.some.inj h
        exact W.iret (v := (L.1 100)) hx hb hr (fun t ht hW => ⟨⟨(L.1 100), (), rfl, rfl, by rw [ht]; exact hP, va_K.moved hW.alike hK, hD⟩, hS.F ht⟩) hS.2.2 dX0_part_66
  exact (blk k0).1 L0 σ0 r0 h0 s.heap [] ls hP hD hS hl
/-! X0_pair -/
def y_X0_pair : Nat → Nat → LV → CS → Option (Int32 × CS)
  | 0, _, _, _ => none
  | k + 1, 0, L, σ => if ¬ ((0 : Int32) < 0 ∨ 8 ≤ (0 : Int32).toNatClampNeg) then (if ¬ ((1 : Int32) < 0 ∨ 8 ≤ (1 : Int32).toNatClampNeg) then (oc (y_X1_makeRow__a17 k 0 (lI (lI (lI lZ 1 5) 3 0) 4 2) (uA (uA σ 17 (0 : Int32).toNatClampNeg ((L.1 1))) 17 (1 : Int32).toNatClampNeg ((L.1 2)))) (fun r3 => some (r3.1, r3.2))) else none) else none
  | _ + 1, _ + 1, _, _ => none
def o_y_X0_pair : List Cond := [.fieldLink RX0 19 "SetHouse$Algebra" "few" "[I", .fieldLink RX0 22 "SetHouse$Algebra" "heap" "LSetHouse$Heap;", .methodLink RX0 160 yX1_makeRow, .instanceMethod yX1_makeRow, .selects RX1 yX1_makeRow yX1_makeRow, .initialized RX1]
theorem o_y_X0_pair_good : o_y_X0_pair.all goodWord = true := by decide +kernel
def p_y_X0_pair : List Cond := o_y_X0_pair ++ ((.code yX1_makeRow cX1_makeRow 11 (some .int) :: p_y_X1_makeRow__a17) ++ [])
theorem p_y_X0_pair_good : p_y_X0_pair.all goodWord = true := nb_all2 o_y_X0_pair_good (nb_all2 (nb_allc (by decide +kernel) p_y_X1_makeRow__a17_good) rfl)
def w_y_X0_pair : List Cond := .code yX0_pair cX0_pair 3 (some .int) :: (p_y_X0_pair ++ fC)
theorem w_y_X0_pair_good : w_y_X0_pair.all goodWord = true := nb_allc (by decide +kernel) (nb_all2 p_y_X0_pair_good fC_good)
theorem in_y_X0_pair_X0 : ∀ w ∈ wsX00, w ∈ w_y_X0_pair := fun _ h => List.mem_cons_of_mem _ (List.mem_append_right _ (List.mem_append_left _ h))
theorem hd_y_X0_pair : yX0_pair.cls = RX0 ∧ yX0_pair.cls ≠ "java/lang/invoke/MethodHandle" ∧ yX0_pair.cls ≠ "java/lang/invoke/VarHandle" ∧ (parseMethodDescriptor yX0_pair.desc).map (fun d => d.parameters.length) = some 2 := by decide +kernel
theorem gg_y_X0_pair_X1_makeRow__a17 : GoodIn w_y_X0_pair w_y_X1_makeRow__a17 := goodIn_sub (fun w h => (List.mem_cons.mp h).elim (fun e => (List.mem_cons_of_mem _ (List.mem_append_left _ (List.mem_append_right _ (List.mem_append_left _ (List.mem_cons.mpr (Or.inl e))))))) (fun h => (List.mem_append.mp h).elim (fun h => (List.mem_cons_of_mem _ (List.mem_append_left _ (List.mem_append_right _ (List.mem_append_left _ (List.mem_cons_of_mem _ h)))))) (fun h => List.mem_cons_of_mem _ (List.mem_append_right _ h)))) w_y_X1_makeRow__a17_good
theorem g_y_X0_pair_X1_makeRow__a17_V160 : GoodIn w_y_X0_pair (wsV RX0 160 RX1 yX1_makeRow w_y_X1_makeRow__a17) := goodIn_app (nb_g4 (List.mem_cons_of_mem _ (List.mem_append_left _ (List.mem_append_left _ (List.mem_of_getElem? (i := 2) rfl)))) (List.mem_cons_of_mem _ (List.mem_append_left _ (List.mem_append_left _ (List.mem_of_getElem? (i := 3) rfl)))) (List.mem_cons_of_mem _ (List.mem_append_left _ (List.mem_append_left _ (List.mem_of_getElem? (i := 4) rfl)))) (List.mem_cons_of_mem _ (List.mem_append_left _ (List.mem_append_left _ (List.mem_of_getElem? (i := 5) rfl)))) (by decide +kernel)) gg_y_X0_pair_X1_makeRow__a17
set_option maxHeartbeats 40000000 in
set_option maxRecDepth 100000 in
theorem c_y_X0_pair (l : Launch) (dC : Nat → ClassId) (dI : Nat → Nat → Nat) (cy : Nat → ClassId) (a z : Nat → Nat) (k0 : Nat) (L0 : LV) (σ0 : CS) (r0 : Int32 × CS) (h0 : y_X0_pair k0 0 L0 σ0 = some r0) (sz : Nat) : Met l yX0_pair w_y_X0_pair ({ frames := 2, cells := 0, slots := 0, locals := 90 }) (va_Pc [.ref (a 14), .int (L0.1 1), .int (L0.1 2)] (nIn (dC, dI) cy sz (vC cy a z σ0))) (va_Qi (fun (x : Int32) (_ : Unit) => x = r0.1) (fun _ t => nOut (dC, dI) cy (va_A (vC cy a z σ0) sz) (vC cy a z r0.2) t) (va_A (vC cy a z σ0) sz)) 0 0 (va_A (vC cy a z σ0) sz) := by
  refine Met.ofW (cc := cX0_pair) (maxL := 3) (ret := (some .int)) (by decide) rfl ?_
  intro p e s m args below meth c s₁ B hml hv
  obtain ⟨rfl, hsz, hP, hK, hD0, hG⟩ := hv
  have hx := B.exec
  have hb := B.bytes
  have hr := B.returns
  have hts := atoms_spec (ws := w_y_X0_pair) B.pre
  have hown : s.vm.findClass RX0 = some m.cls := findClass_of_methodNamed B.named
  have hlocks := B.notSynchronized
  subst hsz
  have hD := hD0.self (sz := s.heap.size)
  generalize hAe : va_A (vC cy a z σ0) s.heap.size = A at hD ⊢
  have hA : ∀ q : Nat, s.heap.size ≤ q → A q := fun q h => by rw [← hAe]; exact Or.inr h
  have hS : va_S A s.heap s.heap [] := va_S.rf
  have hl := lv_entry ([.ref (a 14), .int (L0.1 1), .int (L0.1 2)]) (n := 3) (Nat.le_of_ble_eq_true rfl)
  rw [lg_entry_eq]
  generalize (lg_sl ([.ref (a 14), .int (L0.1 1), .int (L0.1 2)]) ++ List.replicate (3 - (lg_sl ([.ref (a 14), .int (L0.1 1), .int (L0.1 2)])).length) Slot.unset).toArray = ls at hl ⊢
  have hl : lv_has ls 3 [(0, .ref (a 14)), (1, .int (L0.1 1)), (2, .int (L0.1 2))] := hl
  have blk : ∀ k : Nat, (bC p l e (headSpec w_y_X0_pair ({ frames := 2, cells := 0, slots := 0, locals := 90 })).room s m #[.ref (a 14), .int (L0.1 1), .int (L0.1 2)] below meth c dC dI cy a z A (kI dC dI cy a z A below #[.ref (a 14), .int (L0.1 1), .int (L0.1 2)] s) 3 (y_X0_pair k 0) (fun L => [(0, .ref (a 14)), (1, .int (L.1 1)), (2, .int (L.1 2))]) 0 (fun L => [])) := by
    intro k
    induction k with
    | zero => exact fun L σ r h => (by cases h)
    | succ k ih =>
      skip
      · intro L σ r h H locs ls hP hD hS hl
        rw [y_X0_pair] at h
        refine lv_aload_n hx hb dX0_pair_0 rfl (lv_at hl 0 rfl) ?_
        refine hg_14_5 hx hb hts in_y_X0_pair_X0 hown hK hP (hts _ (List.mem_cons_of_mem _ (List.mem_append_left _ (List.mem_append_left _ (List.mem_of_getElem? (i := 0) rfl))))) dX0_pair_1 ?_
        refine lv_iconst (v := 0) hx hb dX0_pair_4 (by decide) ?_
        refine lv_iload_n hx hb dX0_pair_5 rfl (lv_at hl 1 rfl) ?_
        obtain ⟨q1, h⟩ := kb_ite1 h
        refine hs_17 hx hb hK hP hD hS q1 dX0_pair_6 (fun H locs hP hD hS => ?_)
        refine lv_aload_n hx hb dX0_pair_7 rfl (lv_at hl 0 rfl) ?_
        refine hg_14_5 hx hb hts in_y_X0_pair_X0 hown hK hP (hts _ (List.mem_cons_of_mem _ (List.mem_append_left _ (List.mem_append_left _ (List.mem_of_getElem? (i := 0) rfl))))) dX0_pair_8 ?_
        refine lv_iconst (v := 1) hx hb dX0_pair_11 (by decide) ?_
        refine lv_iload_n hx hb dX0_pair_12 rfl (lv_at hl 2 rfl) ?_
        obtain ⟨q2, h⟩ := kb_ite1 h
        refine hs_17 hx hb hK hP hD hS q2 dX0_pair_13 (fun H locs hP hD hS => ?_)
        refine lv_aload_n hx hb dX0_pair_14 rfl (lv_at hl 0 rfl) ?_
        refine hg_14_0 hx hb hts in_y_X0_pair_X0 hown hK hP (hts _ (List.mem_cons_of_mem _ (List.mem_append_left _ (List.mem_append_left _ (List.mem_of_getElem? (i := 1) rfl))))) dX0_pair_15 ?_
        refine lv_iconst (v := 5) hx hb dX0_pair_18 (by decide) ?_
        refine lv_aload_n hx hb dX0_pair_19 rfl (lv_at hl 0 rfl) ?_
        refine hg_14_5 hx hb hts in_y_X0_pair_X0 hown hK hP (hts _ (List.mem_cons_of_mem _ (List.mem_append_left _ (List.mem_append_left _ (List.mem_of_getElem? (i := 0) rfl))))) dX0_pair_20 ?_
        refine lv_iconst (v := 0) hx hb dX0_pair_23 (by decide) ?_
        refine lv_iconst (v := 2) hx hb dX0_pair_24 (by decide) ?_
        obtain ⟨r3, hc3, h⟩ := oc_ex h
        refine kc_i (va_runV (As := [.int 5, .ref (a 17), .int 0, .int 2]) (rest := []) ⟨hx, hb, hml, hown, hts⟩ (c_y_X1_makeRow__a17 l dC dI cy a z k (lI (lI (lI lZ 1 5) 3 0) 4 2) (uA (uA σ 17 (0 : Int32).toNatClampNeg ((L.1 1))) 17 (1 : Int32).toNatClampNeg ((L.1 2))) r3 hc3 H.size) (cwV 4 hts g_y_X0_pair_X1_makeRow__a17_V160 rfl rfl rfl hd_y_X1_makeRow__a17 ⟨Nat.le_of_ble_eq_true rfl, Nat.le_of_ble_eq_true rfl⟩) ⟨nb_blind, va_recv hK hP (ci := 1) (q0 := 0) rfl rfl, (kb_pre hK hG hP hD)⟩ rfl rfl hl.1 rfl (lv_room (Nat.le_of_ble_eq_true rfl)) dX0_pair_25 ⟨Nat.le_refl _, Nat.le_refl _⟩) hA hP hD hS (fun H locs hP hD hS => ?_)
        obtain rfl := Option.some.inj h
        exact W.iret (v := r3.1) hx hb hr (fun t ht hW => ⟨⟨r3.1, (), rfl, rfl, by rw [ht]; exact hP, va_K.moved hW.alike hK, hD⟩, hS.F ht⟩) hS.2.2 dX0_pair_28
  exact (blk k0) L0 σ0 r0 h0 s.heap [] ls hP hD hS hl
/-! X0_withPair -/
def y_X0_withPair : Nat → Nat → LV → CS → Option (Int32 × CS)
  | 0, _, _, _ => none
  | k + 1, 0, L, σ => oc (y_X0_pairsFrom k 0 (lI (lI lZ 1 ((L.1 1))) 2 ((L.1 2))) σ) (fun r1 => oc (y_X0_pairsTo k 0 (lI (lI (lI lZ 1 ((L.1 1))) 2 r1.1) 3 ((L.1 2))) r1.2) (fun r2 => oc (y_X0_load k 0 (lI (lI (lI (lI lZ 1 ((L.1 1))) 2 0) 3 r1.1) 4 0) r2.2) (fun r3 => if ((L.1 3)) = ((-2147483648)) then (y_X0_withPair k 1 (lI (lI L 5 r2.1) 6 r3.1) r3.2) else (oc (y_X0_pair k 0 (lI (lI lZ 1 ((L.1 2))) 2 ((L.1 3))) r3.2) (fun r5 => if ¬ (r3.1 < 0 ∨ 2048 ≤ r3.1.toNatClampNeg) then (if ¬ (r3.1 < 0 ∨ 2048 ≤ r3.1.toNatClampNeg) then (oc (y_X11_isError k 0 (lI lZ 0 (((uA r5.2 16 r3.1.toNatClampNeg r5.1).2.2.1 16 r3.1.toNatClampNeg))) (uA r5.2 16 r3.1.toNatClampNeg r5.1)) (fun r8 => if r8.1 = 0 then (y_X0_withPair k 2 (lI (lI L 5 r2.1) 6 r3.1) r8.2) else (if ¬ (r3.1 < 0 ∨ 2048 ≤ r3.1.toNatClampNeg) then (some ((r8.2.2.2.1 16 r3.1.toNatClampNeg), r8.2)) else none))) else none) else none)))))
  | k + 1, 1, L, σ => oc (y_X1_length k 0 (lI lZ 1 ((L.1 1))) σ) (fun r1 => oc (y_X0_load k 0 (lI (lI (lI (lI lZ 1 ((L.1 1))) 2 ((L.1 5))) 3 r1.1) 4 ((L.1 6))) r1.2) (fun r2 => oc (y_X1_makeRow__a16 k 0 (lI (lI (lI lZ 1 6) 3 0) 4 r2.1) r2.2) (fun r3 => some (r3.1, r3.2))))
  | k + 1, 2, L, σ => y_X0_withPair k 1 (lI L 6 ((((L.1 6)) + 1))) σ
  | _ + 1, _ + 3, _, _ => none
def o_y_X0_withPair : List Cond := [.methodLink RX0 267 yX0_pairsFrom, .instanceMethod yX0_pairsFrom, .selects RX0 yX0_pairsFrom yX0_pairsFrom, .initialized RX0, .methodLink RX0 270 yX0_pairsTo, .instanceMethod yX0_pairsTo, .selects RX0 yX0_pairsTo yX0_pairsTo, .methodLink RX0 103 yX0_load, .instanceMethod yX0_load, .selects RX0 yX0_load yX0_load, .constant RX0 167 (-2147483648), .fieldLink RX0 15 "SetHouse$Algebra" "row" "[I", .methodLink RX0 291 yX0_pair, .instanceMethod yX0_pair, .selects RX0 yX0_pair yX0_pair, .initialized RX11, .static yX11_isError, .fieldLink RX0 22 "SetHouse$Algebra" "heap" "LSetHouse$Heap;", .methodLink RX0 100 yX1_length, .instanceMethod yX1_length, .selects RX1 yX1_length yX1_length, .initialized RX1, .methodLink RX0 160 yX1_makeRow, .instanceMethod yX1_makeRow, .selects RX1 yX1_makeRow yX1_makeRow]
theorem o_y_X0_withPair_good : o_y_X0_withPair.all goodWord = true := by decide +kernel
def p_y_X0_withPair : List Cond := o_y_X0_withPair ++ ((.code yX0_pairsFrom cX0_pairsFrom 7 (some .int) :: p_y_X0_pairsFrom) ++ ((.code yX0_pairsTo cX0_pairsTo 6 (some .int) :: p_y_X0_pairsTo) ++ ((.code yX0_load cX0_load 6 (some .int) :: p_y_X0_load) ++ ((.code yX0_pair cX0_pair 3 (some .int) :: p_y_X0_pair) ++ ((.code yX11_isError cX11_isError 1 (some .boolean) :: p_y_X11_isError) ++ ((.code yX1_length cX1_length 2 (some .int) :: p_y_X1_length) ++ ((.code yX1_makeRow cX1_makeRow 11 (some .int) :: p_y_X1_makeRow__a16) ++ [])))))))
theorem p_y_X0_withPair_good : p_y_X0_withPair.all goodWord = true := nb_all2 o_y_X0_withPair_good (nb_all2 (nb_allc (by decide +kernel) p_y_X0_pairsFrom_good) (nb_all2 (nb_allc (by decide +kernel) p_y_X0_pairsTo_good) (nb_all2 (nb_allc (by decide +kernel) p_y_X0_load_good) (nb_all2 (nb_allc (by decide +kernel) p_y_X0_pair_good) (nb_all2 (nb_allc (by decide +kernel) p_y_X11_isError_good) (nb_all2 (nb_allc (by decide +kernel) p_y_X1_length_good) (nb_all2 (nb_allc (by decide +kernel) p_y_X1_makeRow__a16_good) rfl)))))))
def w_y_X0_withPair : List Cond := .code yX0_withPair cX0_withPair 7 (some .int) :: (p_y_X0_withPair ++ fC)
theorem w_y_X0_withPair_good : w_y_X0_withPair.all goodWord = true := nb_allc (by decide +kernel) (nb_all2 p_y_X0_withPair_good fC_good)
theorem in_y_X0_withPair_X0 : ∀ w ∈ wsX00, w ∈ w_y_X0_withPair := fun _ h => List.mem_cons_of_mem _ (List.mem_append_right _ (List.mem_append_left _ h))
theorem hd_y_X0_withPair : yX0_withPair.cls = RX0 ∧ yX0_withPair.cls ≠ "java/lang/invoke/MethodHandle" ∧ yX0_withPair.cls ≠ "java/lang/invoke/VarHandle" ∧ (parseMethodDescriptor yX0_withPair.desc).map (fun d => d.parameters.length) = some 3 := by decide +kernel
theorem gg_y_X0_withPair_X0_load : GoodIn w_y_X0_withPair w_y_X0_load := goodIn_sub (fun w h => (List.mem_cons.mp h).elim (fun e => (List.mem_cons_of_mem _ (List.mem_append_left _ (List.mem_append_right _ (List.mem_append_right _ (List.mem_append_right _ (List.mem_append_left _ (List.mem_cons.mpr (Or.inl e))))))))) (fun h => (List.mem_append.mp h).elim (fun h => (List.mem_cons_of_mem _ (List.mem_append_left _ (List.mem_append_right _ (List.mem_append_right _ (List.mem_append_right _ (List.mem_append_left _ (List.mem_cons_of_mem _ h)))))))) (fun h => List.mem_cons_of_mem _ (List.mem_append_right _ h)))) w_y_X0_load_good
theorem g_y_X0_withPair_X0_load_V103 : GoodIn w_y_X0_withPair (wsV RX0 103 RX0 yX0_load w_y_X0_load) := goodIn_app (nb_g4 (List.mem_cons_of_mem _ (List.mem_append_left _ (List.mem_append_left _ (List.mem_of_getElem? (i := 7) rfl)))) (List.mem_cons_of_mem _ (List.mem_append_left _ (List.mem_append_left _ (List.mem_of_getElem? (i := 8) rfl)))) (List.mem_cons_of_mem _ (List.mem_append_left _ (List.mem_append_left _ (List.mem_of_getElem? (i := 9) rfl)))) (List.mem_cons_of_mem _ (List.mem_append_left _ (List.mem_append_left _ (List.mem_of_getElem? (i := 3) rfl)))) (by decide +kernel)) gg_y_X0_withPair_X0_load
theorem gg_y_X0_withPair_X0_pair : GoodIn w_y_X0_withPair w_y_X0_pair := goodIn_sub (fun w h => (List.mem_cons.mp h).elim (fun e => (List.mem_cons_of_mem _ (List.mem_append_left _ (List.mem_append_right _ (List.mem_append_right _ (List.mem_append_right _ (List.mem_append_right _ (List.mem_append_left _ (List.mem_cons.mpr (Or.inl e)))))))))) (fun h => (List.mem_append.mp h).elim (fun h => (List.mem_cons_of_mem _ (List.mem_append_left _ (List.mem_append_right _ (List.mem_append_right _ (List.mem_append_right _ (List.mem_append_right _ (List.mem_append_left _ (List.mem_cons_of_mem _ h))))))))) (fun h => List.mem_cons_of_mem _ (List.mem_append_right _ h)))) w_y_X0_pair_good
theorem g_y_X0_withPair_X0_pair_V291 : GoodIn w_y_X0_withPair (wsV RX0 291 RX0 yX0_pair w_y_X0_pair) := goodIn_app (nb_g4 (List.mem_cons_of_mem _ (List.mem_append_left _ (List.mem_append_left _ (List.mem_of_getElem? (i := 12) rfl)))) (List.mem_cons_of_mem _ (List.mem_append_left _ (List.mem_append_left _ (List.mem_of_getElem? (i := 13) rfl)))) (List.mem_cons_of_mem _ (List.mem_append_left _ (List.mem_append_left _ (List.mem_of_getElem? (i := 14) rfl)))) (List.mem_cons_of_mem _ (List.mem_append_left _ (List.mem_append_left _ (List.mem_of_getElem? (i := 3) rfl)))) (by decide +kernel)) gg_y_X0_withPair_X0_pair
theorem gg_y_X0_withPair_X0_pairsFrom : GoodIn w_y_X0_withPair w_y_X0_pairsFrom := goodIn_sub (fun w h => (List.mem_cons.mp h).elim (fun e => (List.mem_cons_of_mem _ (List.mem_append_left _ (List.mem_append_right _ (List.mem_append_left _ (List.mem_cons.mpr (Or.inl e))))))) (fun h => (List.mem_append.mp h).elim (fun h => (List.mem_cons_of_mem _ (List.mem_append_left _ (List.mem_append_right _ (List.mem_append_left _ (List.mem_cons_of_mem _ h)))))) (fun h => List.mem_cons_of_mem _ (List.mem_append_right _ h)))) w_y_X0_pairsFrom_good
theorem g_y_X0_withPair_X0_pairsFrom_V267 : GoodIn w_y_X0_withPair (wsV RX0 267 RX0 yX0_pairsFrom w_y_X0_pairsFrom) := goodIn_app (nb_g4 (List.mem_cons_of_mem _ (List.mem_append_left _ (List.mem_append_left _ (List.mem_of_getElem? (i := 0) rfl)))) (List.mem_cons_of_mem _ (List.mem_append_left _ (List.mem_append_left _ (List.mem_of_getElem? (i := 1) rfl)))) (List.mem_cons_of_mem _ (List.mem_append_left _ (List.mem_append_left _ (List.mem_of_getElem? (i := 2) rfl)))) (List.mem_cons_of_mem _ (List.mem_append_left _ (List.mem_append_left _ (List.mem_of_getElem? (i := 3) rfl)))) (by decide +kernel)) gg_y_X0_withPair_X0_pairsFrom
theorem gg_y_X0_withPair_X0_pairsTo : GoodIn w_y_X0_withPair w_y_X0_pairsTo := goodIn_sub (fun w h => (List.mem_cons.mp h).elim (fun e => (List.mem_cons_of_mem _ (List.mem_append_left _ (List.mem_append_right _ (List.mem_append_right _ (List.mem_append_left _ (List.mem_cons.mpr (Or.inl e)))))))) (fun h => (List.mem_append.mp h).elim (fun h => (List.mem_cons_of_mem _ (List.mem_append_left _ (List.mem_append_right _ (List.mem_append_right _ (List.mem_append_left _ (List.mem_cons_of_mem _ h))))))) (fun h => List.mem_cons_of_mem _ (List.mem_append_right _ h)))) w_y_X0_pairsTo_good
theorem g_y_X0_withPair_X0_pairsTo_V270 : GoodIn w_y_X0_withPair (wsV RX0 270 RX0 yX0_pairsTo w_y_X0_pairsTo) := goodIn_app (nb_g4 (List.mem_cons_of_mem _ (List.mem_append_left _ (List.mem_append_left _ (List.mem_of_getElem? (i := 4) rfl)))) (List.mem_cons_of_mem _ (List.mem_append_left _ (List.mem_append_left _ (List.mem_of_getElem? (i := 5) rfl)))) (List.mem_cons_of_mem _ (List.mem_append_left _ (List.mem_append_left _ (List.mem_of_getElem? (i := 6) rfl)))) (List.mem_cons_of_mem _ (List.mem_append_left _ (List.mem_append_left _ (List.mem_of_getElem? (i := 3) rfl)))) (by decide +kernel)) gg_y_X0_withPair_X0_pairsTo
theorem gg_y_X0_withPair_X11_isError : GoodIn w_y_X0_withPair w_y_X11_isError := goodIn_sub (fun w h => (List.mem_cons.mp h).elim (fun e => (List.mem_cons_of_mem _ (List.mem_append_left _ (List.mem_append_right _ (List.mem_append_right _ (List.mem_append_right _ (List.mem_append_right _ (List.mem_append_right _ (List.mem_append_left _ (List.mem_cons.mpr (Or.inl e))))))))))) (fun h => (List.mem_append.mp h).elim (fun h => (List.mem_cons_of_mem _ (List.mem_append_left _ (List.mem_append_right _ (List.mem_append_right _ (List.mem_append_right _ (List.mem_append_right _ (List.mem_append_right _ (List.mem_append_left _ (List.mem_cons_of_mem _ h)))))))))) (fun h => List.mem_cons_of_mem _ (List.mem_append_right _ h)))) w_y_X11_isError_good
theorem g_y_X0_withPair_X11_isError_SN72 : GoodIn w_y_X0_withPair w_y_X11_isError := gg_y_X0_withPair_X11_isError
theorem gg_y_X0_withPair_X1_length : GoodIn w_y_X0_withPair w_y_X1_length := goodIn_sub (fun w h => (List.mem_cons.mp h).elim (fun e => (List.mem_cons_of_mem _ (List.mem_append_left _ (List.mem_append_right _ (List.mem_append_right _ (List.mem_append_right _ (List.mem_append_right _ (List.mem_append_right _ (List.mem_append_right _ (List.mem_append_left _ (List.mem_cons.mpr (Or.inl e)))))))))))) (fun h => (List.mem_append.mp h).elim (fun h => (List.mem_cons_of_mem _ (List.mem_append_left _ (List.mem_append_right _ (List.mem_append_right _ (List.mem_append_right _ (List.mem_append_right _ (List.mem_append_right _ (List.mem_append_right _ (List.mem_append_left _ (List.mem_cons_of_mem _ h))))))))))) (fun h => List.mem_cons_of_mem _ (List.mem_append_right _ h)))) w_y_X1_length_good
theorem g_y_X0_withPair_X1_length_V100 : GoodIn w_y_X0_withPair (wsV RX0 100 RX1 yX1_length w_y_X1_length) := goodIn_app (nb_g4 (List.mem_cons_of_mem _ (List.mem_append_left _ (List.mem_append_left _ (List.mem_of_getElem? (i := 18) rfl)))) (List.mem_cons_of_mem _ (List.mem_append_left _ (List.mem_append_left _ (List.mem_of_getElem? (i := 19) rfl)))) (List.mem_cons_of_mem _ (List.mem_append_left _ (List.mem_append_left _ (List.mem_of_getElem? (i := 20) rfl)))) (List.mem_cons_of_mem _ (List.mem_append_left _ (List.mem_append_left _ (List.mem_of_getElem? (i := 21) rfl)))) (by decide +kernel)) gg_y_X0_withPair_X1_length
theorem gg_y_X0_withPair_X1_makeRow__a16 : GoodIn w_y_X0_withPair w_y_X1_makeRow__a16 := goodIn_sub (fun w h => (List.mem_cons.mp h).elim (fun e => (List.mem_cons_of_mem _ (List.mem_append_left _ (List.mem_append_right _ (List.mem_append_right _ (List.mem_append_right _ (List.mem_append_right _ (List.mem_append_right _ (List.mem_append_right _ (List.mem_append_right _ (List.mem_append_left _ (List.mem_cons.mpr (Or.inl e))))))))))))) (fun h => (List.mem_append.mp h).elim (fun h => (List.mem_cons_of_mem _ (List.mem_append_left _ (List.mem_append_right _ (List.mem_append_right _ (List.mem_append_right _ (List.mem_append_right _ (List.mem_append_right _ (List.mem_append_right _ (List.mem_append_right _ (List.mem_append_left _ (List.mem_cons_of_mem _ h)))))))))))) (fun h => List.mem_cons_of_mem _ (List.mem_append_right _ h)))) w_y_X1_makeRow__a16_good
theorem g_y_X0_withPair_X1_makeRow__a16_V160 : GoodIn w_y_X0_withPair (wsV RX0 160 RX1 yX1_makeRow w_y_X1_makeRow__a16) := goodIn_app (nb_g4 (List.mem_cons_of_mem _ (List.mem_append_left _ (List.mem_append_left _ (List.mem_of_getElem? (i := 22) rfl)))) (List.mem_cons_of_mem _ (List.mem_append_left _ (List.mem_append_left _ (List.mem_of_getElem? (i := 23) rfl)))) (List.mem_cons_of_mem _ (List.mem_append_left _ (List.mem_append_left _ (List.mem_of_getElem? (i := 24) rfl)))) (List.mem_cons_of_mem _ (List.mem_append_left _ (List.mem_append_left _ (List.mem_of_getElem? (i := 21) rfl)))) (by decide +kernel)) gg_y_X0_withPair_X1_makeRow__a16
set_option maxHeartbeats 40000000 in
set_option maxRecDepth 100000 in
theorem c_y_X0_withPair (l : Launch) (dC : Nat → ClassId) (dI : Nat → Nat → Nat) (cy : Nat → ClassId) (a z : Nat → Nat) (k0 : Nat) (L0 : LV) (σ0 : CS) (r0 : Int32 × CS) (h0 : y_X0_withPair k0 0 L0 σ0 = some r0) (sz : Nat) : Met l yX0_withPair w_y_X0_withPair ({ frames := 63, cells := 0, slots := 0, locals := 1764 }) (va_Pc [.ref (a 14), .int (L0.1 1), .int (L0.1 2), .int (L0.1 3)] (nIn (dC, dI) cy sz (vC cy a z σ0))) (va_Qi (fun (x : Int32) (_ : Unit) => x = r0.1) (fun _ t => nOut (dC, dI) cy (va_A (vC cy a z σ0) sz) (vC cy a z r0.2) t) (va_A (vC cy a z σ0) sz)) 0 0 (va_A (vC cy a z σ0) sz) := by
  refine Met.ofW (cc := cX0_withPair) (maxL := 7) (ret := (some .int)) (by decide) rfl ?_
  intro p e s m args below meth c s₁ B hml hv
  obtain ⟨rfl, hsz, hP, hK, hD0, hG⟩ := hv
  have hx := B.exec
  have hb := B.bytes
  have hr := B.returns
  have hts := atoms_spec (ws := w_y_X0_withPair) B.pre
  have hown : s.vm.findClass RX0 = some m.cls := findClass_of_methodNamed B.named
  have hlocks := B.notSynchronized
  subst hsz
  have hD := hD0.self (sz := s.heap.size)
  generalize hAe : va_A (vC cy a z σ0) s.heap.size = A at hD ⊢
  have hA : ∀ q : Nat, s.heap.size ≤ q → A q := fun q h => by rw [← hAe]; exact Or.inr h
  have hS : va_S A s.heap s.heap [] := va_S.rf
  have hl := lv_entry ([.ref (a 14), .int (L0.1 1), .int (L0.1 2), .int (L0.1 3)]) (n := 7) (Nat.le_of_ble_eq_true rfl)
  rw [lg_entry_eq]
  generalize (lg_sl ([.ref (a 14), .int (L0.1 1), .int (L0.1 2), .int (L0.1 3)]) ++ List.replicate (7 - (lg_sl ([.ref (a 14), .int (L0.1 1), .int (L0.1 2), .int (L0.1 3)])).length) Slot.unset).toArray = ls at hl ⊢
  have hl : lv_has ls 7 [(0, .ref (a 14)), (1, .int (L0.1 1)), (2, .int (L0.1 2)), (3, .int (L0.1 3))] := hl
  have blk : ∀ k : Nat, (bC p l e (headSpec w_y_X0_withPair ({ frames := 63, cells := 0, slots := 0, locals := 1764 })).room s m #[.ref (a 14), .int (L0.1 1), .int (L0.1 2), .int (L0.1 3)] below meth c dC dI cy a z A (kI dC dI cy a z A below #[.ref (a 14), .int (L0.1 1), .int (L0.1 2), .int (L0.1 3)] s) 7 (y_X0_withPair k 0) (fun L => [(0, .ref (a 14)), (1, .int (L.1 1)), (2, .int (L.1 2)), (3, .int (L.1 3))]) 0 (fun L => [])) ∧ (bC p l e (headSpec w_y_X0_withPair ({ frames := 63, cells := 0, slots := 0, locals := 1764 })).room s m #[.ref (a 14), .int (L0.1 1), .int (L0.1 2), .int (L0.1 3)] below meth c dC dI cy a z A (kI dC dI cy a z A below #[.ref (a 14), .int (L0.1 1), .int (L0.1 2), .int (L0.1 3)] s) 7 (y_X0_withPair k 1) (fun L => [(0, .ref (a 14)), (1, .int (L.1 1)), (5, .int (L.1 5)), (6, .int (L.1 6))]) 72 (fun L => [])) ∧ (bC p l e (headSpec w_y_X0_withPair ({ frames := 63, cells := 0, slots := 0, locals := 1764 })).room s m #[.ref (a 14), .int (L0.1 1), .int (L0.1 2), .int (L0.1 3)] below meth c dC dI cy a z A (kI dC dI cy a z A below #[.ref (a 14), .int (L0.1 1), .int (L0.1 2), .int (L0.1 3)] s) 7 (y_X0_withPair k 2) (fun L => [(0, .ref (a 14)), (1, .int (L.1 1)), (5, .int (L.1 5)), (6, .int (L.1 6))]) 69 (fun L => [])) := by
    intro k
    induction k with
    | zero => exact ⟨fun L σ r h => (by cases h), fun L σ r h => (by cases h), fun L σ r h => (by cases h)⟩
    | succ k ih =>
      refine ⟨?_, ?_, ?_⟩
      · intro L σ r h H locs ls hP hD hS hl
        rw [y_X0_withPair] at h
        refine lv_aload_n hx hb dX0_withPair_0 rfl (lv_at hl 0 rfl) ?_
        refine lv_iload_n hx hb dX0_withPair_1 rfl (lv_at hl 1 rfl) ?_
        refine lv_iload_n hx hb dX0_withPair_2 rfl (lv_at hl 2 rfl) ?_
        obtain ⟨r1, hc1, h⟩ := oc_ex h
        refine kc_i (va_runV (As := [.int (L.1 1), .int (L.1 2)]) (rest := []) ⟨hx, hb, hml, hown, hts⟩ (c_y_X0_pairsFrom l dC dI cy a z k (lI (lI lZ 1 ((L.1 1))) 2 ((L.1 2))) σ r1 hc1 H.size) (cwV 2 hts g_y_X0_withPair_X0_pairsFrom_V267 rfl rfl rfl hd_y_X0_pairsFrom ⟨Nat.le_of_ble_eq_true rfl, Nat.le_of_ble_eq_true rfl⟩) ⟨nb_blind, va_recv hK hP (ci := 0) (q0 := 14) rfl rfl, (kb_pre hK hG hP hD)⟩ rfl rfl hl.1 rfl (lv_room (Nat.le_of_ble_eq_true rfl)) dX0_withPair_3 ⟨Nat.le_refl _, Nat.le_refl _⟩) hA hP hD hS (fun H locs hP hD hS => ?_)
        refine lv_istore (lv' := [(4, .int r1.1), (0, .ref (a 14)), (1, .int (L.1 1)), (2, .int (L.1 2)), (3, .int (L.1 3))]) hx hb dX0_withPair_6 hl (by decide) rfl (fun ls hl => ?_)
        refine lv_aload_n hx hb dX0_withPair_8 rfl (lv_at hl 1 rfl) ?_
        refine lv_iload_n hx hb dX0_withPair_9 rfl (lv_at hl 2 rfl) ?_
        refine lv_iload hx hb dX0_withPair_10 (lv_at hl 0 rfl) ?_
        refine lv_iload_n hx hb dX0_withPair_12 rfl (lv_at hl 3 rfl) ?_
        obtain ⟨r2, hc2, h⟩ := oc_ex h
        refine kc_i (va_runV (As := [.int (L.1 1), .int r1.1, .int (L.1 2)]) (rest := []) ⟨hx, hb, hml, hown, hts⟩ (c_y_X0_pairsTo l dC dI cy a z k (lI (lI (lI lZ 1 ((L.1 1))) 2 r1.1) 3 ((L.1 2))) r1.2 r2 hc2 H.size) (cwV 3 hts g_y_X0_withPair_X0_pairsTo_V270 rfl rfl rfl hd_y_X0_pairsTo ⟨Nat.le_of_ble_eq_true rfl, Nat.le_of_ble_eq_true rfl⟩) ⟨nb_blind, va_recv hK hP (ci := 0) (q0 := 14) rfl rfl, (kb_pre hK hG hP hD)⟩ rfl rfl hl.1 rfl (lv_room (Nat.le_of_ble_eq_true rfl)) dX0_withPair_13 ⟨Nat.le_refl _, Nat.le_refl _⟩) hA hP hD hS (fun H locs hP hD hS => ?_)
        refine lv_istore (lv' := [(5, .int r2.1), (4, .int r1.1), (0, .ref (a 14)), (1, .int (L.1 1)), (2, .int (L.1 2)), (3, .int (L.1 3))]) hx hb dX0_withPair_16 hl (by decide) rfl (fun ls hl => ?_)
        refine lv_aload_n hx hb dX0_withPair_18 rfl (lv_at hl 2 rfl) ?_
        refine lv_iload_n hx hb dX0_withPair_19 rfl (lv_at hl 3 rfl) ?_
        refine lv_iconst (v := 0) hx hb dX0_withPair_20 (by decide) ?_
        refine lv_iload hx hb dX0_withPair_21 (lv_at hl 1 rfl) ?_
        refine lv_iconst (v := 0) hx hb dX0_withPair_23 (by decide) ?_
        obtain ⟨r3, hc3, h⟩ := oc_ex h
        refine kc_i (va_runV (As := [.int (L.1 1), .int 0, .int r1.1, .int 0]) (rest := []) ⟨hx, hb, hml, hown, hts⟩ (c_y_X0_load l dC dI cy a z k (lI (lI (lI (lI lZ 1 ((L.1 1))) 2 0) 3 r1.1) 4 0) r2.2 r3 hc3 H.size) (cwV 4 hts g_y_X0_withPair_X0_load_V103 rfl rfl rfl hd_y_X0_load ⟨Nat.le_of_ble_eq_true rfl, Nat.le_of_ble_eq_true rfl⟩) ⟨nb_blind, va_recv hK hP (ci := 0) (q0 := 14) rfl rfl, (kb_pre hK hG hP hD)⟩ rfl rfl hl.1 rfl (lv_room (Nat.le_of_ble_eq_true rfl)) dX0_withPair_24 ⟨Nat.le_refl _, Nat.le_refl _⟩) hA hP hD hS (fun H locs hP hD hS => ?_)
        refine lv_istore (lv' := [(6, .int r3.1), (5, .int r2.1), (4, .int r1.1), (0, .ref (a 14)), (1, .int (L.1 1)), (2, .int (L.1 2)), (3, .int (L.1 3))]) hx hb dX0_withPair_27 hl (by decide) rfl (fun ls hl => ?_)
        refine lv_iload_n hx hb dX0_withPair_29 rfl (lv_at hl 6 rfl) ?_
        refine lv_ldc (v := (-2147483648)) hx hb hown (hts _ (List.mem_cons_of_mem _ (List.mem_append_left _ (List.mem_append_left _ (List.mem_of_getElem? (i := 10) rfl))))) dX0_withPair_30 ?_
        refine lv_icmp_eq (tgt := 72) hx hb dX0_withPair_32 (by decide) (fun c4 => ?_) (fun c4 => ?_)
        · rw [if_pos c4] at h
          exact ih.2.1 (lI (lI L 5 r2.1) 6 r3.1) r3.2 r h H locs ls hP hD hS (lv_sub hl [3, 4, 1, 0] rfl)
        · rw [if_neg c4] at h
          refine lv_aload_n hx hb dX0_withPair_35 rfl (lv_at hl 3 rfl) ?_
          refine hg_14_4 hx hb hts in_y_X0_withPair_X0 hown hK hP (hts _ (List.mem_cons_of_mem _ (List.mem_append_left _ (List.mem_append_left _ (List.mem_of_getElem? (i := 11) rfl))))) dX0_withPair_36 ?_
          refine lv_iload hx hb dX0_withPair_39 (lv_at hl 0 rfl) ?_
          refine lv_aload_n hx hb dX0_withPair_41 rfl (lv_at hl 3 rfl) ?_
          refine lv_iload_n hx hb dX0_withPair_42 rfl (lv_at hl 5 rfl) ?_
          refine lv_iload_n hx hb dX0_withPair_43 rfl (lv_at hl 6 rfl) ?_
          obtain ⟨r5, hc5, h⟩ := oc_ex h
          refine kc_i (va_runV (As := [.int (L.1 2), .int (L.1 3)]) (rest := [.int r3.1, .ref (a 16)]) ⟨hx, hb, hml, hown, hts⟩ (c_y_X0_pair l dC dI cy a z k (lI (lI lZ 1 ((L.1 2))) 2 ((L.1 3))) r3.2 r5 hc5 H.size) (cwV 2 hts g_y_X0_withPair_X0_pair_V291 rfl rfl rfl hd_y_X0_pair ⟨Nat.le_of_ble_eq_true rfl, Nat.le_of_ble_eq_true rfl⟩) ⟨nb_blind, va_recv hK hP (ci := 0) (q0 := 14) rfl rfl, (kb_pre hK hG hP hD)⟩ rfl rfl hl.1 rfl (lv_room (Nat.le_of_ble_eq_true rfl)) dX0_withPair_44 ⟨Nat.le_refl _, Nat.le_refl _⟩) hA hP hD hS (fun H locs hP hD hS => ?_)
          obtain ⟨q6, h⟩ := kb_ite1 h
          refine hs_16 hx hb hK hP hD hS q6 dX0_withPair_47 (fun H locs hP hD hS => ?_)
          refine lv_aload_n hx hb dX0_withPair_48 rfl (lv_at hl 3 rfl) ?_
          refine hg_14_4 hx hb hts in_y_X0_withPair_X0 hown hK hP (hts _ (List.mem_cons_of_mem _ (List.mem_append_left _ (List.mem_append_left _ (List.mem_of_getElem? (i := 11) rfl))))) dX0_withPair_49 ?_
          refine lv_iload hx hb dX0_withPair_52 (lv_at hl 0 rfl) ?_
          obtain ⟨q7, h⟩ := kb_ite1 h
          refine hl_16 hx hb hK hP q7 dX0_withPair_54 ?_
          obtain ⟨r8, hc8, h⟩ := oc_ex h
          refine kc_i (va_runSN (As := [.int ((uA r5.2 16 r3.1.toNatClampNeg r5.1).2.2.1 16 r3.1.toNatClampNeg)]) (rest := []) ⟨hx, hb, hml, hown, hts⟩ (c_y_X11_isError l dC dI cy a z k (lI lZ 0 (((uA r5.2 16 r3.1.toNatClampNeg r5.1).2.2.1 16 r3.1.toNatClampNeg))) (uA r5.2 16 r3.1.toNatClampNeg r5.1) r8 hc8 H.size) ⟨va_cnB 1 hts g_y_X0_withPair_X11_isError_SN72 rfl rfl rfl (hG.1 _ (List.mem_of_getElem? (i := 105) rfl)) (hts _ (List.mem_cons_of_mem _ (List.mem_append_left _ (List.mem_append_left _ (List.mem_of_getElem? (i := 15) rfl))))) hd_y_X11_isError ⟨Nat.le_of_ble_eq_true rfl, Nat.le_of_ble_eq_true rfl⟩, (hts _ (List.mem_cons_of_mem _ (List.mem_append_left _ (List.mem_append_left _ (List.mem_of_getElem? (i := 16) rfl))))), trivial⟩ ⟨nb_blind, (kb_pre hK hG hP hD)⟩ rfl rfl hl.1 rfl (lv_room (Nat.le_of_ble_eq_true rfl)) dX0_withPair_55 ⟨Nat.le_refl _, Nat.le_refl _⟩) hA hP hD hS (fun H locs hP hD hS => ?_)
          refine lv_if_eq (tgt := 69) hx hb dX0_withPair_58 (by decide) (fun c9 => ?_) (fun c9 => ?_)
          · rw [if_pos c9] at h
            exact ih.2.2 (lI (lI L 5 r2.1) 6 r3.1) r8.2 r h H locs ls hP hD hS (lv_sub hl [3, 4, 1, 0] rfl)
          · rw [if_neg c9] at h
            refine lv_aload_n hx hb dX0_withPair_61 rfl (lv_at hl 3 rfl) ?_
            refine hg_14_4 hx hb hts in_y_X0_withPair_X0 hown hK hP (hts _ (List.mem_cons_of_mem _ (List.mem_append_left _ (List.mem_append_left _ (List.mem_of_getElem? (i := 11) rfl))))) dX0_withPair_62 ?_
            refine lv_iload hx hb dX0_withPair_65 (lv_at hl 0 rfl) ?_
            obtain ⟨q10, h⟩ := kb_ite1 h
            refine hl_16 hx hb hK hP q10 dX0_withPair_67 ?_
            obtain rfl := Option.some.inj h
            exact W.iret (v := (r8.2.2.2.1 16 r3.1.toNatClampNeg)) hx hb hr (fun t ht hW => ⟨⟨(r8.2.2.2.1 16 r3.1.toNatClampNeg), (), rfl, rfl, by rw [ht]; exact hP, va_K.moved hW.alike hK, hD⟩, hS.F ht⟩) hS.2.2 dX0_withPair_68
      · intro L σ r h H locs ls hP hD hS hl
        rw [y_X0_withPair] at h
        refine lv_aload_n hx hb dX0_withPair_72 rfl (lv_at hl 0 rfl) ?_
        refine lv_iload_n hx hb dX0_withPair_73 rfl (lv_at hl 1 rfl) ?_
        refine lv_iload hx hb dX0_withPair_74 (lv_at hl 2 rfl) ?_
        refine lv_aload_n hx hb dX0_withPair_76 rfl (lv_at hl 0 rfl) ?_
        refine hg_14_0 hx hb hts in_y_X0_withPair_X0 hown hK hP (hts _ (List.mem_cons_of_mem _ (List.mem_append_left _ (List.mem_append_left _ (List.mem_of_getElem? (i := 17) rfl))))) dX0_withPair_77 ?_
        refine lv_iload_n hx hb dX0_withPair_80 rfl (lv_at hl 1 rfl) ?_
        obtain ⟨r1, hc1, h⟩ := oc_ex h
        refine kc_i (va_runV (As := [.int (L.1 1)]) (rest := [.int (L.1 5), .int (L.1 1), .ref (a 14)]) ⟨hx, hb, hml, hown, hts⟩ (c_y_X1_length l dC dI cy a z k (lI lZ 1 ((L.1 1))) σ r1 hc1 H.size) (cwV 1 hts g_y_X0_withPair_X1_length_V100 rfl rfl rfl hd_y_X1_length ⟨Nat.le_of_ble_eq_true rfl, Nat.le_of_ble_eq_true rfl⟩) ⟨nb_blind, va_recv hK hP (ci := 1) (q0 := 0) rfl rfl, (kb_pre hK hG hP hD)⟩ rfl rfl hl.1 rfl (lv_room (Nat.le_of_ble_eq_true rfl)) dX0_withPair_81 ⟨Nat.le_refl _, Nat.le_refl _⟩) hA hP hD hS (fun H locs hP hD hS => ?_)
        refine lv_iload hx hb dX0_withPair_84 (lv_at hl 3 rfl) ?_
        obtain ⟨r2, hc2, h⟩ := oc_ex h
        refine kc_i (va_runV (As := [.int (L.1 1), .int (L.1 5), .int r1.1, .int (L.1 6)]) (rest := []) ⟨hx, hb, hml, hown, hts⟩ (c_y_X0_load l dC dI cy a z k (lI (lI (lI (lI lZ 1 ((L.1 1))) 2 ((L.1 5))) 3 r1.1) 4 ((L.1 6))) r1.2 r2 hc2 H.size) (cwV 4 hts g_y_X0_withPair_X0_load_V103 rfl rfl rfl hd_y_X0_load ⟨Nat.le_of_ble_eq_true rfl, Nat.le_of_ble_eq_true rfl⟩) ⟨nb_blind, va_recv hK hP (ci := 0) (q0 := 14) rfl rfl, (kb_pre hK hG hP hD)⟩ rfl rfl hl.1 rfl (lv_room (Nat.le_of_ble_eq_true rfl)) dX0_withPair_86 ⟨Nat.le_refl _, Nat.le_refl _⟩) hA hP hD hS (fun H locs hP hD hS => ?_)
        refine lv_istore (lv' := [(6, .int r2.1), (0, .ref (a 14)), (1, .int (L.1 1)), (5, .int (L.1 5))]) hx hb dX0_withPair_89 hl (by decide) rfl (fun ls hl => ?_)
        refine lv_aload_n hx hb dX0_withPair_91 rfl (lv_at hl 1 rfl) ?_
        refine hg_14_0 hx hb hts in_y_X0_withPair_X0 hown hK hP (hts _ (List.mem_cons_of_mem _ (List.mem_append_left _ (List.mem_append_left _ (List.mem_of_getElem? (i := 17) rfl))))) dX0_withPair_92 ?_
        refine lv_bipush (v := 6) hx hb dX0_withPair_95 (by decide) ?_
        refine lv_aload_n hx hb dX0_withPair_97 rfl (lv_at hl 1 rfl) ?_
        refine hg_14_4 hx hb hts in_y_X0_withPair_X0 hown hK hP (hts _ (List.mem_cons_of_mem _ (List.mem_append_left _ (List.mem_append_left _ (List.mem_of_getElem? (i := 11) rfl))))) dX0_withPair_98 ?_
        refine lv_iconst (v := 0) hx hb dX0_withPair_101 (by decide) ?_
        refine lv_iload hx hb dX0_withPair_102 (lv_at hl 0 rfl) ?_
        obtain ⟨r3, hc3, h⟩ := oc_ex h
        refine kc_i (va_runV (As := [.int 6, .ref (a 16), .int 0, .int r2.1]) (rest := []) ⟨hx, hb, hml, hown, hts⟩ (c_y_X1_makeRow__a16 l dC dI cy a z k (lI (lI (lI lZ 1 6) 3 0) 4 r2.1) r2.2 r3 hc3 H.size) (cwV 4 hts g_y_X0_withPair_X1_makeRow__a16_V160 rfl rfl rfl hd_y_X1_makeRow__a16 ⟨Nat.le_of_ble_eq_true rfl, Nat.le_of_ble_eq_true rfl⟩) ⟨nb_blind, va_recv hK hP (ci := 1) (q0 := 0) rfl rfl, (kb_pre hK hG hP hD)⟩ rfl rfl hl.1 rfl (lv_room (Nat.le_of_ble_eq_true rfl)) dX0_withPair_104 ⟨Nat.le_refl _, Nat.le_refl _⟩) hA hP hD hS (fun H locs hP hD hS => ?_)
        obtain rfl := Option.some.inj h
        exact W.iret (v := r3.1) hx hb hr (fun t ht hW => ⟨⟨r3.1, (), rfl, rfl, by rw [ht]; exact hP, va_K.moved hW.alike hK, hD⟩, hS.F ht⟩) hS.2.2 dX0_withPair_107
      · intro L σ r h H locs ls hP hD hS hl
        rw [y_X0_withPair] at h
        refine lv_iinc (v := ((L.1 6)) + 1) (lv' := [(6, .int (((L.1 6)) + 1)), (0, .ref (a 14)), (1, .int (L.1 1)), (5, .int (L.1 5))]) hx hb dX0_withPair_69 hl (k := 3) rfl rfl (by decide) rfl (fun ls hl => ?_)
        exact ih.2.1 (lI L 6 ((((L.1 6)) + 1))) σ r h H locs ls hP hD hS (lv_sub hl [1, 2, 3, 0] rfl)
  exact (blk k0).1 L0 σ0 r0 h0 s.heap [] ls hP hD hS hl
/-! X0_withMember -/
def y_X0_withMember : Nat → Nat → LV → CS → Option (Int32 × CS)
  | 0, _, _, _ => none
  | k + 1, 0, L, σ => oc (y_X1_kind k 0 (lI lZ 1 ((L.1 1))) σ) (fun r1 => if r1.1 = 5 then (y_X0_withMember k 1 (lI L 4 r1.1) r1.2) else (if r1.1 = 4 then (oc (y_X1_kind k 0 (lI lZ 1 ((L.1 3))) r1.2) (fun r4 => if r4.1 = 4 then (oc (y_X1_length k 0 (lI lZ 1 ((L.1 3))) r4.2) (fun r6 => if r6.1 = 1 then (y_X0_withMember k 1 (lI L 4 r1.1) r6.2) else (y_X0_withMember k 2 (lI L 4 r1.1) r6.2))) else (y_X0_withMember k 2 (lI L 4 r1.1) r4.2))) else (y_X0_withMember k 2 (lI L 4 r1.1) r1.2)))
  | k + 1, 1, L, σ => y_X0_withMember k 3 (lI L 100 1) σ
  | k + 1, 2, L, σ => y_X0_withMember k 3 (lI L 100 0) σ
  | k + 1, 3, L, σ => if ((L.1 100)) = 0 then (y_X0_withMember k 4 L σ) else (oc (y_X1_kind k 0 (lI lZ 1 ((L.1 2))) σ) (fun r2 => if r2.1 = 2 then (y_X0_withMember k 5 L r2.2) else (y_X0_withMember k 4 L r2.2)))
  | k + 1, 4, L, σ => some ((-268435455), σ)
  | k + 1, 5, L, σ => oc (y_X10_clamped k 0 (lI lZ 1 ((L.1 2))) σ) (fun r1 => oc (y_X1_length k 0 (lI lZ 1 ((L.1 1))) r1.2) (fun r2 => if r1.1 < 1 then (y_X0_withMember k 6 L r2.2) else (if ((L.1 4)) = 4 then (if r1.1 ≤ ((r2.1 + 1)) then (y_X0_withMember k 7 (lI (lI L 6 r1.1) 7 r2.1) r2.2) else (y_X0_withMember k 6 L r2.2)) else (y_X0_withMember k 7 (lI (lI L 6 r1.1) 7 r2.1) r2.2))))
  | k + 1, 6, L, σ => some ((-268435452), σ)
  | k + 1, 7, L, σ => if ((L.1 4)) = 4 then (oc (y_X1_copyBytes__a15 k 0 (lI (lI (lI (lI lZ 1 ((L.1 1))) 2 0) 3 ((L.1 7))) 5 0) σ) (fun r2 => oc (y_X1_byteAt k 0 (lI (lI lZ 1 ((L.1 3))) 2 0) r2.2) (fun r3 => if ¬ (((((L.1 6)) - 1)) < 0 ∨ 8192 ≤ ((((L.1 6)) - 1)).toNatClampNeg) then (oc (y_X1_makeString__a15 k 0 (lI (lI lZ 2 0) 3 ((if ((L.1 7)) < ((L.1 6)) then ((L.1 6)) else ((L.1 7))))) (uA r3.2 15 ((((L.1 6)) - 1)).toNatClampNeg (vp_nar .byte ((r3.1.toInt8.toInt32))))) (fun r5 => some (r5.1, r5.2))) else none))) else (y_X0_withMember k 8 L σ)
  | k + 1, 8, L, σ => if ((L.1 6)) ≤ ((L.1 7)) then (y_X0_withMember k 9 L σ) else (if ((L.1 3)) = ((-2147483648)) then (some ((L.1 1), σ)) else (y_X0_withMember k 9 L σ))
  | k + 1, 9, L, σ => if ((L.1 6)) ≤ 1000 then (y_X0_withMember k 10 L σ) else (some ((-268435451), σ))
  | k + 1, 10, L, σ => oc (y_X0_load k 0 (lI (lI (lI (lI lZ 1 ((L.1 1))) 2 0) 3 ((L.1 7))) 4 0) σ) (fun r1 => y_X0_withMember k 11 (lI L 8 ((L.1 7))) r1.2)
  | k + 1, 11, L, σ => if ((L.1 6)) ≤ ((L.1 8)) then (y_X0_withMember k 12 L σ) else (if ¬ (((L.1 8)) < 0 ∨ 2048 ≤ ((L.1 8)).toNatClampNeg) then (y_X0_withMember k 11 (lI L 8 ((((L.1 8)) + 1))) (uA σ 16 ((L.1 8)).toNatClampNeg ((-2147483648)))) else none)
  | k + 1, 12, L, σ => if ¬ (((((L.1 6)) - 1)) < 0 ∨ 2048 ≤ ((((L.1 6)) - 1)).toNatClampNeg) then (oc (y_X1_makeTuple__a16 k 0 (lI (lI lZ 2 0) 3 ((if ((L.1 7)) < ((L.1 6)) then ((L.1 6)) else ((L.1 7))))) (uA σ 16 ((((L.1 6)) - 1)).toNatClampNeg ((L.1 3)))) (fun r2 => some (r2.1, r2.2))) else none
  | _ + 1, _ + 13, _, _ => none
def o_y_X0_withMember : List Cond := [.fieldLink RX0 22 "SetHouse$Algebra" "heap" "LSetHouse$Heap;", .methodLink RX0 87 yX1_kind, .instanceMethod yX1_kind, .selects RX1 yX1_kind yX1_kind, .initialized RX1, .methodLink RX0 100 yX1_length, .instanceMethod yX1_length, .selects RX1 yX1_length yX1_length, .constant RX0 56 (-268435455), .fieldLink RX0 26 "SetHouse$Algebra" "wholes" "LSetHouse$Wholes;", .methodLink RX0 133 yX10_clamped, .instanceMethod yX10_clamped, .selects RX10 yX10_clamped yX10_clamped, .initialized RX10, .constant RX0 132 (-268435452), .fieldLink RX0 9 "SetHouse$Algebra" "bytes" "[B", .methodLink RX0 114 yX1_copyBytes, .instanceMethod yX1_copyBytes, .selects RX1 yX1_copyBytes yX1_copyBytes, .methodLink RX0 171 yX1_byteAt, .instanceMethod yX1_byteAt, .selects RX1 yX1_byteAt yX1_byteAt, .methodLink RX0 118 yX1_makeString, .instanceMethod yX1_makeString, .selects RX1 yX1_makeString yX1_makeString, .methodLink RX0 288 Lib.Math.max.name, .static Lib.Math.max.name, .initialized "java/lang/Math", .code Lib.Math.max.name Lib.Math.max.code 2 (some .int), .constant RX0 167 (-2147483648), .constant RX0 139 (-268435451), .methodLink RX0 103 yX0_load, .instanceMethod yX0_load, .selects RX0 yX0_load yX0_load, .initialized RX0, .fieldLink RX0 15 "SetHouse$Algebra" "row" "[I", .methodLink RX0 107 yX1_makeTuple, .instanceMethod yX1_makeTuple, .selects RX1 yX1_makeTuple yX1_makeTuple]
theorem o_y_X0_withMember_good : o_y_X0_withMember.all goodWord = true := by decide +kernel
def p_y_X0_withMember : List Cond := o_y_X0_withMember ++ ((.code yX1_kind cX1_kind 2 (some .int) :: p_y_X1_kind) ++ ((.code yX1_length cX1_length 2 (some .int) :: p_y_X1_length) ++ ((.code yX10_clamped cX10_clamped 2 (some .int) :: p_y_X10_clamped) ++ ((.code yX1_copyBytes cX1_copyBytes 8 (some .int) :: p_y_X1_copyBytes__a15) ++ ((.code yX1_byteAt cX1_byteAt 3 (some .int) :: p_y_X1_byteAt) ++ ((.code yX1_makeString cX1_makeString 9 (some .int) :: p_y_X1_makeString__a15) ++ ((.code yX0_load cX0_load 6 (some .int) :: p_y_X0_load) ++ ((.code yX1_makeTuple cX1_makeTuple 6 (some .int) :: p_y_X1_makeTuple__a16) ++ []))))))))
theorem p_y_X0_withMember_good : p_y_X0_withMember.all goodWord = true := nb_all2 o_y_X0_withMember_good (nb_all2 (nb_allc (by decide +kernel) p_y_X1_kind_good) (nb_all2 (nb_allc (by decide +kernel) p_y_X1_length_good) (nb_all2 (nb_allc (by decide +kernel) p_y_X10_clamped_good) (nb_all2 (nb_allc (by decide +kernel) p_y_X1_copyBytes__a15_good) (nb_all2 (nb_allc (by decide +kernel) p_y_X1_byteAt_good) (nb_all2 (nb_allc (by decide +kernel) p_y_X1_makeString__a15_good) (nb_all2 (nb_allc (by decide +kernel) p_y_X0_load_good) (nb_all2 (nb_allc (by decide +kernel) p_y_X1_makeTuple__a16_good) rfl))))))))
def w_y_X0_withMember : List Cond := .code yX0_withMember cX0_withMember 9 (some .int) :: (p_y_X0_withMember ++ fC)
theorem w_y_X0_withMember_good : w_y_X0_withMember.all goodWord = true := nb_allc (by decide +kernel) (nb_all2 p_y_X0_withMember_good fC_good)
theorem in_y_X0_withMember_X0 : ∀ w ∈ wsX00, w ∈ w_y_X0_withMember := fun _ h => List.mem_cons_of_mem _ (List.mem_append_right _ (List.mem_append_left _ h))
theorem hd_y_X0_withMember : yX0_withMember.cls = RX0 ∧ yX0_withMember.cls ≠ "java/lang/invoke/MethodHandle" ∧ yX0_withMember.cls ≠ "java/lang/invoke/VarHandle" ∧ (parseMethodDescriptor yX0_withMember.desc).map (fun d => d.parameters.length) = some 3 := by decide +kernel
theorem gg_y_X0_withMember_X0_load : GoodIn w_y_X0_withMember w_y_X0_load := goodIn_sub (fun w h => (List.mem_cons.mp h).elim (fun e => (List.mem_cons_of_mem _ (List.mem_append_left _ (List.mem_append_right _ (List.mem_append_right _ (List.mem_append_right _ (List.mem_append_right _ (List.mem_append_right _ (List.mem_append_right _ (List.mem_append_right _ (List.mem_append_left _ (List.mem_cons.mpr (Or.inl e))))))))))))) (fun h => (List.mem_append.mp h).elim (fun h => (List.mem_cons_of_mem _ (List.mem_append_left _ (List.mem_append_right _ (List.mem_append_right _ (List.mem_append_right _ (List.mem_append_right _ (List.mem_append_right _ (List.mem_append_right _ (List.mem_append_right _ (List.mem_append_left _ (List.mem_cons_of_mem _ h)))))))))))) (fun h => List.mem_cons_of_mem _ (List.mem_append_right _ h)))) w_y_X0_load_good
theorem g_y_X0_withMember_X0_load_V103 : GoodIn w_y_X0_withMember (wsV RX0 103 RX0 yX0_load w_y_X0_load) := goodIn_app (nb_g4 (List.mem_cons_of_mem _ (List.mem_append_left _ (List.mem_append_left _ (List.mem_of_getElem? (i := 31) rfl)))) (List.mem_cons_of_mem _ (List.mem_append_left _ (List.mem_append_left _ (List.mem_of_getElem? (i := 32) rfl)))) (List.mem_cons_of_mem _ (List.mem_append_left _ (List.mem_append_left _ (List.mem_of_getElem? (i := 33) rfl)))) (List.mem_cons_of_mem _ (List.mem_append_left _ (List.mem_append_left _ (List.mem_of_getElem? (i := 34) rfl)))) (by decide +kernel)) gg_y_X0_withMember_X0_load
theorem gg_y_X0_withMember_X10_clamped : GoodIn w_y_X0_withMember w_y_X10_clamped := goodIn_sub (fun w h => (List.mem_cons.mp h).elim (fun e => (List.mem_cons_of_mem _ (List.mem_append_left _ (List.mem_append_right _ (List.mem_append_right _ (List.mem_append_right _ (List.mem_append_left _ (List.mem_cons.mpr (Or.inl e))))))))) (fun h => (List.mem_append.mp h).elim (fun h => (List.mem_cons_of_mem _ (List.mem_append_left _ (List.mem_append_right _ (List.mem_append_right _ (List.mem_append_right _ (List.mem_append_left _ (List.mem_cons_of_mem _ h)))))))) (fun h => List.mem_cons_of_mem _ (List.mem_append_right _ h)))) w_y_X10_clamped_good
theorem g_y_X0_withMember_X10_clamped_V133 : GoodIn w_y_X0_withMember (wsV RX0 133 RX10 yX10_clamped w_y_X10_clamped) := goodIn_app (nb_g4 (List.mem_cons_of_mem _ (List.mem_append_left _ (List.mem_append_left _ (List.mem_of_getElem? (i := 10) rfl)))) (List.mem_cons_of_mem _ (List.mem_append_left _ (List.mem_append_left _ (List.mem_of_getElem? (i := 11) rfl)))) (List.mem_cons_of_mem _ (List.mem_append_left _ (List.mem_append_left _ (List.mem_of_getElem? (i := 12) rfl)))) (List.mem_cons_of_mem _ (List.mem_append_left _ (List.mem_append_left _ (List.mem_of_getElem? (i := 13) rfl)))) (by decide +kernel)) gg_y_X0_withMember_X10_clamped
theorem gg_y_X0_withMember_X1_byteAt : GoodIn w_y_X0_withMember w_y_X1_byteAt := goodIn_sub (fun w h => (List.mem_cons.mp h).elim (fun e => (List.mem_cons_of_mem _ (List.mem_append_left _ (List.mem_append_right _ (List.mem_append_right _ (List.mem_append_right _ (List.mem_append_right _ (List.mem_append_right _ (List.mem_append_left _ (List.mem_cons.mpr (Or.inl e))))))))))) (fun h => (List.mem_append.mp h).elim (fun h => (List.mem_cons_of_mem _ (List.mem_append_left _ (List.mem_append_right _ (List.mem_append_right _ (List.mem_append_right _ (List.mem_append_right _ (List.mem_append_right _ (List.mem_append_left _ (List.mem_cons_of_mem _ h)))))))))) (fun h => List.mem_cons_of_mem _ (List.mem_append_right _ h)))) w_y_X1_byteAt_good
theorem g_y_X0_withMember_X1_byteAt_V171 : GoodIn w_y_X0_withMember (wsV RX0 171 RX1 yX1_byteAt w_y_X1_byteAt) := goodIn_app (nb_g4 (List.mem_cons_of_mem _ (List.mem_append_left _ (List.mem_append_left _ (List.mem_of_getElem? (i := 19) rfl)))) (List.mem_cons_of_mem _ (List.mem_append_left _ (List.mem_append_left _ (List.mem_of_getElem? (i := 20) rfl)))) (List.mem_cons_of_mem _ (List.mem_append_left _ (List.mem_append_left _ (List.mem_of_getElem? (i := 21) rfl)))) (List.mem_cons_of_mem _ (List.mem_append_left _ (List.mem_append_left _ (List.mem_of_getElem? (i := 4) rfl)))) (by decide +kernel)) gg_y_X0_withMember_X1_byteAt
theorem gg_y_X0_withMember_X1_copyBytes__a15 : GoodIn w_y_X0_withMember w_y_X1_copyBytes__a15 := goodIn_sub (fun w h => (List.mem_cons.mp h).elim (fun e => (List.mem_cons_of_mem _ (List.mem_append_left _ (List.mem_append_right _ (List.mem_append_right _ (List.mem_append_right _ (List.mem_append_right _ (List.mem_append_left _ (List.mem_cons.mpr (Or.inl e)))))))))) (fun h => (List.mem_append.mp h).elim (fun h => (List.mem_cons_of_mem _ (List.mem_append_left _ (List.mem_append_right _ (List.mem_append_right _ (List.mem_append_right _ (List.mem_append_right _ (List.mem_append_left _ (List.mem_cons_of_mem _ h))))))))) (fun h => List.mem_cons_of_mem _ (List.mem_append_right _ h)))) w_y_X1_copyBytes__a15_good
theorem g_y_X0_withMember_X1_copyBytes__a15_V114 : GoodIn w_y_X0_withMember (wsV RX0 114 RX1 yX1_copyBytes w_y_X1_copyBytes__a15) := goodIn_app (nb_g4 (List.mem_cons_of_mem _ (List.mem_append_left _ (List.mem_append_left _ (List.mem_of_getElem? (i := 16) rfl)))) (List.mem_cons_of_mem _ (List.mem_append_left _ (List.mem_append_left _ (List.mem_of_getElem? (i := 17) rfl)))) (List.mem_cons_of_mem _ (List.mem_append_left _ (List.mem_append_left _ (List.mem_of_getElem? (i := 18) rfl)))) (List.mem_cons_of_mem _ (List.mem_append_left _ (List.mem_append_left _ (List.mem_of_getElem? (i := 4) rfl)))) (by decide +kernel)) gg_y_X0_withMember_X1_copyBytes__a15
theorem gg_y_X0_withMember_X1_kind : GoodIn w_y_X0_withMember w_y_X1_kind := goodIn_sub (fun w h => (List.mem_cons.mp h).elim (fun e => (List.mem_cons_of_mem _ (List.mem_append_left _ (List.mem_append_right _ (List.mem_append_left _ (List.mem_cons.mpr (Or.inl e))))))) (fun h => (List.mem_append.mp h).elim (fun h => (List.mem_cons_of_mem _ (List.mem_append_left _ (List.mem_append_right _ (List.mem_append_left _ (List.mem_cons_of_mem _ h)))))) (fun h => List.mem_cons_of_mem _ (List.mem_append_right _ h)))) w_y_X1_kind_good
theorem g_y_X0_withMember_X1_kind_V87 : GoodIn w_y_X0_withMember (wsV RX0 87 RX1 yX1_kind w_y_X1_kind) := goodIn_app (nb_g4 (List.mem_cons_of_mem _ (List.mem_append_left _ (List.mem_append_left _ (List.mem_of_getElem? (i := 1) rfl)))) (List.mem_cons_of_mem _ (List.mem_append_left _ (List.mem_append_left _ (List.mem_of_getElem? (i := 2) rfl)))) (List.mem_cons_of_mem _ (List.mem_append_left _ (List.mem_append_left _ (List.mem_of_getElem? (i := 3) rfl)))) (List.mem_cons_of_mem _ (List.mem_append_left _ (List.mem_append_left _ (List.mem_of_getElem? (i := 4) rfl)))) (by decide +kernel)) gg_y_X0_withMember_X1_kind
theorem gg_y_X0_withMember_X1_length : GoodIn w_y_X0_withMember w_y_X1_length := goodIn_sub (fun w h => (List.mem_cons.mp h).elim (fun e => (List.mem_cons_of_mem _ (List.mem_append_left _ (List.mem_append_right _ (List.mem_append_right _ (List.mem_append_left _ (List.mem_cons.mpr (Or.inl e)))))))) (fun h => (List.mem_append.mp h).elim (fun h => (List.mem_cons_of_mem _ (List.mem_append_left _ (List.mem_append_right _ (List.mem_append_right _ (List.mem_append_left _ (List.mem_cons_of_mem _ h))))))) (fun h => List.mem_cons_of_mem _ (List.mem_append_right _ h)))) w_y_X1_length_good
theorem g_y_X0_withMember_X1_length_V100 : GoodIn w_y_X0_withMember (wsV RX0 100 RX1 yX1_length w_y_X1_length) := goodIn_app (nb_g4 (List.mem_cons_of_mem _ (List.mem_append_left _ (List.mem_append_left _ (List.mem_of_getElem? (i := 5) rfl)))) (List.mem_cons_of_mem _ (List.mem_append_left _ (List.mem_append_left _ (List.mem_of_getElem? (i := 6) rfl)))) (List.mem_cons_of_mem _ (List.mem_append_left _ (List.mem_append_left _ (List.mem_of_getElem? (i := 7) rfl)))) (List.mem_cons_of_mem _ (List.mem_append_left _ (List.mem_append_left _ (List.mem_of_getElem? (i := 4) rfl)))) (by decide +kernel)) gg_y_X0_withMember_X1_length
theorem gg_y_X0_withMember_X1_makeString__a15 : GoodIn w_y_X0_withMember w_y_X1_makeString__a15 := goodIn_sub (fun w h => (List.mem_cons.mp h).elim (fun e => (List.mem_cons_of_mem _ (List.mem_append_left _ (List.mem_append_right _ (List.mem_append_right _ (List.mem_append_right _ (List.mem_append_right _ (List.mem_append_right _ (List.mem_append_right _ (List.mem_append_left _ (List.mem_cons.mpr (Or.inl e)))))))))))) (fun h => (List.mem_append.mp h).elim (fun h => (List.mem_cons_of_mem _ (List.mem_append_left _ (List.mem_append_right _ (List.mem_append_right _ (List.mem_append_right _ (List.mem_append_right _ (List.mem_append_right _ (List.mem_append_right _ (List.mem_append_left _ (List.mem_cons_of_mem _ h))))))))))) (fun h => List.mem_cons_of_mem _ (List.mem_append_right _ h)))) w_y_X1_makeString__a15_good
theorem g_y_X0_withMember_X1_makeString__a15_V118 : GoodIn w_y_X0_withMember (wsV RX0 118 RX1 yX1_makeString w_y_X1_makeString__a15) := goodIn_app (nb_g4 (List.mem_cons_of_mem _ (List.mem_append_left _ (List.mem_append_left _ (List.mem_of_getElem? (i := 22) rfl)))) (List.mem_cons_of_mem _ (List.mem_append_left _ (List.mem_append_left _ (List.mem_of_getElem? (i := 23) rfl)))) (List.mem_cons_of_mem _ (List.mem_append_left _ (List.mem_append_left _ (List.mem_of_getElem? (i := 24) rfl)))) (List.mem_cons_of_mem _ (List.mem_append_left _ (List.mem_append_left _ (List.mem_of_getElem? (i := 4) rfl)))) (by decide +kernel)) gg_y_X0_withMember_X1_makeString__a15
theorem gg_y_X0_withMember_X1_makeTuple__a16 : GoodIn w_y_X0_withMember w_y_X1_makeTuple__a16 := goodIn_sub (fun w h => (List.mem_cons.mp h).elim (fun e => (List.mem_cons_of_mem _ (List.mem_append_left _ (List.mem_append_right _ (List.mem_append_right _ (List.mem_append_right _ (List.mem_append_right _ (List.mem_append_right _ (List.mem_append_right _ (List.mem_append_right _ (List.mem_append_right _ (List.mem_append_left _ (List.mem_cons.mpr (Or.inl e)))))))))))))) (fun h => (List.mem_append.mp h).elim (fun h => (List.mem_cons_of_mem _ (List.mem_append_left _ (List.mem_append_right _ (List.mem_append_right _ (List.mem_append_right _ (List.mem_append_right _ (List.mem_append_right _ (List.mem_append_right _ (List.mem_append_right _ (List.mem_append_right _ (List.mem_append_left _ (List.mem_cons_of_mem _ h))))))))))))) (fun h => List.mem_cons_of_mem _ (List.mem_append_right _ h)))) w_y_X1_makeTuple__a16_good
theorem g_y_X0_withMember_X1_makeTuple__a16_V107 : GoodIn w_y_X0_withMember (wsV RX0 107 RX1 yX1_makeTuple w_y_X1_makeTuple__a16) := goodIn_app (nb_g4 (List.mem_cons_of_mem _ (List.mem_append_left _ (List.mem_append_left _ (List.mem_of_getElem? (i := 36) rfl)))) (List.mem_cons_of_mem _ (List.mem_append_left _ (List.mem_append_left _ (List.mem_of_getElem? (i := 37) rfl)))) (List.mem_cons_of_mem _ (List.mem_append_left _ (List.mem_append_left _ (List.mem_of_getElem? (i := 38) rfl)))) (List.mem_cons_of_mem _ (List.mem_append_left _ (List.mem_append_left _ (List.mem_of_getElem? (i := 4) rfl)))) (by decide +kernel)) gg_y_X0_withMember_X1_makeTuple__a16
set_option maxHeartbeats 40000000 in
set_option maxRecDepth 100000 in
theorem c_y_X0_withMember (l : Launch) (dC : Nat → ClassId) (dI : Nat → Nat → Nat) (cy : Nat → ClassId) (a z : Nat → Nat) (k0 : Nat) (L0 : LV) (σ0 : CS) (r0 : Int32 × CS) (h0 : y_X0_withMember k0 0 L0 σ0 = some r0) (sz : Nat) : Met l yX0_withMember w_y_X0_withMember ({ frames := 3, cells := 0, slots := 0, locals := 115 }) (va_Pc [.ref (a 14), .int (L0.1 1), .int (L0.1 2), .int (L0.1 3)] (nIn (dC, dI) cy sz (vC cy a z σ0))) (va_Qi (fun (x : Int32) (_ : Unit) => x = r0.1) (fun _ t => nOut (dC, dI) cy (va_A (vC cy a z σ0) sz) (vC cy a z r0.2) t) (va_A (vC cy a z σ0) sz)) 0 0 (va_A (vC cy a z σ0) sz) := by
  refine Met.ofW (cc := cX0_withMember) (maxL := 9) (ret := (some .int)) (by decide) rfl ?_
  intro p e s m args below meth c s₁ B hml hv
  obtain ⟨rfl, hsz, hP, hK, hD0, hG⟩ := hv
  have hx := B.exec
  have hb := B.bytes
  have hr := B.returns
  have hts := atoms_spec (ws := w_y_X0_withMember) B.pre
  have hown : s.vm.findClass RX0 = some m.cls := findClass_of_methodNamed B.named
  have hlocks := B.notSynchronized
  subst hsz
  have hD := hD0.self (sz := s.heap.size)
  generalize hAe : va_A (vC cy a z σ0) s.heap.size = A at hD ⊢
  have hA : ∀ q : Nat, s.heap.size ≤ q → A q := fun q h => by rw [← hAe]; exact Or.inr h
  have hS : va_S A s.heap s.heap [] := va_S.rf
  have hl := lv_entry ([.ref (a 14), .int (L0.1 1), .int (L0.1 2), .int (L0.1 3)]) (n := 9) (Nat.le_of_ble_eq_true rfl)
  rw [lg_entry_eq]
  generalize (lg_sl ([.ref (a 14), .int (L0.1 1), .int (L0.1 2), .int (L0.1 3)]) ++ List.replicate (9 - (lg_sl ([.ref (a 14), .int (L0.1 1), .int (L0.1 2), .int (L0.1 3)])).length) Slot.unset).toArray = ls at hl ⊢
  have hl : lv_has ls 9 [(0, .ref (a 14)), (1, .int (L0.1 1)), (2, .int (L0.1 2)), (3, .int (L0.1 3))] := hl
  have blk : ∀ k : Nat, (bC p l e (headSpec w_y_X0_withMember ({ frames := 3, cells := 0, slots := 0, locals := 115 })).room s m #[.ref (a 14), .int (L0.1 1), .int (L0.1 2), .int (L0.1 3)] below meth c dC dI cy a z A (kI dC dI cy a z A below #[.ref (a 14), .int (L0.1 1), .int (L0.1 2), .int (L0.1 3)] s) 9 (y_X0_withMember k 0) (fun L => [(0, .ref (a 14)), (1, .int (L.1 1)), (2, .int (L.1 2)), (3, .int (L.1 3))]) 0 (fun L => [])) ∧ (bC p l e (headSpec w_y_X0_withMember ({ frames := 3, cells := 0, slots := 0, locals := 115 })).room s m #[.ref (a 14), .int (L0.1 1), .int (L0.1 2), .int (L0.1 3)] below meth c dC dI cy a z A (kI dC dI cy a z A below #[.ref (a 14), .int (L0.1 1), .int (L0.1 2), .int (L0.1 3)] s) 9 (y_X0_withMember k 1) (fun L => [(0, .ref (a 14)), (1, .int (L.1 1)), (2, .int (L.1 2)), (3, .int (L.1 3)), (4, .int (L.1 4))]) 46 (fun L => [])) ∧ (bC p l e (headSpec w_y_X0_withMember ({ frames := 3, cells := 0, slots := 0, locals := 115 })).room s m #[.ref (a 14), .int (L0.1 1), .int (L0.1 2), .int (L0.1 3)] below meth c dC dI cy a z A (kI dC dI cy a z A below #[.ref (a 14), .int (L0.1 1), .int (L0.1 2), .int (L0.1 3)] s) 9 (y_X0_withMember k 2) (fun L => [(0, .ref (a 14)), (1, .int (L.1 1)), (2, .int (L.1 2)), (3, .int (L.1 3)), (4, .int (L.1 4))]) 50 (fun L => [])) ∧ (bC p l e (headSpec w_y_X0_withMember ({ frames := 3, cells := 0, slots := 0, locals := 115 })).room s m #[.ref (a 14), .int (L0.1 1), .int (L0.1 2), .int (L0.1 3)] below meth c dC dI cy a z A (kI dC dI cy a z A below #[.ref (a 14), .int (L0.1 1), .int (L0.1 2), .int (L0.1 3)] s) 9 (y_X0_withMember k 3) (fun L => [(0, .ref (a 14)), (1, .int (L.1 1)), (2, .int (L.1 2)), (3, .int (L.1 3)), (4, .int (L.1 4))]) 51 (fun L => [.int (L.1 100)])) ∧ (bC p l e (headSpec w_y_X0_withMember ({ frames := 3, cells := 0, slots := 0, locals := 115 })).room s m #[.ref (a 14), .int (L0.1 1), .int (L0.1 2), .int (L0.1 3)] below meth c dC dI cy a z A (kI dC dI cy a z A below #[.ref (a 14), .int (L0.1 1), .int (L0.1 2), .int (L0.1 3)] s) 9 (y_X0_withMember k 4) (fun L => []) 70 (fun L => [])) ∧ (bC p l e (headSpec w_y_X0_withMember ({ frames := 3, cells := 0, slots := 0, locals := 115 })).room s m #[.ref (a 14), .int (L0.1 1), .int (L0.1 2), .int (L0.1 3)] below meth c dC dI cy a z A (kI dC dI cy a z A below #[.ref (a 14), .int (L0.1 1), .int (L0.1 2), .int (L0.1 3)] s) 9 (y_X0_withMember k 5) (fun L => [(0, .ref (a 14)), (1, .int (L.1 1)), (2, .int (L.1 2)), (3, .int (L.1 3)), (4, .int (L.1 4))]) 73 (fun L => [])) ∧ (bC p l e (headSpec w_y_X0_withMember ({ frames := 3, cells := 0, slots := 0, locals := 115 })).room s m #[.ref (a 14), .int (L0.1 1), .int (L0.1 2), .int (L0.1 3)] below meth c dC dI cy a z A (kI dC dI cy a z A below #[.ref (a 14), .int (L0.1 1), .int (L0.1 2), .int (L0.1 3)] s) 9 (y_X0_withMember k 6) (fun L => []) 114 (fun L => [])) ∧ (bC p l e (headSpec w_y_X0_withMember ({ frames := 3, cells := 0, slots := 0, locals := 115 })).room s m #[.ref (a 14), .int (L0.1 1), .int (L0.1 2), .int (L0.1 3)] below meth c dC dI cy a z A (kI dC dI cy a z A below #[.ref (a 14), .int (L0.1 1), .int (L0.1 2), .int (L0.1 3)] s) 9 (y_X0_withMember k 7) (fun L => [(0, .ref (a 14)), (1, .int (L.1 1)), (3, .int (L.1 3)), (4, .int (L.1 4)), (6, .int (L.1 6)), (7, .int (L.1 7))]) 117 (fun L => [])) ∧ (bC p l e (headSpec w_y_X0_withMember ({ frames := 3, cells := 0, slots := 0, locals := 115 })).room s m #[.ref (a 14), .int (L0.1 1), .int (L0.1 2), .int (L0.1 3)] below meth c dC dI cy a z A (kI dC dI cy a z A below #[.ref (a 14), .int (L0.1 1), .int (L0.1 2), .int (L0.1 3)] s) 9 (y_X0_withMember k 8) (fun L => [(0, .ref (a 14)), (1, .int (L.1 1)), (3, .int (L.1 3)), (6, .int (L.1 6)), (7, .int (L.1 7))]) 179 (fun L => [])) ∧ (bC p l e (headSpec w_y_X0_withMember ({ frames := 3, cells := 0, slots := 0, locals := 115 })).room s m #[.ref (a 14), .int (L0.1 1), .int (L0.1 2), .int (L0.1 3)] below meth c dC dI cy a z A (kI dC dI cy a z A below #[.ref (a 14), .int (L0.1 1), .int (L0.1 2), .int (L0.1 3)] s) 9 (y_X0_withMember k 9) (fun L => [(0, .ref (a 14)), (1, .int (L.1 1)), (3, .int (L.1 3)), (6, .int (L.1 6)), (7, .int (L.1 7))]) 194 (fun L => [])) ∧ (bC p l e (headSpec w_y_X0_withMember ({ frames := 3, cells := 0, slots := 0, locals := 115 })).room s m #[.ref (a 14), .int (L0.1 1), .int (L0.1 2), .int (L0.1 3)] below meth c dC dI cy a z A (kI dC dI cy a z A below #[.ref (a 14), .int (L0.1 1), .int (L0.1 2), .int (L0.1 3)] s) 9 (y_X0_withMember k 10) (fun L => [(0, .ref (a 14)), (1, .int (L.1 1)), (3, .int (L.1 3)), (6, .int (L.1 6)), (7, .int (L.1 7))]) 205 (fun L => [])) ∧ (bC p l e (headSpec w_y_X0_withMember ({ frames := 3, cells := 0, slots := 0, locals := 115 })).room s m #[.ref (a 14), .int (L0.1 1), .int (L0.1 2), .int (L0.1 3)] below meth c dC dI cy a z A (kI dC dI cy a z A below #[.ref (a 14), .int (L0.1 1), .int (L0.1 2), .int (L0.1 3)] s) 9 (y_X0_withMember k 11) (fun L => [(0, .ref (a 14)), (3, .int (L.1 3)), (6, .int (L.1 6)), (7, .int (L.1 7)), (8, .int (L.1 8))]) 219 (fun L => [])) ∧ (bC p l e (headSpec w_y_X0_withMember ({ frames := 3, cells := 0, slots := 0, locals := 115 })).room s m #[.ref (a 14), .int (L0.1 1), .int (L0.1 2), .int (L0.1 3)] below meth c dC dI cy a z A (kI dC dI cy a z A below #[.ref (a 14), .int (L0.1 1), .int (L0.1 2), .int (L0.1 3)] s) 9 (y_X0_withMember k 12) (fun L => [(0, .ref (a 14)), (3, .int (L.1 3)), (6, .int (L.1 6)), (7, .int (L.1 7))]) 241 (fun L => [])) := by
    intro k
    induction k with
    | zero => exact ⟨fun L σ r h => (by cases h), fun L σ r h => (by cases h), fun L σ r h => (by cases h), fun L σ r h => (by cases h), fun L σ r h => (by cases h), fun L σ r h => (by cases h), fun L σ r h => (by cases h), fun L σ r h => (by cases h), fun L σ r h => (by cases h), fun L σ r h => (by cases h), fun L σ r h => (by cases h), fun L σ r h => (by cases h), fun L σ r h => (by cases h)⟩
    | succ k ih =>
      refine ⟨?_, ?_, ?_, ?_, ?_, ?_, ?_, ?_, ?_, ?_, ?_, ?_, ?_⟩
      · intro L σ r h H locs ls hP hD hS hl
        rw [y_X0_withMember] at h
        refine lv_aload_n hx hb dX0_withMember_0 rfl (lv_at hl 0 rfl) ?_
        refine hg_14_0 hx hb hts in_y_X0_withMember_X0 hown hK hP (hts _ (List.mem_cons_of_mem _ (List.mem_append_left _ (List.mem_append_left _ (List.mem_of_getElem? (i := 0) rfl))))) dX0_withMember_1 ?_
        refine lv_iload_n hx hb dX0_withMember_4 rfl (lv_at hl 1 rfl) ?_
        obtain ⟨r1, hc1, h⟩ := oc_ex h
        refine kc_i (va_runV (As := [.int (L.1 1)]) (rest := []) ⟨hx, hb, hml, hown, hts⟩ (c_y_X1_kind l dC dI cy a z k (lI lZ 1 ((L.1 1))) σ r1 hc1 H.size) (cwV 1 hts g_y_X0_withMember_X1_kind_V87 rfl rfl rfl hd_y_X1_kind ⟨Nat.le_of_ble_eq_true rfl, Nat.le_of_ble_eq_true rfl⟩) ⟨nb_blind, va_recv hK hP (ci := 1) (q0 := 0) rfl rfl, (kb_pre hK hG hP hD)⟩ rfl rfl hl.1 rfl (lv_room (Nat.le_of_ble_eq_true rfl)) dX0_withMember_5 ⟨Nat.le_refl _, Nat.le_refl _⟩) hA hP hD hS (fun H locs hP hD hS => ?_)
        refine lv_istore (lv' := [(4, .int r1.1), (0, .ref (a 14)), (1, .int (L.1 1)), (2, .int (L.1 2)), (3, .int (L.1 3))]) hx hb dX0_withMember_8 hl (by decide) rfl (fun ls hl => ?_)
        refine lv_iload hx hb dX0_withMember_10 (lv_at hl 0 rfl) ?_
        refine lv_iconst (v := 5) hx hb dX0_withMember_12 (by decide) ?_
        refine lv_icmp_eq (tgt := 46) hx hb dX0_withMember_13 (by decide) (fun c2 => ?_) (fun c2 => ?_)
        · rw [if_pos c2] at h
          exact ih.2.1 (lI L 4 r1.1) r1.2 r h H locs ls hP hD hS (lv_sub hl [1, 2, 3, 4, 0] rfl)
        · rw [if_neg c2] at h
          refine lv_iload hx hb dX0_withMember_16 (lv_at hl 0 rfl) ?_
          refine lv_iconst (v := 4) hx hb dX0_withMember_18 (by decide) ?_
          refine lv_icmp_ne (tgt := 50) hx hb dX0_withMember_19 (by decide) (fun c3 => ?_) (fun c3 => ?_)
          · rw [if_neg c3] at h
            exact ih.2.2.1 (lI L 4 r1.1) r1.2 r h H locs ls hP hD hS (lv_sub hl [1, 2, 3, 4, 0] rfl)
          · rw [if_pos c3] at h
            refine lv_aload_n hx hb dX0_withMember_22 rfl (lv_at hl 1 rfl) ?_
            refine hg_14_0 hx hb hts in_y_X0_withMember_X0 hown hK hP (hts _ (List.mem_cons_of_mem _ (List.mem_append_left _ (List.mem_append_left _ (List.mem_of_getElem? (i := 0) rfl))))) dX0_withMember_23 ?_
            refine lv_iload_n hx hb dX0_withMember_26 rfl (lv_at hl 4 rfl) ?_
            obtain ⟨r4, hc4, h⟩ := oc_ex h
            refine kc_i (va_runV (As := [.int (L.1 3)]) (rest := []) ⟨hx, hb, hml, hown, hts⟩ (c_y_X1_kind l dC dI cy a z k (lI lZ 1 ((L.1 3))) r1.2 r4 hc4 H.size) (cwV 1 hts g_y_X0_withMember_X1_kind_V87 rfl rfl rfl hd_y_X1_kind ⟨Nat.le_of_ble_eq_true rfl, Nat.le_of_ble_eq_true rfl⟩) ⟨nb_blind, va_recv hK hP (ci := 1) (q0 := 0) rfl rfl, (kb_pre hK hG hP hD)⟩ rfl rfl hl.1 rfl (lv_room (Nat.le_of_ble_eq_true rfl)) dX0_withMember_27 ⟨Nat.le_refl _, Nat.le_refl _⟩) hA hP hD hS (fun H locs hP hD hS => ?_)
            refine lv_iconst (v := 4) hx hb dX0_withMember_30 (by decide) ?_
            refine lv_icmp_ne (tgt := 50) hx hb dX0_withMember_31 (by decide) (fun c5 => ?_) (fun c5 => ?_)
            · rw [if_neg c5] at h
              exact ih.2.2.1 (lI L 4 r1.1) r4.2 r h H locs ls hP hD hS (lv_sub hl [1, 2, 3, 4, 0] rfl)
            · rw [if_pos c5] at h
              refine lv_aload_n hx hb dX0_withMember_34 rfl (lv_at hl 1 rfl) ?_
              refine hg_14_0 hx hb hts in_y_X0_withMember_X0 hown hK hP (hts _ (List.mem_cons_of_mem _ (List.mem_append_left _ (List.mem_append_left _ (List.mem_of_getElem? (i := 0) rfl))))) dX0_withMember_35 ?_
              refine lv_iload_n hx hb dX0_withMember_38 rfl (lv_at hl 4 rfl) ?_
              obtain ⟨r6, hc6, h⟩ := oc_ex h
              refine kc_i (va_runV (As := [.int (L.1 3)]) (rest := []) ⟨hx, hb, hml, hown, hts⟩ (c_y_X1_length l dC dI cy a z k (lI lZ 1 ((L.1 3))) r4.2 r6 hc6 H.size) (cwV 1 hts g_y_X0_withMember_X1_length_V100 rfl rfl rfl hd_y_X1_length ⟨Nat.le_of_ble_eq_true rfl, Nat.le_of_ble_eq_true rfl⟩) ⟨nb_blind, va_recv hK hP (ci := 1) (q0 := 0) rfl rfl, (kb_pre hK hG hP hD)⟩ rfl rfl hl.1 rfl (lv_room (Nat.le_of_ble_eq_true rfl)) dX0_withMember_39 ⟨Nat.le_refl _, Nat.le_refl _⟩) hA hP hD hS (fun H locs hP hD hS => ?_)
              refine lv_iconst (v := 1) hx hb dX0_withMember_42 (by decide) ?_
              refine lv_icmp_ne (tgt := 50) hx hb dX0_withMember_43 (by decide) (fun c7 => ?_) (fun c7 => ?_)
              · rw [if_neg c7] at h
                exact ih.2.2.1 (lI L 4 r1.1) r6.2 r h H locs ls hP hD hS (lv_sub hl [1, 2, 3, 4, 0] rfl)
              · rw [if_pos c7] at h
                exact ih.2.1 (lI L 4 r1.1) r6.2 r h H locs ls hP hD hS (lv_sub hl [1, 2, 3, 4, 0] rfl)
      · intro L σ r h H locs ls hP hD hS hl
        rw [y_X0_withMember] at h
        refine lv_iconst (v := 1) hx hb dX0_withMember_46 (by decide) ?_
        refine lv_goto (tgt := 51) hx hb dX0_withMember_47 (by decide) ?_
        exact ih.2.2.2.1 (lI L 100 1) σ r h H locs ls hP hD hS (lv_sub hl [0, 1, 2, 3, 4] rfl)
      · intro L σ r h H locs ls hP hD hS hl
        rw [y_X0_withMember] at h
        refine lv_iconst (v := 0) hx hb dX0_withMember_50 (by decide) ?_
        exact ih.2.2.2.1 (lI L 100 0) σ r h H locs ls hP hD hS (lv_sub hl [0, 1, 2, 3, 4] rfl)
      · intro L σ r h H locs ls hP hD hS hl
        rw [y_X0_withMember] at h
        refine lv_istore (lv' := [(5, .int (L.1 100)), (0, .ref (a 14)), (1, .int (L.1 1)), (2, .int (L.1 2)), (3, .int (L.1 3)), (4, .int (L.1 4))]) hx hb dX0_withMember_51 hl (by decide) rfl (fun ls hl => ?_)
        refine lv_iload hx hb dX0_withMember_53 (lv_at hl 0 rfl) ?_
        refine lv_if_eq (tgt := 70) hx hb dX0_withMember_55 (by decide) (fun c1 => ?_) (fun c1 => ?_)
        · rw [if_pos c1] at h
          exact ih.2.2.2.2.1 L σ r h H locs ls hP hD hS (lv_sub hl [] rfl)
        · rw [if_neg c1] at h
          refine lv_aload_n hx hb dX0_withMember_58 rfl (lv_at hl 1 rfl) ?_
          refine hg_14_0 hx hb hts in_y_X0_withMember_X0 hown hK hP (hts _ (List.mem_cons_of_mem _ (List.mem_append_left _ (List.mem_append_left _ (List.mem_of_getElem? (i := 0) rfl))))) dX0_withMember_59 ?_
          refine lv_iload_n hx hb dX0_withMember_62 rfl (lv_at hl 3 rfl) ?_
          obtain ⟨r2, hc2, h⟩ := oc_ex h
          refine kc_i (va_runV (As := [.int (L.1 2)]) (rest := []) ⟨hx, hb, hml, hown, hts⟩ (c_y_X1_kind l dC dI cy a z k (lI lZ 1 ((L.1 2))) σ r2 hc2 H.size) (cwV 1 hts g_y_X0_withMember_X1_kind_V87 rfl rfl rfl hd_y_X1_kind ⟨Nat.le_of_ble_eq_true rfl, Nat.le_of_ble_eq_true rfl⟩) ⟨nb_blind, va_recv hK hP (ci := 1) (q0 := 0) rfl rfl, (kb_pre hK hG hP hD)⟩ rfl rfl hl.1 rfl (lv_room (Nat.le_of_ble_eq_true rfl)) dX0_withMember_63 ⟨Nat.le_refl _, Nat.le_refl _⟩) hA hP hD hS (fun H locs hP hD hS => ?_)
          refine lv_iconst (v := 2) hx hb dX0_withMember_66 (by decide) ?_
          refine lv_icmp_eq (tgt := 73) hx hb dX0_withMember_67 (by decide) (fun c3 => ?_) (fun c3 => ?_)
          · rw [if_pos c3] at h
            exact ih.2.2.2.2.2.1 L r2.2 r h H locs ls hP hD hS (lv_sub hl [1, 2, 3, 4, 5] rfl)
          · rw [if_neg c3] at h
            exact ih.2.2.2.2.1 L r2.2 r h H locs ls hP hD hS (lv_sub hl [] rfl)
      · intro L σ r h H locs ls hP hD hS hl
        rw [y_X0_withMember] at h
        refine lv_ldc (v := (-268435455)) hx hb hown (hts _ (List.mem_cons_of_mem _ (List.mem_append_left _ (List.mem_append_left _ (List.mem_of_getElem? (i := 8) rfl))))) dX0_withMember_70 ?_
        obtain rfl := Option.some.inj h
        exact W.iret (v := (-268435455)) hx hb hr (fun t ht hW => ⟨⟨(-268435455), (), rfl, rfl, by rw [ht]; exact hP, va_K.moved hW.alike hK, hD⟩, hS.F ht⟩) hS.2.2 dX0_withMember_72
      · intro L σ r h H locs ls hP hD hS hl
        rw [y_X0_withMember] at h
        refine lv_aload_n hx hb dX0_withMember_73 rfl (lv_at hl 0 rfl) ?_
        refine hg_14_1 hx hb hts in_y_X0_withMember_X0 hown hK hP (hts _ (List.mem_cons_of_mem _ (List.mem_append_left _ (List.mem_append_left _ (List.mem_of_getElem? (i := 9) rfl))))) dX0_withMember_74 ?_
        refine lv_iload_n hx hb dX0_withMember_77 rfl (lv_at hl 2 rfl) ?_
        obtain ⟨r1, hc1, h⟩ := oc_ex h
        refine kc_i (va_runV (As := [.int (L.1 2)]) (rest := []) ⟨hx, hb, hml, hown, hts⟩ (c_y_X10_clamped l dC dI cy a z k (lI lZ 1 ((L.1 2))) σ r1 hc1 H.size) (cwV 1 hts g_y_X0_withMember_X10_clamped_V133 rfl rfl rfl hd_y_X10_clamped ⟨Nat.le_of_ble_eq_true rfl, Nat.le_of_ble_eq_true rfl⟩) ⟨nb_blind, va_recv hK hP (ci := 9) (q0 := 4) rfl rfl, (kb_pre hK hG hP hD)⟩ rfl rfl hl.1 rfl (lv_room (Nat.le_of_ble_eq_true rfl)) dX0_withMember_78 ⟨Nat.le_refl _, Nat.le_refl _⟩) hA hP hD hS (fun H locs hP hD hS => ?_)
        refine lv_istore (lv' := [(6, .int r1.1), (0, .ref (a 14)), (1, .int (L.1 1)), (2, .int (L.1 2)), (3, .int (L.1 3)), (4, .int (L.1 4))]) hx hb dX0_withMember_81 hl (by decide) rfl (fun ls hl => ?_)
        refine lv_aload_n hx hb dX0_withMember_83 rfl (lv_at hl 1 rfl) ?_
        refine hg_14_0 hx hb hts in_y_X0_withMember_X0 hown hK hP (hts _ (List.mem_cons_of_mem _ (List.mem_append_left _ (List.mem_append_left _ (List.mem_of_getElem? (i := 0) rfl))))) dX0_withMember_84 ?_
        refine lv_iload_n hx hb dX0_withMember_87 rfl (lv_at hl 2 rfl) ?_
        obtain ⟨r2, hc2, h⟩ := oc_ex h
        refine kc_i (va_runV (As := [.int (L.1 1)]) (rest := []) ⟨hx, hb, hml, hown, hts⟩ (c_y_X1_length l dC dI cy a z k (lI lZ 1 ((L.1 1))) r1.2 r2 hc2 H.size) (cwV 1 hts g_y_X0_withMember_X1_length_V100 rfl rfl rfl hd_y_X1_length ⟨Nat.le_of_ble_eq_true rfl, Nat.le_of_ble_eq_true rfl⟩) ⟨nb_blind, va_recv hK hP (ci := 1) (q0 := 0) rfl rfl, (kb_pre hK hG hP hD)⟩ rfl rfl hl.1 rfl (lv_room (Nat.le_of_ble_eq_true rfl)) dX0_withMember_88 ⟨Nat.le_refl _, Nat.le_refl _⟩) hA hP hD hS (fun H locs hP hD hS => ?_)
        refine lv_istore (lv' := [(7, .int r2.1), (6, .int r1.1), (0, .ref (a 14)), (1, .int (L.1 1)), (2, .int (L.1 2)), (3, .int (L.1 3)), (4, .int (L.1 4))]) hx hb dX0_withMember_91 hl (by decide) rfl (fun ls hl => ?_)
        refine lv_iload hx hb dX0_withMember_93 (lv_at hl 1 rfl) ?_
        refine lv_iconst (v := 1) hx hb dX0_withMember_95 (by decide) ?_
        refine lv_icmp_lt (tgt := 114) hx hb dX0_withMember_96 (by decide) (fun c3 => ?_) (fun c3 => ?_)
        · rw [if_pos c3] at h
          exact ih.2.2.2.2.2.2.1 L r2.2 r h H locs ls hP hD hS (lv_sub hl [] rfl)
        · rw [if_neg c3] at h
          refine lv_iload hx hb dX0_withMember_99 (lv_at hl 6 rfl) ?_
          refine lv_iconst (v := 4) hx hb dX0_withMember_101 (by decide) ?_
          refine lv_icmp_ne (tgt := 117) hx hb dX0_withMember_102 (by decide) (fun c4 => ?_) (fun c4 => ?_)
          · rw [if_neg c4] at h
            exact ih.2.2.2.2.2.2.2.1 (lI (lI L 6 r1.1) 7 r2.1) r2.2 r h H locs ls hP hD hS (lv_sub hl [2, 3, 5, 6, 1, 0] rfl)
          · rw [if_pos c4] at h
            refine lv_iload hx hb dX0_withMember_105 (lv_at hl 1 rfl) ?_
            refine lv_iload hx hb dX0_withMember_107 (lv_at hl 0 rfl) ?_
            refine lv_iconst (v := 1) hx hb dX0_withMember_109 (by decide) ?_
            refine lv_iadd hx hb dX0_withMember_110 ?_
            refine lv_icmp_le (tgt := 117) hx hb dX0_withMember_111 (by decide) (fun c5 => ?_) (fun c5 => ?_)
            · rw [if_pos c5] at h
              exact ih.2.2.2.2.2.2.2.1 (lI (lI L 6 r1.1) 7 r2.1) r2.2 r h H locs ls hP hD hS (lv_sub hl [2, 3, 5, 6, 1, 0] rfl)
            · rw [if_neg c5] at h
              exact ih.2.2.2.2.2.2.1 L r2.2 r h H locs ls hP hD hS (lv_sub hl [] rfl)
      · intro L σ r h H locs ls hP hD hS hl
        rw [y_X0_withMember] at h
        refine lv_ldc (v := (-268435452)) hx hb hown (hts _ (List.mem_cons_of_mem _ (List.mem_append_left _ (List.mem_append_left _ (List.mem_of_getElem? (i := 14) rfl))))) dX0_withMember_114 ?_
        obtain rfl := Option.some.inj h
        exact W.iret (v := (-268435452)) hx hb hr (fun t ht hW => ⟨⟨(-268435452), (), rfl, rfl, by rw [ht]; exact hP, va_K.moved hW.alike hK, hD⟩, hS.F ht⟩) hS.2.2 dX0_withMember_116
      · intro L σ r h H locs ls hP hD hS hl
        rw [y_X0_withMember] at h
        refine lv_iload hx hb dX0_withMember_117 (lv_at hl 3 rfl) ?_
        refine lv_iconst (v := 4) hx hb dX0_withMember_119 (by decide) ?_
        refine lv_icmp_ne (tgt := 179) hx hb dX0_withMember_120 (by decide) (fun c1 => ?_) (fun c1 => ?_)
        · rw [if_neg c1] at h
          exact ih.2.2.2.2.2.2.2.2.1 L σ r h H locs ls hP hD hS (lv_sub hl [0, 1, 2, 4, 5] rfl)
        · rw [if_pos c1] at h
          refine lv_aload_n hx hb dX0_withMember_123 rfl (lv_at hl 0 rfl) ?_
          refine hg_14_0 hx hb hts in_y_X0_withMember_X0 hown hK hP (hts _ (List.mem_cons_of_mem _ (List.mem_append_left _ (List.mem_append_left _ (List.mem_of_getElem? (i := 0) rfl))))) dX0_withMember_124 ?_
          refine lv_iload_n hx hb dX0_withMember_127 rfl (lv_at hl 1 rfl) ?_
          refine lv_iconst (v := 0) hx hb dX0_withMember_128 (by decide) ?_
          refine lv_iload hx hb dX0_withMember_129 (lv_at hl 5 rfl) ?_
          refine lv_aload_n hx hb dX0_withMember_131 rfl (lv_at hl 0 rfl) ?_
          refine hg_14_3 hx hb hts in_y_X0_withMember_X0 hown hK hP (hts _ (List.mem_cons_of_mem _ (List.mem_append_left _ (List.mem_append_left _ (List.mem_of_getElem? (i := 15) rfl))))) dX0_withMember_132 ?_
          refine lv_iconst (v := 0) hx hb dX0_withMember_135 (by decide) ?_
          obtain ⟨r2, hc2, h⟩ := oc_ex h
          refine kc_i (va_runV (As := [.int (L.1 1), .int 0, .int (L.1 7), .ref (a 15), .int 0]) (rest := []) ⟨hx, hb, hml, hown, hts⟩ (c_y_X1_copyBytes__a15 l dC dI cy a z k (lI (lI (lI (lI lZ 1 ((L.1 1))) 2 0) 3 ((L.1 7))) 5 0) σ r2 hc2 H.size) (cwV 5 hts g_y_X0_withMember_X1_copyBytes__a15_V114 rfl rfl rfl hd_y_X1_copyBytes__a15 ⟨Nat.le_of_ble_eq_true rfl, Nat.le_of_ble_eq_true rfl⟩) ⟨nb_blind, va_recv hK hP (ci := 1) (q0 := 0) rfl rfl, (kb_pre hK hG hP hD)⟩ rfl rfl hl.1 rfl (lv_room (Nat.le_of_ble_eq_true rfl)) dX0_withMember_136 ⟨Nat.le_refl _, Nat.le_refl _⟩) hA hP hD hS (fun H locs hP hD hS => ?_)
          refine lv_pop hx hb dX0_withMember_139 rfl ?_
          refine lv_aload_n hx hb dX0_withMember_140 rfl (lv_at hl 0 rfl) ?_
          refine hg_14_3 hx hb hts in_y_X0_withMember_X0 hown hK hP (hts _ (List.mem_cons_of_mem _ (List.mem_append_left _ (List.mem_append_left _ (List.mem_of_getElem? (i := 15) rfl))))) dX0_withMember_141 ?_
          refine lv_iload hx hb dX0_withMember_144 (lv_at hl 4 rfl) ?_
          refine lv_iconst (v := 1) hx hb dX0_withMember_146 (by decide) ?_
          refine lv_isub hx hb dX0_withMember_147 ?_
          refine lv_aload_n hx hb dX0_withMember_148 rfl (lv_at hl 0 rfl) ?_
          refine hg_14_0 hx hb hts in_y_X0_withMember_X0 hown hK hP (hts _ (List.mem_cons_of_mem _ (List.mem_append_left _ (List.mem_append_left _ (List.mem_of_getElem? (i := 0) rfl))))) dX0_withMember_149 ?_
          refine lv_iload_n hx hb dX0_withMember_152 rfl (lv_at hl 2 rfl) ?_
          refine lv_iconst (v := 0) hx hb dX0_withMember_153 (by decide) ?_
          obtain ⟨r3, hc3, h⟩ := oc_ex h
          refine kc_i (va_runV (As := [.int (L.1 3), .int 0]) (rest := [.int (((L.1 6)) - 1), .ref (a 15)]) ⟨hx, hb, hml, hown, hts⟩ (c_y_X1_byteAt l dC dI cy a z k (lI (lI lZ 1 ((L.1 3))) 2 0) r2.2 r3 hc3 H.size) (cwV 2 hts g_y_X0_withMember_X1_byteAt_V171 rfl rfl rfl hd_y_X1_byteAt ⟨Nat.le_of_ble_eq_true rfl, Nat.le_of_ble_eq_true rfl⟩) ⟨nb_blind, va_recv hK hP (ci := 1) (q0 := 0) rfl rfl, (kb_pre hK hG hP hD)⟩ rfl rfl hl.1 rfl (lv_room (Nat.le_of_ble_eq_true rfl)) dX0_withMember_154 ⟨Nat.le_refl _, Nat.le_refl _⟩) hA hP hD hS (fun H locs hP hD hS => ?_)
          refine lv_i2b (v := r3.1.toInt8.toInt32) hx hb dX0_withMember_157 rfl ?_
          obtain ⟨q4, h⟩ := kb_ite1 h
          refine hs_15 hx hb hK hP hD hS q4 dX0_withMember_158 (fun H locs hP hD hS => ?_)
          refine lv_aload_n hx hb dX0_withMember_159 rfl (lv_at hl 0 rfl) ?_
          refine hg_14_0 hx hb hts in_y_X0_withMember_X0 hown hK hP (hts _ (List.mem_cons_of_mem _ (List.mem_append_left _ (List.mem_append_left _ (List.mem_of_getElem? (i := 0) rfl))))) dX0_withMember_160 ?_
          refine lv_aload_n hx hb dX0_withMember_163 rfl (lv_at hl 0 rfl) ?_
          refine hg_14_3 hx hb hts in_y_X0_withMember_X0 hown hK hP (hts _ (List.mem_cons_of_mem _ (List.mem_append_left _ (List.mem_append_left _ (List.mem_of_getElem? (i := 15) rfl))))) dX0_withMember_164 ?_
          refine lv_iconst (v := 0) hx hb dX0_withMember_167 (by decide) ?_
          refine lv_iload hx hb dX0_withMember_168 (lv_at hl 5 rfl) ?_
          refine lv_iload hx hb dX0_withMember_170 (lv_at hl 4 rfl) ?_
          refine va_mmax (x := ((L.1 7))) (y := ((L.1 6))) hx hb (hml.trans hl.1.symm) hown (hts _ (List.mem_cons_of_mem _ (List.mem_append_left _ (List.mem_append_left _ (List.mem_of_getElem? (i := 25) rfl))))) (hts _ (List.mem_cons_of_mem _ (List.mem_append_left _ (List.mem_append_left _ (List.mem_of_getElem? (i := 26) rfl))))) (hts _ (List.mem_cons_of_mem _ (List.mem_append_left _ (List.mem_append_left _ (List.mem_of_getElem? (i := 27) rfl))))) (hts _ (List.mem_cons_of_mem _ (List.mem_append_left _ (List.mem_append_left _ (List.mem_of_getElem? (i := 28) rfl))))) (Nat.le_of_ble_eq_true rfl) (Nat.le_of_ble_eq_true rfl)  (Nat.zero_le _) (Nat.zero_le _) dX0_withMember_172 ?_
          obtain ⟨r5, hc5, h⟩ := oc_ex h
          refine kc_i (va_runV (As := [.ref (a 15), .int 0, .int (if ((L.1 7)) < ((L.1 6)) then ((L.1 6)) else ((L.1 7)))]) (rest := []) ⟨hx, hb, hml, hown, hts⟩ (c_y_X1_makeString__a15 l dC dI cy a z k (lI (lI lZ 2 0) 3 ((if ((L.1 7)) < ((L.1 6)) then ((L.1 6)) else ((L.1 7))))) (uA r3.2 15 ((((L.1 6)) - 1)).toNatClampNeg (vp_nar .byte ((r3.1.toInt8.toInt32)))) r5 hc5 H.size) (cwV 3 hts g_y_X0_withMember_X1_makeString__a15_V118 rfl rfl rfl hd_y_X1_makeString__a15 ⟨Nat.le_of_ble_eq_true rfl, Nat.le_of_ble_eq_true rfl⟩) ⟨nb_blind, va_recv hK hP (ci := 1) (q0 := 0) rfl rfl, (kb_pre hK hG hP hD)⟩ rfl rfl hl.1 rfl (lv_room (Nat.le_of_ble_eq_true rfl)) dX0_withMember_175 ⟨Nat.le_refl _, Nat.le_refl _⟩) hA hP hD hS (fun H locs hP hD hS => ?_)
          obtain rfl := Option.some.inj h
          exact W.iret (v := r5.1) hx hb hr (fun t ht hW => ⟨⟨r5.1, (), rfl, rfl, by rw [ht]; exact hP, va_K.moved hW.alike hK, hD⟩, hS.F ht⟩) hS.2.2 dX0_withMember_178
      · intro L σ r h H locs ls hP hD hS hl
        rw [y_X0_withMember] at h
        refine lv_iload hx hb dX0_withMember_179 (lv_at hl 3 rfl) ?_
        refine lv_iload hx hb dX0_withMember_181 (lv_at hl 4 rfl) ?_
        refine lv_icmp_le (tgt := 194) hx hb dX0_withMember_183 (by decide) (fun c1 => ?_) (fun c1 => ?_)
        · rw [if_pos c1] at h
          exact ih.2.2.2.2.2.2.2.2.2.1 L σ r h H locs ls hP hD hS (lv_sub hl [0, 1, 2, 3, 4] rfl)
        · rw [if_neg c1] at h
          refine lv_iload_n hx hb dX0_withMember_186 rfl (lv_at hl 2 rfl) ?_
          refine lv_ldc (v := (-2147483648)) hx hb hown (hts _ (List.mem_cons_of_mem _ (List.mem_append_left _ (List.mem_append_left _ (List.mem_of_getElem? (i := 29) rfl))))) dX0_withMember_187 ?_
          refine lv_icmp_ne (tgt := 194) hx hb dX0_withMember_189 (by decide) (fun c2 => ?_) (fun c2 => ?_)
          · rw [if_neg c2] at h
            exact ih.2.2.2.2.2.2.2.2.2.1 L σ r h H locs ls hP hD hS (lv_sub hl [0, 1, 2, 3, 4] rfl)
          · rw [if_pos c2] at h
            refine lv_iload_n hx hb dX0_withMember_192 rfl (lv_at hl 1 rfl) ?_
            obtain rfl := Option.some.inj h
            exact W.iret (v := (L.1 1)) hx hb hr (fun t ht hW => ⟨⟨(L.1 1), (), rfl, rfl, by rw [ht]; exact hP, va_K.moved hW.alike hK, hD⟩, hS.F ht⟩) hS.2.2 dX0_withMember_193
      · intro L σ r h H locs ls hP hD hS hl
        rw [y_X0_withMember] at h
        refine lv_iload hx hb dX0_withMember_194 (lv_at hl 3 rfl) ?_
        refine lv_sipush (v := 1000) hx hb dX0_withMember_196 (by decide) ?_
        refine lv_icmp_le (tgt := 205) hx hb dX0_withMember_199 (by decide) (fun c1 => ?_) (fun c1 => ?_)
        · rw [if_pos c1] at h
          exact ih.2.2.2.2.2.2.2.2.2.2.1 L σ r h H locs ls hP hD hS (lv_sub hl [0, 1, 2, 3, 4] rfl)
        · rw [if_neg c1] at h
          refine lv_ldc (v := (-268435451)) hx hb hown (hts _ (List.mem_cons_of_mem _ (List.mem_append_left _ (List.mem_append_left _ (List.mem_of_getElem? (i := 30) rfl))))) dX0_withMember_202 ?_
          obtain rfl := Option.some.inj h
          exact W.iret (v := (-268435451)) hx hb hr (fun t ht hW => ⟨⟨(-268435451), (), rfl, rfl, by rw [ht]; exact hP, va_K.moved hW.alike hK, hD⟩, hS.F ht⟩) hS.2.2 dX0_withMember_204
      · intro L σ r h H locs ls hP hD hS hl
        rw [y_X0_withMember] at h
        refine lv_aload_n hx hb dX0_withMember_205 rfl (lv_at hl 0 rfl) ?_
        refine lv_iload_n hx hb dX0_withMember_206 rfl (lv_at hl 1 rfl) ?_
        refine lv_iconst (v := 0) hx hb dX0_withMember_207 (by decide) ?_
        refine lv_iload hx hb dX0_withMember_208 (lv_at hl 4 rfl) ?_
        refine lv_iconst (v := 0) hx hb dX0_withMember_210 (by decide) ?_
        obtain ⟨r1, hc1, h⟩ := oc_ex h
        refine kc_i (va_runV (As := [.int (L.1 1), .int 0, .int (L.1 7), .int 0]) (rest := []) ⟨hx, hb, hml, hown, hts⟩ (c_y_X0_load l dC dI cy a z k (lI (lI (lI (lI lZ 1 ((L.1 1))) 2 0) 3 ((L.1 7))) 4 0) σ r1 hc1 H.size) (cwV 4 hts g_y_X0_withMember_X0_load_V103 rfl rfl rfl hd_y_X0_load ⟨Nat.le_of_ble_eq_true rfl, Nat.le_of_ble_eq_true rfl⟩) ⟨nb_blind, va_recv hK hP (ci := 0) (q0 := 14) rfl rfl, (kb_pre hK hG hP hD)⟩ rfl rfl hl.1 rfl (lv_room (Nat.le_of_ble_eq_true rfl)) dX0_withMember_211 ⟨Nat.le_refl _, Nat.le_refl _⟩) hA hP hD hS (fun H locs hP hD hS => ?_)
        refine lv_pop hx hb dX0_withMember_214 rfl ?_
        refine lv_iload hx hb dX0_withMember_215 (lv_at hl 4 rfl) ?_
        refine lv_istore (lv' := [(8, .int (L.1 7)), (0, .ref (a 14)), (1, .int (L.1 1)), (3, .int (L.1 3)), (6, .int (L.1 6)), (7, .int (L.1 7))]) hx hb dX0_withMember_217 hl (by decide) rfl (fun ls hl => ?_)
        exact ih.2.2.2.2.2.2.2.2.2.2.2.1 (lI L 8 ((L.1 7))) r1.2 r h H locs ls hP hD hS (lv_sub hl [1, 3, 4, 5, 0] rfl)
      · intro L σ r h H locs ls hP hD hS hl
        rw [y_X0_withMember] at h
        refine lv_iload hx hb dX0_withMember_219 (lv_at hl 4 rfl) ?_
        refine lv_iload hx hb dX0_withMember_221 (lv_at hl 2 rfl) ?_
        refine lv_icmp_ge (tgt := 241) hx hb dX0_withMember_223 (by decide) (fun c1 => ?_) (fun c1 => ?_)
        · rw [if_pos c1] at h
          exact ih.2.2.2.2.2.2.2.2.2.2.2.2 L σ r h H locs ls hP hD hS (lv_sub hl [0, 1, 2, 3] rfl)
        · rw [if_neg c1] at h
          refine lv_aload_n hx hb dX0_withMember_226 rfl (lv_at hl 0 rfl) ?_
          refine hg_14_4 hx hb hts in_y_X0_withMember_X0 hown hK hP (hts _ (List.mem_cons_of_mem _ (List.mem_append_left _ (List.mem_append_left _ (List.mem_of_getElem? (i := 35) rfl))))) dX0_withMember_227 ?_
          refine lv_iload hx hb dX0_withMember_230 (lv_at hl 4 rfl) ?_
          refine lv_ldc (v := (-2147483648)) hx hb hown (hts _ (List.mem_cons_of_mem _ (List.mem_append_left _ (List.mem_append_left _ (List.mem_of_getElem? (i := 29) rfl))))) dX0_withMember_232 ?_
          obtain ⟨q2, h⟩ := kb_ite1 h
          refine hs_16 hx hb hK hP hD hS q2 dX0_withMember_234 (fun H locs hP hD hS => ?_)
          refine lv_iinc (v := ((L.1 8)) + 1) (lv' := [(8, .int (((L.1 8)) + 1)), (0, .ref (a 14)), (3, .int (L.1 3)), (6, .int (L.1 6)), (7, .int (L.1 7))]) hx hb dX0_withMember_235 hl (k := 4) rfl rfl (by decide) rfl (fun ls hl => ?_)
          refine lv_goto (tgt := 219) hx hb dX0_withMember_238 (by decide) ?_
          exact ih.2.2.2.2.2.2.2.2.2.2.2.1 (lI L 8 ((((L.1 8)) + 1))) (uA σ 16 ((L.1 8)).toNatClampNeg ((-2147483648))) r h H locs ls hP hD hS (lv_sub hl [1, 2, 3, 4, 0] rfl)
      · intro L σ r h H locs ls hP hD hS hl
        rw [y_X0_withMember] at h
        refine lv_aload_n hx hb dX0_withMember_241 rfl (lv_at hl 0 rfl) ?_
        refine hg_14_4 hx hb hts in_y_X0_withMember_X0 hown hK hP (hts _ (List.mem_cons_of_mem _ (List.mem_append_left _ (List.mem_append_left _ (List.mem_of_getElem? (i := 35) rfl))))) dX0_withMember_242 ?_
        refine lv_iload hx hb dX0_withMember_245 (lv_at hl 2 rfl) ?_
        refine lv_iconst (v := 1) hx hb dX0_withMember_247 (by decide) ?_
        refine lv_isub hx hb dX0_withMember_248 ?_
        refine lv_iload_n hx hb dX0_withMember_249 rfl (lv_at hl 1 rfl) ?_
        obtain ⟨q1, h⟩ := kb_ite1 h
        refine hs_16 hx hb hK hP hD hS q1 dX0_withMember_250 (fun H locs hP hD hS => ?_)
        refine lv_aload_n hx hb dX0_withMember_251 rfl (lv_at hl 0 rfl) ?_
        refine hg_14_0 hx hb hts in_y_X0_withMember_X0 hown hK hP (hts _ (List.mem_cons_of_mem _ (List.mem_append_left _ (List.mem_append_left _ (List.mem_of_getElem? (i := 0) rfl))))) dX0_withMember_252 ?_
        refine lv_aload_n hx hb dX0_withMember_255 rfl (lv_at hl 0 rfl) ?_
        refine hg_14_4 hx hb hts in_y_X0_withMember_X0 hown hK hP (hts _ (List.mem_cons_of_mem _ (List.mem_append_left _ (List.mem_append_left _ (List.mem_of_getElem? (i := 35) rfl))))) dX0_withMember_256 ?_
        refine lv_iconst (v := 0) hx hb dX0_withMember_259 (by decide) ?_
        refine lv_iload hx hb dX0_withMember_260 (lv_at hl 3 rfl) ?_
        refine lv_iload hx hb dX0_withMember_262 (lv_at hl 2 rfl) ?_
        refine va_mmax (x := ((L.1 7))) (y := ((L.1 6))) hx hb (hml.trans hl.1.symm) hown (hts _ (List.mem_cons_of_mem _ (List.mem_append_left _ (List.mem_append_left _ (List.mem_of_getElem? (i := 25) rfl))))) (hts _ (List.mem_cons_of_mem _ (List.mem_append_left _ (List.mem_append_left _ (List.mem_of_getElem? (i := 26) rfl))))) (hts _ (List.mem_cons_of_mem _ (List.mem_append_left _ (List.mem_append_left _ (List.mem_of_getElem? (i := 27) rfl))))) (hts _ (List.mem_cons_of_mem _ (List.mem_append_left _ (List.mem_append_left _ (List.mem_of_getElem? (i := 28) rfl))))) (Nat.le_of_ble_eq_true rfl) (Nat.le_of_ble_eq_true rfl)  (Nat.zero_le _) (Nat.zero_le _) dX0_withMember_264 ?_
        obtain ⟨r2, hc2, h⟩ := oc_ex h
        refine kc_i (va_runV (As := [.ref (a 16), .int 0, .int (if ((L.1 7)) < ((L.1 6)) then ((L.1 6)) else ((L.1 7)))]) (rest := []) ⟨hx, hb, hml, hown, hts⟩ (c_y_X1_makeTuple__a16 l dC dI cy a z k (lI (lI lZ 2 0) 3 ((if ((L.1 7)) < ((L.1 6)) then ((L.1 6)) else ((L.1 7))))) (uA σ 16 ((((L.1 6)) - 1)).toNatClampNeg ((L.1 3))) r2 hc2 H.size) (cwV 3 hts g_y_X0_withMember_X1_makeTuple__a16_V107 rfl rfl rfl hd_y_X1_makeTuple__a16 ⟨Nat.le_of_ble_eq_true rfl, Nat.le_of_ble_eq_true rfl⟩) ⟨nb_blind, va_recv hK hP (ci := 1) (q0 := 0) rfl rfl, (kb_pre hK hG hP hD)⟩ rfl rfl hl.1 rfl (lv_room (Nat.le_of_ble_eq_true rfl)) dX0_withMember_267 ⟨Nat.le_refl _, Nat.le_refl _⟩) hA hP hD hS (fun H locs hP hD hS => ?_)
        obtain rfl := Option.some.inj h
        exact W.iret (v := r2.1) hx hb hr (fun t ht hW => ⟨⟨r2.1, (), rfl, rfl, by rw [ht]; exact hP, va_K.moved hW.alike hK, hD⟩, hS.F ht⟩) hS.2.2 dX0_withMember_270
  exact (blk k0).1 L0 σ0 r0 h0 s.heap [] ls hP hD hS hl
/-! X0_withSlice -/
def y_X0_withSlice : Nat → Nat → LV → CS → Option (Int32 × CS)
  | 0, _, _, _ => none
  | k + 1, 0, L, σ => oc (y_X1_kind k 0 (lI lZ 1 ((L.1 4))) σ) (fun r1 => oc (y_X1_kind k 0 (lI lZ 1 ((L.1 1))) r1.2) (fun r2 => if r1.1 = r2.1 then (oc (y_X0_rowError k 0 (lI (lI (lI lZ 1 ((L.1 1))) 2 ((L.1 2))) 3 ((L.1 3))) r2.2) (fun r4 => y_X0_withSlice k 2 (lI L 100 r4.1) r4.2)) else (y_X0_withSlice k 1 L r2.2)))
  | k + 1, 1, L, σ => y_X0_withSlice k 2 (lI L 100 ((-268435455))) σ
  | k + 1, 2, L, σ => if ((L.1 100)) = 0 then (y_X0_withSlice k 3 L σ) else (some ((L.1 100), σ))
  | k + 1, 3, L, σ => oc (y_X10_clamped k 0 (lI lZ 1 ((L.1 2))) σ) (fun r1 => oc (y_X10_clamped k 0 (lI lZ 1 ((L.1 3))) r1.2) (fun r2 => oc (y_X1_length k 0 (lI lZ 1 ((L.1 1))) r2.2) (fun r3 => oc (y_X1_kind k 0 (lI lZ 1 ((L.1 1))) r3.2) (fun r4 => if r4.1 = 4 then (oc (y_X1_copyBytes__a15 k 0 (lI (lI (lI (lI lZ 1 ((L.1 1))) 2 0) 3 ((r1.1 - 1))) 5 0) r4.2) (fun r6 => oc (y_X1_length k 0 (lI lZ 1 ((L.1 4))) r6.2) (fun r7 => oc (y_X1_copyBytes__a15 k 0 (lI (lI (lI (lI lZ 1 ((L.1 4))) 2 0) 3 r7.1) 5 r6.1) r7.2) (fun r8 => oc (y_X1_copyBytes__a15 k 0 (lI (lI (lI (lI lZ 1 ((L.1 1))) 2 r2.1) 3 ((r3.1 - r2.1))) 5 r8.1) r8.2) (fun r9 => oc (y_X1_makeString__a15 k 0 (lI (lI lZ 2 0) 3 r9.1) r9.2) (fun r10 => some (r10.1, r10.2))))))) else (y_X0_withSlice k 4 (lI (lI (lI L 6 ((r1.1 - 1))) 7 r2.1) 8 r3.1) r4.2)))))
  | k + 1, 4, L, σ => oc (y_X0_load k 0 (lI (lI (lI (lI lZ 1 ((L.1 1))) 2 0) 3 ((L.1 6))) 4 0) σ) (fun r1 => oc (y_X1_length k 0 (lI lZ 1 ((L.1 4))) r1.2) (fun r2 => oc (y_X0_load k 0 (lI (lI (lI (lI lZ 1 ((L.1 4))) 2 0) 3 r2.1) 4 r1.1) r2.2) (fun r3 => oc (y_X0_load k 0 (lI (lI (lI (lI lZ 1 ((L.1 1))) 2 ((L.1 7))) 3 ((L.1 8))) 4 r3.1) r3.2) (fun r4 => oc (y_X1_makeTuple__a16 k 0 (lI (lI lZ 2 0) 3 r4.1) r4.2) (fun r5 => some (r5.1, r5.2))))))
  | _ + 1, _ + 5, _, _ => none
def o_y_X0_withSlice : List Cond := [.fieldLink RX0 22 "SetHouse$Algebra" "heap" "LSetHouse$Heap;", .methodLink RX0 87 yX1_kind, .instanceMethod yX1_kind, .selects RX1 yX1_kind yX1_kind, .initialized RX1, .methodLink RX0 273 yX0_rowError, .instanceMethod yX0_rowError, .selects RX0 yX0_rowError yX0_rowError, .initialized RX0, .constant RX0 56 (-268435455), .fieldLink RX0 26 "SetHouse$Algebra" "wholes" "LSetHouse$Wholes;", .methodLink RX0 133 yX10_clamped, .instanceMethod yX10_clamped, .selects RX10 yX10_clamped yX10_clamped, .initialized RX10, .methodLink RX0 100 yX1_length, .instanceMethod yX1_length, .selects RX1 yX1_length yX1_length, .fieldLink RX0 9 "SetHouse$Algebra" "bytes" "[B", .methodLink RX0 114 yX1_copyBytes, .instanceMethod yX1_copyBytes, .selects RX1 yX1_copyBytes yX1_copyBytes, .methodLink RX0 118 yX1_makeString, .instanceMethod yX1_makeString, .selects RX1 yX1_makeString yX1_makeString, .methodLink RX0 103 yX0_load, .instanceMethod yX0_load, .selects RX0 yX0_load yX0_load, .fieldLink RX0 15 "SetHouse$Algebra" "row" "[I", .methodLink RX0 107 yX1_makeTuple, .instanceMethod yX1_makeTuple, .selects RX1 yX1_makeTuple yX1_makeTuple]
theorem o_y_X0_withSlice_good : o_y_X0_withSlice.all goodWord = true := by decide +kernel
def p_y_X0_withSlice : List Cond := o_y_X0_withSlice ++ ((.code yX1_kind cX1_kind 2 (some .int) :: p_y_X1_kind) ++ ((.code yX0_rowError cX0_rowError 7 (some .int) :: p_y_X0_rowError) ++ ((.code yX10_clamped cX10_clamped 2 (some .int) :: p_y_X10_clamped) ++ ((.code yX1_length cX1_length 2 (some .int) :: p_y_X1_length) ++ ((.code yX1_copyBytes cX1_copyBytes 8 (some .int) :: p_y_X1_copyBytes__a15) ++ ((.code yX1_makeString cX1_makeString 9 (some .int) :: p_y_X1_makeString__a15) ++ ((.code yX0_load cX0_load 6 (some .int) :: p_y_X0_load) ++ ((.code yX1_makeTuple cX1_makeTuple 6 (some .int) :: p_y_X1_makeTuple__a16) ++ []))))))))
theorem p_y_X0_withSlice_good : p_y_X0_withSlice.all goodWord = true := nb_all2 o_y_X0_withSlice_good (nb_all2 (nb_allc (by decide +kernel) p_y_X1_kind_good) (nb_all2 (nb_allc (by decide +kernel) p_y_X0_rowError_good) (nb_all2 (nb_allc (by decide +kernel) p_y_X10_clamped_good) (nb_all2 (nb_allc (by decide +kernel) p_y_X1_length_good) (nb_all2 (nb_allc (by decide +kernel) p_y_X1_copyBytes__a15_good) (nb_all2 (nb_allc (by decide +kernel) p_y_X1_makeString__a15_good) (nb_all2 (nb_allc (by decide +kernel) p_y_X0_load_good) (nb_all2 (nb_allc (by decide +kernel) p_y_X1_makeTuple__a16_good) rfl))))))))
def w_y_X0_withSlice : List Cond := .code yX0_withSlice cX0_withSlice 10 (some .int) :: (p_y_X0_withSlice ++ fC)
theorem w_y_X0_withSlice_good : w_y_X0_withSlice.all goodWord = true := nb_allc (by decide +kernel) (nb_all2 p_y_X0_withSlice_good fC_good)
theorem in_y_X0_withSlice_X0 : ∀ w ∈ wsX00, w ∈ w_y_X0_withSlice := fun _ h => List.mem_cons_of_mem _ (List.mem_append_right _ (List.mem_append_left _ h))
theorem hd_y_X0_withSlice : yX0_withSlice.cls = RX0 ∧ yX0_withSlice.cls ≠ "java/lang/invoke/MethodHandle" ∧ yX0_withSlice.cls ≠ "java/lang/invoke/VarHandle" ∧ (parseMethodDescriptor yX0_withSlice.desc).map (fun d => d.parameters.length) = some 4 := by decide +kernel
theorem gg_y_X0_withSlice_X0_load : GoodIn w_y_X0_withSlice w_y_X0_load := goodIn_sub (fun w h => (List.mem_cons.mp h).elim (fun e => (List.mem_cons_of_mem _ (List.mem_append_left _ (List.mem_append_right _ (List.mem_append_right _ (List.mem_append_right _ (List.mem_append_right _ (List.mem_append_right _ (List.mem_append_right _ (List.mem_append_right _ (List.mem_append_left _ (List.mem_cons.mpr (Or.inl e))))))))))))) (fun h => (List.mem_append.mp h).elim (fun h => (List.mem_cons_of_mem _ (List.mem_append_left _ (List.mem_append_right _ (List.mem_append_right _ (List.mem_append_right _ (List.mem_append_right _ (List.mem_append_right _ (List.mem_append_right _ (List.mem_append_right _ (List.mem_append_left _ (List.mem_cons_of_mem _ h)))))))))))) (fun h => List.mem_cons_of_mem _ (List.mem_append_right _ h)))) w_y_X0_load_good
theorem g_y_X0_withSlice_X0_load_V103 : GoodIn w_y_X0_withSlice (wsV RX0 103 RX0 yX0_load w_y_X0_load) := goodIn_app (nb_g4 (List.mem_cons_of_mem _ (List.mem_append_left _ (List.mem_append_left _ (List.mem_of_getElem? (i := 25) rfl)))) (List.mem_cons_of_mem _ (List.mem_append_left _ (List.mem_append_left _ (List.mem_of_getElem? (i := 26) rfl)))) (List.mem_cons_of_mem _ (List.mem_append_left _ (List.mem_append_left _ (List.mem_of_getElem? (i := 27) rfl)))) (List.mem_cons_of_mem _ (List.mem_append_left _ (List.mem_append_left _ (List.mem_of_getElem? (i := 8) rfl)))) (by decide +kernel)) gg_y_X0_withSlice_X0_load
theorem gg_y_X0_withSlice_X0_rowError : GoodIn w_y_X0_withSlice w_y_X0_rowError := goodIn_sub (fun w h => (List.mem_cons.mp h).elim (fun e => (List.mem_cons_of_mem _ (List.mem_append_left _ (List.mem_append_right _ (List.mem_append_right _ (List.mem_append_left _ (List.mem_cons.mpr (Or.inl e)))))))) (fun h => (List.mem_append.mp h).elim (fun h => (List.mem_cons_of_mem _ (List.mem_append_left _ (List.mem_append_right _ (List.mem_append_right _ (List.mem_append_left _ (List.mem_cons_of_mem _ h))))))) (fun h => List.mem_cons_of_mem _ (List.mem_append_right _ h)))) w_y_X0_rowError_good
theorem g_y_X0_withSlice_X0_rowError_V273 : GoodIn w_y_X0_withSlice (wsV RX0 273 RX0 yX0_rowError w_y_X0_rowError) := goodIn_app (nb_g4 (List.mem_cons_of_mem _ (List.mem_append_left _ (List.mem_append_left _ (List.mem_of_getElem? (i := 5) rfl)))) (List.mem_cons_of_mem _ (List.mem_append_left _ (List.mem_append_left _ (List.mem_of_getElem? (i := 6) rfl)))) (List.mem_cons_of_mem _ (List.mem_append_left _ (List.mem_append_left _ (List.mem_of_getElem? (i := 7) rfl)))) (List.mem_cons_of_mem _ (List.mem_append_left _ (List.mem_append_left _ (List.mem_of_getElem? (i := 8) rfl)))) (by decide +kernel)) gg_y_X0_withSlice_X0_rowError
theorem gg_y_X0_withSlice_X10_clamped : GoodIn w_y_X0_withSlice w_y_X10_clamped := goodIn_sub (fun w h => (List.mem_cons.mp h).elim (fun e => (List.mem_cons_of_mem _ (List.mem_append_left _ (List.mem_append_right _ (List.mem_append_right _ (List.mem_append_right _ (List.mem_append_left _ (List.mem_cons.mpr (Or.inl e))))))))) (fun h => (List.mem_append.mp h).elim (fun h => (List.mem_cons_of_mem _ (List.mem_append_left _ (List.mem_append_right _ (List.mem_append_right _ (List.mem_append_right _ (List.mem_append_left _ (List.mem_cons_of_mem _ h)))))))) (fun h => List.mem_cons_of_mem _ (List.mem_append_right _ h)))) w_y_X10_clamped_good
theorem g_y_X0_withSlice_X10_clamped_V133 : GoodIn w_y_X0_withSlice (wsV RX0 133 RX10 yX10_clamped w_y_X10_clamped) := goodIn_app (nb_g4 (List.mem_cons_of_mem _ (List.mem_append_left _ (List.mem_append_left _ (List.mem_of_getElem? (i := 11) rfl)))) (List.mem_cons_of_mem _ (List.mem_append_left _ (List.mem_append_left _ (List.mem_of_getElem? (i := 12) rfl)))) (List.mem_cons_of_mem _ (List.mem_append_left _ (List.mem_append_left _ (List.mem_of_getElem? (i := 13) rfl)))) (List.mem_cons_of_mem _ (List.mem_append_left _ (List.mem_append_left _ (List.mem_of_getElem? (i := 14) rfl)))) (by decide +kernel)) gg_y_X0_withSlice_X10_clamped
theorem gg_y_X0_withSlice_X1_copyBytes__a15 : GoodIn w_y_X0_withSlice w_y_X1_copyBytes__a15 := goodIn_sub (fun w h => (List.mem_cons.mp h).elim (fun e => (List.mem_cons_of_mem _ (List.mem_append_left _ (List.mem_append_right _ (List.mem_append_right _ (List.mem_append_right _ (List.mem_append_right _ (List.mem_append_right _ (List.mem_append_left _ (List.mem_cons.mpr (Or.inl e))))))))))) (fun h => (List.mem_append.mp h).elim (fun h => (List.mem_cons_of_mem _ (List.mem_append_left _ (List.mem_append_right _ (List.mem_append_right _ (List.mem_append_right _ (List.mem_append_right _ (List.mem_append_right _ (List.mem_append_left _ (List.mem_cons_of_mem _ h)))))))))) (fun h => List.mem_cons_of_mem _ (List.mem_append_right _ h)))) w_y_X1_copyBytes__a15_good
theorem g_y_X0_withSlice_X1_copyBytes__a15_V114 : GoodIn w_y_X0_withSlice (wsV RX0 114 RX1 yX1_copyBytes w_y_X1_copyBytes__a15) := goodIn_app (nb_g4 (List.mem_cons_of_mem _ (List.mem_append_left _ (List.mem_append_left _ (List.mem_of_getElem? (i := 19) rfl)))) (List.mem_cons_of_mem _ (List.mem_append_left _ (List.mem_append_left _ (List.mem_of_getElem? (i := 20) rfl)))) (List.mem_cons_of_mem _ (List.mem_append_left _ (List.mem_append_left _ (List.mem_of_getElem? (i := 21) rfl)))) (List.mem_cons_of_mem _ (List.mem_append_left _ (List.mem_append_left _ (List.mem_of_getElem? (i := 4) rfl)))) (by decide +kernel)) gg_y_X0_withSlice_X1_copyBytes__a15
theorem gg_y_X0_withSlice_X1_kind : GoodIn w_y_X0_withSlice w_y_X1_kind := goodIn_sub (fun w h => (List.mem_cons.mp h).elim (fun e => (List.mem_cons_of_mem _ (List.mem_append_left _ (List.mem_append_right _ (List.mem_append_left _ (List.mem_cons.mpr (Or.inl e))))))) (fun h => (List.mem_append.mp h).elim (fun h => (List.mem_cons_of_mem _ (List.mem_append_left _ (List.mem_append_right _ (List.mem_append_left _ (List.mem_cons_of_mem _ h)))))) (fun h => List.mem_cons_of_mem _ (List.mem_append_right _ h)))) w_y_X1_kind_good
theorem g_y_X0_withSlice_X1_kind_V87 : GoodIn w_y_X0_withSlice (wsV RX0 87 RX1 yX1_kind w_y_X1_kind) := goodIn_app (nb_g4 (List.mem_cons_of_mem _ (List.mem_append_left _ (List.mem_append_left _ (List.mem_of_getElem? (i := 1) rfl)))) (List.mem_cons_of_mem _ (List.mem_append_left _ (List.mem_append_left _ (List.mem_of_getElem? (i := 2) rfl)))) (List.mem_cons_of_mem _ (List.mem_append_left _ (List.mem_append_left _ (List.mem_of_getElem? (i := 3) rfl)))) (List.mem_cons_of_mem _ (List.mem_append_left _ (List.mem_append_left _ (List.mem_of_getElem? (i := 4) rfl)))) (by decide +kernel)) gg_y_X0_withSlice_X1_kind
theorem gg_y_X0_withSlice_X1_length : GoodIn w_y_X0_withSlice w_y_X1_length := goodIn_sub (fun w h => (List.mem_cons.mp h).elim (fun e => (List.mem_cons_of_mem _ (List.mem_append_left _ (List.mem_append_right _ (List.mem_append_right _ (List.mem_append_right _ (List.mem_append_right _ (List.mem_append_left _ (List.mem_cons.mpr (Or.inl e)))))))))) (fun h => (List.mem_append.mp h).elim (fun h => (List.mem_cons_of_mem _ (List.mem_append_left _ (List.mem_append_right _ (List.mem_append_right _ (List.mem_append_right _ (List.mem_append_right _ (List.mem_append_left _ (List.mem_cons_of_mem _ h))))))))) (fun h => List.mem_cons_of_mem _ (List.mem_append_right _ h)))) w_y_X1_length_good
theorem g_y_X0_withSlice_X1_length_V100 : GoodIn w_y_X0_withSlice (wsV RX0 100 RX1 yX1_length w_y_X1_length) := goodIn_app (nb_g4 (List.mem_cons_of_mem _ (List.mem_append_left _ (List.mem_append_left _ (List.mem_of_getElem? (i := 15) rfl)))) (List.mem_cons_of_mem _ (List.mem_append_left _ (List.mem_append_left _ (List.mem_of_getElem? (i := 16) rfl)))) (List.mem_cons_of_mem _ (List.mem_append_left _ (List.mem_append_left _ (List.mem_of_getElem? (i := 17) rfl)))) (List.mem_cons_of_mem _ (List.mem_append_left _ (List.mem_append_left _ (List.mem_of_getElem? (i := 4) rfl)))) (by decide +kernel)) gg_y_X0_withSlice_X1_length
theorem gg_y_X0_withSlice_X1_makeString__a15 : GoodIn w_y_X0_withSlice w_y_X1_makeString__a15 := goodIn_sub (fun w h => (List.mem_cons.mp h).elim (fun e => (List.mem_cons_of_mem _ (List.mem_append_left _ (List.mem_append_right _ (List.mem_append_right _ (List.mem_append_right _ (List.mem_append_right _ (List.mem_append_right _ (List.mem_append_right _ (List.mem_append_left _ (List.mem_cons.mpr (Or.inl e)))))))))))) (fun h => (List.mem_append.mp h).elim (fun h => (List.mem_cons_of_mem _ (List.mem_append_left _ (List.mem_append_right _ (List.mem_append_right _ (List.mem_append_right _ (List.mem_append_right _ (List.mem_append_right _ (List.mem_append_right _ (List.mem_append_left _ (List.mem_cons_of_mem _ h))))))))))) (fun h => List.mem_cons_of_mem _ (List.mem_append_right _ h)))) w_y_X1_makeString__a15_good
theorem g_y_X0_withSlice_X1_makeString__a15_V118 : GoodIn w_y_X0_withSlice (wsV RX0 118 RX1 yX1_makeString w_y_X1_makeString__a15) := goodIn_app (nb_g4 (List.mem_cons_of_mem _ (List.mem_append_left _ (List.mem_append_left _ (List.mem_of_getElem? (i := 22) rfl)))) (List.mem_cons_of_mem _ (List.mem_append_left _ (List.mem_append_left _ (List.mem_of_getElem? (i := 23) rfl)))) (List.mem_cons_of_mem _ (List.mem_append_left _ (List.mem_append_left _ (List.mem_of_getElem? (i := 24) rfl)))) (List.mem_cons_of_mem _ (List.mem_append_left _ (List.mem_append_left _ (List.mem_of_getElem? (i := 4) rfl)))) (by decide +kernel)) gg_y_X0_withSlice_X1_makeString__a15
theorem gg_y_X0_withSlice_X1_makeTuple__a16 : GoodIn w_y_X0_withSlice w_y_X1_makeTuple__a16 := goodIn_sub (fun w h => (List.mem_cons.mp h).elim (fun e => (List.mem_cons_of_mem _ (List.mem_append_left _ (List.mem_append_right _ (List.mem_append_right _ (List.mem_append_right _ (List.mem_append_right _ (List.mem_append_right _ (List.mem_append_right _ (List.mem_append_right _ (List.mem_append_right _ (List.mem_append_left _ (List.mem_cons.mpr (Or.inl e)))))))))))))) (fun h => (List.mem_append.mp h).elim (fun h => (List.mem_cons_of_mem _ (List.mem_append_left _ (List.mem_append_right _ (List.mem_append_right _ (List.mem_append_right _ (List.mem_append_right _ (List.mem_append_right _ (List.mem_append_right _ (List.mem_append_right _ (List.mem_append_right _ (List.mem_append_left _ (List.mem_cons_of_mem _ h))))))))))))) (fun h => List.mem_cons_of_mem _ (List.mem_append_right _ h)))) w_y_X1_makeTuple__a16_good
theorem g_y_X0_withSlice_X1_makeTuple__a16_V107 : GoodIn w_y_X0_withSlice (wsV RX0 107 RX1 yX1_makeTuple w_y_X1_makeTuple__a16) := goodIn_app (nb_g4 (List.mem_cons_of_mem _ (List.mem_append_left _ (List.mem_append_left _ (List.mem_of_getElem? (i := 29) rfl)))) (List.mem_cons_of_mem _ (List.mem_append_left _ (List.mem_append_left _ (List.mem_of_getElem? (i := 30) rfl)))) (List.mem_cons_of_mem _ (List.mem_append_left _ (List.mem_append_left _ (List.mem_of_getElem? (i := 31) rfl)))) (List.mem_cons_of_mem _ (List.mem_append_left _ (List.mem_append_left _ (List.mem_of_getElem? (i := 4) rfl)))) (by decide +kernel)) gg_y_X0_withSlice_X1_makeTuple__a16
set_option maxHeartbeats 40000000 in
set_option maxRecDepth 100000 in
theorem c_y_X0_withSlice (l : Launch) (dC : Nat → ClassId) (dI : Nat → Nat → Nat) (cy : Nat → ClassId) (a z : Nat → Nat) (k0 : Nat) (L0 : LV) (σ0 : CS) (r0 : Int32 × CS) (h0 : y_X0_withSlice k0 0 L0 σ0 = some r0) (sz : Nat) : Met l yX0_withSlice w_y_X0_withSlice ({ frames := 3, cells := 0, slots := 0, locals := 115 }) (va_Pc [.ref (a 14), .int (L0.1 1), .int (L0.1 2), .int (L0.1 3), .int (L0.1 4)] (nIn (dC, dI) cy sz (vC cy a z σ0))) (va_Qi (fun (x : Int32) (_ : Unit) => x = r0.1) (fun _ t => nOut (dC, dI) cy (va_A (vC cy a z σ0) sz) (vC cy a z r0.2) t) (va_A (vC cy a z σ0) sz)) 0 0 (va_A (vC cy a z σ0) sz) := by
  refine Met.ofW (cc := cX0_withSlice) (maxL := 10) (ret := (some .int)) (by decide) rfl ?_
  intro p e s m args below meth c s₁ B hml hv
  obtain ⟨rfl, hsz, hP, hK, hD0, hG⟩ := hv
  have hx := B.exec
  have hb := B.bytes
  have hr := B.returns
  have hts := atoms_spec (ws := w_y_X0_withSlice) B.pre
  have hown : s.vm.findClass RX0 = some m.cls := findClass_of_methodNamed B.named
  have hlocks := B.notSynchronized
  subst hsz
  have hD := hD0.self (sz := s.heap.size)
  generalize hAe : va_A (vC cy a z σ0) s.heap.size = A at hD ⊢
  have hA : ∀ q : Nat, s.heap.size ≤ q → A q := fun q h => by rw [← hAe]; exact Or.inr h
  have hS : va_S A s.heap s.heap [] := va_S.rf
  have hl := lv_entry ([.ref (a 14), .int (L0.1 1), .int (L0.1 2), .int (L0.1 3), .int (L0.1 4)]) (n := 10) (Nat.le_of_ble_eq_true rfl)
  rw [lg_entry_eq]
  generalize (lg_sl ([.ref (a 14), .int (L0.1 1), .int (L0.1 2), .int (L0.1 3), .int (L0.1 4)]) ++ List.replicate (10 - (lg_sl ([.ref (a 14), .int (L0.1 1), .int (L0.1 2), .int (L0.1 3), .int (L0.1 4)])).length) Slot.unset).toArray = ls at hl ⊢
  have hl : lv_has ls 10 [(0, .ref (a 14)), (1, .int (L0.1 1)), (2, .int (L0.1 2)), (3, .int (L0.1 3)), (4, .int (L0.1 4))] := hl
  have blk : ∀ k : Nat, (bC p l e (headSpec w_y_X0_withSlice ({ frames := 3, cells := 0, slots := 0, locals := 115 })).room s m #[.ref (a 14), .int (L0.1 1), .int (L0.1 2), .int (L0.1 3), .int (L0.1 4)] below meth c dC dI cy a z A (kI dC dI cy a z A below #[.ref (a 14), .int (L0.1 1), .int (L0.1 2), .int (L0.1 3), .int (L0.1 4)] s) 10 (y_X0_withSlice k 0) (fun L => [(0, .ref (a 14)), (1, .int (L.1 1)), (2, .int (L.1 2)), (3, .int (L.1 3)), (4, .int (L.1 4))]) 0 (fun L => [])) ∧ (bC p l e (headSpec w_y_X0_withSlice ({ frames := 3, cells := 0, slots := 0, locals := 115 })).room s m #[.ref (a 14), .int (L0.1 1), .int (L0.1 2), .int (L0.1 3), .int (L0.1 4)] below meth c dC dI cy a z A (kI dC dI cy a z A below #[.ref (a 14), .int (L0.1 1), .int (L0.1 2), .int (L0.1 3), .int (L0.1 4)] s) 10 (y_X0_withSlice k 1) (fun L => [(0, .ref (a 14)), (1, .int (L.1 1)), (2, .int (L.1 2)), (3, .int (L.1 3)), (4, .int (L.1 4))]) 30 (fun L => [])) ∧ (bC p l e (headSpec w_y_X0_withSlice ({ frames := 3, cells := 0, slots := 0, locals := 115 })).room s m #[.ref (a 14), .int (L0.1 1), .int (L0.1 2), .int (L0.1 3), .int (L0.1 4)] below meth c dC dI cy a z A (kI dC dI cy a z A below #[.ref (a 14), .int (L0.1 1), .int (L0.1 2), .int (L0.1 3), .int (L0.1 4)] s) 10 (y_X0_withSlice k 2) (fun L => [(0, .ref (a 14)), (1, .int (L.1 1)), (2, .int (L.1 2)), (3, .int (L.1 3)), (4, .int (L.1 4))]) 32 (fun L => [.int (L.1 100)])) ∧ (bC p l e (headSpec w_y_X0_withSlice ({ frames := 3, cells := 0, slots := 0, locals := 115 })).room s m #[.ref (a 14), .int (L0.1 1), .int (L0.1 2), .int (L0.1 3), .int (L0.1 4)] below meth c dC dI cy a z A (kI dC dI cy a z A below #[.ref (a 14), .int (L0.1 1), .int (L0.1 2), .int (L0.1 3), .int (L0.1 4)] s) 10 (y_X0_withSlice k 3) (fun L => [(0, .ref (a 14)), (1, .int (L.1 1)), (2, .int (L.1 2)), (3, .int (L.1 3)), (4, .int (L.1 4))]) 42 (fun L => [])) ∧ (bC p l e (headSpec w_y_X0_withSlice ({ frames := 3, cells := 0, slots := 0, locals := 115 })).room s m #[.ref (a 14), .int (L0.1 1), .int (L0.1 2), .int (L0.1 3), .int (L0.1 4)] below meth c dC dI cy a z A (kI dC dI cy a z A below #[.ref (a 14), .int (L0.1 1), .int (L0.1 2), .int (L0.1 3), .int (L0.1 4)] s) 10 (y_X0_withSlice k 4) (fun L => [(0, .ref (a 14)), (1, .int (L.1 1)), (4, .int (L.1 4)), (6, .int (L.1 6)), (7, .int (L.1 7)), (8, .int (L.1 8))]) 169 (fun L => [])) := by
    intro k
    induction k with
    | zero => exact ⟨fun L σ r h => (by cases h), fun L σ r h => (by cases h), fun L σ r h => (by cases h), fun L σ r h => (by cases h), fun L σ r h => (by cases h)⟩
    | succ k ih =>
      refine ⟨?_, ?_, ?_, ?_, ?_⟩
      · intro L σ r h H locs ls hP hD hS hl
        rw [y_X0_withSlice] at h
        refine lv_aload_n hx hb dX0_withSlice_0 rfl (lv_at hl 0 rfl) ?_
        refine hg_14_0 hx hb hts in_y_X0_withSlice_X0 hown hK hP (hts _ (List.mem_cons_of_mem _ (List.mem_append_left _ (List.mem_append_left _ (List.mem_of_getElem? (i := 0) rfl))))) dX0_withSlice_1 ?_
        refine lv_iload hx hb dX0_withSlice_4 (lv_at hl 4 rfl) ?_
        obtain ⟨r1, hc1, h⟩ := oc_ex h
        refine kc_i (va_runV (As := [.int (L.1 4)]) (rest := []) ⟨hx, hb, hml, hown, hts⟩ (c_y_X1_kind l dC dI cy a z k (lI lZ 1 ((L.1 4))) σ r1 hc1 H.size) (cwV 1 hts g_y_X0_withSlice_X1_kind_V87 rfl rfl rfl hd_y_X1_kind ⟨Nat.le_of_ble_eq_true rfl, Nat.le_of_ble_eq_true rfl⟩) ⟨nb_blind, va_recv hK hP (ci := 1) (q0 := 0) rfl rfl, (kb_pre hK hG hP hD)⟩ rfl rfl hl.1 rfl (lv_room (Nat.le_of_ble_eq_true rfl)) dX0_withSlice_6 ⟨Nat.le_refl _, Nat.le_refl _⟩) hA hP hD hS (fun H locs hP hD hS => ?_)
        refine lv_aload_n hx hb dX0_withSlice_9 rfl (lv_at hl 0 rfl) ?_
        refine hg_14_0 hx hb hts in_y_X0_withSlice_X0 hown hK hP (hts _ (List.mem_cons_of_mem _ (List.mem_append_left _ (List.mem_append_left _ (List.mem_of_getElem? (i := 0) rfl))))) dX0_withSlice_10 ?_
        refine lv_iload_n hx hb dX0_withSlice_13 rfl (lv_at hl 1 rfl) ?_
        obtain ⟨r2, hc2, h⟩ := oc_ex h
        refine kc_i (va_runV (As := [.int (L.1 1)]) (rest := [.int r1.1]) ⟨hx, hb, hml, hown, hts⟩ (c_y_X1_kind l dC dI cy a z k (lI lZ 1 ((L.1 1))) r1.2 r2 hc2 H.size) (cwV 1 hts g_y_X0_withSlice_X1_kind_V87 rfl rfl rfl hd_y_X1_kind ⟨Nat.le_of_ble_eq_true rfl, Nat.le_of_ble_eq_true rfl⟩) ⟨nb_blind, va_recv hK hP (ci := 1) (q0 := 0) rfl rfl, (kb_pre hK hG hP hD)⟩ rfl rfl hl.1 rfl (lv_room (Nat.le_of_ble_eq_true rfl)) dX0_withSlice_14 ⟨Nat.le_refl _, Nat.le_refl _⟩) hA hP hD hS (fun H locs hP hD hS => ?_)
        refine lv_icmp_ne (tgt := 30) hx hb dX0_withSlice_17 (by decide) (fun c3 => ?_) (fun c3 => ?_)
        · rw [if_neg c3] at h
          exact ih.2.1 L r2.2 r h H locs ls hP hD hS (lv_sub hl [0, 1, 2, 3, 4] rfl)
        · rw [if_pos c3] at h
          refine lv_aload_n hx hb dX0_withSlice_20 rfl (lv_at hl 0 rfl) ?_
          refine lv_iload_n hx hb dX0_withSlice_21 rfl (lv_at hl 1 rfl) ?_
          refine lv_iload_n hx hb dX0_withSlice_22 rfl (lv_at hl 2 rfl) ?_
          refine lv_iload_n hx hb dX0_withSlice_23 rfl (lv_at hl 3 rfl) ?_
          obtain ⟨r4, hc4, h⟩ := oc_ex h
          refine kc_i (va_runV (As := [.int (L.1 1), .int (L.1 2), .int (L.1 3)]) (rest := []) ⟨hx, hb, hml, hown, hts⟩ (c_y_X0_rowError l dC dI cy a z k (lI (lI (lI lZ 1 ((L.1 1))) 2 ((L.1 2))) 3 ((L.1 3))) r2.2 r4 hc4 H.size) (cwV 3 hts g_y_X0_withSlice_X0_rowError_V273 rfl rfl rfl hd_y_X0_rowError ⟨Nat.le_of_ble_eq_true rfl, Nat.le_of_ble_eq_true rfl⟩) ⟨nb_blind, va_recv hK hP (ci := 0) (q0 := 14) rfl rfl, (kb_pre hK hG hP hD)⟩ rfl rfl hl.1 rfl (lv_room (Nat.le_of_ble_eq_true rfl)) dX0_withSlice_24 ⟨Nat.le_refl _, Nat.le_refl _⟩) hA hP hD hS (fun H locs hP hD hS => ?_)
          refine lv_goto (tgt := 32) hx hb dX0_withSlice_27 (by decide) ?_
          exact ih.2.2.1 (lI L 100 r4.1) r4.2 r h H locs ls hP hD hS (lv_sub hl [0, 1, 2, 3, 4] rfl)
      · intro L σ r h H locs ls hP hD hS hl
        rw [y_X0_withSlice] at h
        refine lv_ldc (v := (-268435455)) hx hb hown (hts _ (List.mem_cons_of_mem _ (List.mem_append_left _ (List.mem_append_left _ (List.mem_of_getElem? (i := 9) rfl))))) dX0_withSlice_30 ?_
        exact ih.2.2.1 (lI L 100 ((-268435455))) σ r h H locs ls hP hD hS (lv_sub hl [0, 1, 2, 3, 4] rfl)
      · intro L σ r h H locs ls hP hD hS hl
        rw [y_X0_withSlice] at h
        refine lv_istore (lv' := [(5, .int (L.1 100)), (0, .ref (a 14)), (1, .int (L.1 1)), (2, .int (L.1 2)), (3, .int (L.1 3)), (4, .int (L.1 4))]) hx hb dX0_withSlice_32 hl (by decide) rfl (fun ls hl => ?_)
        refine lv_iload hx hb dX0_withSlice_34 (lv_at hl 0 rfl) ?_
        refine lv_if_eq (tgt := 42) hx hb dX0_withSlice_36 (by decide) (fun c1 => ?_) (fun c1 => ?_)
        · rw [if_pos c1] at h
          exact ih.2.2.2.1 L σ r h H locs ls hP hD hS (lv_sub hl [1, 2, 3, 4, 5] rfl)
        · rw [if_neg c1] at h
          refine lv_iload hx hb dX0_withSlice_39 (lv_at hl 0 rfl) ?_
          obtain rfl := Option.some.inj h
          exact W.iret (v := (L.1 100)) hx hb hr (fun t ht hW => ⟨⟨(L.1 100), (), rfl, rfl, by rw [ht]; exact hP, va_K.moved hW.alike hK, hD⟩, hS.F ht⟩) hS.2.2 dX0_withSlice_41
      · intro L σ r h H locs ls hP hD hS hl
        rw [y_X0_withSlice] at h
        refine lv_aload_n hx hb dX0_withSlice_42 rfl (lv_at hl 0 rfl) ?_
        refine hg_14_1 hx hb hts in_y_X0_withSlice_X0 hown hK hP (hts _ (List.mem_cons_of_mem _ (List.mem_append_left _ (List.mem_append_left _ (List.mem_of_getElem? (i := 10) rfl))))) dX0_withSlice_43 ?_
        refine lv_iload_n hx hb dX0_withSlice_46 rfl (lv_at hl 2 rfl) ?_
        obtain ⟨r1, hc1, h⟩ := oc_ex h
        refine kc_i (va_runV (As := [.int (L.1 2)]) (rest := []) ⟨hx, hb, hml, hown, hts⟩ (c_y_X10_clamped l dC dI cy a z k (lI lZ 1 ((L.1 2))) σ r1 hc1 H.size) (cwV 1 hts g_y_X0_withSlice_X10_clamped_V133 rfl rfl rfl hd_y_X10_clamped ⟨Nat.le_of_ble_eq_true rfl, Nat.le_of_ble_eq_true rfl⟩) ⟨nb_blind, va_recv hK hP (ci := 9) (q0 := 4) rfl rfl, (kb_pre hK hG hP hD)⟩ rfl rfl hl.1 rfl (lv_room (Nat.le_of_ble_eq_true rfl)) dX0_withSlice_47 ⟨Nat.le_refl _, Nat.le_refl _⟩) hA hP hD hS (fun H locs hP hD hS => ?_)
        refine lv_iconst (v := 1) hx hb dX0_withSlice_50 (by decide) ?_
        refine lv_isub hx hb dX0_withSlice_51 ?_
        refine lv_istore (lv' := [(6, .int (r1.1 - 1)), (0, .ref (a 14)), (1, .int (L.1 1)), (2, .int (L.1 2)), (3, .int (L.1 3)), (4, .int (L.1 4))]) hx hb dX0_withSlice_52 hl (by decide) rfl (fun ls hl => ?_)
        refine lv_aload_n hx hb dX0_withSlice_54 rfl (lv_at hl 1 rfl) ?_
        refine hg_14_1 hx hb hts in_y_X0_withSlice_X0 hown hK hP (hts _ (List.mem_cons_of_mem _ (List.mem_append_left _ (List.mem_append_left _ (List.mem_of_getElem? (i := 10) rfl))))) dX0_withSlice_55 ?_
        refine lv_iload_n hx hb dX0_withSlice_58 rfl (lv_at hl 4 rfl) ?_
        obtain ⟨r2, hc2, h⟩ := oc_ex h
        refine kc_i (va_runV (As := [.int (L.1 3)]) (rest := []) ⟨hx, hb, hml, hown, hts⟩ (c_y_X10_clamped l dC dI cy a z k (lI lZ 1 ((L.1 3))) r1.2 r2 hc2 H.size) (cwV 1 hts g_y_X0_withSlice_X10_clamped_V133 rfl rfl rfl hd_y_X10_clamped ⟨Nat.le_of_ble_eq_true rfl, Nat.le_of_ble_eq_true rfl⟩) ⟨nb_blind, va_recv hK hP (ci := 9) (q0 := 4) rfl rfl, (kb_pre hK hG hP hD)⟩ rfl rfl hl.1 rfl (lv_room (Nat.le_of_ble_eq_true rfl)) dX0_withSlice_59 ⟨Nat.le_refl _, Nat.le_refl _⟩) hA hP hD hS (fun H locs hP hD hS => ?_)
        refine lv_istore (lv' := [(7, .int r2.1), (6, .int (r1.1 - 1)), (0, .ref (a 14)), (1, .int (L.1 1)), (2, .int (L.1 2)), (3, .int (L.1 3)), (4, .int (L.1 4))]) hx hb dX0_withSlice_62 hl (by decide) rfl (fun ls hl => ?_)
        refine lv_aload_n hx hb dX0_withSlice_64 rfl (lv_at hl 2 rfl) ?_
        refine hg_14_0 hx hb hts in_y_X0_withSlice_X0 hown hK hP (hts _ (List.mem_cons_of_mem _ (List.mem_append_left _ (List.mem_append_left _ (List.mem_of_getElem? (i := 0) rfl))))) dX0_withSlice_65 ?_
        refine lv_iload_n hx hb dX0_withSlice_68 rfl (lv_at hl 3 rfl) ?_
        obtain ⟨r3, hc3, h⟩ := oc_ex h
        refine kc_i (va_runV (As := [.int (L.1 1)]) (rest := []) ⟨hx, hb, hml, hown, hts⟩ (c_y_X1_length l dC dI cy a z k (lI lZ 1 ((L.1 1))) r2.2 r3 hc3 H.size) (cwV 1 hts g_y_X0_withSlice_X1_length_V100 rfl rfl rfl hd_y_X1_length ⟨Nat.le_of_ble_eq_true rfl, Nat.le_of_ble_eq_true rfl⟩) ⟨nb_blind, va_recv hK hP (ci := 1) (q0 := 0) rfl rfl, (kb_pre hK hG hP hD)⟩ rfl rfl hl.1 rfl (lv_room (Nat.le_of_ble_eq_true rfl)) dX0_withSlice_69 ⟨Nat.le_refl _, Nat.le_refl _⟩) hA hP hD hS (fun H locs hP hD hS => ?_)
        refine lv_istore (lv' := [(8, .int r3.1), (7, .int r2.1), (6, .int (r1.1 - 1)), (0, .ref (a 14)), (1, .int (L.1 1)), (2, .int (L.1 2)), (3, .int (L.1 3)), (4, .int (L.1 4))]) hx hb dX0_withSlice_72 hl (by decide) rfl (fun ls hl => ?_)
        refine lv_aload_n hx hb dX0_withSlice_74 rfl (lv_at hl 3 rfl) ?_
        refine hg_14_0 hx hb hts in_y_X0_withSlice_X0 hown hK hP (hts _ (List.mem_cons_of_mem _ (List.mem_append_left _ (List.mem_append_left _ (List.mem_of_getElem? (i := 0) rfl))))) dX0_withSlice_75 ?_
        refine lv_iload_n hx hb dX0_withSlice_78 rfl (lv_at hl 4 rfl) ?_
        obtain ⟨r4, hc4, h⟩ := oc_ex h
        refine kc_i (va_runV (As := [.int (L.1 1)]) (rest := []) ⟨hx, hb, hml, hown, hts⟩ (c_y_X1_kind l dC dI cy a z k (lI lZ 1 ((L.1 1))) r3.2 r4 hc4 H.size) (cwV 1 hts g_y_X0_withSlice_X1_kind_V87 rfl rfl rfl hd_y_X1_kind ⟨Nat.le_of_ble_eq_true rfl, Nat.le_of_ble_eq_true rfl⟩) ⟨nb_blind, va_recv hK hP (ci := 1) (q0 := 0) rfl rfl, (kb_pre hK hG hP hD)⟩ rfl rfl hl.1 rfl (lv_room (Nat.le_of_ble_eq_true rfl)) dX0_withSlice_79 ⟨Nat.le_refl _, Nat.le_refl _⟩) hA hP hD hS (fun H locs hP hD hS => ?_)
        refine lv_iconst (v := 4) hx hb dX0_withSlice_82 (by decide) ?_
        refine lv_icmp_ne (tgt := 169) hx hb dX0_withSlice_83 (by decide) (fun c5 => ?_) (fun c5 => ?_)
        · rw [if_neg c5] at h
          exact ih.2.2.2.2 (lI (lI (lI L 6 ((r1.1 - 1))) 7 r2.1) 8 r3.1) r4.2 r h H locs ls hP hD hS (lv_sub hl [3, 4, 7, 2, 1, 0] rfl)
        · rw [if_pos c5] at h
          refine lv_aload_n hx hb dX0_withSlice_86 rfl (lv_at hl 3 rfl) ?_
          refine hg_14_0 hx hb hts in_y_X0_withSlice_X0 hown hK hP (hts _ (List.mem_cons_of_mem _ (List.mem_append_left _ (List.mem_append_left _ (List.mem_of_getElem? (i := 0) rfl))))) dX0_withSlice_87 ?_
          refine lv_iload_n hx hb dX0_withSlice_90 rfl (lv_at hl 4 rfl) ?_
          refine lv_iconst (v := 0) hx hb dX0_withSlice_91 (by decide) ?_
          refine lv_iload hx hb dX0_withSlice_92 (lv_at hl 2 rfl) ?_
          refine lv_aload_n hx hb dX0_withSlice_94 rfl (lv_at hl 3 rfl) ?_
          refine hg_14_3 hx hb hts in_y_X0_withSlice_X0 hown hK hP (hts _ (List.mem_cons_of_mem _ (List.mem_append_left _ (List.mem_append_left _ (List.mem_of_getElem? (i := 18) rfl))))) dX0_withSlice_95 ?_
          refine lv_iconst (v := 0) hx hb dX0_withSlice_98 (by decide) ?_
          obtain ⟨r6, hc6, h⟩ := oc_ex h
          refine kc_i (va_runV (As := [.int (L.1 1), .int 0, .int (r1.1 - 1), .ref (a 15), .int 0]) (rest := []) ⟨hx, hb, hml, hown, hts⟩ (c_y_X1_copyBytes__a15 l dC dI cy a z k (lI (lI (lI (lI lZ 1 ((L.1 1))) 2 0) 3 ((r1.1 - 1))) 5 0) r4.2 r6 hc6 H.size) (cwV 5 hts g_y_X0_withSlice_X1_copyBytes__a15_V114 rfl rfl rfl hd_y_X1_copyBytes__a15 ⟨Nat.le_of_ble_eq_true rfl, Nat.le_of_ble_eq_true rfl⟩) ⟨nb_blind, va_recv hK hP (ci := 1) (q0 := 0) rfl rfl, (kb_pre hK hG hP hD)⟩ rfl rfl hl.1 rfl (lv_room (Nat.le_of_ble_eq_true rfl)) dX0_withSlice_99 ⟨Nat.le_refl _, Nat.le_refl _⟩) hA hP hD hS (fun H locs hP hD hS => ?_)
          refine lv_istore (lv' := [(9, .int r6.1), (8, .int r3.1), (7, .int r2.1), (6, .int (r1.1 - 1)), (0, .ref (a 14)), (1, .int (L.1 1)), (2, .int (L.1 2)), (3, .int (L.1 3)), (4, .int (L.1 4))]) hx hb dX0_withSlice_102 hl (by decide) rfl (fun ls hl => ?_)
          refine lv_aload_n hx hb dX0_withSlice_104 rfl (lv_at hl 4 rfl) ?_
          refine hg_14_0 hx hb hts in_y_X0_withSlice_X0 hown hK hP (hts _ (List.mem_cons_of_mem _ (List.mem_append_left _ (List.mem_append_left _ (List.mem_of_getElem? (i := 0) rfl))))) dX0_withSlice_105 ?_
          refine lv_iload hx hb dX0_withSlice_108 (lv_at hl 8 rfl) ?_
          refine lv_iconst (v := 0) hx hb dX0_withSlice_110 (by decide) ?_
          refine lv_aload_n hx hb dX0_withSlice_111 rfl (lv_at hl 4 rfl) ?_
          refine hg_14_0 hx hb hts in_y_X0_withSlice_X0 hown hK hP (hts _ (List.mem_cons_of_mem _ (List.mem_append_left _ (List.mem_append_left _ (List.mem_of_getElem? (i := 0) rfl))))) dX0_withSlice_112 ?_
          refine lv_iload hx hb dX0_withSlice_115 (lv_at hl 8 rfl) ?_
          obtain ⟨r7, hc7, h⟩ := oc_ex h
          refine kc_i (va_runV (As := [.int (L.1 4)]) (rest := [.int 0, .int (L.1 4), .ref (a 0)]) ⟨hx, hb, hml, hown, hts⟩ (c_y_X1_length l dC dI cy a z k (lI lZ 1 ((L.1 4))) r6.2 r7 hc7 H.size) (cwV 1 hts g_y_X0_withSlice_X1_length_V100 rfl rfl rfl hd_y_X1_length ⟨Nat.le_of_ble_eq_true rfl, Nat.le_of_ble_eq_true rfl⟩) ⟨nb_blind, va_recv hK hP (ci := 1) (q0 := 0) rfl rfl, (kb_pre hK hG hP hD)⟩ rfl rfl hl.1 rfl (lv_room (Nat.le_of_ble_eq_true rfl)) dX0_withSlice_117 ⟨Nat.le_refl _, Nat.le_refl _⟩) hA hP hD hS (fun H locs hP hD hS => ?_)
          refine lv_aload_n hx hb dX0_withSlice_120 rfl (lv_at hl 4 rfl) ?_
          refine hg_14_3 hx hb hts in_y_X0_withSlice_X0 hown hK hP (hts _ (List.mem_cons_of_mem _ (List.mem_append_left _ (List.mem_append_left _ (List.mem_of_getElem? (i := 18) rfl))))) dX0_withSlice_121 ?_
          refine lv_iload hx hb dX0_withSlice_124 (lv_at hl 0 rfl) ?_
          obtain ⟨r8, hc8, h⟩ := oc_ex h
          refine kc_i (va_runV (As := [.int (L.1 4), .int 0, .int r7.1, .ref (a 15), .int r6.1]) (rest := []) ⟨hx, hb, hml, hown, hts⟩ (c_y_X1_copyBytes__a15 l dC dI cy a z k (lI (lI (lI (lI lZ 1 ((L.1 4))) 2 0) 3 r7.1) 5 r6.1) r7.2 r8 hc8 H.size) (cwV 5 hts g_y_X0_withSlice_X1_copyBytes__a15_V114 rfl rfl rfl hd_y_X1_copyBytes__a15 ⟨Nat.le_of_ble_eq_true rfl, Nat.le_of_ble_eq_true rfl⟩) ⟨nb_blind, va_recv hK hP (ci := 1) (q0 := 0) rfl rfl, (kb_pre hK hG hP hD)⟩ rfl rfl hl.1 rfl (lv_room (Nat.le_of_ble_eq_true rfl)) dX0_withSlice_126 ⟨Nat.le_refl _, Nat.le_refl _⟩) hA hP hD hS (fun H locs hP hD hS => ?_)
          refine lv_istore (lv' := [(9, .int r8.1), (8, .int r3.1), (7, .int r2.1), (6, .int (r1.1 - 1)), (0, .ref (a 14)), (1, .int (L.1 1)), (2, .int (L.1 2)), (3, .int (L.1 3)), (4, .int (L.1 4))]) hx hb dX0_withSlice_129 hl (by decide) rfl (fun ls hl => ?_)
          refine lv_aload_n hx hb dX0_withSlice_131 rfl (lv_at hl 4 rfl) ?_
          refine hg_14_0 hx hb hts in_y_X0_withSlice_X0 hown hK hP (hts _ (List.mem_cons_of_mem _ (List.mem_append_left _ (List.mem_append_left _ (List.mem_of_getElem? (i := 0) rfl))))) dX0_withSlice_132 ?_
          refine lv_iload_n hx hb dX0_withSlice_135 rfl (lv_at hl 5 rfl) ?_
          refine lv_iload hx hb dX0_withSlice_136 (lv_at hl 2 rfl) ?_
          refine lv_iload hx hb dX0_withSlice_138 (lv_at hl 1 rfl) ?_
          refine lv_iload hx hb dX0_withSlice_140 (lv_at hl 2 rfl) ?_
          refine lv_isub hx hb dX0_withSlice_142 ?_
          refine lv_aload_n hx hb dX0_withSlice_143 rfl (lv_at hl 4 rfl) ?_
          refine hg_14_3 hx hb hts in_y_X0_withSlice_X0 hown hK hP (hts _ (List.mem_cons_of_mem _ (List.mem_append_left _ (List.mem_append_left _ (List.mem_of_getElem? (i := 18) rfl))))) dX0_withSlice_144 ?_
          refine lv_iload hx hb dX0_withSlice_147 (lv_at hl 0 rfl) ?_
          obtain ⟨r9, hc9, h⟩ := oc_ex h
          refine kc_i (va_runV (As := [.int (L.1 1), .int r2.1, .int (r3.1 - r2.1), .ref (a 15), .int r8.1]) (rest := []) ⟨hx, hb, hml, hown, hts⟩ (c_y_X1_copyBytes__a15 l dC dI cy a z k (lI (lI (lI (lI lZ 1 ((L.1 1))) 2 r2.1) 3 ((r3.1 - r2.1))) 5 r8.1) r8.2 r9 hc9 H.size) (cwV 5 hts g_y_X0_withSlice_X1_copyBytes__a15_V114 rfl rfl rfl hd_y_X1_copyBytes__a15 ⟨Nat.le_of_ble_eq_true rfl, Nat.le_of_ble_eq_true rfl⟩) ⟨nb_blind, va_recv hK hP (ci := 1) (q0 := 0) rfl rfl, (kb_pre hK hG hP hD)⟩ rfl rfl hl.1 rfl (lv_room (Nat.le_of_ble_eq_true rfl)) dX0_withSlice_149 ⟨Nat.le_refl _, Nat.le_refl _⟩) hA hP hD hS (fun H locs hP hD hS => ?_)
          refine lv_istore (lv' := [(9, .int r9.1), (8, .int r3.1), (7, .int r2.1), (6, .int (r1.1 - 1)), (0, .ref (a 14)), (1, .int (L.1 1)), (2, .int (L.1 2)), (3, .int (L.1 3)), (4, .int (L.1 4))]) hx hb dX0_withSlice_152 hl (by decide) rfl (fun ls hl => ?_)
          refine lv_aload_n hx hb dX0_withSlice_154 rfl (lv_at hl 4 rfl) ?_
          refine hg_14_0 hx hb hts in_y_X0_withSlice_X0 hown hK hP (hts _ (List.mem_cons_of_mem _ (List.mem_append_left _ (List.mem_append_left _ (List.mem_of_getElem? (i := 0) rfl))))) dX0_withSlice_155 ?_
          refine lv_aload_n hx hb dX0_withSlice_158 rfl (lv_at hl 4 rfl) ?_
          refine hg_14_3 hx hb hts in_y_X0_withSlice_X0 hown hK hP (hts _ (List.mem_cons_of_mem _ (List.mem_append_left _ (List.mem_append_left _ (List.mem_of_getElem? (i := 18) rfl))))) dX0_withSlice_159 ?_
          refine lv_iconst (v := 0) hx hb dX0_withSlice_162 (by decide) ?_
          refine lv_iload hx hb dX0_withSlice_163 (lv_at hl 0 rfl) ?_
          obtain ⟨r10, hc10, h⟩ := oc_ex h
          refine kc_i (va_runV (As := [.ref (a 15), .int 0, .int r9.1]) (rest := []) ⟨hx, hb, hml, hown, hts⟩ (c_y_X1_makeString__a15 l dC dI cy a z k (lI (lI lZ 2 0) 3 r9.1) r9.2 r10 hc10 H.size) (cwV 3 hts g_y_X0_withSlice_X1_makeString__a15_V118 rfl rfl rfl hd_y_X1_makeString__a15 ⟨Nat.le_of_ble_eq_true rfl, Nat.le_of_ble_eq_true rfl⟩) ⟨nb_blind, va_recv hK hP (ci := 1) (q0 := 0) rfl rfl, (kb_pre hK hG hP hD)⟩ rfl rfl hl.1 rfl (lv_room (Nat.le_of_ble_eq_true rfl)) dX0_withSlice_165 ⟨Nat.le_refl _, Nat.le_refl _⟩) hA hP hD hS (fun H locs hP hD hS => ?_)
          obtain rfl := Option.some.inj h
          exact W.iret (v := r10.1) hx hb hr (fun t ht hW => ⟨⟨r10.1, (), rfl, rfl, by rw [ht]; exact hP, va_K.moved hW.alike hK, hD⟩, hS.F ht⟩) hS.2.2 dX0_withSlice_168
      · intro L σ r h H locs ls hP hD hS hl
        rw [y_X0_withSlice] at h
        refine lv_aload_n hx hb dX0_withSlice_169 rfl (lv_at hl 0 rfl) ?_
        refine lv_iload_n hx hb dX0_withSlice_170 rfl (lv_at hl 1 rfl) ?_
        refine lv_iconst (v := 0) hx hb dX0_withSlice_171 (by decide) ?_
        refine lv_iload hx hb dX0_withSlice_172 (lv_at hl 3 rfl) ?_
        refine lv_iconst (v := 0) hx hb dX0_withSlice_174 (by decide) ?_
        obtain ⟨r1, hc1, h⟩ := oc_ex h
        refine kc_i (va_runV (As := [.int (L.1 1), .int 0, .int (L.1 6), .int 0]) (rest := []) ⟨hx, hb, hml, hown, hts⟩ (c_y_X0_load l dC dI cy a z k (lI (lI (lI (lI lZ 1 ((L.1 1))) 2 0) 3 ((L.1 6))) 4 0) σ r1 hc1 H.size) (cwV 4 hts g_y_X0_withSlice_X0_load_V103 rfl rfl rfl hd_y_X0_load ⟨Nat.le_of_ble_eq_true rfl, Nat.le_of_ble_eq_true rfl⟩) ⟨nb_blind, va_recv hK hP (ci := 0) (q0 := 14) rfl rfl, (kb_pre hK hG hP hD)⟩ rfl rfl hl.1 rfl (lv_room (Nat.le_of_ble_eq_true rfl)) dX0_withSlice_175 ⟨Nat.le_refl _, Nat.le_refl _⟩) hA hP hD hS (fun H locs hP hD hS => ?_)
        refine lv_istore (lv' := [(9, .int r1.1), (0, .ref (a 14)), (1, .int (L.1 1)), (4, .int (L.1 4)), (6, .int (L.1 6)), (7, .int (L.1 7)), (8, .int (L.1 8))]) hx hb dX0_withSlice_178 hl (by decide) rfl (fun ls hl => ?_)
        refine lv_aload_n hx hb dX0_withSlice_180 rfl (lv_at hl 1 rfl) ?_
        refine lv_iload hx hb dX0_withSlice_181 (lv_at hl 3 rfl) ?_
        refine lv_iconst (v := 0) hx hb dX0_withSlice_183 (by decide) ?_
        refine lv_aload_n hx hb dX0_withSlice_184 rfl (lv_at hl 1 rfl) ?_
        refine hg_14_0 hx hb hts in_y_X0_withSlice_X0 hown hK hP (hts _ (List.mem_cons_of_mem _ (List.mem_append_left _ (List.mem_append_left _ (List.mem_of_getElem? (i := 0) rfl))))) dX0_withSlice_185 ?_
        refine lv_iload hx hb dX0_withSlice_188 (lv_at hl 3 rfl) ?_
        obtain ⟨r2, hc2, h⟩ := oc_ex h
        refine kc_i (va_runV (As := [.int (L.1 4)]) (rest := [.int 0, .int (L.1 4), .ref (a 14)]) ⟨hx, hb, hml, hown, hts⟩ (c_y_X1_length l dC dI cy a z k (lI lZ 1 ((L.1 4))) r1.2 r2 hc2 H.size) (cwV 1 hts g_y_X0_withSlice_X1_length_V100 rfl rfl rfl hd_y_X1_length ⟨Nat.le_of_ble_eq_true rfl, Nat.le_of_ble_eq_true rfl⟩) ⟨nb_blind, va_recv hK hP (ci := 1) (q0 := 0) rfl rfl, (kb_pre hK hG hP hD)⟩ rfl rfl hl.1 rfl (lv_room (Nat.le_of_ble_eq_true rfl)) dX0_withSlice_190 ⟨Nat.le_refl _, Nat.le_refl _⟩) hA hP hD hS (fun H locs hP hD hS => ?_)
        refine lv_iload hx hb dX0_withSlice_193 (lv_at hl 0 rfl) ?_
        obtain ⟨r3, hc3, h⟩ := oc_ex h
        refine kc_i (va_runV (As := [.int (L.1 4), .int 0, .int r2.1, .int r1.1]) (rest := []) ⟨hx, hb, hml, hown, hts⟩ (c_y_X0_load l dC dI cy a z k (lI (lI (lI (lI lZ 1 ((L.1 4))) 2 0) 3 r2.1) 4 r1.1) r2.2 r3 hc3 H.size) (cwV 4 hts g_y_X0_withSlice_X0_load_V103 rfl rfl rfl hd_y_X0_load ⟨Nat.le_of_ble_eq_true rfl, Nat.le_of_ble_eq_true rfl⟩) ⟨nb_blind, va_recv hK hP (ci := 0) (q0 := 14) rfl rfl, (kb_pre hK hG hP hD)⟩ rfl rfl hl.1 rfl (lv_room (Nat.le_of_ble_eq_true rfl)) dX0_withSlice_195 ⟨Nat.le_refl _, Nat.le_refl _⟩) hA hP hD hS (fun H locs hP hD hS => ?_)
        refine lv_istore (lv' := [(9, .int r3.1), (0, .ref (a 14)), (1, .int (L.1 1)), (4, .int (L.1 4)), (6, .int (L.1 6)), (7, .int (L.1 7)), (8, .int (L.1 8))]) hx hb dX0_withSlice_198 hl (by decide) rfl (fun ls hl => ?_)
        refine lv_aload_n hx hb dX0_withSlice_200 rfl (lv_at hl 1 rfl) ?_
        refine lv_iload_n hx hb dX0_withSlice_201 rfl (lv_at hl 2 rfl) ?_
        refine lv_iload hx hb dX0_withSlice_202 (lv_at hl 5 rfl) ?_
        refine lv_iload hx hb dX0_withSlice_204 (lv_at hl 6 rfl) ?_
        refine lv_iload hx hb dX0_withSlice_206 (lv_at hl 0 rfl) ?_
        obtain ⟨r4, hc4, h⟩ := oc_ex h
        refine kc_i (va_runV (As := [.int (L.1 1), .int (L.1 7), .int (L.1 8), .int r3.1]) (rest := []) ⟨hx, hb, hml, hown, hts⟩ (c_y_X0_load l dC dI cy a z k (lI (lI (lI (lI lZ 1 ((L.1 1))) 2 ((L.1 7))) 3 ((L.1 8))) 4 r3.1) r3.2 r4 hc4 H.size) (cwV 4 hts g_y_X0_withSlice_X0_load_V103 rfl rfl rfl hd_y_X0_load ⟨Nat.le_of_ble_eq_true rfl, Nat.le_of_ble_eq_true rfl⟩) ⟨nb_blind, va_recv hK hP (ci := 0) (q0 := 14) rfl rfl, (kb_pre hK hG hP hD)⟩ rfl rfl hl.1 rfl (lv_room (Nat.le_of_ble_eq_true rfl)) dX0_withSlice_208 ⟨Nat.le_refl _, Nat.le_refl _⟩) hA hP hD hS (fun H locs hP hD hS => ?_)
        refine lv_istore (lv' := [(9, .int r4.1), (0, .ref (a 14)), (1, .int (L.1 1)), (4, .int (L.1 4)), (6, .int (L.1 6)), (7, .int (L.1 7)), (8, .int (L.1 8))]) hx hb dX0_withSlice_211 hl (by decide) rfl (fun ls hl => ?_)
        refine lv_aload_n hx hb dX0_withSlice_213 rfl (lv_at hl 1 rfl) ?_
        refine hg_14_0 hx hb hts in_y_X0_withSlice_X0 hown hK hP (hts _ (List.mem_cons_of_mem _ (List.mem_append_left _ (List.mem_append_left _ (List.mem_of_getElem? (i := 0) rfl))))) dX0_withSlice_214 ?_
        refine lv_aload_n hx hb dX0_withSlice_217 rfl (lv_at hl 1 rfl) ?_
        refine hg_14_4 hx hb hts in_y_X0_withSlice_X0 hown hK hP (hts _ (List.mem_cons_of_mem _ (List.mem_append_left _ (List.mem_append_left _ (List.mem_of_getElem? (i := 28) rfl))))) dX0_withSlice_218 ?_
        refine lv_iconst (v := 0) hx hb dX0_withSlice_221 (by decide) ?_
        refine lv_iload hx hb dX0_withSlice_222 (lv_at hl 0 rfl) ?_
        obtain ⟨r5, hc5, h⟩ := oc_ex h
        refine kc_i (va_runV (As := [.ref (a 16), .int 0, .int r4.1]) (rest := []) ⟨hx, hb, hml, hown, hts⟩ (c_y_X1_makeTuple__a16 l dC dI cy a z k (lI (lI lZ 2 0) 3 r4.1) r4.2 r5 hc5 H.size) (cwV 3 hts g_y_X0_withSlice_X1_makeTuple__a16_V107 rfl rfl rfl hd_y_X1_makeTuple__a16 ⟨Nat.le_of_ble_eq_true rfl, Nat.le_of_ble_eq_true rfl⟩) ⟨nb_blind, va_recv hK hP (ci := 1) (q0 := 0) rfl rfl, (kb_pre hK hG hP hD)⟩ rfl rfl hl.1 rfl (lv_room (Nat.le_of_ble_eq_true rfl)) dX0_withSlice_224 ⟨Nat.le_refl _, Nat.le_refl _⟩) hA hP hD hS (fun H locs hP hD hS => ?_)
        obtain rfl := Option.some.inj h
        exact W.iret (v := r5.1) hx hb hr (fun t ht hW => ⟨⟨r5.1, (), rfl, rfl, by rw [ht]; exact hP, va_K.moved hW.alike hK, hD⟩, hS.F ht⟩) hS.2.2 dX0_withSlice_227
  exact (blk k0).1 L0 σ0 r0 h0 s.heap [] ls hP hD hS hl
/-! X0_withImages -/
def y_X0_withImages : Nat → Nat → LV → CS → Option (Int32 × CS)
  | 0, _, _, _ => none
  | k + 1, 0, L, σ => oc (y_X0_pairsFrom k 0 (lI (lI lZ 1 ((L.1 1))) 2 ((L.1 2))) σ) (fun r1 => oc (y_X0_pairsTo k 0 (lI (lI (lI lZ 1 ((L.1 1))) 2 r1.1) 3 ((L.1 2))) r1.2) (fun r2 => oc (y_X1_size k 0 (lI lZ 1 ((L.1 1))) r2.2) (fun r3 => oc (y_X1_size k 0 (lI lZ 1 ((L.1 3))) r3.2) (fun r4 => oc (y_X1_length k 0 (lI lZ 1 ((L.1 3))) r4.2) (fun r5 => oc (y_X1_size k 0 (lI lZ 1 ((L.1 2))) r5.2) (fun r6 => y_X0_withImages k 1 (lI (lI (lI (lI L 4 r1.1) 5 r2.1) 6 ((((((r3.1 + r4.1)) - 1)) + ((r5.1 * ((1 + r6.1))))))) 7 r1.1) r6.2))))))
  | k + 1, 1, L, σ => if ((L.1 5)) ≤ ((L.1 7)) then (y_X0_withImages k 2 L σ) else (oc (y_X1_member k 0 (lI (lI lZ 1 ((L.1 1))) 2 ((L.1 7))) σ) (fun r2 => oc (y_X1_size k 0 (lI lZ 1 r2.1) r2.2) (fun r3 => y_X0_withImages k 1 (lI (lI L 6 ((((L.1 6)) - r3.1))) 7 ((((L.1 7)) + 1))) r3.2)))
  | k + 1, 2, L, σ => if ((L.1 6)) ≤ 1000 then (y_X0_withImages k 3 L σ) else (some ((-268435451), σ))
  | k + 1, 3, L, σ => oc (y_X0_load k 0 (lI (lI (lI (lI lZ 1 ((L.1 1))) 2 0) 3 ((L.1 4))) 4 0) σ) (fun r1 => y_X0_withImages k 4 (lI (lI L 7 r1.1) 8 0) r1.2)
  | k + 1, 4, L, σ => oc (y_X1_length k 0 (lI lZ 1 ((L.1 3))) σ) (fun r1 => if r1.1 ≤ ((L.1 8)) then (y_X0_withImages k 5 L r1.2) else (if ((Int32.ofNat 2048)) ≤ ((L.1 7)) then (y_X0_withImages k 5 L r1.2) else (oc (y_X1_member k 0 (lI (lI lZ 1 ((L.1 3))) 2 ((L.1 8))) r1.2) (fun r4 => oc (y_X0_pair k 0 (lI (lI lZ 1 ((L.1 2))) 2 r4.1) r4.2) (fun r5 => if ¬ (((L.1 7)) < 0 ∨ 2048 ≤ ((L.1 7)).toNatClampNeg) then (if ¬ (((L.1 7)) < 0 ∨ 2048 ≤ ((L.1 7)).toNatClampNeg) then (oc (y_X11_isError k 0 (lI lZ 0 (((uA r5.2 16 ((L.1 7)).toNatClampNeg r5.1).2.2.1 16 ((L.1 7)).toNatClampNeg))) (uA r5.2 16 ((L.1 7)).toNatClampNeg r5.1)) (fun r8 => if r8.1 = 0 then (y_X0_withImages k 6 L r8.2) else (if ¬ (((L.1 7)) < 0 ∨ 2048 ≤ ((L.1 7)).toNatClampNeg) then (some ((r8.2.2.2.1 16 ((L.1 7)).toNatClampNeg), r8.2)) else none))) else none) else none)))))
  | k + 1, 5, L, σ => oc (y_X1_length k 0 (lI lZ 1 ((L.1 1))) σ) (fun r1 => oc (y_X0_load k 0 (lI (lI (lI (lI lZ 1 ((L.1 1))) 2 ((L.1 5))) 3 r1.1) 4 ((L.1 7))) r1.2) (fun r2 => oc (y_X1_makeRow__a16 k 0 (lI (lI (lI lZ 1 6) 3 0) 4 r2.1) r2.2) (fun r3 => some (r3.1, r3.2))))
  | k + 1, 6, L, σ => y_X0_withImages k 4 (lI (lI L 7 ((((L.1 7)) + 1))) 8 ((((L.1 8)) + 1))) σ
  | _ + 1, _ + 7, _, _ => none
def o_y_X0_withImages : List Cond := [.methodLink RX0 267 yX0_pairsFrom, .instanceMethod yX0_pairsFrom, .selects RX0 yX0_pairsFrom yX0_pairsFrom, .initialized RX0, .methodLink RX0 270 yX0_pairsTo, .instanceMethod yX0_pairsTo, .selects RX0 yX0_pairsTo yX0_pairsTo, .fieldLink RX0 22 "SetHouse$Algebra" "heap" "LSetHouse$Heap;", .methodLink RX0 179 yX1_size, .instanceMethod yX1_size, .selects RX1 yX1_size yX1_size, .initialized RX1, .methodLink RX0 100 yX1_length, .instanceMethod yX1_length, .selects RX1 yX1_length yX1_length, .methodLink RX0 154 yX1_member, .instanceMethod yX1_member, .selects RX1 yX1_member yX1_member, .constant RX0 139 (-268435451), .methodLink RX0 103 yX0_load, .instanceMethod yX0_load, .selects RX0 yX0_load yX0_load, .fieldLink RX0 15 "SetHouse$Algebra" "row" "[I", .methodLink RX0 291 yX0_pair, .instanceMethod yX0_pair, .selects RX0 yX0_pair yX0_pair, .initialized RX11, .static yX11_isError, .methodLink RX0 160 yX1_makeRow, .instanceMethod yX1_makeRow, .selects RX1 yX1_makeRow yX1_makeRow]
theorem o_y_X0_withImages_good : o_y_X0_withImages.all goodWord = true := by decide +kernel
def p_y_X0_withImages : List Cond := o_y_X0_withImages ++ ((.code yX0_pairsFrom cX0_pairsFrom 7 (some .int) :: p_y_X0_pairsFrom) ++ ((.code yX0_pairsTo cX0_pairsTo 6 (some .int) :: p_y_X0_pairsTo) ++ ((.code yX1_size cX1_size 3 (some .int) :: p_y_X1_size) ++ ((.code yX1_length cX1_length 2 (some .int) :: p_y_X1_length) ++ ((.code yX1_member cX1_member 3 (some .int) :: p_y_X1_member) ++ ((.code yX0_load cX0_load 6 (some .int) :: p_y_X0_load) ++ ((.code yX0_pair cX0_pair 3 (some .int) :: p_y_X0_pair) ++ ((.code yX11_isError cX11_isError 1 (some .boolean) :: p_y_X11_isError) ++ ((.code yX1_makeRow cX1_makeRow 11 (some .int) :: p_y_X1_makeRow__a16) ++ [])))))))))
theorem p_y_X0_withImages_good : p_y_X0_withImages.all goodWord = true := nb_all2 o_y_X0_withImages_good (nb_all2 (nb_allc (by decide +kernel) p_y_X0_pairsFrom_good) (nb_all2 (nb_allc (by decide +kernel) p_y_X0_pairsTo_good) (nb_all2 (nb_allc (by decide +kernel) p_y_X1_size_good) (nb_all2 (nb_allc (by decide +kernel) p_y_X1_length_good) (nb_all2 (nb_allc (by decide +kernel) p_y_X1_member_good) (nb_all2 (nb_allc (by decide +kernel) p_y_X0_load_good) (nb_all2 (nb_allc (by decide +kernel) p_y_X0_pair_good) (nb_all2 (nb_allc (by decide +kernel) p_y_X11_isError_good) (nb_all2 (nb_allc (by decide +kernel) p_y_X1_makeRow__a16_good) rfl)))))))))
def w_y_X0_withImages : List Cond := .code yX0_withImages cX0_withImages 9 (some .int) :: (p_y_X0_withImages ++ fC)
theorem w_y_X0_withImages_good : w_y_X0_withImages.all goodWord = true := nb_allc (by decide +kernel) (nb_all2 p_y_X0_withImages_good fC_good)
theorem in_y_X0_withImages_X0 : ∀ w ∈ wsX00, w ∈ w_y_X0_withImages := fun _ h => List.mem_cons_of_mem _ (List.mem_append_right _ (List.mem_append_left _ h))
theorem hd_y_X0_withImages : yX0_withImages.cls = RX0 ∧ yX0_withImages.cls ≠ "java/lang/invoke/MethodHandle" ∧ yX0_withImages.cls ≠ "java/lang/invoke/VarHandle" ∧ (parseMethodDescriptor yX0_withImages.desc).map (fun d => d.parameters.length) = some 3 := by decide +kernel
theorem gg_y_X0_withImages_X0_load : GoodIn w_y_X0_withImages w_y_X0_load := goodIn_sub (fun w h => (List.mem_cons.mp h).elim (fun e => (List.mem_cons_of_mem _ (List.mem_append_left _ (List.mem_append_right _ (List.mem_append_right _ (List.mem_append_right _ (List.mem_append_right _ (List.mem_append_right _ (List.mem_append_right _ (List.mem_append_left _ (List.mem_cons.mpr (Or.inl e)))))))))))) (fun h => (List.mem_append.mp h).elim (fun h => (List.mem_cons_of_mem _ (List.mem_append_left _ (List.mem_append_right _ (List.mem_append_right _ (List.mem_append_right _ (List.mem_append_right _ (List.mem_append_right _ (List.mem_append_right _ (List.mem_append_left _ (List.mem_cons_of_mem _ h))))))))))) (fun h => List.mem_cons_of_mem _ (List.mem_append_right _ h)))) w_y_X0_load_good
theorem g_y_X0_withImages_X0_load_V103 : GoodIn w_y_X0_withImages (wsV RX0 103 RX0 yX0_load w_y_X0_load) := goodIn_app (nb_g4 (List.mem_cons_of_mem _ (List.mem_append_left _ (List.mem_append_left _ (List.mem_of_getElem? (i := 19) rfl)))) (List.mem_cons_of_mem _ (List.mem_append_left _ (List.mem_append_left _ (List.mem_of_getElem? (i := 20) rfl)))) (List.mem_cons_of_mem _ (List.mem_append_left _ (List.mem_append_left _ (List.mem_of_getElem? (i := 21) rfl)))) (List.mem_cons_of_mem _ (List.mem_append_left _ (List.mem_append_left _ (List.mem_of_getElem? (i := 3) rfl)))) (by decide +kernel)) gg_y_X0_withImages_X0_load
theorem gg_y_X0_withImages_X0_pair : GoodIn w_y_X0_withImages w_y_X0_pair := goodIn_sub (fun w h => (List.mem_cons.mp h).elim (fun e => (List.mem_cons_of_mem _ (List.mem_append_left _ (List.mem_append_right _ (List.mem_append_right _ (List.mem_append_right _ (List.mem_append_right _ (List.mem_append_right _ (List.mem_append_right _ (List.mem_append_right _ (List.mem_append_left _ (List.mem_cons.mpr (Or.inl e))))))))))))) (fun h => (List.mem_append.mp h).elim (fun h => (List.mem_cons_of_mem _ (List.mem_append_left _ (List.mem_append_right _ (List.mem_append_right _ (List.mem_append_right _ (List.mem_append_right _ (List.mem_append_right _ (List.mem_append_right _ (List.mem_append_right _ (List.mem_append_left _ (List.mem_cons_of_mem _ h)))))))))))) (fun h => List.mem_cons_of_mem _ (List.mem_append_right _ h)))) w_y_X0_pair_good
theorem g_y_X0_withImages_X0_pair_V291 : GoodIn w_y_X0_withImages (wsV RX0 291 RX0 yX0_pair w_y_X0_pair) := goodIn_app (nb_g4 (List.mem_cons_of_mem _ (List.mem_append_left _ (List.mem_append_left _ (List.mem_of_getElem? (i := 23) rfl)))) (List.mem_cons_of_mem _ (List.mem_append_left _ (List.mem_append_left _ (List.mem_of_getElem? (i := 24) rfl)))) (List.mem_cons_of_mem _ (List.mem_append_left _ (List.mem_append_left _ (List.mem_of_getElem? (i := 25) rfl)))) (List.mem_cons_of_mem _ (List.mem_append_left _ (List.mem_append_left _ (List.mem_of_getElem? (i := 3) rfl)))) (by decide +kernel)) gg_y_X0_withImages_X0_pair
theorem gg_y_X0_withImages_X0_pairsFrom : GoodIn w_y_X0_withImages w_y_X0_pairsFrom := goodIn_sub (fun w h => (List.mem_cons.mp h).elim (fun e => (List.mem_cons_of_mem _ (List.mem_append_left _ (List.mem_append_right _ (List.mem_append_left _ (List.mem_cons.mpr (Or.inl e))))))) (fun h => (List.mem_append.mp h).elim (fun h => (List.mem_cons_of_mem _ (List.mem_append_left _ (List.mem_append_right _ (List.mem_append_left _ (List.mem_cons_of_mem _ h)))))) (fun h => List.mem_cons_of_mem _ (List.mem_append_right _ h)))) w_y_X0_pairsFrom_good
theorem g_y_X0_withImages_X0_pairsFrom_V267 : GoodIn w_y_X0_withImages (wsV RX0 267 RX0 yX0_pairsFrom w_y_X0_pairsFrom) := goodIn_app (nb_g4 (List.mem_cons_of_mem _ (List.mem_append_left _ (List.mem_append_left _ (List.mem_of_getElem? (i := 0) rfl)))) (List.mem_cons_of_mem _ (List.mem_append_left _ (List.mem_append_left _ (List.mem_of_getElem? (i := 1) rfl)))) (List.mem_cons_of_mem _ (List.mem_append_left _ (List.mem_append_left _ (List.mem_of_getElem? (i := 2) rfl)))) (List.mem_cons_of_mem _ (List.mem_append_left _ (List.mem_append_left _ (List.mem_of_getElem? (i := 3) rfl)))) (by decide +kernel)) gg_y_X0_withImages_X0_pairsFrom
theorem gg_y_X0_withImages_X0_pairsTo : GoodIn w_y_X0_withImages w_y_X0_pairsTo := goodIn_sub (fun w h => (List.mem_cons.mp h).elim (fun e => (List.mem_cons_of_mem _ (List.mem_append_left _ (List.mem_append_right _ (List.mem_append_right _ (List.mem_append_left _ (List.mem_cons.mpr (Or.inl e)))))))) (fun h => (List.mem_append.mp h).elim (fun h => (List.mem_cons_of_mem _ (List.mem_append_left _ (List.mem_append_right _ (List.mem_append_right _ (List.mem_append_left _ (List.mem_cons_of_mem _ h))))))) (fun h => List.mem_cons_of_mem _ (List.mem_append_right _ h)))) w_y_X0_pairsTo_good
theorem g_y_X0_withImages_X0_pairsTo_V270 : GoodIn w_y_X0_withImages (wsV RX0 270 RX0 yX0_pairsTo w_y_X0_pairsTo) := goodIn_app (nb_g4 (List.mem_cons_of_mem _ (List.mem_append_left _ (List.mem_append_left _ (List.mem_of_getElem? (i := 4) rfl)))) (List.mem_cons_of_mem _ (List.mem_append_left _ (List.mem_append_left _ (List.mem_of_getElem? (i := 5) rfl)))) (List.mem_cons_of_mem _ (List.mem_append_left _ (List.mem_append_left _ (List.mem_of_getElem? (i := 6) rfl)))) (List.mem_cons_of_mem _ (List.mem_append_left _ (List.mem_append_left _ (List.mem_of_getElem? (i := 3) rfl)))) (by decide +kernel)) gg_y_X0_withImages_X0_pairsTo
theorem gg_y_X0_withImages_X11_isError : GoodIn w_y_X0_withImages w_y_X11_isError := goodIn_sub (fun w h => (List.mem_cons.mp h).elim (fun e => (List.mem_cons_of_mem _ (List.mem_append_left _ (List.mem_append_right _ (List.mem_append_right _ (List.mem_append_right _ (List.mem_append_right _ (List.mem_append_right _ (List.mem_append_right _ (List.mem_append_right _ (List.mem_append_right _ (List.mem_append_left _ (List.mem_cons.mpr (Or.inl e)))))))))))))) (fun h => (List.mem_append.mp h).elim (fun h => (List.mem_cons_of_mem _ (List.mem_append_left _ (List.mem_append_right _ (List.mem_append_right _ (List.mem_append_right _ (List.mem_append_right _ (List.mem_append_right _ (List.mem_append_right _ (List.mem_append_right _ (List.mem_append_right _ (List.mem_append_left _ (List.mem_cons_of_mem _ h))))))))))))) (fun h => List.mem_cons_of_mem _ (List.mem_append_right _ h)))) w_y_X11_isError_good
theorem g_y_X0_withImages_X11_isError_SN72 : GoodIn w_y_X0_withImages w_y_X11_isError := gg_y_X0_withImages_X11_isError
theorem gg_y_X0_withImages_X1_length : GoodIn w_y_X0_withImages w_y_X1_length := goodIn_sub (fun w h => (List.mem_cons.mp h).elim (fun e => (List.mem_cons_of_mem _ (List.mem_append_left _ (List.mem_append_right _ (List.mem_append_right _ (List.mem_append_right _ (List.mem_append_right _ (List.mem_append_left _ (List.mem_cons.mpr (Or.inl e)))))))))) (fun h => (List.mem_append.mp h).elim (fun h => (List.mem_cons_of_mem _ (List.mem_append_left _ (List.mem_append_right _ (List.mem_append_right _ (List.mem_append_right _ (List.mem_append_right _ (List.mem_append_left _ (List.mem_cons_of_mem _ h))))))))) (fun h => List.mem_cons_of_mem _ (List.mem_append_right _ h)))) w_y_X1_length_good
theorem g_y_X0_withImages_X1_length_V100 : GoodIn w_y_X0_withImages (wsV RX0 100 RX1 yX1_length w_y_X1_length) := goodIn_app (nb_g4 (List.mem_cons_of_mem _ (List.mem_append_left _ (List.mem_append_left _ (List.mem_of_getElem? (i := 12) rfl)))) (List.mem_cons_of_mem _ (List.mem_append_left _ (List.mem_append_left _ (List.mem_of_getElem? (i := 13) rfl)))) (List.mem_cons_of_mem _ (List.mem_append_left _ (List.mem_append_left _ (List.mem_of_getElem? (i := 14) rfl)))) (List.mem_cons_of_mem _ (List.mem_append_left _ (List.mem_append_left _ (List.mem_of_getElem? (i := 11) rfl)))) (by decide +kernel)) gg_y_X0_withImages_X1_length
theorem gg_y_X0_withImages_X1_makeRow__a16 : GoodIn w_y_X0_withImages w_y_X1_makeRow__a16 := goodIn_sub (fun w h => (List.mem_cons.mp h).elim (fun e => (List.mem_cons_of_mem _ (List.mem_append_left _ (List.mem_append_right _ (List.mem_append_right _ (List.mem_append_right _ (List.mem_append_right _ (List.mem_append_right _ (List.mem_append_right _ (List.mem_append_right _ (List.mem_append_right _ (List.mem_append_right _ (List.mem_append_left _ (List.mem_cons.mpr (Or.inl e))))))))))))))) (fun h => (List.mem_append.mp h).elim (fun h => (List.mem_cons_of_mem _ (List.mem_append_left _ (List.mem_append_right _ (List.mem_append_right _ (List.mem_append_right _ (List.mem_append_right _ (List.mem_append_right _ (List.mem_append_right _ (List.mem_append_right _ (List.mem_append_right _ (List.mem_append_right _ (List.mem_append_left _ (List.mem_cons_of_mem _ h)))))))))))))) (fun h => List.mem_cons_of_mem _ (List.mem_append_right _ h)))) w_y_X1_makeRow__a16_good
theorem g_y_X0_withImages_X1_makeRow__a16_V160 : GoodIn w_y_X0_withImages (wsV RX0 160 RX1 yX1_makeRow w_y_X1_makeRow__a16) := goodIn_app (nb_g4 (List.mem_cons_of_mem _ (List.mem_append_left _ (List.mem_append_left _ (List.mem_of_getElem? (i := 28) rfl)))) (List.mem_cons_of_mem _ (List.mem_append_left _ (List.mem_append_left _ (List.mem_of_getElem? (i := 29) rfl)))) (List.mem_cons_of_mem _ (List.mem_append_left _ (List.mem_append_left _ (List.mem_of_getElem? (i := 30) rfl)))) (List.mem_cons_of_mem _ (List.mem_append_left _ (List.mem_append_left _ (List.mem_of_getElem? (i := 11) rfl)))) (by decide +kernel)) gg_y_X0_withImages_X1_makeRow__a16
theorem gg_y_X0_withImages_X1_member : GoodIn w_y_X0_withImages w_y_X1_member := goodIn_sub (fun w h => (List.mem_cons.mp h).elim (fun e => (List.mem_cons_of_mem _ (List.mem_append_left _ (List.mem_append_right _ (List.mem_append_right _ (List.mem_append_right _ (List.mem_append_right _ (List.mem_append_right _ (List.mem_append_left _ (List.mem_cons.mpr (Or.inl e))))))))))) (fun h => (List.mem_append.mp h).elim (fun h => (List.mem_cons_of_mem _ (List.mem_append_left _ (List.mem_append_right _ (List.mem_append_right _ (List.mem_append_right _ (List.mem_append_right _ (List.mem_append_right _ (List.mem_append_left _ (List.mem_cons_of_mem _ h)))))))))) (fun h => List.mem_cons_of_mem _ (List.mem_append_right _ h)))) w_y_X1_member_good
theorem g_y_X0_withImages_X1_member_V154 : GoodIn w_y_X0_withImages (wsV RX0 154 RX1 yX1_member w_y_X1_member) := goodIn_app (nb_g4 (List.mem_cons_of_mem _ (List.mem_append_left _ (List.mem_append_left _ (List.mem_of_getElem? (i := 15) rfl)))) (List.mem_cons_of_mem _ (List.mem_append_left _ (List.mem_append_left _ (List.mem_of_getElem? (i := 16) rfl)))) (List.mem_cons_of_mem _ (List.mem_append_left _ (List.mem_append_left _ (List.mem_of_getElem? (i := 17) rfl)))) (List.mem_cons_of_mem _ (List.mem_append_left _ (List.mem_append_left _ (List.mem_of_getElem? (i := 11) rfl)))) (by decide +kernel)) gg_y_X0_withImages_X1_member
theorem gg_y_X0_withImages_X1_size : GoodIn w_y_X0_withImages w_y_X1_size := goodIn_sub (fun w h => (List.mem_cons.mp h).elim (fun e => (List.mem_cons_of_mem _ (List.mem_append_left _ (List.mem_append_right _ (List.mem_append_right _ (List.mem_append_right _ (List.mem_append_left _ (List.mem_cons.mpr (Or.inl e))))))))) (fun h => (List.mem_append.mp h).elim (fun h => (List.mem_cons_of_mem _ (List.mem_append_left _ (List.mem_append_right _ (List.mem_append_right _ (List.mem_append_right _ (List.mem_append_left _ (List.mem_cons_of_mem _ h)))))))) (fun h => List.mem_cons_of_mem _ (List.mem_append_right _ h)))) w_y_X1_size_good
theorem g_y_X0_withImages_X1_size_V179 : GoodIn w_y_X0_withImages (wsV RX0 179 RX1 yX1_size w_y_X1_size) := goodIn_app (nb_g4 (List.mem_cons_of_mem _ (List.mem_append_left _ (List.mem_append_left _ (List.mem_of_getElem? (i := 8) rfl)))) (List.mem_cons_of_mem _ (List.mem_append_left _ (List.mem_append_left _ (List.mem_of_getElem? (i := 9) rfl)))) (List.mem_cons_of_mem _ (List.mem_append_left _ (List.mem_append_left _ (List.mem_of_getElem? (i := 10) rfl)))) (List.mem_cons_of_mem _ (List.mem_append_left _ (List.mem_append_left _ (List.mem_of_getElem? (i := 11) rfl)))) (by decide +kernel)) gg_y_X0_withImages_X1_size
set_option maxHeartbeats 40000000 in
set_option maxRecDepth 100000 in
theorem c_y_X0_withImages (l : Launch) (dC : Nat → ClassId) (dI : Nat → Nat → Nat) (cy : Nat → ClassId) (a z : Nat → Nat) (k0 : Nat) (L0 : LV) (σ0 : CS) (r0 : Int32 × CS) (h0 : y_X0_withImages k0 0 L0 σ0 = some r0) (sz : Nat) : Met l yX0_withImages w_y_X0_withImages ({ frames := 63, cells := 0, slots := 0, locals := 1764 }) (va_Pc [.ref (a 14), .int (L0.1 1), .int (L0.1 2), .int (L0.1 3)] (nIn (dC, dI) cy sz (vC cy a z σ0))) (va_Qi (fun (x : Int32) (_ : Unit) => x = r0.1) (fun _ t => nOut (dC, dI) cy (va_A (vC cy a z σ0) sz) (vC cy a z r0.2) t) (va_A (vC cy a z σ0) sz)) 0 0 (va_A (vC cy a z σ0) sz) := by
  refine Met.ofW (cc := cX0_withImages) (maxL := 9) (ret := (some .int)) (by decide) rfl ?_
  intro p e s m args below meth c s₁ B hml hv
  obtain ⟨rfl, hsz, hP, hK, hD0, hG⟩ := hv
  have hx := B.exec
  have hb := B.bytes
  have hr := B.returns
  have hts := atoms_spec (ws := w_y_X0_withImages) B.pre
  have hown : s.vm.findClass RX0 = some m.cls := findClass_of_methodNamed B.named
  have hlocks := B.notSynchronized
  subst hsz
  have hD := hD0.self (sz := s.heap.size)
  generalize hAe : va_A (vC cy a z σ0) s.heap.size = A at hD ⊢
  have hA : ∀ q : Nat, s.heap.size ≤ q → A q := fun q h => by rw [← hAe]; exact Or.inr h
  have hS : va_S A s.heap s.heap [] := va_S.rf
  have hl := lv_entry ([.ref (a 14), .int (L0.1 1), .int (L0.1 2), .int (L0.1 3)]) (n := 9) (Nat.le_of_ble_eq_true rfl)
  rw [lg_entry_eq]
  generalize (lg_sl ([.ref (a 14), .int (L0.1 1), .int (L0.1 2), .int (L0.1 3)]) ++ List.replicate (9 - (lg_sl ([.ref (a 14), .int (L0.1 1), .int (L0.1 2), .int (L0.1 3)])).length) Slot.unset).toArray = ls at hl ⊢
  have hl : lv_has ls 9 [(0, .ref (a 14)), (1, .int (L0.1 1)), (2, .int (L0.1 2)), (3, .int (L0.1 3))] := hl
  have blk : ∀ k : Nat, (bC p l e (headSpec w_y_X0_withImages ({ frames := 63, cells := 0, slots := 0, locals := 1764 })).room s m #[.ref (a 14), .int (L0.1 1), .int (L0.1 2), .int (L0.1 3)] below meth c dC dI cy a z A (kI dC dI cy a z A below #[.ref (a 14), .int (L0.1 1), .int (L0.1 2), .int (L0.1 3)] s) 9 (y_X0_withImages k 0) (fun L => [(0, .ref (a 14)), (1, .int (L.1 1)), (2, .int (L.1 2)), (3, .int (L.1 3))]) 0 (fun L => [])) ∧ (bC p l e (headSpec w_y_X0_withImages ({ frames := 63, cells := 0, slots := 0, locals := 1764 })).room s m #[.ref (a 14), .int (L0.1 1), .int (L0.1 2), .int (L0.1 3)] below meth c dC dI cy a z A (kI dC dI cy a z A below #[.ref (a 14), .int (L0.1 1), .int (L0.1 2), .int (L0.1 3)] s) 9 (y_X0_withImages k 1) (fun L => [(0, .ref (a 14)), (1, .int (L.1 1)), (2, .int (L.1 2)), (3, .int (L.1 3)), (4, .int (L.1 4)), (5, .int (L.1 5)), (6, .int (L.1 6)), (7, .int (L.1 7))]) 63 (fun L => [])) ∧ (bC p l e (headSpec w_y_X0_withImages ({ frames := 63, cells := 0, slots := 0, locals := 1764 })).room s m #[.ref (a 14), .int (L0.1 1), .int (L0.1 2), .int (L0.1 3)] below meth c dC dI cy a z A (kI dC dI cy a z A below #[.ref (a 14), .int (L0.1 1), .int (L0.1 2), .int (L0.1 3)] s) 9 (y_X0_withImages k 2) (fun L => [(0, .ref (a 14)), (1, .int (L.1 1)), (2, .int (L.1 2)), (3, .int (L.1 3)), (4, .int (L.1 4)), (5, .int (L.1 5)), (6, .int (L.1 6))]) 98 (fun L => [])) ∧ (bC p l e (headSpec w_y_X0_withImages ({ frames := 63, cells := 0, slots := 0, locals := 1764 })).room s m #[.ref (a 14), .int (L0.1 1), .int (L0.1 2), .int (L0.1 3)] below meth c dC dI cy a z A (kI dC dI cy a z A below #[.ref (a 14), .int (L0.1 1), .int (L0.1 2), .int (L0.1 3)] s) 9 (y_X0_withImages k 3) (fun L => [(0, .ref (a 14)), (1, .int (L.1 1)), (2, .int (L.1 2)), (3, .int (L.1 3)), (4, .int (L.1 4)), (5, .int (L.1 5))]) 109 (fun L => [])) ∧ (bC p l e (headSpec w_y_X0_withImages ({ frames := 63, cells := 0, slots := 0, locals := 1764 })).room s m #[.ref (a 14), .int (L0.1 1), .int (L0.1 2), .int (L0.1 3)] below meth c dC dI cy a z A (kI dC dI cy a z A below #[.ref (a 14), .int (L0.1 1), .int (L0.1 2), .int (L0.1 3)] s) 9 (y_X0_withImages k 4) (fun L => [(0, .ref (a 14)), (1, .int (L.1 1)), (2, .int (L.1 2)), (3, .int (L.1 3)), (5, .int (L.1 5)), (7, .int (L.1 7)), (8, .int (L.1 8))]) 123 (fun L => [])) ∧ (bC p l e (headSpec w_y_X0_withImages ({ frames := 63, cells := 0, slots := 0, locals := 1764 })).room s m #[.ref (a 14), .int (L0.1 1), .int (L0.1 2), .int (L0.1 3)] below meth c dC dI cy a z A (kI dC dI cy a z A below #[.ref (a 14), .int (L0.1 1), .int (L0.1 2), .int (L0.1 3)] s) 9 (y_X0_withImages k 5) (fun L => [(0, .ref (a 14)), (1, .int (L.1 1)), (5, .int (L.1 5)), (7, .int (L.1 7))]) 198 (fun L => [])) ∧ (bC p l e (headSpec w_y_X0_withImages ({ frames := 63, cells := 0, slots := 0, locals := 1764 })).room s m #[.ref (a 14), .int (L0.1 1), .int (L0.1 2), .int (L0.1 3)] below meth c dC dI cy a z A (kI dC dI cy a z A below #[.ref (a 14), .int (L0.1 1), .int (L0.1 2), .int (L0.1 3)] s) 9 (y_X0_withImages k 6) (fun L => [(0, .ref (a 14)), (1, .int (L.1 1)), (2, .int (L.1 2)), (3, .int (L.1 3)), (5, .int (L.1 5)), (7, .int (L.1 7)), (8, .int (L.1 8))]) 189 (fun L => [])) := by
    intro k
    induction k with
    | zero => exact ⟨fun L σ r h => (by cases h), fun L σ r h => (by cases h), fun L σ r h => (by cases h), fun L σ r h => (by cases h), fun L σ r h => (by cases h), fun L σ r h => (by cases h), fun L σ r h => (by cases h)⟩
    | succ k ih =>
      refine ⟨?_, ?_, ?_, ?_, ?_, ?_, ?_⟩
      · intro L σ r h H locs ls hP hD hS hl
        rw [y_X0_withImages] at h
        refine lv_aload_n hx hb dX0_withImages_0 rfl (lv_at hl 0 rfl) ?_
        refine lv_iload_n hx hb dX0_withImages_1 rfl (lv_at hl 1 rfl) ?_
        refine lv_iload_n hx hb dX0_withImages_2 rfl (lv_at hl 2 rfl) ?_
        obtain ⟨r1, hc1, h⟩ := oc_ex h
        refine kc_i (va_runV (As := [.int (L.1 1), .int (L.1 2)]) (rest := []) ⟨hx, hb, hml, hown, hts⟩ (c_y_X0_pairsFrom l dC dI cy a z k (lI (lI lZ 1 ((L.1 1))) 2 ((L.1 2))) σ r1 hc1 H.size) (cwV 2 hts g_y_X0_withImages_X0_pairsFrom_V267 rfl rfl rfl hd_y_X0_pairsFrom ⟨Nat.le_of_ble_eq_true rfl, Nat.le_of_ble_eq_true rfl⟩) ⟨nb_blind, va_recv hK hP (ci := 0) (q0 := 14) rfl rfl, (kb_pre hK hG hP hD)⟩ rfl rfl hl.1 rfl (lv_room (Nat.le_of_ble_eq_true rfl)) dX0_withImages_3 ⟨Nat.le_refl _, Nat.le_refl _⟩) hA hP hD hS (fun H locs hP hD hS => ?_)
        refine lv_istore (lv' := [(4, .int r1.1), (0, .ref (a 14)), (1, .int (L.1 1)), (2, .int (L.1 2)), (3, .int (L.1 3))]) hx hb dX0_withImages_6 hl (by decide) rfl (fun ls hl => ?_)
        refine lv_aload_n hx hb dX0_withImages_8 rfl (lv_at hl 1 rfl) ?_
        refine lv_iload_n hx hb dX0_withImages_9 rfl (lv_at hl 2 rfl) ?_
        refine lv_iload hx hb dX0_withImages_10 (lv_at hl 0 rfl) ?_
        refine lv_iload_n hx hb dX0_withImages_12 rfl (lv_at hl 3 rfl) ?_
        obtain ⟨r2, hc2, h⟩ := oc_ex h
        refine kc_i (va_runV (As := [.int (L.1 1), .int r1.1, .int (L.1 2)]) (rest := []) ⟨hx, hb, hml, hown, hts⟩ (c_y_X0_pairsTo l dC dI cy a z k (lI (lI (lI lZ 1 ((L.1 1))) 2 r1.1) 3 ((L.1 2))) r1.2 r2 hc2 H.size) (cwV 3 hts g_y_X0_withImages_X0_pairsTo_V270 rfl rfl rfl hd_y_X0_pairsTo ⟨Nat.le_of_ble_eq_true rfl, Nat.le_of_ble_eq_true rfl⟩) ⟨nb_blind, va_recv hK hP (ci := 0) (q0 := 14) rfl rfl, (kb_pre hK hG hP hD)⟩ rfl rfl hl.1 rfl (lv_room (Nat.le_of_ble_eq_true rfl)) dX0_withImages_13 ⟨Nat.le_refl _, Nat.le_refl _⟩) hA hP hD hS (fun H locs hP hD hS => ?_)
        refine lv_istore (lv' := [(5, .int r2.1), (4, .int r1.1), (0, .ref (a 14)), (1, .int (L.1 1)), (2, .int (L.1 2)), (3, .int (L.1 3))]) hx hb dX0_withImages_16 hl (by decide) rfl (fun ls hl => ?_)
        refine lv_aload_n hx hb dX0_withImages_18 rfl (lv_at hl 2 rfl) ?_
        refine hg_14_0 hx hb hts in_y_X0_withImages_X0 hown hK hP (hts _ (List.mem_cons_of_mem _ (List.mem_append_left _ (List.mem_append_left _ (List.mem_of_getElem? (i := 7) rfl))))) dX0_withImages_19 ?_
        refine lv_iload_n hx hb dX0_withImages_22 rfl (lv_at hl 3 rfl) ?_
        obtain ⟨r3, hc3, h⟩ := oc_ex h
        refine kc_i (va_runV (As := [.int (L.1 1)]) (rest := []) ⟨hx, hb, hml, hown, hts⟩ (c_y_X1_size l dC dI cy a z k (lI lZ 1 ((L.1 1))) r2.2 r3 hc3 H.size) (cwV 1 hts g_y_X0_withImages_X1_size_V179 rfl rfl rfl hd_y_X1_size ⟨Nat.le_of_ble_eq_true rfl, Nat.le_of_ble_eq_true rfl⟩) ⟨nb_blind, va_recv hK hP (ci := 1) (q0 := 0) rfl rfl, (kb_pre hK hG hP hD)⟩ rfl rfl hl.1 rfl (lv_room (Nat.le_of_ble_eq_true rfl)) dX0_withImages_23 ⟨Nat.le_refl _, Nat.le_refl _⟩) hA hP hD hS (fun H locs hP hD hS => ?_)
        refine lv_aload_n hx hb dX0_withImages_26 rfl (lv_at hl 2 rfl) ?_
        refine hg_14_0 hx hb hts in_y_X0_withImages_X0 hown hK hP (hts _ (List.mem_cons_of_mem _ (List.mem_append_left _ (List.mem_append_left _ (List.mem_of_getElem? (i := 7) rfl))))) dX0_withImages_27 ?_
        refine lv_iload_n hx hb dX0_withImages_30 rfl (lv_at hl 5 rfl) ?_
        obtain ⟨r4, hc4, h⟩ := oc_ex h
        refine kc_i (va_runV (As := [.int (L.1 3)]) (rest := [.int r3.1]) ⟨hx, hb, hml, hown, hts⟩ (c_y_X1_size l dC dI cy a z k (lI lZ 1 ((L.1 3))) r3.2 r4 hc4 H.size) (cwV 1 hts g_y_X0_withImages_X1_size_V179 rfl rfl rfl hd_y_X1_size ⟨Nat.le_of_ble_eq_true rfl, Nat.le_of_ble_eq_true rfl⟩) ⟨nb_blind, va_recv hK hP (ci := 1) (q0 := 0) rfl rfl, (kb_pre hK hG hP hD)⟩ rfl rfl hl.1 rfl (lv_room (Nat.le_of_ble_eq_true rfl)) dX0_withImages_31 ⟨Nat.le_refl _, Nat.le_refl _⟩) hA hP hD hS (fun H locs hP hD hS => ?_)
        refine lv_iadd hx hb dX0_withImages_34 ?_
        refine lv_iconst (v := 1) hx hb dX0_withImages_35 (by decide) ?_
        refine lv_isub hx hb dX0_withImages_36 ?_
        refine lv_aload_n hx hb dX0_withImages_37 rfl (lv_at hl 2 rfl) ?_
        refine hg_14_0 hx hb hts in_y_X0_withImages_X0 hown hK hP (hts _ (List.mem_cons_of_mem _ (List.mem_append_left _ (List.mem_append_left _ (List.mem_of_getElem? (i := 7) rfl))))) dX0_withImages_38 ?_
        refine lv_iload_n hx hb dX0_withImages_41 rfl (lv_at hl 5 rfl) ?_
        obtain ⟨r5, hc5, h⟩ := oc_ex h
        refine kc_i (va_runV (As := [.int (L.1 3)]) (rest := [.int (((r3.1 + r4.1)) - 1)]) ⟨hx, hb, hml, hown, hts⟩ (c_y_X1_length l dC dI cy a z k (lI lZ 1 ((L.1 3))) r4.2 r5 hc5 H.size) (cwV 1 hts g_y_X0_withImages_X1_length_V100 rfl rfl rfl hd_y_X1_length ⟨Nat.le_of_ble_eq_true rfl, Nat.le_of_ble_eq_true rfl⟩) ⟨nb_blind, va_recv hK hP (ci := 1) (q0 := 0) rfl rfl, (kb_pre hK hG hP hD)⟩ rfl rfl hl.1 rfl (lv_room (Nat.le_of_ble_eq_true rfl)) dX0_withImages_42 ⟨Nat.le_refl _, Nat.le_refl _⟩) hA hP hD hS (fun H locs hP hD hS => ?_)
        refine lv_iconst (v := 1) hx hb dX0_withImages_45 (by decide) ?_
        refine lv_aload_n hx hb dX0_withImages_46 rfl (lv_at hl 2 rfl) ?_
        refine hg_14_0 hx hb hts in_y_X0_withImages_X0 hown hK hP (hts _ (List.mem_cons_of_mem _ (List.mem_append_left _ (List.mem_append_left _ (List.mem_of_getElem? (i := 7) rfl))))) dX0_withImages_47 ?_
        refine lv_iload_n hx hb dX0_withImages_50 rfl (lv_at hl 4 rfl) ?_
        obtain ⟨r6, hc6, h⟩ := oc_ex h
        refine kc_i (va_runV (As := [.int (L.1 2)]) (rest := [.int 1, .int r5.1, .int (((r3.1 + r4.1)) - 1)]) ⟨hx, hb, hml, hown, hts⟩ (c_y_X1_size l dC dI cy a z k (lI lZ 1 ((L.1 2))) r5.2 r6 hc6 H.size) (cwV 1 hts g_y_X0_withImages_X1_size_V179 rfl rfl rfl hd_y_X1_size ⟨Nat.le_of_ble_eq_true rfl, Nat.le_of_ble_eq_true rfl⟩) ⟨nb_blind, va_recv hK hP (ci := 1) (q0 := 0) rfl rfl, (kb_pre hK hG hP hD)⟩ rfl rfl hl.1 rfl (lv_room (Nat.le_of_ble_eq_true rfl)) dX0_withImages_51 ⟨Nat.le_refl _, Nat.le_refl _⟩) hA hP hD hS (fun H locs hP hD hS => ?_)
        refine lv_iadd hx hb dX0_withImages_54 ?_
        refine lv_imul hx hb dX0_withImages_55 ?_
        refine lv_iadd hx hb dX0_withImages_56 ?_
        refine lv_istore (lv' := [(6, .int (((((r3.1 + r4.1)) - 1)) + ((r5.1 * ((1 + r6.1)))))), (5, .int r2.1), (4, .int r1.1), (0, .ref (a 14)), (1, .int (L.1 1)), (2, .int (L.1 2)), (3, .int (L.1 3))]) hx hb dX0_withImages_57 hl (by decide) rfl (fun ls hl => ?_)
        refine lv_iload hx hb dX0_withImages_59 (lv_at hl 2 rfl) ?_
        refine lv_istore (lv' := [(7, .int r1.1), (6, .int (((((r3.1 + r4.1)) - 1)) + ((r5.1 * ((1 + r6.1)))))), (5, .int r2.1), (4, .int r1.1), (0, .ref (a 14)), (1, .int (L.1 1)), (2, .int (L.1 2)), (3, .int (L.1 3))]) hx hb dX0_withImages_61 hl (by decide) rfl (fun ls hl => ?_)
        exact ih.2.1 (lI (lI (lI (lI L 4 r1.1) 5 r2.1) 6 ((((((r3.1 + r4.1)) - 1)) + ((r5.1 * ((1 + r6.1))))))) 7 r1.1) r6.2 r h H locs ls hP hD hS (lv_sub hl [4, 5, 6, 7, 3, 2, 1, 0] rfl)
      · intro L σ r h H locs ls hP hD hS hl
        rw [y_X0_withImages] at h
        refine lv_iload hx hb dX0_withImages_63 (lv_at hl 7 rfl) ?_
        refine lv_iload hx hb dX0_withImages_65 (lv_at hl 5 rfl) ?_
        refine lv_icmp_ge (tgt := 98) hx hb dX0_withImages_67 (by decide) (fun c1 => ?_) (fun c1 => ?_)
        · rw [if_pos c1] at h
          exact ih.2.2.1 L σ r h H locs ls hP hD hS (lv_sub hl [0, 1, 2, 3, 4, 5, 6] rfl)
        · rw [if_neg c1] at h
          refine lv_iload hx hb dX0_withImages_70 (lv_at hl 6 rfl) ?_
          refine lv_aload_n hx hb dX0_withImages_72 rfl (lv_at hl 0 rfl) ?_
          refine hg_14_0 hx hb hts in_y_X0_withImages_X0 hown hK hP (hts _ (List.mem_cons_of_mem _ (List.mem_append_left _ (List.mem_append_left _ (List.mem_of_getElem? (i := 7) rfl))))) dX0_withImages_73 ?_
          refine lv_aload_n hx hb dX0_withImages_76 rfl (lv_at hl 0 rfl) ?_
          refine hg_14_0 hx hb hts in_y_X0_withImages_X0 hown hK hP (hts _ (List.mem_cons_of_mem _ (List.mem_append_left _ (List.mem_append_left _ (List.mem_of_getElem? (i := 7) rfl))))) dX0_withImages_77 ?_
          refine lv_iload_n hx hb dX0_withImages_80 rfl (lv_at hl 1 rfl) ?_
          refine lv_iload hx hb dX0_withImages_81 (lv_at hl 7 rfl) ?_
          obtain ⟨r2, hc2, h⟩ := oc_ex h
          refine kc_i (va_runV (As := [.int (L.1 1), .int (L.1 7)]) (rest := [.ref (a 0), .int (L.1 6)]) ⟨hx, hb, hml, hown, hts⟩ (c_y_X1_member l dC dI cy a z k (lI (lI lZ 1 ((L.1 1))) 2 ((L.1 7))) σ r2 hc2 H.size) (cwV 2 hts g_y_X0_withImages_X1_member_V154 rfl rfl rfl hd_y_X1_member ⟨Nat.le_of_ble_eq_true rfl, Nat.le_of_ble_eq_true rfl⟩) ⟨nb_blind, va_recv hK hP (ci := 1) (q0 := 0) rfl rfl, (kb_pre hK hG hP hD)⟩ rfl rfl hl.1 rfl (lv_room (Nat.le_of_ble_eq_true rfl)) dX0_withImages_83 ⟨Nat.le_refl _, Nat.le_refl _⟩) hA hP hD hS (fun H locs hP hD hS => ?_)
          obtain ⟨r3, hc3, h⟩ := oc_ex h
          refine kc_i (va_runV (As := [.int r2.1]) (rest := [.int (L.1 6)]) ⟨hx, hb, hml, hown, hts⟩ (c_y_X1_size l dC dI cy a z k (lI lZ 1 r2.1) r2.2 r3 hc3 H.size) (cwV 1 hts g_y_X0_withImages_X1_size_V179 rfl rfl rfl hd_y_X1_size ⟨Nat.le_of_ble_eq_true rfl, Nat.le_of_ble_eq_true rfl⟩) ⟨nb_blind, va_recv hK hP (ci := 1) (q0 := 0) rfl rfl, (kb_pre hK hG hP hD)⟩ rfl rfl hl.1 rfl (lv_room (Nat.le_of_ble_eq_true rfl)) dX0_withImages_86 ⟨Nat.le_refl _, Nat.le_refl _⟩) hA hP hD hS (fun H locs hP hD hS => ?_)
          refine lv_isub hx hb dX0_withImages_89 ?_
          refine lv_istore (lv' := [(6, .int (((L.1 6)) - r3.1)), (0, .ref (a 14)), (1, .int (L.1 1)), (2, .int (L.1 2)), (3, .int (L.1 3)), (4, .int (L.1 4)), (5, .int (L.1 5)), (7, .int (L.1 7))]) hx hb dX0_withImages_90 hl (by decide) rfl (fun ls hl => ?_)
          refine lv_iinc (v := ((L.1 7)) + 1) (lv' := [(7, .int (((L.1 7)) + 1)), (6, .int (((L.1 6)) - r3.1)), (0, .ref (a 14)), (1, .int (L.1 1)), (2, .int (L.1 2)), (3, .int (L.1 3)), (4, .int (L.1 4)), (5, .int (L.1 5))]) hx hb dX0_withImages_92 hl (k := 7) rfl rfl (by decide) rfl (fun ls hl => ?_)
          refine lv_goto (tgt := 63) hx hb dX0_withImages_95 (by decide) ?_
          exact ih.2.1 (lI (lI L 6 ((((L.1 6)) - r3.1))) 7 ((((L.1 7)) + 1))) r3.2 r h H locs ls hP hD hS (lv_sub hl [2, 3, 4, 5, 6, 7, 1, 0] rfl)
      · intro L σ r h H locs ls hP hD hS hl
        rw [y_X0_withImages] at h
        refine lv_iload hx hb dX0_withImages_98 (lv_at hl 6 rfl) ?_
        refine lv_sipush (v := 1000) hx hb dX0_withImages_100 (by decide) ?_
        refine lv_icmp_le (tgt := 109) hx hb dX0_withImages_103 (by decide) (fun c1 => ?_) (fun c1 => ?_)
        · rw [if_pos c1] at h
          exact ih.2.2.2.1 L σ r h H locs ls hP hD hS (lv_sub hl [0, 1, 2, 3, 4, 5] rfl)
        · rw [if_neg c1] at h
          refine lv_ldc (v := (-268435451)) hx hb hown (hts _ (List.mem_cons_of_mem _ (List.mem_append_left _ (List.mem_append_left _ (List.mem_of_getElem? (i := 18) rfl))))) dX0_withImages_106 ?_
          obtain rfl := Option.some.inj h
          exact W.iret (v := (-268435451)) hx hb hr (fun t ht hW => ⟨⟨(-268435451), (), rfl, rfl, by rw [ht]; exact hP, va_K.moved hW.alike hK, hD⟩, hS.F ht⟩) hS.2.2 dX0_withImages_108
      · intro L σ r h H locs ls hP hD hS hl
        rw [y_X0_withImages] at h
        refine lv_aload_n hx hb dX0_withImages_109 rfl (lv_at hl 0 rfl) ?_
        refine lv_iload_n hx hb dX0_withImages_110 rfl (lv_at hl 1 rfl) ?_
        refine lv_iconst (v := 0) hx hb dX0_withImages_111 (by decide) ?_
        refine lv_iload hx hb dX0_withImages_112 (lv_at hl 4 rfl) ?_
        refine lv_iconst (v := 0) hx hb dX0_withImages_114 (by decide) ?_
        obtain ⟨r1, hc1, h⟩ := oc_ex h
        refine kc_i (va_runV (As := [.int (L.1 1), .int 0, .int (L.1 4), .int 0]) (rest := []) ⟨hx, hb, hml, hown, hts⟩ (c_y_X0_load l dC dI cy a z k (lI (lI (lI (lI lZ 1 ((L.1 1))) 2 0) 3 ((L.1 4))) 4 0) σ r1 hc1 H.size) (cwV 4 hts g_y_X0_withImages_X0_load_V103 rfl rfl rfl hd_y_X0_load ⟨Nat.le_of_ble_eq_true rfl, Nat.le_of_ble_eq_true rfl⟩) ⟨nb_blind, va_recv hK hP (ci := 0) (q0 := 14) rfl rfl, (kb_pre hK hG hP hD)⟩ rfl rfl hl.1 rfl (lv_room (Nat.le_of_ble_eq_true rfl)) dX0_withImages_115 ⟨Nat.le_refl _, Nat.le_refl _⟩) hA hP hD hS (fun H locs hP hD hS => ?_)
        refine lv_istore (lv' := [(7, .int r1.1), (0, .ref (a 14)), (1, .int (L.1 1)), (2, .int (L.1 2)), (3, .int (L.1 3)), (4, .int (L.1 4)), (5, .int (L.1 5))]) hx hb dX0_withImages_118 hl (by decide) rfl (fun ls hl => ?_)
        refine lv_iconst (v := 0) hx hb dX0_withImages_120 (by decide) ?_
        refine lv_istore (lv' := [(8, .int 0), (7, .int r1.1), (0, .ref (a 14)), (1, .int (L.1 1)), (2, .int (L.1 2)), (3, .int (L.1 3)), (4, .int (L.1 4)), (5, .int (L.1 5))]) hx hb dX0_withImages_121 hl (by decide) rfl (fun ls hl => ?_)
        exact ih.2.2.2.2.1 (lI (lI L 7 r1.1) 8 0) r1.2 r h H locs ls hP hD hS (lv_sub hl [2, 3, 4, 5, 7, 1, 0] rfl)
      · intro L σ r h H locs ls hP hD hS hl
        rw [y_X0_withImages] at h
        refine lv_iload hx hb dX0_withImages_123 (lv_at hl 6 rfl) ?_
        refine lv_aload_n hx hb dX0_withImages_125 rfl (lv_at hl 0 rfl) ?_
        refine hg_14_0 hx hb hts in_y_X0_withImages_X0 hown hK hP (hts _ (List.mem_cons_of_mem _ (List.mem_append_left _ (List.mem_append_left _ (List.mem_of_getElem? (i := 7) rfl))))) dX0_withImages_126 ?_
        refine lv_iload_n hx hb dX0_withImages_129 rfl (lv_at hl 3 rfl) ?_
        obtain ⟨r1, hc1, h⟩ := oc_ex h
        refine kc_i (va_runV (As := [.int (L.1 3)]) (rest := [.int (L.1 8)]) ⟨hx, hb, hml, hown, hts⟩ (c_y_X1_length l dC dI cy a z k (lI lZ 1 ((L.1 3))) σ r1 hc1 H.size) (cwV 1 hts g_y_X0_withImages_X1_length_V100 rfl rfl rfl hd_y_X1_length ⟨Nat.le_of_ble_eq_true rfl, Nat.le_of_ble_eq_true rfl⟩) ⟨nb_blind, va_recv hK hP (ci := 1) (q0 := 0) rfl rfl, (kb_pre hK hG hP hD)⟩ rfl rfl hl.1 rfl (lv_room (Nat.le_of_ble_eq_true rfl)) dX0_withImages_130 ⟨Nat.le_refl _, Nat.le_refl _⟩) hA hP hD hS (fun H locs hP hD hS => ?_)
        refine lv_icmp_ge (tgt := 198) hx hb dX0_withImages_133 (by decide) (fun c2 => ?_) (fun c2 => ?_)
        · rw [if_pos c2] at h
          exact ih.2.2.2.2.2.1 L r1.2 r h H locs ls hP hD hS (lv_sub hl [0, 1, 4, 5] rfl)
        · rw [if_neg c2] at h
          refine lv_iload hx hb dX0_withImages_136 (lv_at hl 5 rfl) ?_
          refine lv_aload_n hx hb dX0_withImages_138 rfl (lv_at hl 0 rfl) ?_
          refine hg_14_4 hx hb hts in_y_X0_withImages_X0 hown hK hP (hts _ (List.mem_cons_of_mem _ (List.mem_append_left _ (List.mem_append_left _ (List.mem_of_getElem? (i := 22) rfl))))) dX0_withImages_139 ?_
          refine hn_16 hx hb hK hP dX0_withImages_142 ?_
          refine lv_icmp_ge (tgt := 198) hx hb dX0_withImages_143 (by decide) (fun c3 => ?_) (fun c3 => ?_)
          · rw [if_pos c3] at h
            exact ih.2.2.2.2.2.1 L r1.2 r h H locs ls hP hD hS (lv_sub hl [0, 1, 4, 5] rfl)
          · rw [if_neg c3] at h
            refine lv_aload_n hx hb dX0_withImages_146 rfl (lv_at hl 0 rfl) ?_
            refine hg_14_4 hx hb hts in_y_X0_withImages_X0 hown hK hP (hts _ (List.mem_cons_of_mem _ (List.mem_append_left _ (List.mem_append_left _ (List.mem_of_getElem? (i := 22) rfl))))) dX0_withImages_147 ?_
            refine lv_iload hx hb dX0_withImages_150 (lv_at hl 5 rfl) ?_
            refine lv_aload_n hx hb dX0_withImages_152 rfl (lv_at hl 0 rfl) ?_
            refine lv_iload_n hx hb dX0_withImages_153 rfl (lv_at hl 2 rfl) ?_
            refine lv_aload_n hx hb dX0_withImages_154 rfl (lv_at hl 0 rfl) ?_
            refine hg_14_0 hx hb hts in_y_X0_withImages_X0 hown hK hP (hts _ (List.mem_cons_of_mem _ (List.mem_append_left _ (List.mem_append_left _ (List.mem_of_getElem? (i := 7) rfl))))) dX0_withImages_155 ?_
            refine lv_iload_n hx hb dX0_withImages_158 rfl (lv_at hl 3 rfl) ?_
            refine lv_iload hx hb dX0_withImages_159 (lv_at hl 6 rfl) ?_
            obtain ⟨r4, hc4, h⟩ := oc_ex h
            refine kc_i (va_runV (As := [.int (L.1 3), .int (L.1 8)]) (rest := [.int (L.1 2), .ref (a 14), .int (L.1 7), .ref (a 16)]) ⟨hx, hb, hml, hown, hts⟩ (c_y_X1_member l dC dI cy a z k (lI (lI lZ 1 ((L.1 3))) 2 ((L.1 8))) r1.2 r4 hc4 H.size) (cwV 2 hts g_y_X0_withImages_X1_member_V154 rfl rfl rfl hd_y_X1_member ⟨Nat.le_of_ble_eq_true rfl, Nat.le_of_ble_eq_true rfl⟩) ⟨nb_blind, va_recv hK hP (ci := 1) (q0 := 0) rfl rfl, (kb_pre hK hG hP hD)⟩ rfl rfl hl.1 rfl (lv_room (Nat.le_of_ble_eq_true rfl)) dX0_withImages_161 ⟨Nat.le_refl _, Nat.le_refl _⟩) hA hP hD hS (fun H locs hP hD hS => ?_)
            obtain ⟨r5, hc5, h⟩ := oc_ex h
            refine kc_i (va_runV (As := [.int (L.1 2), .int r4.1]) (rest := [.int (L.1 7), .ref (a 16)]) ⟨hx, hb, hml, hown, hts⟩ (c_y_X0_pair l dC dI cy a z k (lI (lI lZ 1 ((L.1 2))) 2 r4.1) r4.2 r5 hc5 H.size) (cwV 2 hts g_y_X0_withImages_X0_pair_V291 rfl rfl rfl hd_y_X0_pair ⟨Nat.le_of_ble_eq_true rfl, Nat.le_of_ble_eq_true rfl⟩) ⟨nb_blind, va_recv hK hP (ci := 0) (q0 := 14) rfl rfl, (kb_pre hK hG hP hD)⟩ rfl rfl hl.1 rfl (lv_room (Nat.le_of_ble_eq_true rfl)) dX0_withImages_164 ⟨Nat.le_refl _, Nat.le_refl _⟩) hA hP hD hS (fun H locs hP hD hS => ?_)
            obtain ⟨q6, h⟩ := kb_ite1 h
            refine hs_16 hx hb hK hP hD hS q6 dX0_withImages_167 (fun H locs hP hD hS => ?_)
            refine lv_aload_n hx hb dX0_withImages_168 rfl (lv_at hl 0 rfl) ?_
            refine hg_14_4 hx hb hts in_y_X0_withImages_X0 hown hK hP (hts _ (List.mem_cons_of_mem _ (List.mem_append_left _ (List.mem_append_left _ (List.mem_of_getElem? (i := 22) rfl))))) dX0_withImages_169 ?_
            refine lv_iload hx hb dX0_withImages_172 (lv_at hl 5 rfl) ?_
            obtain ⟨q7, h⟩ := kb_ite1 h
            refine hl_16 hx hb hK hP q7 dX0_withImages_174 ?_
            obtain ⟨r8, hc8, h⟩ := oc_ex h
            refine kc_i (va_runSN (As := [.int ((uA r5.2 16 ((L.1 7)).toNatClampNeg r5.1).2.2.1 16 ((L.1 7)).toNatClampNeg)]) (rest := []) ⟨hx, hb, hml, hown, hts⟩ (c_y_X11_isError l dC dI cy a z k (lI lZ 0 (((uA r5.2 16 ((L.1 7)).toNatClampNeg r5.1).2.2.1 16 ((L.1 7)).toNatClampNeg))) (uA r5.2 16 ((L.1 7)).toNatClampNeg r5.1) r8 hc8 H.size) ⟨va_cnB 1 hts g_y_X0_withImages_X11_isError_SN72 rfl rfl rfl (hG.1 _ (List.mem_of_getElem? (i := 105) rfl)) (hts _ (List.mem_cons_of_mem _ (List.mem_append_left _ (List.mem_append_left _ (List.mem_of_getElem? (i := 26) rfl))))) hd_y_X11_isError ⟨Nat.le_of_ble_eq_true rfl, Nat.le_of_ble_eq_true rfl⟩, (hts _ (List.mem_cons_of_mem _ (List.mem_append_left _ (List.mem_append_left _ (List.mem_of_getElem? (i := 27) rfl))))), trivial⟩ ⟨nb_blind, (kb_pre hK hG hP hD)⟩ rfl rfl hl.1 rfl (lv_room (Nat.le_of_ble_eq_true rfl)) dX0_withImages_175 ⟨Nat.le_refl _, Nat.le_refl _⟩) hA hP hD hS (fun H locs hP hD hS => ?_)
            refine lv_if_eq (tgt := 189) hx hb dX0_withImages_178 (by decide) (fun c9 => ?_) (fun c9 => ?_)
            · rw [if_pos c9] at h
              exact ih.2.2.2.2.2.2 L r8.2 r h H locs ls hP hD hS (lv_sub hl [0, 1, 2, 3, 4, 5, 6] rfl)
            · rw [if_neg c9] at h
              refine lv_aload_n hx hb dX0_withImages_181 rfl (lv_at hl 0 rfl) ?_
              refine hg_14_4 hx hb hts in_y_X0_withImages_X0 hown hK hP (hts _ (List.mem_cons_of_mem _ (List.mem_append_left _ (List.mem_append_left _ (List.mem_of_getElem? (i := 22) rfl))))) dX0_withImages_182 ?_
              refine lv_iload hx hb dX0_withImages_185 (lv_at hl 5 rfl) ?_
              obtain ⟨q10, h⟩ := kb_ite1 h
              refine hl_16 hx hb hK hP q10 dX0_withImages_187 ?_
              obtain rfl := Option.some.inj h
              exact W.iret (v := (r8.2.2.2.1 16 ((L.1 7)).toNatClampNeg)) hx hb hr (fun t ht hW => ⟨⟨(r8.2.2.2.1 16 ((L.1 7)).toNatClampNeg), (), rfl, rfl, by rw [ht]; exact hP, va_K.moved hW.alike hK, hD⟩, hS.F ht⟩) hS.2.2 dX0_withImages_188
      · intro L σ r h H locs ls hP hD hS hl
        rw [y_X0_withImages] at h
        refine lv_aload_n hx hb dX0_withImages_198 rfl (lv_at hl 0 rfl) ?_
        refine lv_iload_n hx hb dX0_withImages_199 rfl (lv_at hl 1 rfl) ?_
        refine lv_iload hx hb dX0_withImages_200 (lv_at hl 2 rfl) ?_
        refine lv_aload_n hx hb dX0_withImages_202 rfl (lv_at hl 0 rfl) ?_
        refine hg_14_0 hx hb hts in_y_X0_withImages_X0 hown hK hP (hts _ (List.mem_cons_of_mem _ (List.mem_append_left _ (List.mem_append_left _ (List.mem_of_getElem? (i := 7) rfl))))) dX0_withImages_203 ?_
        refine lv_iload_n hx hb dX0_withImages_206 rfl (lv_at hl 1 rfl) ?_
        obtain ⟨r1, hc1, h⟩ := oc_ex h
        refine kc_i (va_runV (As := [.int (L.1 1)]) (rest := [.int (L.1 5), .int (L.1 1), .ref (a 14)]) ⟨hx, hb, hml, hown, hts⟩ (c_y_X1_length l dC dI cy a z k (lI lZ 1 ((L.1 1))) σ r1 hc1 H.size) (cwV 1 hts g_y_X0_withImages_X1_length_V100 rfl rfl rfl hd_y_X1_length ⟨Nat.le_of_ble_eq_true rfl, Nat.le_of_ble_eq_true rfl⟩) ⟨nb_blind, va_recv hK hP (ci := 1) (q0 := 0) rfl rfl, (kb_pre hK hG hP hD)⟩ rfl rfl hl.1 rfl (lv_room (Nat.le_of_ble_eq_true rfl)) dX0_withImages_207 ⟨Nat.le_refl _, Nat.le_refl _⟩) hA hP hD hS (fun H locs hP hD hS => ?_)
        refine lv_iload hx hb dX0_withImages_210 (lv_at hl 3 rfl) ?_
        obtain ⟨r2, hc2, h⟩ := oc_ex h
        refine kc_i (va_runV (As := [.int (L.1 1), .int (L.1 5), .int r1.1, .int (L.1 7)]) (rest := []) ⟨hx, hb, hml, hown, hts⟩ (c_y_X0_load l dC dI cy a z k (lI (lI (lI (lI lZ 1 ((L.1 1))) 2 ((L.1 5))) 3 r1.1) 4 ((L.1 7))) r1.2 r2 hc2 H.size) (cwV 4 hts g_y_X0_withImages_X0_load_V103 rfl rfl rfl hd_y_X0_load ⟨Nat.le_of_ble_eq_true rfl, Nat.le_of_ble_eq_true rfl⟩) ⟨nb_blind, va_recv hK hP (ci := 0) (q0 := 14) rfl rfl, (kb_pre hK hG hP hD)⟩ rfl rfl hl.1 rfl (lv_room (Nat.le_of_ble_eq_true rfl)) dX0_withImages_212 ⟨Nat.le_refl _, Nat.le_refl _⟩) hA hP hD hS (fun H locs hP hD hS => ?_)
        refine lv_istore (lv' := [(7, .int r2.1), (0, .ref (a 14)), (1, .int (L.1 1)), (5, .int (L.1 5))]) hx hb dX0_withImages_215 hl (by decide) rfl (fun ls hl => ?_)
        refine lv_aload_n hx hb dX0_withImages_217 rfl (lv_at hl 1 rfl) ?_
        refine hg_14_0 hx hb hts in_y_X0_withImages_X0 hown hK hP (hts _ (List.mem_cons_of_mem _ (List.mem_append_left _ (List.mem_append_left _ (List.mem_of_getElem? (i := 7) rfl))))) dX0_withImages_218 ?_
        refine lv_bipush (v := 6) hx hb dX0_withImages_221 (by decide) ?_
        refine lv_aload_n hx hb dX0_withImages_223 rfl (lv_at hl 1 rfl) ?_
        refine hg_14_4 hx hb hts in_y_X0_withImages_X0 hown hK hP (hts _ (List.mem_cons_of_mem _ (List.mem_append_left _ (List.mem_append_left _ (List.mem_of_getElem? (i := 22) rfl))))) dX0_withImages_224 ?_
        refine lv_iconst (v := 0) hx hb dX0_withImages_227 (by decide) ?_
        refine lv_iload hx hb dX0_withImages_228 (lv_at hl 0 rfl) ?_
        obtain ⟨r3, hc3, h⟩ := oc_ex h
        refine kc_i (va_runV (As := [.int 6, .ref (a 16), .int 0, .int r2.1]) (rest := []) ⟨hx, hb, hml, hown, hts⟩ (c_y_X1_makeRow__a16 l dC dI cy a z k (lI (lI (lI lZ 1 6) 3 0) 4 r2.1) r2.2 r3 hc3 H.size) (cwV 4 hts g_y_X0_withImages_X1_makeRow__a16_V160 rfl rfl rfl hd_y_X1_makeRow__a16 ⟨Nat.le_of_ble_eq_true rfl, Nat.le_of_ble_eq_true rfl⟩) ⟨nb_blind, va_recv hK hP (ci := 1) (q0 := 0) rfl rfl, (kb_pre hK hG hP hD)⟩ rfl rfl hl.1 rfl (lv_room (Nat.le_of_ble_eq_true rfl)) dX0_withImages_230 ⟨Nat.le_refl _, Nat.le_refl _⟩) hA hP hD hS (fun H locs hP hD hS => ?_)
        obtain rfl := Option.some.inj h
        exact W.iret (v := r3.1) hx hb hr (fun t ht hW => ⟨⟨r3.1, (), rfl, rfl, by rw [ht]; exact hP, va_K.moved hW.alike hK, hD⟩, hS.F ht⟩) hS.2.2 dX0_withImages_233
      · intro L σ r h H locs ls hP hD hS hl
        rw [y_X0_withImages] at h
        refine lv_iinc (v := ((L.1 7)) + 1) (lv' := [(7, .int (((L.1 7)) + 1)), (0, .ref (a 14)), (1, .int (L.1 1)), (2, .int (L.1 2)), (3, .int (L.1 3)), (5, .int (L.1 5)), (8, .int (L.1 8))]) hx hb dX0_withImages_189 hl (k := 5) rfl rfl (by decide) rfl (fun ls hl => ?_)
        refine lv_iinc (v := ((L.1 8)) + 1) (lv' := [(8, .int (((L.1 8)) + 1)), (7, .int (((L.1 7)) + 1)), (0, .ref (a 14)), (1, .int (L.1 1)), (2, .int (L.1 2)), (3, .int (L.1 3)), (5, .int (L.1 5))]) hx hb dX0_withImages_192 hl (k := 6) rfl rfl (by decide) rfl (fun ls hl => ?_)
        refine lv_goto (tgt := 123) hx hb dX0_withImages_195 (by decide) ?_
        exact ih.2.2.2.2.1 (lI (lI L 7 ((((L.1 7)) + 1))) 8 ((((L.1 8)) + 1))) σ r h H locs ls hP hD hS (lv_sub hl [2, 3, 4, 5, 6, 1, 0] rfl)
  exact (blk k0).1 L0 σ0 r0 h0 s.heap [] ls hP hD hS hl

/-! X3_goOver__z20 -/
def y_X3_goOver__z20 : Nat → Nat → LV → CS → Option (Int32 × CS)
  | 0, _, _, _ => none
  | k + 1, 0, L, σ => oc (y_X3_pop k 0 lZ σ) (fun r1 => oc (y_X1_kind k 0 (lI lZ 1 r1.1) r1.2) (fun r2 => if 4 ≤ r2.1 then (y_X3_goOver__z20 k 1 (lI L 4 r1.1) r2.2) else (oc (y_X3_fail k 0 (lI lZ 1 1) r2.2) (fun r4 => some (0, r4.2)))))
  | k + 1, 1, L, σ => if ((L.1 3)) = 0 then (y_X3_goOver__z20 k 2 L σ) else (oc (y_X1_size k 0 (lI lZ 1 ((L.1 4))) σ) (fun r2 => if ((((((r2.2.1 1909)) + r2.1)) + ((r2.2.1 1911)))) ≤ 40000 then (y_X3_goOver__z20 k 3 (lI L 5 r2.1) r2.2) else (oc (y_X3_fail k 0 (lI lZ 1 6) r2.2) (fun r4 => some (0, r4.2)))))
  | k + 1, 2, L, σ => if ¬ (((L.1 2)) < 0 ∨ (sN σ 20) ≤ ((L.1 2)).toNatClampNeg) then (oc (y_X11_raw k 0 (lI lZ 0 0) (uA σ 20 ((L.1 2)).toNatClampNeg ((L.1 4)))) (fun r2 => if ¬ (((((L.1 2)) + 1)) < 0 ∨ (sN r2.2 20) ≤ ((((L.1 2)) + 1)).toNatClampNeg) then (y_X3_goOver__z20 k 4 L (uA r2.2 20 ((((L.1 2)) + 1)).toNatClampNeg r2.1)) else none)) else none
  | k + 1, 3, L, σ => y_X3_goOver__z20 k 2 L (uI (uI σ 1909 ((((σ.1 1909)) + ((L.1 5))))) 1910 (((((uI σ 1909 ((((σ.1 1909)) + ((L.1 5))))).1 1910)) + ((L.1 5)))))
  | k + 1, 4, L, σ => some (0, σ)
  | _ + 1, _ + 5, _, _ => none
def o_y_X3_goOver__z20 : List Cond := [.methodLink RX3 339 yX3_pop, .instanceMethod yX3_pop, .selects RX3 yX3_pop yX3_pop, .initialized RX3, .fieldLink RX3 39 "SetHouse$Machine" "heap" "LSetHouse$Heap;", .methodLink RX3 396 yX1_kind, .instanceMethod yX1_kind, .selects RX1 yX1_kind yX1_kind, .initialized RX1, .methodLink RX3 313 yX3_fail, .instanceMethod yX3_fail, .selects RX3 yX3_fail yX3_fail, .methodLink RX3 316 yX1_size, .instanceMethod yX1_size, .selects RX1 yX1_size yX1_size, .fieldLink RX3 14 "SetHouse$Machine" "run" "LSetHouse$Run;", .constant RX3 394 (40000), .initialized RX11, .static yX11_raw]
theorem o_y_X3_goOver__z20_good : o_y_X3_goOver__z20.all goodWord = true := by decide +kernel
def p_y_X3_goOver__z20 : List Cond := o_y_X3_goOver__z20 ++ ((.code yX3_pop cX3_pop 1 (some .int) :: p_y_X3_pop) ++ ((.code yX1_kind cX1_kind 2 (some .int) :: p_y_X1_kind) ++ ((.code yX3_fail cX3_fail 2 none :: p_y_X3_fail) ++ ((.code yX1_size cX1_size 3 (some .int) :: p_y_X1_size) ++ ((.code yX11_raw cX11_raw 1 (some .int) :: p_y_X11_raw) ++ [])))))
theorem p_y_X3_goOver__z20_good : p_y_X3_goOver__z20.all goodWord = true := nb_all2 o_y_X3_goOver__z20_good (nb_all2 (nb_allc (by decide +kernel) p_y_X3_pop_good) (nb_all2 (nb_allc (by decide +kernel) p_y_X1_kind_good) (nb_all2 (nb_allc (by decide +kernel) p_y_X3_fail_good) (nb_all2 (nb_allc (by decide +kernel) p_y_X1_size_good) (nb_all2 (nb_allc (by decide +kernel) p_y_X11_raw_good) rfl)))))
def w_y_X3_goOver__z20 : List Cond := .code yX3_goOver cX3_goOver 6 none :: (p_y_X3_goOver__z20 ++ fC)
theorem w_y_X3_goOver__z20_good : w_y_X3_goOver__z20.all goodWord = true := nb_allc (by decide +kernel) (nb_all2 p_y_X3_goOver__z20_good fC_good)
theorem in_y_X3_goOver__z20_X3 : ∀ w ∈ wsX30, w ∈ w_y_X3_goOver__z20 := fun _ h => List.mem_cons_of_mem _ (List.mem_append_right _ (List.mem_append_right _ (List.mem_append_right _ (List.mem_append_right _ (List.mem_append_left _ h)))))
theorem in_y_X3_goOver__z20_X8 : ∀ w ∈ wsX80, w ∈ w_y_X3_goOver__z20 := fun _ h => List.mem_cons_of_mem _ (List.mem_append_right _ (List.mem_append_right _ (List.mem_append_right _ (List.mem_append_right _ (List.mem_append_right _ (List.mem_append_right _ (List.mem_append_right _ (List.mem_append_right _ (List.mem_append_left _ h)))))))))
theorem hd_y_X3_goOver__z20 : yX3_goOver.cls = RX3 ∧ yX3_goOver.cls ≠ "java/lang/invoke/MethodHandle" ∧ yX3_goOver.cls ≠ "java/lang/invoke/VarHandle" ∧ (parseMethodDescriptor yX3_goOver.desc).map (fun d => d.parameters.length) = some 3 := by decide +kernel
theorem gg_y_X3_goOver__z20_X11_raw : GoodIn w_y_X3_goOver__z20 w_y_X11_raw := goodIn_sub (fun w h => (List.mem_cons.mp h).elim (fun e => (List.mem_cons_of_mem _ (List.mem_append_left _ (List.mem_append_right _ (List.mem_append_right _ (List.mem_append_right _ (List.mem_append_right _ (List.mem_append_right _ (List.mem_append_left _ (List.mem_cons.mpr (Or.inl e))))))))))) (fun h => (List.mem_append.mp h).elim (fun h => (List.mem_cons_of_mem _ (List.mem_append_left _ (List.mem_append_right _ (List.mem_append_right _ (List.mem_append_right _ (List.mem_append_right _ (List.mem_append_right _ (List.mem_append_left _ (List.mem_cons_of_mem _ h)))))))))) (fun h => List.mem_cons_of_mem _ (List.mem_append_right _ h)))) w_y_X11_raw_good
theorem g_y_X3_goOver__z20_X11_raw_SN182 : GoodIn w_y_X3_goOver__z20 w_y_X11_raw := gg_y_X3_goOver__z20_X11_raw
theorem gg_y_X3_goOver__z20_X1_kind : GoodIn w_y_X3_goOver__z20 w_y_X1_kind := goodIn_sub (fun w h => (List.mem_cons.mp h).elim (fun e => (List.mem_cons_of_mem _ (List.mem_append_left _ (List.mem_append_right _ (List.mem_append_right _ (List.mem_append_left _ (List.mem_cons.mpr (Or.inl e)))))))) (fun h => (List.mem_append.mp h).elim (fun h => (List.mem_cons_of_mem _ (List.mem_append_left _ (List.mem_append_right _ (List.mem_append_right _ (List.mem_append_left _ (List.mem_cons_of_mem _ h))))))) (fun h => List.mem_cons_of_mem _ (List.mem_append_right _ h)))) w_y_X1_kind_good
theorem g_y_X3_goOver__z20_X1_kind_V396 : GoodIn w_y_X3_goOver__z20 (wsV RX3 396 RX1 yX1_kind w_y_X1_kind) := goodIn_app (nb_g4 (List.mem_cons_of_mem _ (List.mem_append_left _ (List.mem_append_left _ (List.mem_of_getElem? (i := 5) rfl)))) (List.mem_cons_of_mem _ (List.mem_append_left _ (List.mem_append_left _ (List.mem_of_getElem? (i := 6) rfl)))) (List.mem_cons_of_mem _ (List.mem_append_left _ (List.mem_append_left _ (List.mem_of_getElem? (i := 7) rfl)))) (List.mem_cons_of_mem _ (List.mem_append_left _ (List.mem_append_left _ (List.mem_of_getElem? (i := 8) rfl)))) (by decide +kernel)) gg_y_X3_goOver__z20_X1_kind
theorem gg_y_X3_goOver__z20_X1_size : GoodIn w_y_X3_goOver__z20 w_y_X1_size := goodIn_sub (fun w h => (List.mem_cons.mp h).elim (fun e => (List.mem_cons_of_mem _ (List.mem_append_left _ (List.mem_append_right _ (List.mem_append_right _ (List.mem_append_right _ (List.mem_append_right _ (List.mem_append_left _ (List.mem_cons.mpr (Or.inl e)))))))))) (fun h => (List.mem_append.mp h).elim (fun h => (List.mem_cons_of_mem _ (List.mem_append_left _ (List.mem_append_right _ (List.mem_append_right _ (List.mem_append_right _ (List.mem_append_right _ (List.mem_append_left _ (List.mem_cons_of_mem _ h))))))))) (fun h => List.mem_cons_of_mem _ (List.mem_append_right _ h)))) w_y_X1_size_good
theorem g_y_X3_goOver__z20_X1_size_V316 : GoodIn w_y_X3_goOver__z20 (wsV RX3 316 RX1 yX1_size w_y_X1_size) := goodIn_app (nb_g4 (List.mem_cons_of_mem _ (List.mem_append_left _ (List.mem_append_left _ (List.mem_of_getElem? (i := 12) rfl)))) (List.mem_cons_of_mem _ (List.mem_append_left _ (List.mem_append_left _ (List.mem_of_getElem? (i := 13) rfl)))) (List.mem_cons_of_mem _ (List.mem_append_left _ (List.mem_append_left _ (List.mem_of_getElem? (i := 14) rfl)))) (List.mem_cons_of_mem _ (List.mem_append_left _ (List.mem_append_left _ (List.mem_of_getElem? (i := 8) rfl)))) (by decide +kernel)) gg_y_X3_goOver__z20_X1_size
theorem gg_y_X3_goOver__z20_X3_fail : GoodIn w_y_X3_goOver__z20 w_y_X3_fail := goodIn_sub (fun w h => (List.mem_cons.mp h).elim (fun e => (List.mem_cons_of_mem _ (List.mem_append_left _ (List.mem_append_right _ (List.mem_append_right _ (List.mem_append_right _ (List.mem_append_left _ (List.mem_cons.mpr (Or.inl e))))))))) (fun h => (List.mem_append.mp h).elim (fun h => (List.mem_cons_of_mem _ (List.mem_append_left _ (List.mem_append_right _ (List.mem_append_right _ (List.mem_append_right _ (List.mem_append_left _ (List.mem_cons_of_mem _ h)))))))) (fun h => List.mem_cons_of_mem _ (List.mem_append_right _ h)))) w_y_X3_fail_good
theorem g_y_X3_goOver__z20_X3_fail_V313 : GoodIn w_y_X3_goOver__z20 (wsV RX3 313 RX3 yX3_fail w_y_X3_fail) := goodIn_app (nb_g4 (List.mem_cons_of_mem _ (List.mem_append_left _ (List.mem_append_left _ (List.mem_of_getElem? (i := 9) rfl)))) (List.mem_cons_of_mem _ (List.mem_append_left _ (List.mem_append_left _ (List.mem_of_getElem? (i := 10) rfl)))) (List.mem_cons_of_mem _ (List.mem_append_left _ (List.mem_append_left _ (List.mem_of_getElem? (i := 11) rfl)))) (List.mem_cons_of_mem _ (List.mem_append_left _ (List.mem_append_left _ (List.mem_of_getElem? (i := 3) rfl)))) (by decide +kernel)) gg_y_X3_goOver__z20_X3_fail
theorem gg_y_X3_goOver__z20_X3_pop : GoodIn w_y_X3_goOver__z20 w_y_X3_pop := goodIn_sub (fun w h => (List.mem_cons.mp h).elim (fun e => (List.mem_cons_of_mem _ (List.mem_append_left _ (List.mem_append_right _ (List.mem_append_left _ (List.mem_cons.mpr (Or.inl e))))))) (fun h => (List.mem_append.mp h).elim (fun h => (List.mem_cons_of_mem _ (List.mem_append_left _ (List.mem_append_right _ (List.mem_append_left _ (List.mem_cons_of_mem _ h)))))) (fun h => List.mem_cons_of_mem _ (List.mem_append_right _ h)))) w_y_X3_pop_good
theorem g_y_X3_goOver__z20_X3_pop_V339 : GoodIn w_y_X3_goOver__z20 (wsV RX3 339 RX3 yX3_pop w_y_X3_pop) := goodIn_app (nb_g4 (List.mem_cons_of_mem _ (List.mem_append_left _ (List.mem_append_left _ (List.mem_of_getElem? (i := 0) rfl)))) (List.mem_cons_of_mem _ (List.mem_append_left _ (List.mem_append_left _ (List.mem_of_getElem? (i := 1) rfl)))) (List.mem_cons_of_mem _ (List.mem_append_left _ (List.mem_append_left _ (List.mem_of_getElem? (i := 2) rfl)))) (List.mem_cons_of_mem _ (List.mem_append_left _ (List.mem_append_left _ (List.mem_of_getElem? (i := 3) rfl)))) (by decide +kernel)) gg_y_X3_goOver__z20_X3_pop
set_option maxHeartbeats 40000000 in
set_option maxRecDepth 100000 in
theorem c_y_X3_goOver__z20 (l : Launch) (dC : Nat → ClassId) (dI : Nat → Nat → Nat) (cy : Nat → ClassId) (a z : Nat → Nat) (k0 : Nat) (L0 : LV) (σ0 : CS) (r0 : Int32 × CS) (h0 : y_X3_goOver__z20 k0 0 L0 σ0 = some r0) (sz : Nat) : Met l yX3_goOver w_y_X3_goOver__z20 ({ frames := 1, cells := 0, slots := 0, locals := 22 }) (va_Pc [.ref (a 18), .ref (z 20), .int (L0.1 2), .int (L0.1 3)] (nIn (dC, dI) cy sz (vC cy a z σ0))) (va_Qv (fun _ : Unit => True) (fun _ t => nOut (dC, dI) cy (va_A (vC cy a z σ0) sz) (vC cy a z r0.2) t) (va_A (vC cy a z σ0) sz)) 0 0 (va_A (vC cy a z σ0) sz) := by
  refine Met.ofW (cc := cX3_goOver) (maxL := 6) (ret := none) (by decide) rfl ?_
  intro p e s m args below meth c s₁ B hml hv
  obtain ⟨rfl, hsz, hP, hK, hD0, hG⟩ := hv
  have hx := B.exec
  have hb := B.bytes
  have hr := B.returns
  have hts := atoms_spec (ws := w_y_X3_goOver__z20) B.pre
  have hown : s.vm.findClass RX3 = some m.cls := findClass_of_methodNamed B.named
  have hlocks := B.notSynchronized
  subst hsz
  have hD := hD0.self (sz := s.heap.size)
  generalize hAe : va_A (vC cy a z σ0) s.heap.size = A at hD ⊢
  have hA : ∀ q : Nat, s.heap.size ≤ q → A q := fun q h => by rw [← hAe]; exact Or.inr h
  have hS : va_S A s.heap s.heap [] := va_S.rf
  have hl := lv_entry ([.ref (a 18), .ref (z 20), .int (L0.1 2), .int (L0.1 3)]) (n := 6) (Nat.le_of_ble_eq_true rfl)
  rw [lg_entry_eq]
  generalize (lg_sl ([.ref (a 18), .ref (z 20), .int (L0.1 2), .int (L0.1 3)]) ++ List.replicate (6 - (lg_sl ([.ref (a 18), .ref (z 20), .int (L0.1 2), .int (L0.1 3)])).length) Slot.unset).toArray = ls at hl ⊢
  have hl : lv_has ls 6 [(0, .ref (a 18)), (1, .ref (z 20)), (2, .int (L0.1 2)), (3, .int (L0.1 3))] := hl
  have blk : ∀ k : Nat, (bC p l e (headSpec w_y_X3_goOver__z20 ({ frames := 1, cells := 0, slots := 0, locals := 22 })).room s m #[.ref (a 18), .ref (z 20), .int (L0.1 2), .int (L0.1 3)] below meth c dC dI cy a z A (kV dC dI cy a z A below #[.ref (a 18), .ref (z 20), .int (L0.1 2), .int (L0.1 3)] s) 6 (y_X3_goOver__z20 k 0) (fun L => [(0, .ref (a 18)), (1, .ref (z 20)), (2, .int (L.1 2)), (3, .int (L.1 3))]) 0 (fun L => [])) ∧ (bC p l e (headSpec w_y_X3_goOver__z20 ({ frames := 1, cells := 0, slots := 0, locals := 22 })).room s m #[.ref (a 18), .ref (z 20), .int (L0.1 2), .int (L0.1 3)] below meth c dC dI cy a z A (kV dC dI cy a z A below #[.ref (a 18), .ref (z 20), .int (L0.1 2), .int (L0.1 3)] s) 6 (y_X3_goOver__z20 k 1) (fun L => [(0, .ref (a 18)), (1, .ref (z 20)), (2, .int (L.1 2)), (3, .int (L.1 3)), (4, .int (L.1 4))]) 25 (fun L => [])) ∧ (bC p l e (headSpec w_y_X3_goOver__z20 ({ frames := 1, cells := 0, slots := 0, locals := 22 })).room s m #[.ref (a 18), .ref (z 20), .int (L0.1 2), .int (L0.1 3)] below meth c dC dI cy a z A (kV dC dI cy a z A below #[.ref (a 18), .ref (z 20), .int (L0.1 2), .int (L0.1 3)] s) 6 (y_X3_goOver__z20 k 2) (fun L => [(1, .ref (z 20)), (2, .int (L.1 2)), (4, .int (L.1 4))]) 105 (fun L => [])) ∧ (bC p l e (headSpec w_y_X3_goOver__z20 ({ frames := 1, cells := 0, slots := 0, locals := 22 })).room s m #[.ref (a 18), .ref (z 20), .int (L0.1 2), .int (L0.1 3)] below meth c dC dI cy a z A (kV dC dI cy a z A below #[.ref (a 18), .ref (z 20), .int (L0.1 2), .int (L0.1 3)] s) 6 (y_X3_goOver__z20 k 3) (fun L => [(0, .ref (a 18)), (1, .ref (z 20)), (2, .int (L.1 2)), (4, .int (L.1 4)), (5, .int (L.1 5))]) 71 (fun L => [])) ∧ (bC p l e (headSpec w_y_X3_goOver__z20 ({ frames := 1, cells := 0, slots := 0, locals := 22 })).room s m #[.ref (a 18), .ref (z 20), .int (L0.1 2), .int (L0.1 3)] below meth c dC dI cy a z A (kV dC dI cy a z A below #[.ref (a 18), .ref (z 20), .int (L0.1 2), .int (L0.1 3)] s) 6 (y_X3_goOver__z20 k 4) (fun L => []) 119 (fun L => [])) := by
    intro k
    induction k with
    | zero => exact ⟨fun L σ r h => (by cases h), fun L σ r h => (by cases h), fun L σ r h => (by cases h), fun L σ r h => (by cases h), fun L σ r h => (by cases h)⟩
    | succ k ih =>
      refine ⟨?_, ?_, ?_, ?_, ?_⟩
      · intro L σ r h H locs ls hP hD hS hl
        rw [y_X3_goOver__z20] at h
        refine lv_aload_n hx hb dX3_goOver_0 rfl (lv_at hl 0 rfl) ?_
        obtain ⟨r1, hc1, h⟩ := oc_ex h
        refine kc_i (va_runV (As := []) (rest := []) ⟨hx, hb, hml, hown, hts⟩ (c_y_X3_pop l dC dI cy a z k lZ σ r1 hc1 H.size) (cwV 0 hts g_y_X3_goOver__z20_X3_pop_V339 rfl rfl rfl hd_y_X3_pop ⟨Nat.le_of_ble_eq_true rfl, Nat.le_of_ble_eq_true rfl⟩) ⟨nb_blind, va_recv hK hP (ci := 3) (q0 := 18) rfl rfl, (kb_pre hK hG hP hD)⟩ rfl rfl hl.1 rfl (lv_room (Nat.le_of_ble_eq_true rfl)) dX3_goOver_1 ⟨Nat.le_refl _, Nat.le_refl _⟩) hA hP hD hS (fun H locs hP hD hS => ?_)
        refine lv_istore (lv' := [(4, .int r1.1), (0, .ref (a 18)), (1, .ref (z 20)), (2, .int (L.1 2)), (3, .int (L.1 3))]) hx hb dX3_goOver_4 hl (by decide) rfl (fun ls hl => ?_)
        refine lv_aload_n hx hb dX3_goOver_6 rfl (lv_at hl 1 rfl) ?_
        refine hg_18_0 hx hb hts in_y_X3_goOver__z20_X3 hown hK hP (hts _ (List.mem_cons_of_mem _ (List.mem_append_left _ (List.mem_append_left _ (List.mem_of_getElem? (i := 4) rfl))))) dX3_goOver_7 ?_
        refine lv_iload hx hb dX3_goOver_10 (lv_at hl 0 rfl) ?_
        obtain ⟨r2, hc2, h⟩ := oc_ex h
        refine kc_i (va_runV (As := [.int r1.1]) (rest := []) ⟨hx, hb, hml, hown, hts⟩ (c_y_X1_kind l dC dI cy a z k (lI lZ 1 r1.1) r1.2 r2 hc2 H.size) (cwV 1 hts g_y_X3_goOver__z20_X1_kind_V396 rfl rfl rfl hd_y_X1_kind ⟨Nat.le_of_ble_eq_true rfl, Nat.le_of_ble_eq_true rfl⟩) ⟨nb_blind, va_recv hK hP (ci := 1) (q0 := 0) rfl rfl, (kb_pre hK hG hP hD)⟩ rfl rfl hl.1 rfl (lv_room (Nat.le_of_ble_eq_true rfl)) dX3_goOver_12 ⟨Nat.le_refl _, Nat.le_refl _⟩) hA hP hD hS (fun H locs hP hD hS => ?_)
        refine lv_iconst (v := 4) hx hb dX3_goOver_15 (by decide) ?_
        refine lv_icmp_ge (tgt := 25) hx hb dX3_goOver_16 (by decide) (fun c3 => ?_) (fun c3 => ?_)
        · rw [if_pos c3] at h
          exact ih.2.1 (lI L 4 r1.1) r2.2 r h H locs ls hP hD hS (lv_sub hl [1, 2, 3, 4, 0] rfl)
        · rw [if_neg c3] at h
          refine lv_aload_n hx hb dX3_goOver_19 rfl (lv_at hl 1 rfl) ?_
          refine lv_iconst (v := 1) hx hb dX3_goOver_20 (by decide) ?_
          obtain ⟨r4, hc4, h⟩ := oc_ex h
          refine kc_v (va_runV (As := [.int 1]) (rest := []) ⟨hx, hb, hml, hown, hts⟩ (c_y_X3_fail l dC dI cy a z k (lI lZ 1 1) r2.2 r4 hc4 H.size) (cwV 1 hts g_y_X3_goOver__z20_X3_fail_V313 rfl rfl rfl hd_y_X3_fail ⟨Nat.le_of_ble_eq_true rfl, Nat.le_of_ble_eq_true rfl⟩) ⟨nb_blind, va_recv hK hP (ci := 3) (q0 := 18) rfl rfl, (kb_pre hK hG hP hD)⟩ rfl rfl hl.1 rfl (lv_room (Nat.le_of_ble_eq_true rfl)) dX3_goOver_21 ⟨Nat.le_refl _, Nat.le_refl _⟩) hA hP hD hS (fun H locs hP hD hS => ?_)
          obtain rfl := Option.some.inj h
          exact W.vret hx hb hr (fun t ht hW => ⟨⟨(), rfl, trivial, by rw [ht]; exact hP, va_K.moved hW.alike hK, hD⟩, hS.F ht⟩) hS.2.2 dX3_goOver_24
      · intro L σ r h H locs ls hP hD hS hl
        rw [y_X3_goOver__z20] at h
        refine lv_iload_n hx hb dX3_goOver_25 rfl (lv_at hl 3 rfl) ?_
        refine lv_if_eq (tgt := 105) hx hb dX3_goOver_26 (by decide) (fun c1 => ?_) (fun c1 => ?_)
        · rw [if_pos c1] at h
          exact ih.2.2.1 L σ r h H locs ls hP hD hS (lv_sub hl [1, 2, 4] rfl)
        · rw [if_neg c1] at h
          refine lv_aload_n hx hb dX3_goOver_29 rfl (lv_at hl 0 rfl) ?_
          refine hg_18_0 hx hb hts in_y_X3_goOver__z20_X3 hown hK hP (hts _ (List.mem_cons_of_mem _ (List.mem_append_left _ (List.mem_append_left _ (List.mem_of_getElem? (i := 4) rfl))))) dX3_goOver_30 ?_
          refine lv_iload hx hb dX3_goOver_33 (lv_at hl 4 rfl) ?_
          obtain ⟨r2, hc2, h⟩ := oc_ex h
          refine kc_i (va_runV (As := [.int (L.1 4)]) (rest := []) ⟨hx, hb, hml, hown, hts⟩ (c_y_X1_size l dC dI cy a z k (lI lZ 1 ((L.1 4))) σ r2 hc2 H.size) (cwV 1 hts g_y_X3_goOver__z20_X1_size_V316 rfl rfl rfl hd_y_X1_size ⟨Nat.le_of_ble_eq_true rfl, Nat.le_of_ble_eq_true rfl⟩) ⟨nb_blind, va_recv hK hP (ci := 1) (q0 := 0) rfl rfl, (kb_pre hK hG hP hD)⟩ rfl rfl hl.1 rfl (lv_room (Nat.le_of_ble_eq_true rfl)) dX3_goOver_35 ⟨Nat.le_refl _, Nat.le_refl _⟩) hA hP hD hS (fun H locs hP hD hS => ?_)
          refine lv_istore (lv' := [(5, .int r2.1), (0, .ref (a 18)), (1, .ref (z 20)), (2, .int (L.1 2)), (3, .int (L.1 3)), (4, .int (L.1 4))]) hx hb dX3_goOver_38 hl (by decide) rfl (fun ls hl => ?_)
          refine lv_aload_n hx hb dX3_goOver_40 rfl (lv_at hl 1 rfl) ?_
          refine hg_18_5 hx hb hts in_y_X3_goOver__z20_X3 hown hK hP (hts _ (List.mem_cons_of_mem _ (List.mem_append_left _ (List.mem_append_left _ (List.mem_of_getElem? (i := 15) rfl))))) dX3_goOver_41 ?_
          refine hg_19_9n hx hb hts in_y_X3_goOver__z20_X8 hown hK hP (va_Nw.use rfl (hG.1 _ (List.mem_of_getElem? (i := 25) rfl))) dX3_goOver_44 ?_
          refine lv_iload hx hb dX3_goOver_47 (lv_at hl 0 rfl) ?_
          refine lv_iadd hx hb dX3_goOver_49 ?_
          refine lv_aload_n hx hb dX3_goOver_50 rfl (lv_at hl 1 rfl) ?_
          refine hg_18_5 hx hb hts in_y_X3_goOver__z20_X3 hown hK hP (hts _ (List.mem_cons_of_mem _ (List.mem_append_left _ (List.mem_append_left _ (List.mem_of_getElem? (i := 15) rfl))))) dX3_goOver_51 ?_
          refine hg_19_11n hx hb hts in_y_X3_goOver__z20_X8 hown hK hP (va_Nw.use rfl (hG.1 _ (List.mem_of_getElem? (i := 29) rfl))) dX3_goOver_54 ?_
          refine lv_iadd hx hb dX3_goOver_57 ?_
          refine lv_ldcw (v := 40000) hx hb hown (hts _ (List.mem_cons_of_mem _ (List.mem_append_left _ (List.mem_append_left _ (List.mem_of_getElem? (i := 16) rfl))))) dX3_goOver_58 ?_
          refine lv_icmp_le (tgt := 71) hx hb dX3_goOver_61 (by decide) (fun c3 => ?_) (fun c3 => ?_)
          · rw [if_pos c3] at h
            exact ih.2.2.2.1 (lI L 5 r2.1) r2.2 r h H locs ls hP hD hS (lv_sub hl [1, 2, 3, 5, 0] rfl)
          · rw [if_neg c3] at h
            refine lv_aload_n hx hb dX3_goOver_64 rfl (lv_at hl 1 rfl) ?_
            refine lv_bipush (v := 6) hx hb dX3_goOver_65 (by decide) ?_
            obtain ⟨r4, hc4, h⟩ := oc_ex h
            refine kc_v (va_runV (As := [.int 6]) (rest := []) ⟨hx, hb, hml, hown, hts⟩ (c_y_X3_fail l dC dI cy a z k (lI lZ 1 6) r2.2 r4 hc4 H.size) (cwV 1 hts g_y_X3_goOver__z20_X3_fail_V313 rfl rfl rfl hd_y_X3_fail ⟨Nat.le_of_ble_eq_true rfl, Nat.le_of_ble_eq_true rfl⟩) ⟨nb_blind, va_recv hK hP (ci := 3) (q0 := 18) rfl rfl, (kb_pre hK hG hP hD)⟩ rfl rfl hl.1 rfl (lv_room (Nat.le_of_ble_eq_true rfl)) dX3_goOver_67 ⟨Nat.le_refl _, Nat.le_refl _⟩) hA hP hD hS (fun H locs hP hD hS => ?_)
            obtain rfl := Option.some.inj h
            exact W.vret hx hb hr (fun t ht hW => ⟨⟨(), rfl, trivial, by rw [ht]; exact hP, va_K.moved hW.alike hK, hD⟩, hS.F ht⟩) hS.2.2 dX3_goOver_70
      · intro L σ r h H locs ls hP hD hS hl
        rw [y_X3_goOver__z20] at h
        refine lv_aload_n hx hb dX3_goOver_105 rfl (lv_at hl 0 rfl) ?_
        refine lv_iload_n hx hb dX3_goOver_106 rfl (lv_at hl 1 rfl) ?_
        refine lv_iload hx hb dX3_goOver_107 (lv_at hl 2 rfl) ?_
        obtain ⟨q1, h⟩ := kb_ite1 h
        refine hs_20 hx hb hK hP hD hS q1 dX3_goOver_109 (fun H locs hP hD hS => ?_)
        refine lv_aload_n hx hb dX3_goOver_110 rfl (lv_at hl 0 rfl) ?_
        refine lv_iload_n hx hb dX3_goOver_111 rfl (lv_at hl 1 rfl) ?_
        refine lv_iconst (v := 1) hx hb dX3_goOver_112 (by decide) ?_
        refine lv_iadd hx hb dX3_goOver_113 ?_
        refine lv_iconst (v := 0) hx hb dX3_goOver_114 (by decide) ?_
        obtain ⟨r2, hc2, h⟩ := oc_ex h
        refine kc_i (va_runSN (As := [.int 0]) (rest := [.int (((L.1 2)) + 1), .ref (z 20)]) ⟨hx, hb, hml, hown, hts⟩ (c_y_X11_raw l dC dI cy a z k (lI lZ 0 0) (uA σ 20 ((L.1 2)).toNatClampNeg ((L.1 4))) r2 hc2 H.size) ⟨va_cnB 1 hts g_y_X3_goOver__z20_X11_raw_SN182 rfl rfl rfl (hG.1 _ (List.mem_of_getElem? (i := 103) rfl)) (hts _ (List.mem_cons_of_mem _ (List.mem_append_left _ (List.mem_append_left _ (List.mem_of_getElem? (i := 17) rfl))))) hd_y_X11_raw ⟨Nat.le_of_ble_eq_true rfl, Nat.le_of_ble_eq_true rfl⟩, (hts _ (List.mem_cons_of_mem _ (List.mem_append_left _ (List.mem_append_left _ (List.mem_of_getElem? (i := 18) rfl))))), trivial⟩ ⟨nb_blind, (kb_pre hK hG hP hD)⟩ rfl rfl hl.1 rfl (lv_room (Nat.le_of_ble_eq_true rfl)) dX3_goOver_115 ⟨Nat.le_refl _, Nat.le_refl _⟩) hA hP hD hS (fun H locs hP hD hS => ?_)
        obtain ⟨q3, h⟩ := kb_ite1 h
        refine hs_20 hx hb hK hP hD hS q3 dX3_goOver_118 (fun H locs hP hD hS => ?_)
        exact ih.2.2.2.2 L (uA r2.2 20 ((((L.1 2)) + 1)).toNatClampNeg r2.1) r h H locs ls hP hD hS (lv_sub hl [] rfl)
      · intro L σ r h H locs ls hP hD hS hl
        rw [y_X3_goOver__z20] at h
        refine lv_aload_n hx hb dX3_goOver_71 rfl (lv_at hl 0 rfl) ?_
        refine hg_18_5 hx hb hts in_y_X3_goOver__z20_X3 hown hK hP (hts _ (List.mem_cons_of_mem _ (List.mem_append_left _ (List.mem_append_left _ (List.mem_of_getElem? (i := 15) rfl))))) dX3_goOver_72 ?_
        refine lv_aload_n hx hb dX3_goOver_75 rfl (lv_at hl 0 rfl) ?_
        refine hg_18_5 hx hb hts in_y_X3_goOver__z20_X3 hown hK hP (hts _ (List.mem_cons_of_mem _ (List.mem_append_left _ (List.mem_append_left _ (List.mem_of_getElem? (i := 15) rfl))))) dX3_goOver_76 ?_
        refine hg_19_9n hx hb hts in_y_X3_goOver__z20_X8 hown hK hP (va_Nw.use rfl (hG.1 _ (List.mem_of_getElem? (i := 25) rfl))) dX3_goOver_79 ?_
        refine lv_iload hx hb dX3_goOver_82 (lv_at hl 4 rfl) ?_
        refine lv_iadd hx hb dX3_goOver_84 ?_
        refine hp_19_9n hx hb hts in_y_X3_goOver__z20_X8 hown hK hP hD hS (va_Nw.use rfl (hG.1 _ (List.mem_of_getElem? (i := 25) rfl))) dX3_goOver_85 (fun H locs hP hD hS => ?_)
        refine lv_aload_n hx hb dX3_goOver_88 rfl (lv_at hl 0 rfl) ?_
        refine hg_18_5 hx hb hts in_y_X3_goOver__z20_X3 hown hK hP (hts _ (List.mem_cons_of_mem _ (List.mem_append_left _ (List.mem_append_left _ (List.mem_of_getElem? (i := 15) rfl))))) dX3_goOver_89 ?_
        refine lv_aload_n hx hb dX3_goOver_92 rfl (lv_at hl 0 rfl) ?_
        refine hg_18_5 hx hb hts in_y_X3_goOver__z20_X3 hown hK hP (hts _ (List.mem_cons_of_mem _ (List.mem_append_left _ (List.mem_append_left _ (List.mem_of_getElem? (i := 15) rfl))))) dX3_goOver_93 ?_
        refine hg_19_10n hx hb hts in_y_X3_goOver__z20_X8 hown hK hP (va_Nw.use rfl (hG.1 _ (List.mem_of_getElem? (i := 28) rfl))) dX3_goOver_96 ?_
        refine lv_iload hx hb dX3_goOver_99 (lv_at hl 4 rfl) ?_
        refine lv_iadd hx hb dX3_goOver_101 ?_
        refine hp_19_10n hx hb hts in_y_X3_goOver__z20_X8 hown hK hP hD hS (va_Nw.use rfl (hG.1 _ (List.mem_of_getElem? (i := 28) rfl))) dX3_goOver_102 (fun H locs hP hD hS => ?_)
        exact ih.2.2.1 L (uI (uI σ 1909 ((((σ.1 1909)) + ((L.1 5))))) 1910 (((((uI σ 1909 ((((σ.1 1909)) + ((L.1 5))))).1 1910)) + ((L.1 5))))) r h H locs ls hP hD hS (lv_sub hl [1, 2, 3] rfl)
      · intro L σ r h H locs ls hP hD hS hl
        rw [y_X3_goOver__z20] at h
        obtain rfl := Option.some.inj h
        exact W.vret hx hb hr (fun t ht hW => ⟨⟨(), rfl, trivial, by rw [ht]; exact hP, va_K.moved hW.alike hK, hD⟩, hS.F ht⟩) hS.2.2 dX3_goOver_119
  exact (blk k0).1 L0 σ0 r0 h0 s.heap [] ls hP hD hS hl
/-! X3_nextMember__z20 -/
def f_X3_nextMember__z20 : Nat → Nat → LV → CS → Option RS
  | 0, _, _, _ => none
  | k + 1, 0, L, σ => if ¬ (((L.1 2)) < 0 ∨ (sN σ 20) ≤ ((L.1 2)).toNatClampNeg) then (if ¬ (((((L.1 2)) + 1)) < 0 ∨ (sN σ 20) ≤ ((((L.1 2)) + 1)).toNatClampNeg) then (op (y_X11_unraw k 0 (lI lZ 0 ((σ.2.2.1 20 ((((L.1 2)) + 1)).toNatClampNeg))) σ) (fun r3 => op (y_X1_length k 0 (lI lZ 1 ((σ.2.2.1 20 ((L.1 2)).toNatClampNeg))) r3.2) (fun r4 => if r3.1 < r4.1 then (f_X3_nextMember__z20 k 1 (lI (lI L 5 ((σ.2.2.1 20 ((L.1 2)).toNatClampNeg))) 6 r3.1) r4.2) else (op (y_X3_letGo__z20 k 0 (lI (lI lZ 2 ((L.1 2))) 3 ((L.1 4))) r4.2) (fun r6 => oP (sPr r6.2) (fun b7 => if ¬ (((((L.1 3)) + 1)) < 0 ∨ (sN r6.2 (pR0 ((sKd r6.2 b7)))) ≤ ((((L.1 3)) + 1)).toNatClampNeg) then (some ((0, 0), (uI r6.2 1900 ((((L.1 3)) + ((r6.2.2.2.1 (pR0 ((sKd r6.2 b7))) ((((L.1 3)) + 1)).toNatClampNeg))))), (0, 0))) else none)))))) else none) else none
  | k + 1, 1, L, σ => op (y_X11_raw k 0 (lI lZ 0 ((((L.1 6)) + 1))) σ) (fun r1 => if ¬ (((((L.1 2)) + 1)) < 0 ∨ (sN r1.2 20) ≤ ((((L.1 2)) + 1)).toNatClampNeg) then (op (y_X1_taken k 0 (lI (lI lZ 1 ((L.1 5))) 2 ((L.1 6))) (uA r1.2 20 ((((L.1 2)) + 1)).toNatClampNeg r1.1)) (fun r3 => ox (f_X3_push k 0 (lI lZ 1 r3.1) r3.2) (fun r4 => f_X3_nextMember__z20 k 2 L (uI r4.2.1 1900 ((((L.1 3)) + 2)))))) else none)
  | k + 1, 2, L, σ => op (y_X3_spend k 0 (lI lZ 1 1) σ) (fun r1 => some ((0, 0), r1.2, (0, 0)))
  | _ + 1, _ + 3, _, _ => none
def o_f_X3_nextMember__z20 : List Cond := [.initialized RX11, .static yX11_unraw, .fieldLink RX3 39 "SetHouse$Machine" "heap" "LSetHouse$Heap;", .methodLink RX3 399 yX1_length, .instanceMethod yX1_length, .selects RX1 yX1_length yX1_length, .initialized RX1, .methodLink RX3 513 yX3_letGo, .instanceMethod yX3_letGo, .selects RX3 yX3_letGo yX3_letGo, .initialized RX3, .fieldLink RX3 14 "SetHouse$Machine" "run" "LSetHouse$Run;", .fieldLink RX3 58 "SetHouse$Machine" "program" "LSetHouse$Program;", .static yX11_raw, .methodLink RX3 473 yX1_taken, .instanceMethod yX1_taken, .selects RX1 yX1_taken yX1_taken, .methodLink RX3 322 yX3_push, .instanceMethod yX3_push, .selects RX3 yX3_push yX3_push, .methodLink RX3 319 yX3_spend, .instanceMethod yX3_spend, .selects RX3 yX3_spend yX3_spend]
theorem o_f_X3_nextMember__z20_good : o_f_X3_nextMember__z20.all goodWord = true := by decide +kernel
def p_f_X3_nextMember__z20 : List Cond := o_f_X3_nextMember__z20 ++ ((.code yX11_unraw cX11_unraw 1 (some .int) :: p_y_X11_unraw) ++ ((.code yX1_length cX1_length 2 (some .int) :: p_y_X1_length) ++ ((.code yX3_letGo cX3_letGo 5 none :: p_y_X3_letGo__z20) ++ ((.code yX11_raw cX11_raw 1 (some .int) :: p_y_X11_raw) ++ ((.code yX1_taken cX1_taken 3 (some .int) :: p_y_X1_taken) ++ ((.code yX3_push cX3_push 2 none :: p_f_X3_push) ++ ((.code yX3_spend cX3_spend 2 none :: p_y_X3_spend) ++ [])))))))
theorem p_f_X3_nextMember__z20_good : p_f_X3_nextMember__z20.all goodWord = true := nb_all2 o_f_X3_nextMember__z20_good (nb_all2 (nb_allc (by decide +kernel) p_y_X11_unraw_good) (nb_all2 (nb_allc (by decide +kernel) p_y_X1_length_good) (nb_all2 (nb_allc (by decide +kernel) p_y_X3_letGo__z20_good) (nb_all2 (nb_allc (by decide +kernel) p_y_X11_raw_good) (nb_all2 (nb_allc (by decide +kernel) p_y_X1_taken_good) (nb_all2 (nb_allc (by decide +kernel) p_f_X3_push_good) (nb_all2 (nb_allc (by decide +kernel) p_y_X3_spend_good) rfl)))))))
def w_f_X3_nextMember__z20 : List Cond := .code yX3_nextMember cX3_nextMember 7 none :: (p_f_X3_nextMember__z20 ++ fC)
theorem w_f_X3_nextMember__z20_good : w_f_X3_nextMember__z20.all goodWord = true := nb_allc (by decide +kernel) (nb_all2 p_f_X3_nextMember__z20_good fC_good)
theorem in_f_X3_nextMember__z20_X3 : ∀ w ∈ wsX30, w ∈ w_f_X3_nextMember__z20 := fun _ h => List.mem_cons_of_mem _ (List.mem_append_right _ (List.mem_append_right _ (List.mem_append_right _ (List.mem_append_right _ (List.mem_append_left _ h)))))
theorem in_f_X3_nextMember__z20_X7 : ∀ w ∈ wsX70, w ∈ w_f_X3_nextMember__z20 := fun _ h => List.mem_cons_of_mem _ (List.mem_append_right _ (List.mem_append_right _ (List.mem_append_right _ (List.mem_append_right _ (List.mem_append_right _ (List.mem_append_right _ (List.mem_append_right _ (List.mem_append_left _ h))))))))
theorem in_f_X3_nextMember__z20_X8 : ∀ w ∈ wsX80, w ∈ w_f_X3_nextMember__z20 := fun _ h => List.mem_cons_of_mem _ (List.mem_append_right _ (List.mem_append_right _ (List.mem_append_right _ (List.mem_append_right _ (List.mem_append_right _ (List.mem_append_right _ (List.mem_append_right _ (List.mem_append_right _ (List.mem_append_left _ h)))))))))
theorem hd_f_X3_nextMember__z20 : yX3_nextMember.cls = RX3 ∧ yX3_nextMember.cls ≠ "java/lang/invoke/MethodHandle" ∧ yX3_nextMember.cls ≠ "java/lang/invoke/VarHandle" ∧ (parseMethodDescriptor yX3_nextMember.desc).map (fun d => d.parameters.length) = some 4 := by decide +kernel
theorem gg_f_X3_nextMember__z20_X3_push : GoodIn w_f_X3_nextMember__z20 w_f_X3_push := goodIn_sub (fun w h => (List.mem_cons.mp h).elim (fun e => (List.mem_cons_of_mem _ (List.mem_append_left _ (List.mem_append_right _ (List.mem_append_right _ (List.mem_append_right _ (List.mem_append_right _ (List.mem_append_right _ (List.mem_append_right _ (List.mem_append_left _ (List.mem_cons.mpr (Or.inl e)))))))))))) (fun h => (List.mem_append.mp h).elim (fun h => (List.mem_cons_of_mem _ (List.mem_append_left _ (List.mem_append_right _ (List.mem_append_right _ (List.mem_append_right _ (List.mem_append_right _ (List.mem_append_right _ (List.mem_append_right _ (List.mem_append_left _ (List.mem_cons_of_mem _ h))))))))))) (fun h => List.mem_cons_of_mem _ (List.mem_append_right _ h)))) w_f_X3_push_good
theorem g_f_X3_nextMember__z20_X3_push_V322 : GoodIn w_f_X3_nextMember__z20 (wsV RX3 322 RX3 yX3_push w_f_X3_push) := goodIn_app (nb_g4 (List.mem_cons_of_mem _ (List.mem_append_left _ (List.mem_append_left _ (List.mem_of_getElem? (i := 17) rfl)))) (List.mem_cons_of_mem _ (List.mem_append_left _ (List.mem_append_left _ (List.mem_of_getElem? (i := 18) rfl)))) (List.mem_cons_of_mem _ (List.mem_append_left _ (List.mem_append_left _ (List.mem_of_getElem? (i := 19) rfl)))) (List.mem_cons_of_mem _ (List.mem_append_left _ (List.mem_append_left _ (List.mem_of_getElem? (i := 10) rfl)))) (by decide +kernel)) gg_f_X3_nextMember__z20_X3_push
theorem gg_f_X3_nextMember__z20_X11_raw : GoodIn w_f_X3_nextMember__z20 w_y_X11_raw := goodIn_sub (fun w h => (List.mem_cons.mp h).elim (fun e => (List.mem_cons_of_mem _ (List.mem_append_left _ (List.mem_append_right _ (List.mem_append_right _ (List.mem_append_right _ (List.mem_append_right _ (List.mem_append_left _ (List.mem_cons.mpr (Or.inl e)))))))))) (fun h => (List.mem_append.mp h).elim (fun h => (List.mem_cons_of_mem _ (List.mem_append_left _ (List.mem_append_right _ (List.mem_append_right _ (List.mem_append_right _ (List.mem_append_right _ (List.mem_append_left _ (List.mem_cons_of_mem _ h))))))))) (fun h => List.mem_cons_of_mem _ (List.mem_append_right _ h)))) w_y_X11_raw_good
theorem g_y_X3_nextMember__z20_X11_raw_SN182 : GoodIn w_f_X3_nextMember__z20 w_y_X11_raw := gg_f_X3_nextMember__z20_X11_raw
theorem gg_f_X3_nextMember__z20_X11_unraw : GoodIn w_f_X3_nextMember__z20 w_y_X11_unraw := goodIn_sub (fun w h => (List.mem_cons.mp h).elim (fun e => (List.mem_cons_of_mem _ (List.mem_append_left _ (List.mem_append_right _ (List.mem_append_left _ (List.mem_cons.mpr (Or.inl e))))))) (fun h => (List.mem_append.mp h).elim (fun h => (List.mem_cons_of_mem _ (List.mem_append_left _ (List.mem_append_right _ (List.mem_append_left _ (List.mem_cons_of_mem _ h)))))) (fun h => List.mem_cons_of_mem _ (List.mem_append_right _ h)))) w_y_X11_unraw_good
theorem g_y_X3_nextMember__z20_X11_unraw_SN388 : GoodIn w_f_X3_nextMember__z20 w_y_X11_unraw := gg_f_X3_nextMember__z20_X11_unraw
theorem gg_f_X3_nextMember__z20_X1_length : GoodIn w_f_X3_nextMember__z20 w_y_X1_length := goodIn_sub (fun w h => (List.mem_cons.mp h).elim (fun e => (List.mem_cons_of_mem _ (List.mem_append_left _ (List.mem_append_right _ (List.mem_append_right _ (List.mem_append_left _ (List.mem_cons.mpr (Or.inl e)))))))) (fun h => (List.mem_append.mp h).elim (fun h => (List.mem_cons_of_mem _ (List.mem_append_left _ (List.mem_append_right _ (List.mem_append_right _ (List.mem_append_left _ (List.mem_cons_of_mem _ h))))))) (fun h => List.mem_cons_of_mem _ (List.mem_append_right _ h)))) w_y_X1_length_good
theorem g_y_X3_nextMember__z20_X1_length_V399 : GoodIn w_f_X3_nextMember__z20 (wsV RX3 399 RX1 yX1_length w_y_X1_length) := goodIn_app (nb_g4 (List.mem_cons_of_mem _ (List.mem_append_left _ (List.mem_append_left _ (List.mem_of_getElem? (i := 3) rfl)))) (List.mem_cons_of_mem _ (List.mem_append_left _ (List.mem_append_left _ (List.mem_of_getElem? (i := 4) rfl)))) (List.mem_cons_of_mem _ (List.mem_append_left _ (List.mem_append_left _ (List.mem_of_getElem? (i := 5) rfl)))) (List.mem_cons_of_mem _ (List.mem_append_left _ (List.mem_append_left _ (List.mem_of_getElem? (i := 6) rfl)))) (by decide +kernel)) gg_f_X3_nextMember__z20_X1_length
theorem gg_f_X3_nextMember__z20_X1_taken : GoodIn w_f_X3_nextMember__z20 w_y_X1_taken := goodIn_sub (fun w h => (List.mem_cons.mp h).elim (fun e => (List.mem_cons_of_mem _ (List.mem_append_left _ (List.mem_append_right _ (List.mem_append_right _ (List.mem_append_right _ (List.mem_append_right _ (List.mem_append_right _ (List.mem_append_left _ (List.mem_cons.mpr (Or.inl e))))))))))) (fun h => (List.mem_append.mp h).elim (fun h => (List.mem_cons_of_mem _ (List.mem_append_left _ (List.mem_append_right _ (List.mem_append_right _ (List.mem_append_right _ (List.mem_append_right _ (List.mem_append_right _ (List.mem_append_left _ (List.mem_cons_of_mem _ h)))))))))) (fun h => List.mem_cons_of_mem _ (List.mem_append_right _ h)))) w_y_X1_taken_good
theorem g_y_X3_nextMember__z20_X1_taken_V473 : GoodIn w_f_X3_nextMember__z20 (wsV RX3 473 RX1 yX1_taken w_y_X1_taken) := goodIn_app (nb_g4 (List.mem_cons_of_mem _ (List.mem_append_left _ (List.mem_append_left _ (List.mem_of_getElem? (i := 14) rfl)))) (List.mem_cons_of_mem _ (List.mem_append_left _ (List.mem_append_left _ (List.mem_of_getElem? (i := 15) rfl)))) (List.mem_cons_of_mem _ (List.mem_append_left _ (List.mem_append_left _ (List.mem_of_getElem? (i := 16) rfl)))) (List.mem_cons_of_mem _ (List.mem_append_left _ (List.mem_append_left _ (List.mem_of_getElem? (i := 6) rfl)))) (by decide +kernel)) gg_f_X3_nextMember__z20_X1_taken
theorem gg_f_X3_nextMember__z20_X3_letGo__z20 : GoodIn w_f_X3_nextMember__z20 w_y_X3_letGo__z20 := goodIn_sub (fun w h => (List.mem_cons.mp h).elim (fun e => (List.mem_cons_of_mem _ (List.mem_append_left _ (List.mem_append_right _ (List.mem_append_right _ (List.mem_append_right _ (List.mem_append_left _ (List.mem_cons.mpr (Or.inl e))))))))) (fun h => (List.mem_append.mp h).elim (fun h => (List.mem_cons_of_mem _ (List.mem_append_left _ (List.mem_append_right _ (List.mem_append_right _ (List.mem_append_right _ (List.mem_append_left _ (List.mem_cons_of_mem _ h)))))))) (fun h => List.mem_cons_of_mem _ (List.mem_append_right _ h)))) w_y_X3_letGo__z20_good
theorem g_y_X3_nextMember__z20_X3_letGo__z20_V513 : GoodIn w_f_X3_nextMember__z20 (wsV RX3 513 RX3 yX3_letGo w_y_X3_letGo__z20) := goodIn_app (nb_g4 (List.mem_cons_of_mem _ (List.mem_append_left _ (List.mem_append_left _ (List.mem_of_getElem? (i := 7) rfl)))) (List.mem_cons_of_mem _ (List.mem_append_left _ (List.mem_append_left _ (List.mem_of_getElem? (i := 8) rfl)))) (List.mem_cons_of_mem _ (List.mem_append_left _ (List.mem_append_left _ (List.mem_of_getElem? (i := 9) rfl)))) (List.mem_cons_of_mem _ (List.mem_append_left _ (List.mem_append_left _ (List.mem_of_getElem? (i := 10) rfl)))) (by decide +kernel)) gg_f_X3_nextMember__z20_X3_letGo__z20
theorem gg_f_X3_nextMember__z20_X3_spend : GoodIn w_f_X3_nextMember__z20 w_y_X3_spend := goodIn_sub (fun w h => (List.mem_cons.mp h).elim (fun e => (List.mem_cons_of_mem _ (List.mem_append_left _ (List.mem_append_right _ (List.mem_append_right _ (List.mem_append_right _ (List.mem_append_right _ (List.mem_append_right _ (List.mem_append_right _ (List.mem_append_right _ (List.mem_append_left _ (List.mem_cons.mpr (Or.inl e))))))))))))) (fun h => (List.mem_append.mp h).elim (fun h => (List.mem_cons_of_mem _ (List.mem_append_left _ (List.mem_append_right _ (List.mem_append_right _ (List.mem_append_right _ (List.mem_append_right _ (List.mem_append_right _ (List.mem_append_right _ (List.mem_append_right _ (List.mem_append_left _ (List.mem_cons_of_mem _ h)))))))))))) (fun h => List.mem_cons_of_mem _ (List.mem_append_right _ h)))) w_y_X3_spend_good
theorem g_y_X3_nextMember__z20_X3_spend_V319 : GoodIn w_f_X3_nextMember__z20 (wsV RX3 319 RX3 yX3_spend w_y_X3_spend) := goodIn_app (nb_g4 (List.mem_cons_of_mem _ (List.mem_append_left _ (List.mem_append_left _ (List.mem_of_getElem? (i := 20) rfl)))) (List.mem_cons_of_mem _ (List.mem_append_left _ (List.mem_append_left _ (List.mem_of_getElem? (i := 21) rfl)))) (List.mem_cons_of_mem _ (List.mem_append_left _ (List.mem_append_left _ (List.mem_of_getElem? (i := 22) rfl)))) (List.mem_cons_of_mem _ (List.mem_append_left _ (List.mem_append_left _ (List.mem_of_getElem? (i := 10) rfl)))) (by decide +kernel)) gg_f_X3_nextMember__z20_X3_spend
set_option maxHeartbeats 40000000 in
set_option maxRecDepth 100000 in
theorem c_f_X3_nextMember__z20 (l : Launch) (hl0 : l.stackTraces = false) (dC : Nat → ClassId) (dI : Nat → Nat → Nat) (cy : Nat → ClassId) (ek a : Nat → Nat) (k0 : Nat) (L0 : LV) (σ0 : CS) (r0 : RS) (h0 : f_X3_nextMember__z20 k0 0 L0 σ0 = some r0) (z : Nat → Nat) (sz : Nat) : vx_Met l yX3_nextMember w_f_X3_nextMember__z20 ({ frames := 5, cells := r0.2.2.1, slots := r0.2.2.2, locals := 156 }) (va_Pc [.ref (a 18), .ref (z 20), .int (L0.1 2), .int (L0.1 3), .int (L0.1 4)] (nInF (dC, dI) cy ek sz (vC cy a z σ0))) (xV dC dI cy a (va_A (vC cy a z σ0) sz) [20] z r0) (xX dC dI cy a (va_A (vC cy a z σ0) sz) [20] z r0) r0.2.2.1 r0.2.2.2 (va_A (vC cy a z σ0) sz) := by
  refine vx_ofW (cc := cX3_nextMember) (maxL := 7) (ret := none) (by decide) rfl ?_
  intro p e s m args below meth c s₁ B hml hno hv
  obtain ⟨rfl, ⟨⟨hsz, hP, hK, hD0, hG⟩, hE⟩, hT⟩ := hv
  have hx := B.exec
  have hb := B.bytes
  have hr := B.returns
  have hts := atoms_spec (ws := w_f_X3_nextMember__z20) B.pre
  have hown : s.vm.findClass RX3 = some m.cls := findClass_of_methodNamed B.named
  have hlocks := B.notSynchronized
  subst hsz
  have hD := hD0.self (sz := s.heap.size)
  generalize hAe : va_A (vC cy a z σ0) s.heap.size = A at hD hE hT ⊢
  have hA : ∀ q : Nat, s.heap.size ≤ q → A q := fun q h => by rw [← hAe]; exact Or.inr h
  have hS : va_S A s.heap s.heap [] := va_S.rf
  have hl := lv_entry ([.ref (a 18), .ref (z 20), .int (L0.1 2), .int (L0.1 3), .int (L0.1 4)]) (n := 7) (Nat.le_of_ble_eq_true rfl)
  rw [lg_entry_eq]
  generalize (lg_sl ([.ref (a 18), .ref (z 20), .int (L0.1 2), .int (L0.1 3), .int (L0.1 4)]) ++ List.replicate (7 - (lg_sl ([.ref (a 18), .ref (z 20), .int (L0.1 2), .int (L0.1 3), .int (L0.1 4)])).length) Slot.unset).toArray = ls at hl ⊢
  have hl : lv_has ls 7 [(0, .ref (a 18)), (1, .ref (z 20)), (2, .int (L0.1 2)), (3, .int (L0.1 3)), (4, .int (L0.1 4))] := hl
  generalize hmc : r0.2.2.1 = mc
  generalize hms : r0.2.2.2 = ms
  have blk : ∀ k : Nat, (bX p l e (headSpec w_f_X3_nextMember__z20 ({ frames := 5, cells := mc, slots := ms, locals := 156 })).room s m #[.ref (a 18), .ref (z 20), .int (L0.1 2), .int (L0.1 3), .int (L0.1 4)] below meth c dC dI cy a A (fun r => vx_MQ below (xV dC dI cy a A [20] z r) (xX dC dI cy a A [20] z r) #[.ref (a 18), .ref (z 20), .int (L0.1 2), .int (L0.1 3), .int (L0.1 4)] s mc ms A) [20] z mc ms 7 (f_X3_nextMember__z20 k 0) (fun z L => [(0, .ref (a 18)), (1, .ref (z 20)), (2, .int (L.1 2)), (3, .int (L.1 3)), (4, .int (L.1 4))]) 0 (fun z L => [])) ∧ (bX p l e (headSpec w_f_X3_nextMember__z20 ({ frames := 5, cells := mc, slots := ms, locals := 156 })).room s m #[.ref (a 18), .ref (z 20), .int (L0.1 2), .int (L0.1 3), .int (L0.1 4)] below meth c dC dI cy a A (fun r => vx_MQ below (xV dC dI cy a A [20] z r) (xX dC dI cy a A [20] z r) #[.ref (a 18), .ref (z 20), .int (L0.1 2), .int (L0.1 3), .int (L0.1 4)] s mc ms A) [20] z mc ms 7 (f_X3_nextMember__z20 k 1) (fun z L => [(0, .ref (a 18)), (1, .ref (z 20)), (2, .int (L.1 2)), (3, .int (L.1 3)), (5, .int (L.1 5)), (6, .int (L.1 6))]) 58 (fun z L => [])) ∧ (bX p l e (headSpec w_f_X3_nextMember__z20 ({ frames := 5, cells := mc, slots := ms, locals := 156 })).room s m #[.ref (a 18), .ref (z 20), .int (L0.1 2), .int (L0.1 3), .int (L0.1 4)] below meth c dC dI cy a A (fun r => vx_MQ below (xV dC dI cy a A [20] z r) (xX dC dI cy a A [20] z r) #[.ref (a 18), .ref (z 20), .int (L0.1 2), .int (L0.1 3), .int (L0.1 4)] s mc ms A) [20] z mc ms 7 (f_X3_nextMember__z20 k 2) (fun z L => [(0, .ref (a 18))]) 95 (fun z L => [])) := by
    intro k
    induction k with
    | zero => exact ⟨fun z c1 c2 L σ r h => (by cases h), fun z c1 c2 L σ r h => (by cases h), fun z c1 c2 L σ r h => (by cases h)⟩
    | succ k ih =>
      refine ⟨?_, ?_, ?_⟩
      · intro z cells slots L σ r h hzk hc hs H locs ls hP hD hS hl
        rw [f_X3_nextMember__z20] at h
        refine lv_aload_n hx hb dX3_nextMember_0 rfl (lv_at hl 1 rfl) ?_
        refine lv_iload_n hx hb dX3_nextMember_1 rfl (lv_at hl 2 rfl) ?_
        obtain ⟨q1, h⟩ := kr_ite1 h
        refine hl_20 hx hb hK hP q1 dX3_nextMember_2 ?_
        refine lv_istore (lv' := [(5, .int (σ.2.2.1 20 ((L.1 2)).toNatClampNeg)), (0, .ref (a 18)), (1, .ref (z 20)), (2, .int (L.1 2)), (3, .int (L.1 3)), (4, .int (L.1 4))]) hx hb dX3_nextMember_3 hl (by decide) rfl (fun ls hl => ?_)
        refine lv_aload_n hx hb dX3_nextMember_5 rfl (lv_at hl 2 rfl) ?_
        refine lv_iload_n hx hb dX3_nextMember_6 rfl (lv_at hl 3 rfl) ?_
        refine lv_iconst (v := 1) hx hb dX3_nextMember_7 (by decide) ?_
        refine lv_iadd hx hb dX3_nextMember_8 ?_
        obtain ⟨q2, h⟩ := kr_ite1 h
        refine hl_20 hx hb hK hP q2 dX3_nextMember_9 ?_
        obtain ⟨r3, hc3, h⟩ := op_ex h
        refine kc_i (va_runSN (As := [.int (σ.2.2.1 20 ((((L.1 2)) + 1)).toNatClampNeg)]) (rest := []) ⟨hx, hb, hml, hown, hts⟩ (c_y_X11_unraw l dC dI cy a z k (lI lZ 0 ((σ.2.2.1 20 ((((L.1 2)) + 1)).toNatClampNeg))) σ r3 hc3 H.size) ⟨va_cnB 1 hts g_y_X3_nextMember__z20_X11_unraw_SN388 rfl rfl rfl (hG.1 _ (List.mem_of_getElem? (i := 104) rfl)) (hts _ (List.mem_cons_of_mem _ (List.mem_append_left _ (List.mem_append_left _ (List.mem_of_getElem? (i := 0) rfl))))) hd_y_X11_unraw ⟨Nat.le_of_ble_eq_true rfl, Nat.le_of_ble_eq_true rfl⟩, (hts _ (List.mem_cons_of_mem _ (List.mem_append_left _ (List.mem_append_left _ (List.mem_of_getElem? (i := 1) rfl))))), trivial⟩ ⟨nb_blind, (kb_pre hK hG hP hD)⟩ rfl rfl hl.1 rfl (lv_room (Nat.le_of_ble_eq_true rfl)) dX3_nextMember_10 ⟨(Nat.le_trans (Nat.le_add_right _ _) (Nat.le_of_eq hc)), (Nat.le_trans (Nat.le_add_right _ _) (Nat.le_of_eq hs))⟩) hA hP hD hS (fun H locs hP hD hS => ?_)
        refine lv_istore (lv' := [(6, .int r3.1), (5, .int (σ.2.2.1 20 ((L.1 2)).toNatClampNeg)), (0, .ref (a 18)), (1, .ref (z 20)), (2, .int (L.1 2)), (3, .int (L.1 3)), (4, .int (L.1 4))]) hx hb dX3_nextMember_13 hl (by decide) rfl (fun ls hl => ?_)
        refine lv_iload hx hb dX3_nextMember_15 (lv_at hl 0 rfl) ?_
        refine lv_aload_n hx hb dX3_nextMember_17 rfl (lv_at hl 2 rfl) ?_
        refine hg_18_0 hx hb hts in_f_X3_nextMember__z20_X3 hown hK hP (hts _ (List.mem_cons_of_mem _ (List.mem_append_left _ (List.mem_append_left _ (List.mem_of_getElem? (i := 2) rfl))))) dX3_nextMember_18 ?_
        refine lv_iload hx hb dX3_nextMember_21 (lv_at hl 1 rfl) ?_
        obtain ⟨r4, hc4, h⟩ := op_ex h
        refine kc_i (va_runV (As := [.int (σ.2.2.1 20 ((L.1 2)).toNatClampNeg)]) (rest := [.int r3.1]) ⟨hx, hb, hml, hown, hts⟩ (c_y_X1_length l dC dI cy a z k (lI lZ 1 ((σ.2.2.1 20 ((L.1 2)).toNatClampNeg))) r3.2 r4 hc4 H.size) (cwV 1 hts g_y_X3_nextMember__z20_X1_length_V399 rfl rfl rfl hd_y_X1_length ⟨Nat.le_of_ble_eq_true rfl, Nat.le_of_ble_eq_true rfl⟩) ⟨nb_blind, va_recv hK hP (ci := 1) (q0 := 0) rfl rfl, (kb_pre hK hG hP hD)⟩ rfl rfl hl.1 rfl (lv_room (Nat.le_of_ble_eq_true rfl)) dX3_nextMember_23 ⟨(Nat.le_trans (Nat.le_add_right _ _) (Nat.le_of_eq hc)), (Nat.le_trans (Nat.le_add_right _ _) (Nat.le_of_eq hs))⟩) hA hP hD hS (fun H locs hP hD hS => ?_)
        refine lv_icmp_lt (tgt := 58) hx hb dX3_nextMember_26 (by decide) (fun c5 => ?_) (fun c5 => ?_)
        · rw [if_pos c5] at h
          exact ih.2.1 z _ _ (lI (lI L 5 ((σ.2.2.1 20 ((L.1 2)).toNatClampNeg))) 6 r3.1) r4.2 _ h hzk hc hs H locs ls hP hD hS (lv_sub hl [2, 3, 4, 5, 1, 0] rfl)
        · rw [if_neg c5] at h
          refine lv_aload_n hx hb dX3_nextMember_29 rfl (lv_at hl 2 rfl) ?_
          refine lv_aload_n hx hb dX3_nextMember_30 rfl (lv_at hl 3 rfl) ?_
          refine lv_iload_n hx hb dX3_nextMember_31 rfl (lv_at hl 4 rfl) ?_
          refine lv_iload hx hb dX3_nextMember_32 (lv_at hl 6 rfl) ?_
          obtain ⟨r6, hc6, h⟩ := op_ex h
          refine kc_v (va_runV (As := [.ref (z 20), .int (L.1 2), .int (L.1 4)]) (rest := []) ⟨hx, hb, hml, hown, hts⟩ (c_y_X3_letGo__z20 l dC dI cy a z k (lI (lI lZ 2 ((L.1 2))) 3 ((L.1 4))) r4.2 r6 hc6 H.size) (cwV 3 hts g_y_X3_nextMember__z20_X3_letGo__z20_V513 rfl rfl rfl hd_y_X3_letGo__z20 ⟨Nat.le_of_ble_eq_true rfl, Nat.le_of_ble_eq_true rfl⟩) ⟨nb_blind, va_recv hK hP (ci := 3) (q0 := 18) rfl rfl, (kb_pre hK hG hP hD)⟩ rfl rfl hl.1 rfl (lv_room (Nat.le_of_ble_eq_true rfl)) dX3_nextMember_34 ⟨(Nat.le_trans (Nat.le_add_right _ _) (Nat.le_of_eq hc)), (Nat.le_trans (Nat.le_add_right _ _) (Nat.le_of_eq hs))⟩) hA hP hD hS (fun H locs hP hD hS => ?_)
          refine lv_aload_n hx hb dX3_nextMember_37 rfl (lv_at hl 2 rfl) ?_
          refine hg_18_5 hx hb hts in_f_X3_nextMember__z20_X3 hown hK hP (hts _ (List.mem_cons_of_mem _ (List.mem_append_left _ (List.mem_append_left _ (List.mem_of_getElem? (i := 11) rfl))))) dX3_nextMember_38 ?_
          refine lv_iload_n hx hb dX3_nextMember_41 rfl (lv_at hl 5 rfl) ?_
          refine lv_aload_n hx hb dX3_nextMember_42 rfl (lv_at hl 2 rfl) ?_
          obtain ⟨b7, hb7, h⟩ := oP_ex h
          refine hgq_18_6 hx hb hts in_f_X3_nextMember__z20_X3 hown hK hP (hts _ (List.mem_cons_of_mem _ (List.mem_append_left _ (List.mem_append_left _ (List.mem_of_getElem? (i := 12) rfl))))) hb7 dX3_nextMember_43 ?_
          refine hg_P_0n b7 hx hb hts in_f_X3_nextMember__z20_X7 hown hK hP (va_Nw.use rfl (hG.1 _ (List.mem_of_getElem? (i := 66) rfl))) dX3_nextMember_46 ?_
          refine lv_iload_n hx hb dX3_nextMember_49 rfl (lv_at hl 5 rfl) ?_
          refine lv_iconst (v := 1) hx hb dX3_nextMember_50 (by decide) ?_
          refine lv_iadd hx hb dX3_nextMember_51 ?_
          obtain ⟨q8, h⟩ := kr_ite1 h
          refine hl_P0 ((sKd r6.2 b7)) hx hb hK hP q8 dX3_nextMember_52 ?_
          refine lv_iadd hx hb dX3_nextMember_53 ?_
          refine hp_19_0n hx hb hts in_f_X3_nextMember__z20_X8 hown hK hP hD hS (va_Nw.use rfl (hG.1 _ (List.mem_of_getElem? (i := 8) rfl))) dX3_nextMember_54 (fun H locs hP hD hS => ?_)
          obtain rfl := Option.some.inj h
          subst hc
          subst hs
          exact xr_v hx hb hr hK hzk hP hD hS hlocks dX3_nextMember_57
      · intro z cells slots L σ r h hzk hc hs H locs ls hP hD hS hl
        rw [f_X3_nextMember__z20] at h
        refine lv_aload_n hx hb dX3_nextMember_58 rfl (lv_at hl 1 rfl) ?_
        refine lv_iload_n hx hb dX3_nextMember_59 rfl (lv_at hl 2 rfl) ?_
        refine lv_iconst (v := 1) hx hb dX3_nextMember_60 (by decide) ?_
        refine lv_iadd hx hb dX3_nextMember_61 ?_
        refine lv_iload hx hb dX3_nextMember_62 (lv_at hl 5 rfl) ?_
        refine lv_iconst (v := 1) hx hb dX3_nextMember_64 (by decide) ?_
        refine lv_iadd hx hb dX3_nextMember_65 ?_
        obtain ⟨r1, hc1, h⟩ := op_ex h
        refine kc_i (va_runSN (As := [.int (((L.1 6)) + 1)]) (rest := [.int (((L.1 2)) + 1), .ref (z 20)]) ⟨hx, hb, hml, hown, hts⟩ (c_y_X11_raw l dC dI cy a z k (lI lZ 0 ((((L.1 6)) + 1))) σ r1 hc1 H.size) ⟨va_cnB 1 hts g_y_X3_nextMember__z20_X11_raw_SN182 rfl rfl rfl (hG.1 _ (List.mem_of_getElem? (i := 103) rfl)) (hts _ (List.mem_cons_of_mem _ (List.mem_append_left _ (List.mem_append_left _ (List.mem_of_getElem? (i := 0) rfl))))) hd_y_X11_raw ⟨Nat.le_of_ble_eq_true rfl, Nat.le_of_ble_eq_true rfl⟩, (hts _ (List.mem_cons_of_mem _ (List.mem_append_left _ (List.mem_append_left _ (List.mem_of_getElem? (i := 13) rfl))))), trivial⟩ ⟨nb_blind, (kb_pre hK hG hP hD)⟩ rfl rfl hl.1 rfl (lv_room (Nat.le_of_ble_eq_true rfl)) dX3_nextMember_66 ⟨(Nat.le_trans (Nat.le_add_right _ _) (Nat.le_of_eq hc)), (Nat.le_trans (Nat.le_add_right _ _) (Nat.le_of_eq hs))⟩) hA hP hD hS (fun H locs hP hD hS => ?_)
        obtain ⟨q2, h⟩ := kr_ite1 h
        refine hs_20 hx hb hK hP hD hS q2 dX3_nextMember_69 (fun H locs hP hD hS => ?_)
        refine lv_aload_n hx hb dX3_nextMember_70 rfl (lv_at hl 0 rfl) ?_
        refine lv_aload_n hx hb dX3_nextMember_71 rfl (lv_at hl 0 rfl) ?_
        refine hg_18_0 hx hb hts in_f_X3_nextMember__z20_X3 hown hK hP (hts _ (List.mem_cons_of_mem _ (List.mem_append_left _ (List.mem_append_left _ (List.mem_of_getElem? (i := 2) rfl))))) dX3_nextMember_72 ?_
        refine lv_iload hx hb dX3_nextMember_75 (lv_at hl 4 rfl) ?_
        refine lv_iload hx hb dX3_nextMember_77 (lv_at hl 5 rfl) ?_
        obtain ⟨r3, hc3, h⟩ := op_ex h
        refine kc_i (va_runV (As := [.int (L.1 5), .int (L.1 6)]) (rest := [.ref (a 18)]) ⟨hx, hb, hml, hown, hts⟩ (c_y_X1_taken l dC dI cy a z k (lI (lI lZ 1 ((L.1 5))) 2 ((L.1 6))) (uA r1.2 20 ((((L.1 2)) + 1)).toNatClampNeg r1.1) r3 hc3 H.size) (cwV 2 hts g_y_X3_nextMember__z20_X1_taken_V473 rfl rfl rfl hd_y_X1_taken ⟨Nat.le_of_ble_eq_true rfl, Nat.le_of_ble_eq_true rfl⟩) ⟨nb_blind, va_recv hK hP (ci := 1) (q0 := 0) rfl rfl, (kb_pre hK hG hP hD)⟩ rfl rfl hl.1 rfl (lv_room (Nat.le_of_ble_eq_true rfl)) dX3_nextMember_79 ⟨(Nat.le_trans (Nat.le_add_right _ _) (Nat.le_of_eq hc)), (Nat.le_trans (Nat.le_add_right _ _) (Nat.le_of_eq hs))⟩) hA hP hD hS (fun H locs hP hD hS => ?_)
        obtain ⟨r4, hc4, hle4, h9⟩ := ox_ex h
        clear h
        refine kx_v (vx_runV (As := [.int r3.1]) (rest := []) ⟨hx, hb, hml, hown, hts⟩ (c_f_X3_push l hl0 dC dI cy ek a k (lI lZ 1 r3.1) r3.2 r4 hc4 z H.size) (cwV 1 hts g_f_X3_nextMember__z20_X3_push_V322 rfl rfl rfl hd_f_X3_push ⟨Nat.le_of_ble_eq_true rfl, Nat.le_of_ble_eq_true rfl⟩) ⟨nb_blindF, va_recv hK hP (ci := 3) (q0 := 18) rfl rfl, (kx_pre hK hG hE hT hA hP hD hS)⟩ rfl rfl hl.1 rfl (lv_room (Nat.le_of_ble_eq_true rfl)) dX3_nextMember_82 ⟨Nat.le_trans (Nat.add_le_add_left hle4.1 _) (Nat.le_of_eq hc), Nat.le_trans (Nat.add_le_add_left hle4.2 _) (Nat.le_of_eq hs)⟩) hK hA hzk hP hD hS (by decide) hno hlocks ?_
        rcases h9 with ⟨h00, y4, hny4, hy⟩ | ⟨h00, hy⟩
        · subst hy
          have h := hny4
          refine Or.inl ⟨h00, fun z H locs hz4 hzk hP hD hS => ?_⟩
          replace hl := lv_sub hl [0, 2, 3, 4, 5] rfl
          replace hc := (Nat.add_assoc _ _ _).trans hc
          replace hs := (Nat.add_assoc _ _ _).trans hs
          refine lv_aload_n hx hb dX3_nextMember_85 rfl (lv_at hl 0 rfl) ?_
          refine hg_18_5 hx hb hts in_f_X3_nextMember__z20_X3 hown hK hP (hts _ (List.mem_cons_of_mem _ (List.mem_append_left _ (List.mem_append_left _ (List.mem_of_getElem? (i := 11) rfl))))) dX3_nextMember_86 ?_
          refine lv_iload_n hx hb dX3_nextMember_89 rfl (lv_at hl 2 rfl) ?_
          refine lv_iconst (v := 2) hx hb dX3_nextMember_90 (by decide) ?_
          refine lv_iadd hx hb dX3_nextMember_91 ?_
          refine hp_19_0n hx hb hts in_f_X3_nextMember__z20_X8 hown hK hP hD hS (va_Nw.use rfl (hG.1 _ (List.mem_of_getElem? (i := 8) rfl))) dX3_nextMember_92 (fun H locs hP hD hS => ?_)
          exact ih.2.2 z _ _ L (uI r4.2.1 1900 ((((L.1 3)) + 2))) _ h hzk hc hs H locs ls hP hD hS (lv_sub hl [0] rfl)
        · subst hy
          exact Or.inr ⟨h00, rfl, hc, hs⟩
      · intro z cells slots L σ r h hzk hc hs H locs ls hP hD hS hl
        rw [f_X3_nextMember__z20] at h
        refine lv_aload_n hx hb dX3_nextMember_95 rfl (lv_at hl 0 rfl) ?_
        refine lv_iconst (v := 1) hx hb dX3_nextMember_96 (by decide) ?_
        obtain ⟨r1, hc1, h⟩ := op_ex h
        refine kc_v (va_runV (As := [.int 1]) (rest := []) ⟨hx, hb, hml, hown, hts⟩ (c_y_X3_spend l dC dI cy a z k (lI lZ 1 1) σ r1 hc1 H.size) (cwV 1 hts g_y_X3_nextMember__z20_X3_spend_V319 rfl rfl rfl hd_y_X3_spend ⟨Nat.le_of_ble_eq_true rfl, Nat.le_of_ble_eq_true rfl⟩) ⟨nb_blind, va_recv hK hP (ci := 3) (q0 := 18) rfl rfl, (kb_pre hK hG hP hD)⟩ rfl rfl hl.1 rfl (lv_room (Nat.le_of_ble_eq_true rfl)) dX3_nextMember_97 ⟨(Nat.le_trans (Nat.le_add_right _ _) (Nat.le_of_eq hc)), (Nat.le_trans (Nat.le_add_right _ _) (Nat.le_of_eq hs))⟩) hA hP hD hS (fun H locs hP hD hS => ?_)
        obtain rfl := Option.some.inj h
        subst hc
        subst hs
        exact xr_v hx hb hr hK hzk hP hD hS hlocks dX3_nextMember_100
  exact (blk k0).1 z 0 0 L0 σ0 r0 h0 (zk_rf _ _) ((Nat.zero_add _).trans hmc) ((Nat.zero_add _).trans hms) s.heap [] ls hP hD hS hl
/-! X3_spread__z20 -/
def y_X3_spread__z20 : Nat → Nat → LV → CS → Option (Int32 × CS)
  | 0, _, _, _ => none
  | k + 1, 0, L, σ => oc (y_X3_pop k 0 lZ σ) (fun r1 => oc (y_X1_kind k 0 (lI lZ 1 r1.1) r1.2) (fun r2 => if r2.1 = 5 then (oc (y_X1_length k 0 (lI lZ 1 r1.1) r2.2) (fun r4 => if r4.1 ≤ ((L.1 3)) then (y_X3_spread__z20 k 2 (lI L 5 r1.1) r4.2) else (y_X3_spread__z20 k 1 L r4.2))) else (y_X3_spread__z20 k 1 L r2.2)))
  | k + 1, 1, L, σ => oc (y_X3_fail k 0 (lI lZ 1 1) σ) (fun r1 => some (0, r1.2))
  | k + 1, 2, L, σ => y_X3_spread__z20 k 3 (lI L 6 0) σ
  | k + 1, 3, L, σ => if ((L.1 3)) ≤ ((L.1 6)) then (y_X3_spread__z20 k 4 L σ) else (if ((σ.1 1813)) = 0 then (if ((L.1 4)) = 0 then (y_X3_spread__z20 k 5 L σ) else (oc (y_X1_member k 0 (lI (lI lZ 1 ((L.1 5))) 2 ((L.1 6))) σ) (fun r4 => oc (y_X3_assign k 0 (lI (lI (lI lZ 1 ((((L.1 2)) + ((L.1 6))))) 2 r4.1) 3 1) r4.2) (fun r5 => y_X3_spread__z20 k 6 L r5.2)))) else (y_X3_spread__z20 k 4 L σ))
  | k + 1, 4, L, σ => some (0, σ)
  | k + 1, 5, L, σ => oc (y_X1_member k 0 (lI (lI lZ 1 ((L.1 5))) 2 ((L.1 6))) σ) (fun r1 => if ¬ (((((L.1 2)) + ((L.1 6)))) < 0 ∨ (sN r1.2 20) ≤ ((((L.1 2)) + ((L.1 6)))).toNatClampNeg) then (y_X3_spread__z20 k 6 L (uA r1.2 20 ((((L.1 2)) + ((L.1 6)))).toNatClampNeg r1.1)) else none)
  | k + 1, 6, L, σ => y_X3_spread__z20 k 3 (lI L 6 ((((L.1 6)) + 1))) σ
  | _ + 1, _ + 7, _, _ => none
def o_y_X3_spread__z20 : List Cond := [.methodLink RX3 339 yX3_pop, .instanceMethod yX3_pop, .selects RX3 yX3_pop yX3_pop, .initialized RX3, .fieldLink RX3 39 "SetHouse$Machine" "heap" "LSetHouse$Heap;", .methodLink RX3 396 yX1_kind, .instanceMethod yX1_kind, .selects RX1 yX1_kind yX1_kind, .initialized RX1, .methodLink RX3 399 yX1_length, .instanceMethod yX1_length, .selects RX1 yX1_length yX1_length, .methodLink RX3 313 yX3_fail, .instanceMethod yX3_fail, .selects RX3 yX3_fail yX3_fail, .fieldLink RX3 149 "SetHouse$Machine" "trouble" "I", .methodLink RX3 452 yX1_member, .instanceMethod yX1_member, .selects RX1 yX1_member yX1_member, .methodLink RX3 504 yX3_assign, .instanceMethod yX3_assign, .selects RX3 yX3_assign yX3_assign]
theorem o_y_X3_spread__z20_good : o_y_X3_spread__z20.all goodWord = true := by decide +kernel
def p_y_X3_spread__z20 : List Cond := o_y_X3_spread__z20 ++ ((.code yX3_pop cX3_pop 1 (some .int) :: p_y_X3_pop) ++ ((.code yX1_kind cX1_kind 2 (some .int) :: p_y_X1_kind) ++ ((.code yX1_length cX1_length 2 (some .int) :: p_y_X1_length) ++ ((.code yX3_fail cX3_fail 2 none :: p_y_X3_fail) ++ ((.code yX1_member cX1_member 3 (some .int) :: p_y_X1_member) ++ ((.code yX3_assign cX3_assign 5 none :: p_y_X3_assign) ++ []))))))
theorem p_y_X3_spread__z20_good : p_y_X3_spread__z20.all goodWord = true := nb_all2 o_y_X3_spread__z20_good (nb_all2 (nb_allc (by decide +kernel) p_y_X3_pop_good) (nb_all2 (nb_allc (by decide +kernel) p_y_X1_kind_good) (nb_all2 (nb_allc (by decide +kernel) p_y_X1_length_good) (nb_all2 (nb_allc (by decide +kernel) p_y_X3_fail_good) (nb_all2 (nb_allc (by decide +kernel) p_y_X1_member_good) (nb_all2 (nb_allc (by decide +kernel) p_y_X3_assign_good) rfl))))))
def w_y_X3_spread__z20 : List Cond := .code yX3_spread cX3_spread 7 none :: (p_y_X3_spread__z20 ++ fC)
theorem w_y_X3_spread__z20_good : w_y_X3_spread__z20.all goodWord = true := nb_allc (by decide +kernel) (nb_all2 p_y_X3_spread__z20_good fC_good)
theorem in_y_X3_spread__z20_X3 : ∀ w ∈ wsX30, w ∈ w_y_X3_spread__z20 := fun _ h => List.mem_cons_of_mem _ (List.mem_append_right _ (List.mem_append_right _ (List.mem_append_right _ (List.mem_append_right _ (List.mem_append_left _ h)))))
theorem hd_y_X3_spread__z20 : yX3_spread.cls = RX3 ∧ yX3_spread.cls ≠ "java/lang/invoke/MethodHandle" ∧ yX3_spread.cls ≠ "java/lang/invoke/VarHandle" ∧ (parseMethodDescriptor yX3_spread.desc).map (fun d => d.parameters.length) = some 4 := by decide +kernel
theorem gg_y_X3_spread__z20_X1_kind : GoodIn w_y_X3_spread__z20 w_y_X1_kind := goodIn_sub (fun w h => (List.mem_cons.mp h).elim (fun e => (List.mem_cons_of_mem _ (List.mem_append_left _ (List.mem_append_right _ (List.mem_append_right _ (List.mem_append_left _ (List.mem_cons.mpr (Or.inl e)))))))) (fun h => (List.mem_append.mp h).elim (fun h => (List.mem_cons_of_mem _ (List.mem_append_left _ (List.mem_append_right _ (List.mem_append_right _ (List.mem_append_left _ (List.mem_cons_of_mem _ h))))))) (fun h => List.mem_cons_of_mem _ (List.mem_append_right _ h)))) w_y_X1_kind_good
theorem g_y_X3_spread__z20_X1_kind_V396 : GoodIn w_y_X3_spread__z20 (wsV RX3 396 RX1 yX1_kind w_y_X1_kind) := goodIn_app (nb_g4 (List.mem_cons_of_mem _ (List.mem_append_left _ (List.mem_append_left _ (List.mem_of_getElem? (i := 5) rfl)))) (List.mem_cons_of_mem _ (List.mem_append_left _ (List.mem_append_left _ (List.mem_of_getElem? (i := 6) rfl)))) (List.mem_cons_of_mem _ (List.mem_append_left _ (List.mem_append_left _ (List.mem_of_getElem? (i := 7) rfl)))) (List.mem_cons_of_mem _ (List.mem_append_left _ (List.mem_append_left _ (List.mem_of_getElem? (i := 8) rfl)))) (by decide +kernel)) gg_y_X3_spread__z20_X1_kind
theorem gg_y_X3_spread__z20_X1_length : GoodIn w_y_X3_spread__z20 w_y_X1_length := goodIn_sub (fun w h => (List.mem_cons.mp h).elim (fun e => (List.mem_cons_of_mem _ (List.mem_append_left _ (List.mem_append_right _ (List.mem_append_right _ (List.mem_append_right _ (List.mem_append_left _ (List.mem_cons.mpr (Or.inl e))))))))) (fun h => (List.mem_append.mp h).elim (fun h => (List.mem_cons_of_mem _ (List.mem_append_left _ (List.mem_append_right _ (List.mem_append_right _ (List.mem_append_right _ (List.mem_append_left _ (List.mem_cons_of_mem _ h)))))))) (fun h => List.mem_cons_of_mem _ (List.mem_append_right _ h)))) w_y_X1_length_good
theorem g_y_X3_spread__z20_X1_length_V399 : GoodIn w_y_X3_spread__z20 (wsV RX3 399 RX1 yX1_length w_y_X1_length) := goodIn_app (nb_g4 (List.mem_cons_of_mem _ (List.mem_append_left _ (List.mem_append_left _ (List.mem_of_getElem? (i := 9) rfl)))) (List.mem_cons_of_mem _ (List.mem_append_left _ (List.mem_append_left _ (List.mem_of_getElem? (i := 10) rfl)))) (List.mem_cons_of_mem _ (List.mem_append_left _ (List.mem_append_left _ (List.mem_of_getElem? (i := 11) rfl)))) (List.mem_cons_of_mem _ (List.mem_append_left _ (List.mem_append_left _ (List.mem_of_getElem? (i := 8) rfl)))) (by decide +kernel)) gg_y_X3_spread__z20_X1_length
theorem gg_y_X3_spread__z20_X1_member : GoodIn w_y_X3_spread__z20 w_y_X1_member := goodIn_sub (fun w h => (List.mem_cons.mp h).elim (fun e => (List.mem_cons_of_mem _ (List.mem_append_left _ (List.mem_append_right _ (List.mem_append_right _ (List.mem_append_right _ (List.mem_append_right _ (List.mem_append_right _ (List.mem_append_left _ (List.mem_cons.mpr (Or.inl e))))))))))) (fun h => (List.mem_append.mp h).elim (fun h => (List.mem_cons_of_mem _ (List.mem_append_left _ (List.mem_append_right _ (List.mem_append_right _ (List.mem_append_right _ (List.mem_append_right _ (List.mem_append_right _ (List.mem_append_left _ (List.mem_cons_of_mem _ h)))))))))) (fun h => List.mem_cons_of_mem _ (List.mem_append_right _ h)))) w_y_X1_member_good
theorem g_y_X3_spread__z20_X1_member_V452 : GoodIn w_y_X3_spread__z20 (wsV RX3 452 RX1 yX1_member w_y_X1_member) := goodIn_app (nb_g4 (List.mem_cons_of_mem _ (List.mem_append_left _ (List.mem_append_left _ (List.mem_of_getElem? (i := 16) rfl)))) (List.mem_cons_of_mem _ (List.mem_append_left _ (List.mem_append_left _ (List.mem_of_getElem? (i := 17) rfl)))) (List.mem_cons_of_mem _ (List.mem_append_left _ (List.mem_append_left _ (List.mem_of_getElem? (i := 18) rfl)))) (List.mem_cons_of_mem _ (List.mem_append_left _ (List.mem_append_left _ (List.mem_of_getElem? (i := 8) rfl)))) (by decide +kernel)) gg_y_X3_spread__z20_X1_member
theorem gg_y_X3_spread__z20_X3_assign : GoodIn w_y_X3_spread__z20 w_y_X3_assign := goodIn_sub (fun w h => (List.mem_cons.mp h).elim (fun e => (List.mem_cons_of_mem _ (List.mem_append_left _ (List.mem_append_right _ (List.mem_append_right _ (List.mem_append_right _ (List.mem_append_right _ (List.mem_append_right _ (List.mem_append_right _ (List.mem_append_left _ (List.mem_cons.mpr (Or.inl e)))))))))))) (fun h => (List.mem_append.mp h).elim (fun h => (List.mem_cons_of_mem _ (List.mem_append_left _ (List.mem_append_right _ (List.mem_append_right _ (List.mem_append_right _ (List.mem_append_right _ (List.mem_append_right _ (List.mem_append_right _ (List.mem_append_left _ (List.mem_cons_of_mem _ h))))))))))) (fun h => List.mem_cons_of_mem _ (List.mem_append_right _ h)))) w_y_X3_assign_good
theorem g_y_X3_spread__z20_X3_assign_V504 : GoodIn w_y_X3_spread__z20 (wsV RX3 504 RX3 yX3_assign w_y_X3_assign) := goodIn_app (nb_g4 (List.mem_cons_of_mem _ (List.mem_append_left _ (List.mem_append_left _ (List.mem_of_getElem? (i := 19) rfl)))) (List.mem_cons_of_mem _ (List.mem_append_left _ (List.mem_append_left _ (List.mem_of_getElem? (i := 20) rfl)))) (List.mem_cons_of_mem _ (List.mem_append_left _ (List.mem_append_left _ (List.mem_of_getElem? (i := 21) rfl)))) (List.mem_cons_of_mem _ (List.mem_append_left _ (List.mem_append_left _ (List.mem_of_getElem? (i := 3) rfl)))) (by decide +kernel)) gg_y_X3_spread__z20_X3_assign
theorem gg_y_X3_spread__z20_X3_fail : GoodIn w_y_X3_spread__z20 w_y_X3_fail := goodIn_sub (fun w h => (List.mem_cons.mp h).elim (fun e => (List.mem_cons_of_mem _ (List.mem_append_left _ (List.mem_append_right _ (List.mem_append_right _ (List.mem_append_right _ (List.mem_append_right _ (List.mem_append_left _ (List.mem_cons.mpr (Or.inl e)))))))))) (fun h => (List.mem_append.mp h).elim (fun h => (List.mem_cons_of_mem _ (List.mem_append_left _ (List.mem_append_right _ (List.mem_append_right _ (List.mem_append_right _ (List.mem_append_right _ (List.mem_append_left _ (List.mem_cons_of_mem _ h))))))))) (fun h => List.mem_cons_of_mem _ (List.mem_append_right _ h)))) w_y_X3_fail_good
theorem g_y_X3_spread__z20_X3_fail_V313 : GoodIn w_y_X3_spread__z20 (wsV RX3 313 RX3 yX3_fail w_y_X3_fail) := goodIn_app (nb_g4 (List.mem_cons_of_mem _ (List.mem_append_left _ (List.mem_append_left _ (List.mem_of_getElem? (i := 12) rfl)))) (List.mem_cons_of_mem _ (List.mem_append_left _ (List.mem_append_left _ (List.mem_of_getElem? (i := 13) rfl)))) (List.mem_cons_of_mem _ (List.mem_append_left _ (List.mem_append_left _ (List.mem_of_getElem? (i := 14) rfl)))) (List.mem_cons_of_mem _ (List.mem_append_left _ (List.mem_append_left _ (List.mem_of_getElem? (i := 3) rfl)))) (by decide +kernel)) gg_y_X3_spread__z20_X3_fail
theorem gg_y_X3_spread__z20_X3_pop : GoodIn w_y_X3_spread__z20 w_y_X3_pop := goodIn_sub (fun w h => (List.mem_cons.mp h).elim (fun e => (List.mem_cons_of_mem _ (List.mem_append_left _ (List.mem_append_right _ (List.mem_append_left _ (List.mem_cons.mpr (Or.inl e))))))) (fun h => (List.mem_append.mp h).elim (fun h => (List.mem_cons_of_mem _ (List.mem_append_left _ (List.mem_append_right _ (List.mem_append_left _ (List.mem_cons_of_mem _ h)))))) (fun h => List.mem_cons_of_mem _ (List.mem_append_right _ h)))) w_y_X3_pop_good
theorem g_y_X3_spread__z20_X3_pop_V339 : GoodIn w_y_X3_spread__z20 (wsV RX3 339 RX3 yX3_pop w_y_X3_pop) := goodIn_app (nb_g4 (List.mem_cons_of_mem _ (List.mem_append_left _ (List.mem_append_left _ (List.mem_of_getElem? (i := 0) rfl)))) (List.mem_cons_of_mem _ (List.mem_append_left _ (List.mem_append_left _ (List.mem_of_getElem? (i := 1) rfl)))) (List.mem_cons_of_mem _ (List.mem_append_left _ (List.mem_append_left _ (List.mem_of_getElem? (i := 2) rfl)))) (List.mem_cons_of_mem _ (List.mem_append_left _ (List.mem_append_left _ (List.mem_of_getElem? (i := 3) rfl)))) (by decide +kernel)) gg_y_X3_spread__z20_X3_pop
set_option maxHeartbeats 40000000 in
set_option maxRecDepth 100000 in
theorem c_y_X3_spread__z20 (l : Launch) (dC : Nat → ClassId) (dI : Nat → Nat → Nat) (cy : Nat → ClassId) (a z : Nat → Nat) (k0 : Nat) (L0 : LV) (σ0 : CS) (r0 : Int32 × CS) (h0 : y_X3_spread__z20 k0 0 L0 σ0 = some r0) (sz : Nat) : Met l yX3_spread w_y_X3_spread__z20 ({ frames := 2, cells := 0, slots := 0, locals := 46 }) (va_Pc [.ref (a 18), .ref (z 20), .int (L0.1 2), .int (L0.1 3), .int (L0.1 4)] (nIn (dC, dI) cy sz (vC cy a z σ0))) (va_Qv (fun _ : Unit => True) (fun _ t => nOut (dC, dI) cy (va_A (vC cy a z σ0) sz) (vC cy a z r0.2) t) (va_A (vC cy a z σ0) sz)) 0 0 (va_A (vC cy a z σ0) sz) := by
  refine Met.ofW (cc := cX3_spread) (maxL := 7) (ret := none) (by decide) rfl ?_
  intro p e s m args below meth c s₁ B hml hv
  obtain ⟨rfl, hsz, hP, hK, hD0, hG⟩ := hv
  have hx := B.exec
  have hb := B.bytes
  have hr := B.returns
  have hts := atoms_spec (ws := w_y_X3_spread__z20) B.pre
  have hown : s.vm.findClass RX3 = some m.cls := findClass_of_methodNamed B.named
  have hlocks := B.notSynchronized
  subst hsz
  have hD := hD0.self (sz := s.heap.size)
  generalize hAe : va_A (vC cy a z σ0) s.heap.size = A at hD ⊢
  have hA : ∀ q : Nat, s.heap.size ≤ q → A q := fun q h => by rw [← hAe]; exact Or.inr h
  have hS : va_S A s.heap s.heap [] := va_S.rf
  have hl := lv_entry ([.ref (a 18), .ref (z 20), .int (L0.1 2), .int (L0.1 3), .int (L0.1 4)]) (n := 7) (Nat.le_of_ble_eq_true rfl)
  rw [lg_entry_eq]
  generalize (lg_sl ([.ref (a 18), .ref (z 20), .int (L0.1 2), .int (L0.1 3), .int (L0.1 4)]) ++ List.replicate (7 - (lg_sl ([.ref (a 18), .ref (z 20), .int (L0.1 2), .int (L0.1 3), .int (L0.1 4)])).length) Slot.unset).toArray = ls at hl ⊢
  have hl : lv_has ls 7 [(0, .ref (a 18)), (1, .ref (z 20)), (2, .int (L0.1 2)), (3, .int (L0.1 3)), (4, .int (L0.1 4))] := hl
  have blk : ∀ k : Nat, (bC p l e (headSpec w_y_X3_spread__z20 ({ frames := 2, cells := 0, slots := 0, locals := 46 })).room s m #[.ref (a 18), .ref (z 20), .int (L0.1 2), .int (L0.1 3), .int (L0.1 4)] below meth c dC dI cy a z A (kV dC dI cy a z A below #[.ref (a 18), .ref (z 20), .int (L0.1 2), .int (L0.1 3), .int (L0.1 4)] s) 7 (y_X3_spread__z20 k 0) (fun L => [(0, .ref (a 18)), (1, .ref (z 20)), (2, .int (L.1 2)), (3, .int (L.1 3)), (4, .int (L.1 4))]) 0 (fun L => [])) ∧ (bC p l e (headSpec w_y_X3_spread__z20 ({ frames := 2, cells := 0, slots := 0, locals := 46 })).room s m #[.ref (a 18), .ref (z 20), .int (L0.1 2), .int (L0.1 3), .int (L0.1 4)] below meth c dC dI cy a z A (kV dC dI cy a z A below #[.ref (a 18), .ref (z 20), .int (L0.1 2), .int (L0.1 3), .int (L0.1 4)] s) 7 (y_X3_spread__z20 k 1) (fun L => [(0, .ref (a 18))]) 32 (fun L => [])) ∧ (bC p l e (headSpec w_y_X3_spread__z20 ({ frames := 2, cells := 0, slots := 0, locals := 46 })).room s m #[.ref (a 18), .ref (z 20), .int (L0.1 2), .int (L0.1 3), .int (L0.1 4)] below meth c dC dI cy a z A (kV dC dI cy a z A below #[.ref (a 18), .ref (z 20), .int (L0.1 2), .int (L0.1 3), .int (L0.1 4)] s) 7 (y_X3_spread__z20 k 2) (fun L => [(0, .ref (a 18)), (1, .ref (z 20)), (2, .int (L.1 2)), (3, .int (L.1 3)), (4, .int (L.1 4)), (5, .int (L.1 5))]) 38 (fun L => [])) ∧ (bC p l e (headSpec w_y_X3_spread__z20 ({ frames := 2, cells := 0, slots := 0, locals := 46 })).room s m #[.ref (a 18), .ref (z 20), .int (L0.1 2), .int (L0.1 3), .int (L0.1 4)] below meth c dC dI cy a z A (kV dC dI cy a z A below #[.ref (a 18), .ref (z 20), .int (L0.1 2), .int (L0.1 3), .int (L0.1 4)] s) 7 (y_X3_spread__z20 k 3) (fun L => [(0, .ref (a 18)), (1, .ref (z 20)), (2, .int (L.1 2)), (3, .int (L.1 3)), (4, .int (L.1 4)), (5, .int (L.1 5)), (6, .int (L.1 6))]) 41 (fun L => [])) ∧ (bC p l e (headSpec w_y_X3_spread__z20 ({ frames := 2, cells := 0, slots := 0, locals := 46 })).room s m #[.ref (a 18), .ref (z 20), .int (L0.1 2), .int (L0.1 3), .int (L0.1 4)] below meth c dC dI cy a z A (kV dC dI cy a z A below #[.ref (a 18), .ref (z 20), .int (L0.1 2), .int (L0.1 3), .int (L0.1 4)] s) 7 (y_X3_spread__z20 k 4) (fun L => []) 105 (fun L => [])) ∧ (bC p l e (headSpec w_y_X3_spread__z20 ({ frames := 2, cells := 0, slots := 0, locals := 46 })).room s m #[.ref (a 18), .ref (z 20), .int (L0.1 2), .int (L0.1 3), .int (L0.1 4)] below meth c dC dI cy a z A (kV dC dI cy a z A below #[.ref (a 18), .ref (z 20), .int (L0.1 2), .int (L0.1 3), .int (L0.1 4)] s) 7 (y_X3_spread__z20 k 5) (fun L => [(0, .ref (a 18)), (1, .ref (z 20)), (2, .int (L.1 2)), (3, .int (L.1 3)), (4, .int (L.1 4)), (5, .int (L.1 5)), (6, .int (L.1 6))]) 82 (fun L => [])) ∧ (bC p l e (headSpec w_y_X3_spread__z20 ({ frames := 2, cells := 0, slots := 0, locals := 46 })).room s m #[.ref (a 18), .ref (z 20), .int (L0.1 2), .int (L0.1 3), .int (L0.1 4)] below meth c dC dI cy a z A (kV dC dI cy a z A below #[.ref (a 18), .ref (z 20), .int (L0.1 2), .int (L0.1 3), .int (L0.1 4)] s) 7 (y_X3_spread__z20 k 6) (fun L => [(0, .ref (a 18)), (1, .ref (z 20)), (2, .int (L.1 2)), (3, .int (L.1 3)), (4, .int (L.1 4)), (5, .int (L.1 5)), (6, .int (L.1 6))]) 99 (fun L => [])) := by
    intro k
    induction k with
    | zero => exact ⟨fun L σ r h => (by cases h), fun L σ r h => (by cases h), fun L σ r h => (by cases h), fun L σ r h => (by cases h), fun L σ r h => (by cases h), fun L σ r h => (by cases h), fun L σ r h => (by cases h)⟩
    | succ k ih =>
      refine ⟨?_, ?_, ?_, ?_, ?_, ?_, ?_⟩
      · intro L σ r h H locs ls hP hD hS hl
        rw [y_X3_spread__z20] at h
        refine lv_aload_n hx hb dX3_spread_0 rfl (lv_at hl 0 rfl) ?_
        obtain ⟨r1, hc1, h⟩ := oc_ex h
        refine kc_i (va_runV (As := []) (rest := []) ⟨hx, hb, hml, hown, hts⟩ (c_y_X3_pop l dC dI cy a z k lZ σ r1 hc1 H.size) (cwV 0 hts g_y_X3_spread__z20_X3_pop_V339 rfl rfl rfl hd_y_X3_pop ⟨Nat.le_of_ble_eq_true rfl, Nat.le_of_ble_eq_true rfl⟩) ⟨nb_blind, va_recv hK hP (ci := 3) (q0 := 18) rfl rfl, (kb_pre hK hG hP hD)⟩ rfl rfl hl.1 rfl (lv_room (Nat.le_of_ble_eq_true rfl)) dX3_spread_1 ⟨Nat.le_refl _, Nat.le_refl _⟩) hA hP hD hS (fun H locs hP hD hS => ?_)
        refine lv_istore (lv' := [(5, .int r1.1), (0, .ref (a 18)), (1, .ref (z 20)), (2, .int (L.1 2)), (3, .int (L.1 3)), (4, .int (L.1 4))]) hx hb dX3_spread_4 hl (by decide) rfl (fun ls hl => ?_)
        refine lv_aload_n hx hb dX3_spread_6 rfl (lv_at hl 1 rfl) ?_
        refine hg_18_0 hx hb hts in_y_X3_spread__z20_X3 hown hK hP (hts _ (List.mem_cons_of_mem _ (List.mem_append_left _ (List.mem_append_left _ (List.mem_of_getElem? (i := 4) rfl))))) dX3_spread_7 ?_
        refine lv_iload hx hb dX3_spread_10 (lv_at hl 0 rfl) ?_
        obtain ⟨r2, hc2, h⟩ := oc_ex h
        refine kc_i (va_runV (As := [.int r1.1]) (rest := []) ⟨hx, hb, hml, hown, hts⟩ (c_y_X1_kind l dC dI cy a z k (lI lZ 1 r1.1) r1.2 r2 hc2 H.size) (cwV 1 hts g_y_X3_spread__z20_X1_kind_V396 rfl rfl rfl hd_y_X1_kind ⟨Nat.le_of_ble_eq_true rfl, Nat.le_of_ble_eq_true rfl⟩) ⟨nb_blind, va_recv hK hP (ci := 1) (q0 := 0) rfl rfl, (kb_pre hK hG hP hD)⟩ rfl rfl hl.1 rfl (lv_room (Nat.le_of_ble_eq_true rfl)) dX3_spread_12 ⟨Nat.le_refl _, Nat.le_refl _⟩) hA hP hD hS (fun H locs hP hD hS => ?_)
        refine lv_iconst (v := 5) hx hb dX3_spread_15 (by decide) ?_
        refine lv_icmp_ne (tgt := 32) hx hb dX3_spread_16 (by decide) (fun c3 => ?_) (fun c3 => ?_)
        · rw [if_neg c3] at h
          exact ih.2.1 L r2.2 r h H locs ls hP hD hS (lv_sub hl [1] rfl)
        · rw [if_pos c3] at h
          refine lv_aload_n hx hb dX3_spread_19 rfl (lv_at hl 1 rfl) ?_
          refine hg_18_0 hx hb hts in_y_X3_spread__z20_X3 hown hK hP (hts _ (List.mem_cons_of_mem _ (List.mem_append_left _ (List.mem_append_left _ (List.mem_of_getElem? (i := 4) rfl))))) dX3_spread_20 ?_
          refine lv_iload hx hb dX3_spread_23 (lv_at hl 0 rfl) ?_
          obtain ⟨r4, hc4, h⟩ := oc_ex h
          refine kc_i (va_runV (As := [.int r1.1]) (rest := []) ⟨hx, hb, hml, hown, hts⟩ (c_y_X1_length l dC dI cy a z k (lI lZ 1 r1.1) r2.2 r4 hc4 H.size) (cwV 1 hts g_y_X3_spread__z20_X1_length_V399 rfl rfl rfl hd_y_X1_length ⟨Nat.le_of_ble_eq_true rfl, Nat.le_of_ble_eq_true rfl⟩) ⟨nb_blind, va_recv hK hP (ci := 1) (q0 := 0) rfl rfl, (kb_pre hK hG hP hD)⟩ rfl rfl hl.1 rfl (lv_room (Nat.le_of_ble_eq_true rfl)) dX3_spread_25 ⟨Nat.le_refl _, Nat.le_refl _⟩) hA hP hD hS (fun H locs hP hD hS => ?_)
          refine lv_iload_n hx hb dX3_spread_28 rfl (lv_at hl 4 rfl) ?_
          refine lv_icmp_le (tgt := 38) hx hb dX3_spread_29 (by decide) (fun c5 => ?_) (fun c5 => ?_)
          · rw [if_pos c5] at h
            exact ih.2.2.1 (lI L 5 r1.1) r4.2 r h H locs ls hP hD hS (lv_sub hl [1, 2, 3, 4, 5, 0] rfl)
          · rw [if_neg c5] at h
            exact ih.2.1 L r4.2 r h H locs ls hP hD hS (lv_sub hl [1] rfl)
      · intro L σ r h H locs ls hP hD hS hl
        rw [y_X3_spread__z20] at h
        refine lv_aload_n hx hb dX3_spread_32 rfl (lv_at hl 0 rfl) ?_
        refine lv_iconst (v := 1) hx hb dX3_spread_33 (by decide) ?_
        obtain ⟨r1, hc1, h⟩ := oc_ex h
        refine kc_v (va_runV (As := [.int 1]) (rest := []) ⟨hx, hb, hml, hown, hts⟩ (c_y_X3_fail l dC dI cy a z k (lI lZ 1 1) σ r1 hc1 H.size) (cwV 1 hts g_y_X3_spread__z20_X3_fail_V313 rfl rfl rfl hd_y_X3_fail ⟨Nat.le_of_ble_eq_true rfl, Nat.le_of_ble_eq_true rfl⟩) ⟨nb_blind, va_recv hK hP (ci := 3) (q0 := 18) rfl rfl, (kb_pre hK hG hP hD)⟩ rfl rfl hl.1 rfl (lv_room (Nat.le_of_ble_eq_true rfl)) dX3_spread_34 ⟨Nat.le_refl _, Nat.le_refl _⟩) hA hP hD hS (fun H locs hP hD hS => ?_)
        obtain rfl := Option.some.inj h
        exact W.vret hx hb hr (fun t ht hW => ⟨⟨(), rfl, trivial, by rw [ht]; exact hP, va_K.moved hW.alike hK, hD⟩, hS.F ht⟩) hS.2.2 dX3_spread_37
      · intro L σ r h H locs ls hP hD hS hl
        rw [y_X3_spread__z20] at h
        refine lv_iconst (v := 0) hx hb dX3_spread_38 (by decide) ?_
        refine lv_istore (lv' := [(6, .int 0), (0, .ref (a 18)), (1, .ref (z 20)), (2, .int (L.1 2)), (3, .int (L.1 3)), (4, .int (L.1 4)), (5, .int (L.1 5))]) hx hb dX3_spread_39 hl (by decide) rfl (fun ls hl => ?_)
        exact ih.2.2.2.1 (lI L 6 0) σ r h H locs ls hP hD hS (lv_sub hl [1, 2, 3, 4, 5, 6, 0] rfl)
      · intro L σ r h H locs ls hP hD hS hl
        rw [y_X3_spread__z20] at h
        refine lv_iload hx hb dX3_spread_41 (lv_at hl 6 rfl) ?_
        refine lv_iload_n hx hb dX3_spread_43 rfl (lv_at hl 3 rfl) ?_
        refine lv_icmp_ge (tgt := 105) hx hb dX3_spread_44 (by decide) (fun c1 => ?_) (fun c1 => ?_)
        · rw [if_pos c1] at h
          exact ih.2.2.2.2.1 L σ r h H locs ls hP hD hS (lv_sub hl [] rfl)
        · rw [if_neg c1] at h
          refine lv_aload_n hx hb dX3_spread_47 rfl (lv_at hl 0 rfl) ?_
          refine hg_18_13 hx hb hts in_y_X3_spread__z20_X3 hown hK hP (hts _ (List.mem_cons_of_mem _ (List.mem_append_left _ (List.mem_append_left _ (List.mem_of_getElem? (i := 15) rfl))))) dX3_spread_48 ?_
          refine lv_if_ne (tgt := 105) hx hb dX3_spread_51 (by decide) (fun c2 => ?_) (fun c2 => ?_)
          · rw [if_neg c2] at h
            exact ih.2.2.2.2.1 L σ r h H locs ls hP hD hS (lv_sub hl [] rfl)
          · rw [if_pos c2] at h
            refine lv_iload hx hb dX3_spread_54 (lv_at hl 4 rfl) ?_
            refine lv_if_eq (tgt := 82) hx hb dX3_spread_56 (by decide) (fun c3 => ?_) (fun c3 => ?_)
            · rw [if_pos c3] at h
              exact ih.2.2.2.2.2.1 L σ r h H locs ls hP hD hS (lv_sub hl [0, 1, 2, 3, 4, 5, 6] rfl)
            · rw [if_neg c3] at h
              refine lv_aload_n hx hb dX3_spread_59 rfl (lv_at hl 0 rfl) ?_
              refine lv_iload_n hx hb dX3_spread_60 rfl (lv_at hl 2 rfl) ?_
              refine lv_iload hx hb dX3_spread_61 (lv_at hl 6 rfl) ?_
              refine lv_iadd hx hb dX3_spread_63 ?_
              refine lv_aload_n hx hb dX3_spread_64 rfl (lv_at hl 0 rfl) ?_
              refine hg_18_0 hx hb hts in_y_X3_spread__z20_X3 hown hK hP (hts _ (List.mem_cons_of_mem _ (List.mem_append_left _ (List.mem_append_left _ (List.mem_of_getElem? (i := 4) rfl))))) dX3_spread_65 ?_
              refine lv_iload hx hb dX3_spread_68 (lv_at hl 5 rfl) ?_
              refine lv_iload hx hb dX3_spread_70 (lv_at hl 6 rfl) ?_
              obtain ⟨r4, hc4, h⟩ := oc_ex h
              refine kc_i (va_runV (As := [.int (L.1 5), .int (L.1 6)]) (rest := [.int (((L.1 2)) + ((L.1 6))), .ref (a 18)]) ⟨hx, hb, hml, hown, hts⟩ (c_y_X1_member l dC dI cy a z k (lI (lI lZ 1 ((L.1 5))) 2 ((L.1 6))) σ r4 hc4 H.size) (cwV 2 hts g_y_X3_spread__z20_X1_member_V452 rfl rfl rfl hd_y_X1_member ⟨Nat.le_of_ble_eq_true rfl, Nat.le_of_ble_eq_true rfl⟩) ⟨nb_blind, va_recv hK hP (ci := 1) (q0 := 0) rfl rfl, (kb_pre hK hG hP hD)⟩ rfl rfl hl.1 rfl (lv_room (Nat.le_of_ble_eq_true rfl)) dX3_spread_72 ⟨Nat.le_refl _, Nat.le_refl _⟩) hA hP hD hS (fun H locs hP hD hS => ?_)
              refine lv_iconst (v := 1) hx hb dX3_spread_75 (by decide) ?_
              obtain ⟨r5, hc5, h⟩ := oc_ex h
              refine kc_v (va_runV (As := [.int (((L.1 2)) + ((L.1 6))), .int r4.1, .int 1]) (rest := []) ⟨hx, hb, hml, hown, hts⟩ (c_y_X3_assign l dC dI cy a z k (lI (lI (lI lZ 1 ((((L.1 2)) + ((L.1 6))))) 2 r4.1) 3 1) r4.2 r5 hc5 H.size) (cwV 3 hts g_y_X3_spread__z20_X3_assign_V504 rfl rfl rfl hd_y_X3_assign ⟨Nat.le_of_ble_eq_true rfl, Nat.le_of_ble_eq_true rfl⟩) ⟨nb_blind, va_recv hK hP (ci := 3) (q0 := 18) rfl rfl, (kb_pre hK hG hP hD)⟩ rfl rfl hl.1 rfl (lv_room (Nat.le_of_ble_eq_true rfl)) dX3_spread_76 ⟨Nat.le_refl _, Nat.le_refl _⟩) hA hP hD hS (fun H locs hP hD hS => ?_)
              refine lv_goto (tgt := 99) hx hb dX3_spread_79 (by decide) ?_
              exact ih.2.2.2.2.2.2 L r5.2 r h H locs ls hP hD hS (lv_sub hl [0, 1, 2, 3, 4, 5, 6] rfl)
      · intro L σ r h H locs ls hP hD hS hl
        rw [y_X3_spread__z20] at h
        obtain rfl := Option.some.inj h
        exact W.vret hx hb hr (fun t ht hW => ⟨⟨(), rfl, trivial, by rw [ht]; exact hP, va_K.moved hW.alike hK, hD⟩, hS.F ht⟩) hS.2.2 dX3_spread_105
      · intro L σ r h H locs ls hP hD hS hl
        rw [y_X3_spread__z20] at h
        refine lv_aload_n hx hb dX3_spread_82 rfl (lv_at hl 1 rfl) ?_
        refine lv_iload_n hx hb dX3_spread_83 rfl (lv_at hl 2 rfl) ?_
        refine lv_iload hx hb dX3_spread_84 (lv_at hl 6 rfl) ?_
        refine lv_iadd hx hb dX3_spread_86 ?_
        refine lv_aload_n hx hb dX3_spread_87 rfl (lv_at hl 0 rfl) ?_
        refine hg_18_0 hx hb hts in_y_X3_spread__z20_X3 hown hK hP (hts _ (List.mem_cons_of_mem _ (List.mem_append_left _ (List.mem_append_left _ (List.mem_of_getElem? (i := 4) rfl))))) dX3_spread_88 ?_
        refine lv_iload hx hb dX3_spread_91 (lv_at hl 5 rfl) ?_
        refine lv_iload hx hb dX3_spread_93 (lv_at hl 6 rfl) ?_
        obtain ⟨r1, hc1, h⟩ := oc_ex h
        refine kc_i (va_runV (As := [.int (L.1 5), .int (L.1 6)]) (rest := [.int (((L.1 2)) + ((L.1 6))), .ref (z 20)]) ⟨hx, hb, hml, hown, hts⟩ (c_y_X1_member l dC dI cy a z k (lI (lI lZ 1 ((L.1 5))) 2 ((L.1 6))) σ r1 hc1 H.size) (cwV 2 hts g_y_X3_spread__z20_X1_member_V452 rfl rfl rfl hd_y_X1_member ⟨Nat.le_of_ble_eq_true rfl, Nat.le_of_ble_eq_true rfl⟩) ⟨nb_blind, va_recv hK hP (ci := 1) (q0 := 0) rfl rfl, (kb_pre hK hG hP hD)⟩ rfl rfl hl.1 rfl (lv_room (Nat.le_of_ble_eq_true rfl)) dX3_spread_95 ⟨Nat.le_refl _, Nat.le_refl _⟩) hA hP hD hS (fun H locs hP hD hS => ?_)
        obtain ⟨q2, h⟩ := kb_ite1 h
        refine hs_20 hx hb hK hP hD hS q2 dX3_spread_98 (fun H locs hP hD hS => ?_)
        exact ih.2.2.2.2.2.2 L (uA r1.2 20 ((((L.1 2)) + ((L.1 6)))).toNatClampNeg r1.1) r h H locs ls hP hD hS (lv_sub hl [0, 1, 2, 3, 4, 5, 6] rfl)
      · intro L σ r h H locs ls hP hD hS hl
        rw [y_X3_spread__z20] at h
        refine lv_iinc (v := ((L.1 6)) + 1) (lv' := [(6, .int (((L.1 6)) + 1)), (0, .ref (a 18)), (1, .ref (z 20)), (2, .int (L.1 2)), (3, .int (L.1 3)), (4, .int (L.1 4)), (5, .int (L.1 5))]) hx hb dX3_spread_99 hl (k := 6) rfl rfl (by decide) rfl (fun ls hl => ?_)
        refine lv_goto (tgt := 41) hx hb dX3_spread_102 (by decide) ?_
        exact ih.2.2.2.1 (lI L 6 ((((L.1 6)) + 1))) σ r h H locs ls hP hD hS (lv_sub hl [1, 2, 3, 4, 5, 6, 0] rfl)
  exact (blk k0).1 L0 σ0 r0 h0 s.heap [] ls hP hD hS hl
/-! X3_goOver__a23 -/
def y_X3_goOver__a23 : Nat → Nat → LV → CS → Option (Int32 × CS)
  | 0, _, _, _ => none
  | k + 1, 0, L, σ => oc (y_X3_pop k 0 lZ σ) (fun r1 => oc (y_X1_kind k 0 (lI lZ 1 r1.1) r1.2) (fun r2 => if 4 ≤ r2.1 then (y_X3_goOver__a23 k 1 (lI L 4 r1.1) r2.2) else (oc (y_X3_fail k 0 (lI lZ 1 1) r2.2) (fun r4 => some (0, r4.2)))))
  | k + 1, 1, L, σ => if ((L.1 3)) = 0 then (y_X3_goOver__a23 k 2 L σ) else (oc (y_X1_size k 0 (lI lZ 1 ((L.1 4))) σ) (fun r2 => if ((((((r2.2.1 1909)) + r2.1)) + ((r2.2.1 1911)))) ≤ 40000 then (y_X3_goOver__a23 k 3 (lI L 5 r2.1) r2.2) else (oc (y_X3_fail k 0 (lI lZ 1 6) r2.2) (fun r4 => some (0, r4.2)))))
  | k + 1, 2, L, σ => if ¬ (((L.1 2)) < 0 ∨ 3780 ≤ ((L.1 2)).toNatClampNeg) then (oc (y_X11_raw k 0 (lI lZ 0 0) (uA σ 23 ((L.1 2)).toNatClampNeg ((L.1 4)))) (fun r2 => if ¬ (((((L.1 2)) + 1)) < 0 ∨ 3780 ≤ ((((L.1 2)) + 1)).toNatClampNeg) then (y_X3_goOver__a23 k 4 L (uA r2.2 23 ((((L.1 2)) + 1)).toNatClampNeg r2.1)) else none)) else none
  | k + 1, 3, L, σ => y_X3_goOver__a23 k 2 L (uI (uI σ 1909 ((((σ.1 1909)) + ((L.1 5))))) 1910 (((((uI σ 1909 ((((σ.1 1909)) + ((L.1 5))))).1 1910)) + ((L.1 5)))))
  | k + 1, 4, L, σ => some (0, σ)
  | _ + 1, _ + 5, _, _ => none
def o_y_X3_goOver__a23 : List Cond := [.methodLink RX3 339 yX3_pop, .instanceMethod yX3_pop, .selects RX3 yX3_pop yX3_pop, .initialized RX3, .fieldLink RX3 39 "SetHouse$Machine" "heap" "LSetHouse$Heap;", .methodLink RX3 396 yX1_kind, .instanceMethod yX1_kind, .selects RX1 yX1_kind yX1_kind, .initialized RX1, .methodLink RX3 313 yX3_fail, .instanceMethod yX3_fail, .selects RX3 yX3_fail yX3_fail, .methodLink RX3 316 yX1_size, .instanceMethod yX1_size, .selects RX1 yX1_size yX1_size, .fieldLink RX3 14 "SetHouse$Machine" "run" "LSetHouse$Run;", .constant RX3 394 (40000), .initialized RX11, .static yX11_raw]
theorem o_y_X3_goOver__a23_good : o_y_X3_goOver__a23.all goodWord = true := by decide +kernel
def p_y_X3_goOver__a23 : List Cond := o_y_X3_goOver__a23 ++ ((.code yX3_pop cX3_pop 1 (some .int) :: p_y_X3_pop) ++ ((.code yX1_kind cX1_kind 2 (some .int) :: p_y_X1_kind) ++ ((.code yX3_fail cX3_fail 2 none :: p_y_X3_fail) ++ ((.code yX1_size cX1_size 3 (some .int) :: p_y_X1_size) ++ ((.code yX11_raw cX11_raw 1 (some .int) :: p_y_X11_raw) ++ [])))))
theorem p_y_X3_goOver__a23_good : p_y_X3_goOver__a23.all goodWord = true := nb_all2 o_y_X3_goOver__a23_good (nb_all2 (nb_allc (by decide +kernel) p_y_X3_pop_good) (nb_all2 (nb_allc (by decide +kernel) p_y_X1_kind_good) (nb_all2 (nb_allc (by decide +kernel) p_y_X3_fail_good) (nb_all2 (nb_allc (by decide +kernel) p_y_X1_size_good) (nb_all2 (nb_allc (by decide +kernel) p_y_X11_raw_good) rfl)))))
def w_y_X3_goOver__a23 : List Cond := .code yX3_goOver cX3_goOver 6 none :: (p_y_X3_goOver__a23 ++ fC)
theorem w_y_X3_goOver__a23_good : w_y_X3_goOver__a23.all goodWord = true := nb_allc (by decide +kernel) (nb_all2 p_y_X3_goOver__a23_good fC_good)
theorem in_y_X3_goOver__a23_X3 : ∀ w ∈ wsX30, w ∈ w_y_X3_goOver__a23 := fun _ h => List.mem_cons_of_mem _ (List.mem_append_right _ (List.mem_append_right _ (List.mem_append_right _ (List.mem_append_right _ (List.mem_append_left _ h)))))
theorem in_y_X3_goOver__a23_X8 : ∀ w ∈ wsX80, w ∈ w_y_X3_goOver__a23 := fun _ h => List.mem_cons_of_mem _ (List.mem_append_right _ (List.mem_append_right _ (List.mem_append_right _ (List.mem_append_right _ (List.mem_append_right _ (List.mem_append_right _ (List.mem_append_right _ (List.mem_append_right _ (List.mem_append_left _ h)))))))))
theorem hd_y_X3_goOver__a23 : yX3_goOver.cls = RX3 ∧ yX3_goOver.cls ≠ "java/lang/invoke/MethodHandle" ∧ yX3_goOver.cls ≠ "java/lang/invoke/VarHandle" ∧ (parseMethodDescriptor yX3_goOver.desc).map (fun d => d.parameters.length) = some 3 := by decide +kernel
theorem gg_y_X3_goOver__a23_X11_raw : GoodIn w_y_X3_goOver__a23 w_y_X11_raw := goodIn_sub (fun w h => (List.mem_cons.mp h).elim (fun e => (List.mem_cons_of_mem _ (List.mem_append_left _ (List.mem_append_right _ (List.mem_append_right _ (List.mem_append_right _ (List.mem_append_right _ (List.mem_append_right _ (List.mem_append_left _ (List.mem_cons.mpr (Or.inl e))))))))))) (fun h => (List.mem_append.mp h).elim (fun h => (List.mem_cons_of_mem _ (List.mem_append_left _ (List.mem_append_right _ (List.mem_append_right _ (List.mem_append_right _ (List.mem_append_right _ (List.mem_append_right _ (List.mem_append_left _ (List.mem_cons_of_mem _ h)))))))))) (fun h => List.mem_cons_of_mem _ (List.mem_append_right _ h)))) w_y_X11_raw_good
theorem g_y_X3_goOver__a23_X11_raw_SN182 : GoodIn w_y_X3_goOver__a23 w_y_X11_raw := gg_y_X3_goOver__a23_X11_raw
theorem gg_y_X3_goOver__a23_X1_kind : GoodIn w_y_X3_goOver__a23 w_y_X1_kind := goodIn_sub (fun w h => (List.mem_cons.mp h).elim (fun e => (List.mem_cons_of_mem _ (List.mem_append_left _ (List.mem_append_right _ (List.mem_append_right _ (List.mem_append_left _ (List.mem_cons.mpr (Or.inl e)))))))) (fun h => (List.mem_append.mp h).elim (fun h => (List.mem_cons_of_mem _ (List.mem_append_left _ (List.mem_append_right _ (List.mem_append_right _ (List.mem_append_left _ (List.mem_cons_of_mem _ h))))))) (fun h => List.mem_cons_of_mem _ (List.mem_append_right _ h)))) w_y_X1_kind_good
theorem g_y_X3_goOver__a23_X1_kind_V396 : GoodIn w_y_X3_goOver__a23 (wsV RX3 396 RX1 yX1_kind w_y_X1_kind) := goodIn_app (nb_g4 (List.mem_cons_of_mem _ (List.mem_append_left _ (List.mem_append_left _ (List.mem_of_getElem? (i := 5) rfl)))) (List.mem_cons_of_mem _ (List.mem_append_left _ (List.mem_append_left _ (List.mem_of_getElem? (i := 6) rfl)))) (List.mem_cons_of_mem _ (List.mem_append_left _ (List.mem_append_left _ (List.mem_of_getElem? (i := 7) rfl)))) (List.mem_cons_of_mem _ (List.mem_append_left _ (List.mem_append_left _ (List.mem_of_getElem? (i := 8) rfl)))) (by decide +kernel)) gg_y_X3_goOver__a23_X1_kind
theorem gg_y_X3_goOver__a23_X1_size : GoodIn w_y_X3_goOver__a23 w_y_X1_size := goodIn_sub (fun w h => (List.mem_cons.mp h).elim (fun e => (List.mem_cons_of_mem _ (List.mem_append_left _ (List.mem_append_right _ (List.mem_append_right _ (List.mem_append_right _ (List.mem_append_right _ (List.mem_append_left _ (List.mem_cons.mpr (Or.inl e)))))))))) (fun h => (List.mem_append.mp h).elim (fun h => (List.mem_cons_of_mem _ (List.mem_append_left _ (List.mem_append_right _ (List.mem_append_right _ (List.mem_append_right _ (List.mem_append_right _ (List.mem_append_left _ (List.mem_cons_of_mem _ h))))))))) (fun h => List.mem_cons_of_mem _ (List.mem_append_right _ h)))) w_y_X1_size_good
theorem g_y_X3_goOver__a23_X1_size_V316 : GoodIn w_y_X3_goOver__a23 (wsV RX3 316 RX1 yX1_size w_y_X1_size) := goodIn_app (nb_g4 (List.mem_cons_of_mem _ (List.mem_append_left _ (List.mem_append_left _ (List.mem_of_getElem? (i := 12) rfl)))) (List.mem_cons_of_mem _ (List.mem_append_left _ (List.mem_append_left _ (List.mem_of_getElem? (i := 13) rfl)))) (List.mem_cons_of_mem _ (List.mem_append_left _ (List.mem_append_left _ (List.mem_of_getElem? (i := 14) rfl)))) (List.mem_cons_of_mem _ (List.mem_append_left _ (List.mem_append_left _ (List.mem_of_getElem? (i := 8) rfl)))) (by decide +kernel)) gg_y_X3_goOver__a23_X1_size
theorem gg_y_X3_goOver__a23_X3_fail : GoodIn w_y_X3_goOver__a23 w_y_X3_fail := goodIn_sub (fun w h => (List.mem_cons.mp h).elim (fun e => (List.mem_cons_of_mem _ (List.mem_append_left _ (List.mem_append_right _ (List.mem_append_right _ (List.mem_append_right _ (List.mem_append_left _ (List.mem_cons.mpr (Or.inl e))))))))) (fun h => (List.mem_append.mp h).elim (fun h => (List.mem_cons_of_mem _ (List.mem_append_left _ (List.mem_append_right _ (List.mem_append_right _ (List.mem_append_right _ (List.mem_append_left _ (List.mem_cons_of_mem _ h)))))))) (fun h => List.mem_cons_of_mem _ (List.mem_append_right _ h)))) w_y_X3_fail_good
theorem g_y_X3_goOver__a23_X3_fail_V313 : GoodIn w_y_X3_goOver__a23 (wsV RX3 313 RX3 yX3_fail w_y_X3_fail) := goodIn_app (nb_g4 (List.mem_cons_of_mem _ (List.mem_append_left _ (List.mem_append_left _ (List.mem_of_getElem? (i := 9) rfl)))) (List.mem_cons_of_mem _ (List.mem_append_left _ (List.mem_append_left _ (List.mem_of_getElem? (i := 10) rfl)))) (List.mem_cons_of_mem _ (List.mem_append_left _ (List.mem_append_left _ (List.mem_of_getElem? (i := 11) rfl)))) (List.mem_cons_of_mem _ (List.mem_append_left _ (List.mem_append_left _ (List.mem_of_getElem? (i := 3) rfl)))) (by decide +kernel)) gg_y_X3_goOver__a23_X3_fail
theorem gg_y_X3_goOver__a23_X3_pop : GoodIn w_y_X3_goOver__a23 w_y_X3_pop := goodIn_sub (fun w h => (List.mem_cons.mp h).elim (fun e => (List.mem_cons_of_mem _ (List.mem_append_left _ (List.mem_append_right _ (List.mem_append_left _ (List.mem_cons.mpr (Or.inl e))))))) (fun h => (List.mem_append.mp h).elim (fun h => (List.mem_cons_of_mem _ (List.mem_append_left _ (List.mem_append_right _ (List.mem_append_left _ (List.mem_cons_of_mem _ h)))))) (fun h => List.mem_cons_of_mem _ (List.mem_append_right _ h)))) w_y_X3_pop_good
theorem g_y_X3_goOver__a23_X3_pop_V339 : GoodIn w_y_X3_goOver__a23 (wsV RX3 339 RX3 yX3_pop w_y_X3_pop) := goodIn_app (nb_g4 (List.mem_cons_of_mem _ (List.mem_append_left _ (List.mem_append_left _ (List.mem_of_getElem? (i := 0) rfl)))) (List.mem_cons_of_mem _ (List.mem_append_left _ (List.mem_append_left _ (List.mem_of_getElem? (i := 1) rfl)))) (List.mem_cons_of_mem _ (List.mem_append_left _ (List.mem_append_left _ (List.mem_of_getElem? (i := 2) rfl)))) (List.mem_cons_of_mem _ (List.mem_append_left _ (List.mem_append_left _ (List.mem_of_getElem? (i := 3) rfl)))) (by decide +kernel)) gg_y_X3_goOver__a23_X3_pop
set_option maxHeartbeats 40000000 in
set_option maxRecDepth 100000 in
theorem c_y_X3_goOver__a23 (l : Launch) (dC : Nat → ClassId) (dI : Nat → Nat → Nat) (cy : Nat → ClassId) (a z : Nat → Nat) (k0 : Nat) (L0 : LV) (σ0 : CS) (r0 : Int32 × CS) (h0 : y_X3_goOver__a23 k0 0 L0 σ0 = some r0) (sz : Nat) : Met l yX3_goOver w_y_X3_goOver__a23 ({ frames := 1, cells := 0, slots := 0, locals := 22 }) (va_Pc [.ref (a 18), .ref (a 23), .int (L0.1 2), .int (L0.1 3)] (nIn (dC, dI) cy sz (vC cy a z σ0))) (va_Qv (fun _ : Unit => True) (fun _ t => nOut (dC, dI) cy (va_A (vC cy a z σ0) sz) (vC cy a z r0.2) t) (va_A (vC cy a z σ0) sz)) 0 0 (va_A (vC cy a z σ0) sz) := by
  refine Met.ofW (cc := cX3_goOver) (maxL := 6) (ret := none) (by decide) rfl ?_
  intro p e s m args below meth c s₁ B hml hv
  obtain ⟨rfl, hsz, hP, hK, hD0, hG⟩ := hv
  have hx := B.exec
  have hb := B.bytes
  have hr := B.returns
  have hts := atoms_spec (ws := w_y_X3_goOver__a23) B.pre
  have hown : s.vm.findClass RX3 = some m.cls := findClass_of_methodNamed B.named
  have hlocks := B.notSynchronized
  subst hsz
  have hD := hD0.self (sz := s.heap.size)
  generalize hAe : va_A (vC cy a z σ0) s.heap.size = A at hD ⊢
  have hA : ∀ q : Nat, s.heap.size ≤ q → A q := fun q h => by rw [← hAe]; exact Or.inr h
  have hS : va_S A s.heap s.heap [] := va_S.rf
  have hl := lv_entry ([.ref (a 18), .ref (a 23), .int (L0.1 2), .int (L0.1 3)]) (n := 6) (Nat.le_of_ble_eq_true rfl)
  rw [lg_entry_eq]
  generalize (lg_sl ([.ref (a 18), .ref (a 23), .int (L0.1 2), .int (L0.1 3)]) ++ List.replicate (6 - (lg_sl ([.ref (a 18), .ref (a 23), .int (L0.1 2), .int (L0.1 3)])).length) Slot.unset).toArray = ls at hl ⊢
  have hl : lv_has ls 6 [(0, .ref (a 18)), (1, .ref (a 23)), (2, .int (L0.1 2)), (3, .int (L0.1 3))] := hl
  have blk : ∀ k : Nat, (bC p l e (headSpec w_y_X3_goOver__a23 ({ frames := 1, cells := 0, slots := 0, locals := 22 })).room s m #[.ref (a 18), .ref (a 23), .int (L0.1 2), .int (L0.1 3)] below meth c dC dI cy a z A (kV dC dI cy a z A below #[.ref (a 18), .ref (a 23), .int (L0.1 2), .int (L0.1 3)] s) 6 (y_X3_goOver__a23 k 0) (fun L => [(0, .ref (a 18)), (1, .ref (a 23)), (2, .int (L.1 2)), (3, .int (L.1 3))]) 0 (fun L => [])) ∧ (bC p l e (headSpec w_y_X3_goOver__a23 ({ frames := 1, cells := 0, slots := 0, locals := 22 })).room s m #[.ref (a 18), .ref (a 23), .int (L0.1 2), .int (L0.1 3)] below meth c dC dI cy a z A (kV dC dI cy a z A below #[.ref (a 18), .ref (a 23), .int (L0.1 2), .int (L0.1 3)] s) 6 (y_X3_goOver__a23 k 1) (fun L => [(0, .ref (a 18)), (1, .ref (a 23)), (2, .int (L.1 2)), (3, .int (L.1 3)), (4, .int (L.1 4))]) 25 (fun L => [])) ∧ (bC p l e (headSpec w_y_X3_goOver__a23 ({ frames := 1, cells := 0, slots := 0, locals := 22 })).room s m #[.ref (a 18), .ref (a 23), .int (L0.1 2), .int (L0.1 3)] below meth c dC dI cy a z A (kV dC dI cy a z A below #[.ref (a 18), .ref (a 23), .int (L0.1 2), .int (L0.1 3)] s) 6 (y_X3_goOver__a23 k 2) (fun L => [(1, .ref (a 23)), (2, .int (L.1 2)), (4, .int (L.1 4))]) 105 (fun L => [])) ∧ (bC p l e (headSpec w_y_X3_goOver__a23 ({ frames := 1, cells := 0, slots := 0, locals := 22 })).room s m #[.ref (a 18), .ref (a 23), .int (L0.1 2), .int (L0.1 3)] below meth c dC dI cy a z A (kV dC dI cy a z A below #[.ref (a 18), .ref (a 23), .int (L0.1 2), .int (L0.1 3)] s) 6 (y_X3_goOver__a23 k 3) (fun L => [(0, .ref (a 18)), (1, .ref (a 23)), (2, .int (L.1 2)), (4, .int (L.1 4)), (5, .int (L.1 5))]) 71 (fun L => [])) ∧ (bC p l e (headSpec w_y_X3_goOver__a23 ({ frames := 1, cells := 0, slots := 0, locals := 22 })).room s m #[.ref (a 18), .ref (a 23), .int (L0.1 2), .int (L0.1 3)] below meth c dC dI cy a z A (kV dC dI cy a z A below #[.ref (a 18), .ref (a 23), .int (L0.1 2), .int (L0.1 3)] s) 6 (y_X3_goOver__a23 k 4) (fun L => []) 119 (fun L => [])) := by
    intro k
    induction k with
    | zero => exact ⟨fun L σ r h => (by cases h), fun L σ r h => (by cases h), fun L σ r h => (by cases h), fun L σ r h => (by cases h), fun L σ r h => (by cases h)⟩
    | succ k ih =>
      refine ⟨?_, ?_, ?_, ?_, ?_⟩
      · intro L σ r h H locs ls hP hD hS hl
        rw [y_X3_goOver__a23] at h
        refine lv_aload_n hx hb dX3_goOver_0 rfl (lv_at hl 0 rfl) ?_
        obtain ⟨r1, hc1, h⟩ := oc_ex h
        refine kc_i (va_runV (As := []) (rest := []) ⟨hx, hb, hml, hown, hts⟩ (c_y_X3_pop l dC dI cy a z k lZ σ r1 hc1 H.size) (cwV 0 hts g_y_X3_goOver__a23_X3_pop_V339 rfl rfl rfl hd_y_X3_pop ⟨Nat.le_of_ble_eq_true rfl, Nat.le_of_ble_eq_true rfl⟩) ⟨nb_blind, va_recv hK hP (ci := 3) (q0 := 18) rfl rfl, (kb_pre hK hG hP hD)⟩ rfl rfl hl.1 rfl (lv_room (Nat.le_of_ble_eq_true rfl)) dX3_goOver_1 ⟨Nat.le_refl _, Nat.le_refl _⟩) hA hP hD hS (fun H locs hP hD hS => ?_)
        refine lv_istore (lv' := [(4, .int r1.1), (0, .ref (a 18)), (1, .ref (a 23)), (2, .int (L.1 2)), (3, .int (L.1 3))]) hx hb dX3_goOver_4 hl (by decide) rfl (fun ls hl => ?_)
        refine lv_aload_n hx hb dX3_goOver_6 rfl (lv_at hl 1 rfl) ?_
        refine hg_18_0 hx hb hts in_y_X3_goOver__a23_X3 hown hK hP (hts _ (List.mem_cons_of_mem _ (List.mem_append_left _ (List.mem_append_left _ (List.mem_of_getElem? (i := 4) rfl))))) dX3_goOver_7 ?_
        refine lv_iload hx hb dX3_goOver_10 (lv_at hl 0 rfl) ?_
        obtain ⟨r2, hc2, h⟩ := oc_ex h
        refine kc_i (va_runV (As := [.int r1.1]) (rest := []) ⟨hx, hb, hml, hown, hts⟩ (c_y_X1_kind l dC dI cy a z k (lI lZ 1 r1.1) r1.2 r2 hc2 H.size) (cwV 1 hts g_y_X3_goOver__a23_X1_kind_V396 rfl rfl rfl hd_y_X1_kind ⟨Nat.le_of_ble_eq_true rfl, Nat.le_of_ble_eq_true rfl⟩) ⟨nb_blind, va_recv hK hP (ci := 1) (q0 := 0) rfl rfl, (kb_pre hK hG hP hD)⟩ rfl rfl hl.1 rfl (lv_room (Nat.le_of_ble_eq_true rfl)) dX3_goOver_12 ⟨Nat.le_refl _, Nat.le_refl _⟩) hA hP hD hS (fun H locs hP hD hS => ?_)
        refine lv_iconst (v := 4) hx hb dX3_goOver_15 (by decide) ?_
        refine lv_icmp_ge (tgt := 25) hx hb dX3_goOver_16 (by decide) (fun c3 => ?_) (fun c3 => ?_)
        · rw [if_pos c3] at h
          exact ih.2.1 (lI L 4 r1.1) r2.2 r h H locs ls hP hD hS (lv_sub hl [1, 2, 3, 4, 0] rfl)
        · rw [if_neg c3] at h
          refine lv_aload_n hx hb dX3_goOver_19 rfl (lv_at hl 1 rfl) ?_
          refine lv_iconst (v := 1) hx hb dX3_goOver_20 (by decide) ?_
          obtain ⟨r4, hc4, h⟩ := oc_ex h
          refine kc_v (va_runV (As := [.int 1]) (rest := []) ⟨hx, hb, hml, hown, hts⟩ (c_y_X3_fail l dC dI cy a z k (lI lZ 1 1) r2.2 r4 hc4 H.size) (cwV 1 hts g_y_X3_goOver__a23_X3_fail_V313 rfl rfl rfl hd_y_X3_fail ⟨Nat.le_of_ble_eq_true rfl, Nat.le_of_ble_eq_true rfl⟩) ⟨nb_blind, va_recv hK hP (ci := 3) (q0 := 18) rfl rfl, (kb_pre hK hG hP hD)⟩ rfl rfl hl.1 rfl (lv_room (Nat.le_of_ble_eq_true rfl)) dX3_goOver_21 ⟨Nat.le_refl _, Nat.le_refl _⟩) hA hP hD hS (fun H locs hP hD hS => ?_)
          obtain rfl := Option.some.inj h
          exact W.vret hx hb hr (fun t ht hW => ⟨⟨(), rfl, trivial, by rw [ht]; exact hP, va_K.moved hW.alike hK, hD⟩, hS.F ht⟩) hS.2.2 dX3_goOver_24
      · intro L σ r h H locs ls hP hD hS hl
        rw [y_X3_goOver__a23] at h
        refine lv_iload_n hx hb dX3_goOver_25 rfl (lv_at hl 3 rfl) ?_
        refine lv_if_eq (tgt := 105) hx hb dX3_goOver_26 (by decide) (fun c1 => ?_) (fun c1 => ?_)
        · rw [if_pos c1] at h
          exact ih.2.2.1 L σ r h H locs ls hP hD hS (lv_sub hl [1, 2, 4] rfl)
        · rw [if_neg c1] at h
          refine lv_aload_n hx hb dX3_goOver_29 rfl (lv_at hl 0 rfl) ?_
          refine hg_18_0 hx hb hts in_y_X3_goOver__a23_X3 hown hK hP (hts _ (List.mem_cons_of_mem _ (List.mem_append_left _ (List.mem_append_left _ (List.mem_of_getElem? (i := 4) rfl))))) dX3_goOver_30 ?_
          refine lv_iload hx hb dX3_goOver_33 (lv_at hl 4 rfl) ?_
          obtain ⟨r2, hc2, h⟩ := oc_ex h
          refine kc_i (va_runV (As := [.int (L.1 4)]) (rest := []) ⟨hx, hb, hml, hown, hts⟩ (c_y_X1_size l dC dI cy a z k (lI lZ 1 ((L.1 4))) σ r2 hc2 H.size) (cwV 1 hts g_y_X3_goOver__a23_X1_size_V316 rfl rfl rfl hd_y_X1_size ⟨Nat.le_of_ble_eq_true rfl, Nat.le_of_ble_eq_true rfl⟩) ⟨nb_blind, va_recv hK hP (ci := 1) (q0 := 0) rfl rfl, (kb_pre hK hG hP hD)⟩ rfl rfl hl.1 rfl (lv_room (Nat.le_of_ble_eq_true rfl)) dX3_goOver_35 ⟨Nat.le_refl _, Nat.le_refl _⟩) hA hP hD hS (fun H locs hP hD hS => ?_)
          refine lv_istore (lv' := [(5, .int r2.1), (0, .ref (a 18)), (1, .ref (a 23)), (2, .int (L.1 2)), (3, .int (L.1 3)), (4, .int (L.1 4))]) hx hb dX3_goOver_38 hl (by decide) rfl (fun ls hl => ?_)
          refine lv_aload_n hx hb dX3_goOver_40 rfl (lv_at hl 1 rfl) ?_
          refine hg_18_5 hx hb hts in_y_X3_goOver__a23_X3 hown hK hP (hts _ (List.mem_cons_of_mem _ (List.mem_append_left _ (List.mem_append_left _ (List.mem_of_getElem? (i := 15) rfl))))) dX3_goOver_41 ?_
          refine hg_19_9n hx hb hts in_y_X3_goOver__a23_X8 hown hK hP (va_Nw.use rfl (hG.1 _ (List.mem_of_getElem? (i := 25) rfl))) dX3_goOver_44 ?_
          refine lv_iload hx hb dX3_goOver_47 (lv_at hl 0 rfl) ?_
          refine lv_iadd hx hb dX3_goOver_49 ?_
          refine lv_aload_n hx hb dX3_goOver_50 rfl (lv_at hl 1 rfl) ?_
          refine hg_18_5 hx hb hts in_y_X3_goOver__a23_X3 hown hK hP (hts _ (List.mem_cons_of_mem _ (List.mem_append_left _ (List.mem_append_left _ (List.mem_of_getElem? (i := 15) rfl))))) dX3_goOver_51 ?_
          refine hg_19_11n hx hb hts in_y_X3_goOver__a23_X8 hown hK hP (va_Nw.use rfl (hG.1 _ (List.mem_of_getElem? (i := 29) rfl))) dX3_goOver_54 ?_
          refine lv_iadd hx hb dX3_goOver_57 ?_
          refine lv_ldcw (v := 40000) hx hb hown (hts _ (List.mem_cons_of_mem _ (List.mem_append_left _ (List.mem_append_left _ (List.mem_of_getElem? (i := 16) rfl))))) dX3_goOver_58 ?_
          refine lv_icmp_le (tgt := 71) hx hb dX3_goOver_61 (by decide) (fun c3 => ?_) (fun c3 => ?_)
          · rw [if_pos c3] at h
            exact ih.2.2.2.1 (lI L 5 r2.1) r2.2 r h H locs ls hP hD hS (lv_sub hl [1, 2, 3, 5, 0] rfl)
          · rw [if_neg c3] at h
            refine lv_aload_n hx hb dX3_goOver_64 rfl (lv_at hl 1 rfl) ?_
            refine lv_bipush (v := 6) hx hb dX3_goOver_65 (by decide) ?_
            obtain ⟨r4, hc4, h⟩ := oc_ex h
            refine kc_v (va_runV (As := [.int 6]) (rest := []) ⟨hx, hb, hml, hown, hts⟩ (c_y_X3_fail l dC dI cy a z k (lI lZ 1 6) r2.2 r4 hc4 H.size) (cwV 1 hts g_y_X3_goOver__a23_X3_fail_V313 rfl rfl rfl hd_y_X3_fail ⟨Nat.le_of_ble_eq_true rfl, Nat.le_of_ble_eq_true rfl⟩) ⟨nb_blind, va_recv hK hP (ci := 3) (q0 := 18) rfl rfl, (kb_pre hK hG hP hD)⟩ rfl rfl hl.1 rfl (lv_room (Nat.le_of_ble_eq_true rfl)) dX3_goOver_67 ⟨Nat.le_refl _, Nat.le_refl _⟩) hA hP hD hS (fun H locs hP hD hS => ?_)
            obtain rfl := Option.some.inj h
            exact W.vret hx hb hr (fun t ht hW => ⟨⟨(), rfl, trivial, by rw [ht]; exact hP, va_K.moved hW.alike hK, hD⟩, hS.F ht⟩) hS.2.2 dX3_goOver_70
      · intro L σ r h H locs ls hP hD hS hl
        rw [y_X3_goOver__a23] at h
        refine lv_aload_n hx hb dX3_goOver_105 rfl (lv_at hl 0 rfl) ?_
        refine lv_iload_n hx hb dX3_goOver_106 rfl (lv_at hl 1 rfl) ?_
        refine lv_iload hx hb dX3_goOver_107 (lv_at hl 2 rfl) ?_
        obtain ⟨q1, h⟩ := kb_ite1 h
        refine hs_23 hx hb hK hP hD hS q1 dX3_goOver_109 (fun H locs hP hD hS => ?_)
        refine lv_aload_n hx hb dX3_goOver_110 rfl (lv_at hl 0 rfl) ?_
        refine lv_iload_n hx hb dX3_goOver_111 rfl (lv_at hl 1 rfl) ?_
        refine lv_iconst (v := 1) hx hb dX3_goOver_112 (by decide) ?_
        refine lv_iadd hx hb dX3_goOver_113 ?_
        refine lv_iconst (v := 0) hx hb dX3_goOver_114 (by decide) ?_
        obtain ⟨r2, hc2, h⟩ := oc_ex h
        refine kc_i (va_runSN (As := [.int 0]) (rest := [.int (((L.1 2)) + 1), .ref (a 23)]) ⟨hx, hb, hml, hown, hts⟩ (c_y_X11_raw l dC dI cy a z k (lI lZ 0 0) (uA σ 23 ((L.1 2)).toNatClampNeg ((L.1 4))) r2 hc2 H.size) ⟨va_cnB 1 hts g_y_X3_goOver__a23_X11_raw_SN182 rfl rfl rfl (hG.1 _ (List.mem_of_getElem? (i := 103) rfl)) (hts _ (List.mem_cons_of_mem _ (List.mem_append_left _ (List.mem_append_left _ (List.mem_of_getElem? (i := 17) rfl))))) hd_y_X11_raw ⟨Nat.le_of_ble_eq_true rfl, Nat.le_of_ble_eq_true rfl⟩, (hts _ (List.mem_cons_of_mem _ (List.mem_append_left _ (List.mem_append_left _ (List.mem_of_getElem? (i := 18) rfl))))), trivial⟩ ⟨nb_blind, (kb_pre hK hG hP hD)⟩ rfl rfl hl.1 rfl (lv_room (Nat.le_of_ble_eq_true rfl)) dX3_goOver_115 ⟨Nat.le_refl _, Nat.le_refl _⟩) hA hP hD hS (fun H locs hP hD hS => ?_)
        obtain ⟨q3, h⟩ := kb_ite1 h
        refine hs_23 hx hb hK hP hD hS q3 dX3_goOver_118 (fun H locs hP hD hS => ?_)
        exact ih.2.2.2.2 L (uA r2.2 23 ((((L.1 2)) + 1)).toNatClampNeg r2.1) r h H locs ls hP hD hS (lv_sub hl [] rfl)
      · intro L σ r h H locs ls hP hD hS hl
        rw [y_X3_goOver__a23] at h
        refine lv_aload_n hx hb dX3_goOver_71 rfl (lv_at hl 0 rfl) ?_
        refine hg_18_5 hx hb hts in_y_X3_goOver__a23_X3 hown hK hP (hts _ (List.mem_cons_of_mem _ (List.mem_append_left _ (List.mem_append_left _ (List.mem_of_getElem? (i := 15) rfl))))) dX3_goOver_72 ?_
        refine lv_aload_n hx hb dX3_goOver_75 rfl (lv_at hl 0 rfl) ?_
        refine hg_18_5 hx hb hts in_y_X3_goOver__a23_X3 hown hK hP (hts _ (List.mem_cons_of_mem _ (List.mem_append_left _ (List.mem_append_left _ (List.mem_of_getElem? (i := 15) rfl))))) dX3_goOver_76 ?_
        refine hg_19_9n hx hb hts in_y_X3_goOver__a23_X8 hown hK hP (va_Nw.use rfl (hG.1 _ (List.mem_of_getElem? (i := 25) rfl))) dX3_goOver_79 ?_
        refine lv_iload hx hb dX3_goOver_82 (lv_at hl 4 rfl) ?_
        refine lv_iadd hx hb dX3_goOver_84 ?_
        refine hp_19_9n hx hb hts in_y_X3_goOver__a23_X8 hown hK hP hD hS (va_Nw.use rfl (hG.1 _ (List.mem_of_getElem? (i := 25) rfl))) dX3_goOver_85 (fun H locs hP hD hS => ?_)
        refine lv_aload_n hx hb dX3_goOver_88 rfl (lv_at hl 0 rfl) ?_
        refine hg_18_5 hx hb hts in_y_X3_goOver__a23_X3 hown hK hP (hts _ (List.mem_cons_of_mem _ (List.mem_append_left _ (List.mem_append_left _ (List.mem_of_getElem? (i := 15) rfl))))) dX3_goOver_89 ?_
        refine lv_aload_n hx hb dX3_goOver_92 rfl (lv_at hl 0 rfl) ?_
        refine hg_18_5 hx hb hts in_y_X3_goOver__a23_X3 hown hK hP (hts _ (List.mem_cons_of_mem _ (List.mem_append_left _ (List.mem_append_left _ (List.mem_of_getElem? (i := 15) rfl))))) dX3_goOver_93 ?_
        refine hg_19_10n hx hb hts in_y_X3_goOver__a23_X8 hown hK hP (va_Nw.use rfl (hG.1 _ (List.mem_of_getElem? (i := 28) rfl))) dX3_goOver_96 ?_
        refine lv_iload hx hb dX3_goOver_99 (lv_at hl 4 rfl) ?_
        refine lv_iadd hx hb dX3_goOver_101 ?_
        refine hp_19_10n hx hb hts in_y_X3_goOver__a23_X8 hown hK hP hD hS (va_Nw.use rfl (hG.1 _ (List.mem_of_getElem? (i := 28) rfl))) dX3_goOver_102 (fun H locs hP hD hS => ?_)
        exact ih.2.2.1 L (uI (uI σ 1909 ((((σ.1 1909)) + ((L.1 5))))) 1910 (((((uI σ 1909 ((((σ.1 1909)) + ((L.1 5))))).1 1910)) + ((L.1 5))))) r h H locs ls hP hD hS (lv_sub hl [1, 2, 3] rfl)
      · intro L σ r h H locs ls hP hD hS hl
        rw [y_X3_goOver__a23] at h
        obtain rfl := Option.some.inj h
        exact W.vret hx hb hr (fun t ht hW => ⟨⟨(), rfl, trivial, by rw [ht]; exact hP, va_K.moved hW.alike hK, hD⟩, hS.F ht⟩) hS.2.2 dX3_goOver_119
  exact (blk k0).1 L0 σ0 r0 h0 s.heap [] ls hP hD hS hl
/-! X3_letGo__a23 -/
def y_X3_letGo__a23 : Nat → Nat → LV → CS → Option (Int32 × CS)
  | 0, _, _, _ => none
  | k + 1, 0, L, σ => if ((L.1 3)) = 0 then (y_X3_letGo__a23 k 1 L σ) else (if ¬ (((L.1 2)) < 0 ∨ 3780 ≤ ((L.1 2)).toNatClampNeg) then (if ((σ.2.2.1 23 ((L.1 2)).toNatClampNeg)) = ((-2147483648)) then (y_X3_letGo__a23 k 1 L σ) else (if ¬ (((L.1 2)) < 0 ∨ 3780 ≤ ((L.1 2)).toNatClampNeg) then (oc (y_X1_size k 0 (lI lZ 1 ((σ.2.2.1 23 ((L.1 2)).toNatClampNeg))) σ) (fun r5 => y_X3_letGo__a23 k 1 L (uI (uI r5.2 1909 ((((r5.2.1 1909)) - r5.1))) 1910 (((((uI r5.2 1909 ((((r5.2.1 1909)) - r5.1))).1 1910)) - r5.1))))) else none)) else none)
  | k + 1, 1, L, σ => if ¬ (((L.1 2)) < 0 ∨ 3780 ≤ ((L.1 2)).toNatClampNeg) then (if ¬ (((((L.1 2)) + 1)) < 0 ∨ 3780 ≤ ((((L.1 2)) + 1)).toNatClampNeg) then (some (0, (uA (uA σ 23 ((L.1 2)).toNatClampNeg ((-2147483648))) 23 ((((L.1 2)) + 1)).toNatClampNeg ((-2147483648))))) else none) else none
  | _ + 1, _ + 2, _, _ => none
def o_y_X3_letGo__a23 : List Cond := [.constant RX3 136 (-2147483648), .fieldLink RX3 39 "SetHouse$Machine" "heap" "LSetHouse$Heap;", .methodLink RX3 316 yX1_size, .instanceMethod yX1_size, .selects RX1 yX1_size yX1_size, .initialized RX1, .fieldLink RX3 14 "SetHouse$Machine" "run" "LSetHouse$Run;"]
theorem o_y_X3_letGo__a23_good : o_y_X3_letGo__a23.all goodWord = true := by decide +kernel
def p_y_X3_letGo__a23 : List Cond := o_y_X3_letGo__a23 ++ ((.code yX1_size cX1_size 3 (some .int) :: p_y_X1_size) ++ [])
theorem p_y_X3_letGo__a23_good : p_y_X3_letGo__a23.all goodWord = true := nb_all2 o_y_X3_letGo__a23_good (nb_all2 (nb_allc (by decide +kernel) p_y_X1_size_good) rfl)
def w_y_X3_letGo__a23 : List Cond := .code yX3_letGo cX3_letGo 5 none :: (p_y_X3_letGo__a23 ++ fC)
theorem w_y_X3_letGo__a23_good : w_y_X3_letGo__a23.all goodWord = true := nb_allc (by decide +kernel) (nb_all2 p_y_X3_letGo__a23_good fC_good)
theorem in_y_X3_letGo__a23_X3 : ∀ w ∈ wsX30, w ∈ w_y_X3_letGo__a23 := fun _ h => List.mem_cons_of_mem _ (List.mem_append_right _ (List.mem_append_right _ (List.mem_append_right _ (List.mem_append_right _ (List.mem_append_left _ h)))))
theorem in_y_X3_letGo__a23_X8 : ∀ w ∈ wsX80, w ∈ w_y_X3_letGo__a23 := fun _ h => List.mem_cons_of_mem _ (List.mem_append_right _ (List.mem_append_right _ (List.mem_append_right _ (List.mem_append_right _ (List.mem_append_right _ (List.mem_append_right _ (List.mem_append_right _ (List.mem_append_right _ (List.mem_append_left _ h)))))))))
theorem hd_y_X3_letGo__a23 : yX3_letGo.cls = RX3 ∧ yX3_letGo.cls ≠ "java/lang/invoke/MethodHandle" ∧ yX3_letGo.cls ≠ "java/lang/invoke/VarHandle" ∧ (parseMethodDescriptor yX3_letGo.desc).map (fun d => d.parameters.length) = some 3 := by decide +kernel
theorem gg_y_X3_letGo__a23_X1_size : GoodIn w_y_X3_letGo__a23 w_y_X1_size := goodIn_sub (fun w h => (List.mem_cons.mp h).elim (fun e => (List.mem_cons_of_mem _ (List.mem_append_left _ (List.mem_append_right _ (List.mem_append_left _ (List.mem_cons.mpr (Or.inl e))))))) (fun h => (List.mem_append.mp h).elim (fun h => (List.mem_cons_of_mem _ (List.mem_append_left _ (List.mem_append_right _ (List.mem_append_left _ (List.mem_cons_of_mem _ h)))))) (fun h => List.mem_cons_of_mem _ (List.mem_append_right _ h)))) w_y_X1_size_good
theorem g_y_X3_letGo__a23_X1_size_V316 : GoodIn w_y_X3_letGo__a23 (wsV RX3 316 RX1 yX1_size w_y_X1_size) := goodIn_app (nb_g4 (List.mem_cons_of_mem _ (List.mem_append_left _ (List.mem_append_left _ (List.mem_of_getElem? (i := 2) rfl)))) (List.mem_cons_of_mem _ (List.mem_append_left _ (List.mem_append_left _ (List.mem_of_getElem? (i := 3) rfl)))) (List.mem_cons_of_mem _ (List.mem_append_left _ (List.mem_append_left _ (List.mem_of_getElem? (i := 4) rfl)))) (List.mem_cons_of_mem _ (List.mem_append_left _ (List.mem_append_left _ (List.mem_of_getElem? (i := 5) rfl)))) (by decide +kernel)) gg_y_X3_letGo__a23_X1_size
set_option maxHeartbeats 40000000 in
set_option maxRecDepth 100000 in
theorem c_y_X3_letGo__a23 (l : Launch) (dC : Nat → ClassId) (dI : Nat → Nat → Nat) (cy : Nat → ClassId) (a z : Nat → Nat) (k0 : Nat) (L0 : LV) (σ0 : CS) (r0 : Int32 × CS) (h0 : y_X3_letGo__a23 k0 0 L0 σ0 = some r0) (sz : Nat) : Met l yX3_letGo w_y_X3_letGo__a23 ({ frames := 1, cells := 0, slots := 0, locals := 22 }) (va_Pc [.ref (a 18), .ref (a 23), .int (L0.1 2), .int (L0.1 3)] (nIn (dC, dI) cy sz (vC cy a z σ0))) (va_Qv (fun _ : Unit => True) (fun _ t => nOut (dC, dI) cy (va_A (vC cy a z σ0) sz) (vC cy a z r0.2) t) (va_A (vC cy a z σ0) sz)) 0 0 (va_A (vC cy a z σ0) sz) := by
  refine Met.ofW (cc := cX3_letGo) (maxL := 5) (ret := none) (by decide) rfl ?_
  intro p e s m args below meth c s₁ B hml hv
  obtain ⟨rfl, hsz, hP, hK, hD0, hG⟩ := hv
  have hx := B.exec
  have hb := B.bytes
  have hr := B.returns
  have hts := atoms_spec (ws := w_y_X3_letGo__a23) B.pre
  have hown : s.vm.findClass RX3 = some m.cls := findClass_of_methodNamed B.named
  have hlocks := B.notSynchronized
  subst hsz
  have hD := hD0.self (sz := s.heap.size)
  generalize hAe : va_A (vC cy a z σ0) s.heap.size = A at hD ⊢
  have hA : ∀ q : Nat, s.heap.size ≤ q → A q := fun q h => by rw [← hAe]; exact Or.inr h
  have hS : va_S A s.heap s.heap [] := va_S.rf
  have hl := lv_entry ([.ref (a 18), .ref (a 23), .int (L0.1 2), .int (L0.1 3)]) (n := 5) (Nat.le_of_ble_eq_true rfl)
  rw [lg_entry_eq]
  generalize (lg_sl ([.ref (a 18), .ref (a 23), .int (L0.1 2), .int (L0.1 3)]) ++ List.replicate (5 - (lg_sl ([.ref (a 18), .ref (a 23), .int (L0.1 2), .int (L0.1 3)])).length) Slot.unset).toArray = ls at hl ⊢
  have hl : lv_has ls 5 [(0, .ref (a 18)), (1, .ref (a 23)), (2, .int (L0.1 2)), (3, .int (L0.1 3))] := hl
  have blk : ∀ k : Nat, (bC p l e (headSpec w_y_X3_letGo__a23 ({ frames := 1, cells := 0, slots := 0, locals := 22 })).room s m #[.ref (a 18), .ref (a 23), .int (L0.1 2), .int (L0.1 3)] below meth c dC dI cy a z A (kV dC dI cy a z A below #[.ref (a 18), .ref (a 23), .int (L0.1 2), .int (L0.1 3)] s) 5 (y_X3_letGo__a23 k 0) (fun L => [(0, .ref (a 18)), (1, .ref (a 23)), (2, .int (L.1 2)), (3, .int (L.1 3))]) 0 (fun L => [])) ∧ (bC p l e (headSpec w_y_X3_letGo__a23 ({ frames := 1, cells := 0, slots := 0, locals := 22 })).room s m #[.ref (a 18), .ref (a 23), .int (L0.1 2), .int (L0.1 3)] below meth c dC dI cy a z A (kV dC dI cy a z A below #[.ref (a 18), .ref (a 23), .int (L0.1 2), .int (L0.1 3)] s) 5 (y_X3_letGo__a23 k 1) (fun L => [(1, .ref (a 23)), (2, .int (L.1 2))]) 58 (fun L => [])) := by
    intro k
    induction k with
    | zero => exact ⟨fun L σ r h => (by cases h), fun L σ r h => (by cases h)⟩
    | succ k ih =>
      refine ⟨?_, ?_⟩
      · intro L σ r h H locs ls hP hD hS hl
        rw [y_X3_letGo__a23] at h
        refine lv_iload_n hx hb dX3_letGo_0 rfl (lv_at hl 3 rfl) ?_
        refine lv_if_eq (tgt := 58) hx hb dX3_letGo_1 (by decide) (fun c1 => ?_) (fun c1 => ?_)
        · rw [if_pos c1] at h
          exact ih.2 L σ r h H locs ls hP hD hS (lv_sub hl [1, 2] rfl)
        · rw [if_neg c1] at h
          refine lv_aload_n hx hb dX3_letGo_4 rfl (lv_at hl 1 rfl) ?_
          refine lv_iload_n hx hb dX3_letGo_5 rfl (lv_at hl 2 rfl) ?_
          obtain ⟨q2, h⟩ := kb_ite1 h
          refine hl_23 hx hb hK hP q2 dX3_letGo_6 ?_
          refine lv_ldc (v := (-2147483648)) hx hb hown (hts _ (List.mem_cons_of_mem _ (List.mem_append_left _ (List.mem_append_left _ (List.mem_of_getElem? (i := 0) rfl))))) dX3_letGo_7 ?_
          refine lv_icmp_eq (tgt := 58) hx hb dX3_letGo_9 (by decide) (fun c3 => ?_) (fun c3 => ?_)
          · rw [if_pos c3] at h
            exact ih.2 L σ r h H locs ls hP hD hS (lv_sub hl [1, 2] rfl)
          · rw [if_neg c3] at h
            refine lv_aload_n hx hb dX3_letGo_12 rfl (lv_at hl 0 rfl) ?_
            refine hg_18_0 hx hb hts in_y_X3_letGo__a23_X3 hown hK hP (hts _ (List.mem_cons_of_mem _ (List.mem_append_left _ (List.mem_append_left _ (List.mem_of_getElem? (i := 1) rfl))))) dX3_letGo_13 ?_
            refine lv_aload_n hx hb dX3_letGo_16 rfl (lv_at hl 1 rfl) ?_
            refine lv_iload_n hx hb dX3_letGo_17 rfl (lv_at hl 2 rfl) ?_
            obtain ⟨q4, h⟩ := kb_ite1 h
            refine hl_23 hx hb hK hP q4 dX3_letGo_18 ?_
            obtain ⟨r5, hc5, h⟩ := oc_ex h
            refine kc_i (va_runV (As := [.int (σ.2.2.1 23 ((L.1 2)).toNatClampNeg)]) (rest := []) ⟨hx, hb, hml, hown, hts⟩ (c_y_X1_size l dC dI cy a z k (lI lZ 1 ((σ.2.2.1 23 ((L.1 2)).toNatClampNeg))) σ r5 hc5 H.size) (cwV 1 hts g_y_X3_letGo__a23_X1_size_V316 rfl rfl rfl hd_y_X1_size ⟨Nat.le_of_ble_eq_true rfl, Nat.le_of_ble_eq_true rfl⟩) ⟨nb_blind, va_recv hK hP (ci := 1) (q0 := 0) rfl rfl, (kb_pre hK hG hP hD)⟩ rfl rfl hl.1 rfl (lv_room (Nat.le_of_ble_eq_true rfl)) dX3_letGo_19 ⟨Nat.le_refl _, Nat.le_refl _⟩) hA hP hD hS (fun H locs hP hD hS => ?_)
            refine lv_istore (lv' := [(4, .int r5.1), (0, .ref (a 18)), (1, .ref (a 23)), (2, .int (L.1 2)), (3, .int (L.1 3))]) hx hb dX3_letGo_22 hl (by decide) rfl (fun ls hl => ?_)
            refine lv_aload_n hx hb dX3_letGo_24 rfl (lv_at hl 1 rfl) ?_
            refine hg_18_5 hx hb hts in_y_X3_letGo__a23_X3 hown hK hP (hts _ (List.mem_cons_of_mem _ (List.mem_append_left _ (List.mem_append_left _ (List.mem_of_getElem? (i := 6) rfl))))) dX3_letGo_25 ?_
            refine lv_aload_n hx hb dX3_letGo_28 rfl (lv_at hl 1 rfl) ?_
            refine hg_18_5 hx hb hts in_y_X3_letGo__a23_X3 hown hK hP (hts _ (List.mem_cons_of_mem _ (List.mem_append_left _ (List.mem_append_left _ (List.mem_of_getElem? (i := 6) rfl))))) dX3_letGo_29 ?_
            refine hg_19_9n hx hb hts in_y_X3_letGo__a23_X8 hown hK hP (va_Nw.use rfl (hG.1 _ (List.mem_of_getElem? (i := 25) rfl))) dX3_letGo_32 ?_
            refine lv_iload hx hb dX3_letGo_35 (lv_at hl 0 rfl) ?_
            refine lv_isub hx hb dX3_letGo_37 ?_
            refine hp_19_9n hx hb hts in_y_X3_letGo__a23_X8 hown hK hP hD hS (va_Nw.use rfl (hG.1 _ (List.mem_of_getElem? (i := 25) rfl))) dX3_letGo_38 (fun H locs hP hD hS => ?_)
            refine lv_aload_n hx hb dX3_letGo_41 rfl (lv_at hl 1 rfl) ?_
            refine hg_18_5 hx hb hts in_y_X3_letGo__a23_X3 hown hK hP (hts _ (List.mem_cons_of_mem _ (List.mem_append_left _ (List.mem_append_left _ (List.mem_of_getElem? (i := 6) rfl))))) dX3_letGo_42 ?_
            refine lv_aload_n hx hb dX3_letGo_45 rfl (lv_at hl 1 rfl) ?_
            refine hg_18_5 hx hb hts in_y_X3_letGo__a23_X3 hown hK hP (hts _ (List.mem_cons_of_mem _ (List.mem_append_left _ (List.mem_append_left _ (List.mem_of_getElem? (i := 6) rfl))))) dX3_letGo_46 ?_
            refine hg_19_10n hx hb hts in_y_X3_letGo__a23_X8 hown hK hP (va_Nw.use rfl (hG.1 _ (List.mem_of_getElem? (i := 28) rfl))) dX3_letGo_49 ?_
            refine lv_iload hx hb dX3_letGo_52 (lv_at hl 0 rfl) ?_
            refine lv_isub hx hb dX3_letGo_54 ?_
            refine hp_19_10n hx hb hts in_y_X3_letGo__a23_X8 hown hK hP hD hS (va_Nw.use rfl (hG.1 _ (List.mem_of_getElem? (i := 28) rfl))) dX3_letGo_55 (fun H locs hP hD hS => ?_)
            exact ih.2 L (uI (uI r5.2 1909 ((((r5.2.1 1909)) - r5.1))) 1910 (((((uI r5.2 1909 ((((r5.2.1 1909)) - r5.1))).1 1910)) - r5.1))) r h H locs ls hP hD hS (lv_sub hl [2, 3] rfl)
      · intro L σ r h H locs ls hP hD hS hl
        rw [y_X3_letGo__a23] at h
        refine lv_aload_n hx hb dX3_letGo_58 rfl (lv_at hl 0 rfl) ?_
        refine lv_iload_n hx hb dX3_letGo_59 rfl (lv_at hl 1 rfl) ?_
        refine lv_ldc (v := (-2147483648)) hx hb hown (hts _ (List.mem_cons_of_mem _ (List.mem_append_left _ (List.mem_append_left _ (List.mem_of_getElem? (i := 0) rfl))))) dX3_letGo_60 ?_
        obtain ⟨q1, h⟩ := kb_ite1 h
        refine hs_23 hx hb hK hP hD hS q1 dX3_letGo_62 (fun H locs hP hD hS => ?_)
        refine lv_aload_n hx hb dX3_letGo_63 rfl (lv_at hl 0 rfl) ?_
        refine lv_iload_n hx hb dX3_letGo_64 rfl (lv_at hl 1 rfl) ?_
        refine lv_iconst (v := 1) hx hb dX3_letGo_65 (by decide) ?_
        refine lv_iadd hx hb dX3_letGo_66 ?_
        refine lv_ldc (v := (-2147483648)) hx hb hown (hts _ (List.mem_cons_of_mem _ (List.mem_append_left _ (List.mem_append_left _ (List.mem_of_getElem? (i := 0) rfl))))) dX3_letGo_67 ?_
        obtain ⟨q2, h⟩ := kb_ite1 h
        refine hs_23 hx hb hK hP hD hS q2 dX3_letGo_69 (fun H locs hP hD hS => ?_)
        obtain rfl := Option.some.inj h
        exact W.vret hx hb hr (fun t ht hW => ⟨⟨(), rfl, trivial, by rw [ht]; exact hP, va_K.moved hW.alike hK, hD⟩, hS.F ht⟩) hS.2.2 dX3_letGo_70
  exact (blk k0).1 L0 σ0 r0 h0 s.heap [] ls hP hD hS hl
/-! X3_nextMember__a23 -/
def f_X3_nextMember__a23 : Nat → Nat → LV → CS → Option RS
  | 0, _, _, _ => none
  | k + 1, 0, L, σ => if ¬ (((L.1 2)) < 0 ∨ 3780 ≤ ((L.1 2)).toNatClampNeg) then (if ¬ (((((L.1 2)) + 1)) < 0 ∨ 3780 ≤ ((((L.1 2)) + 1)).toNatClampNeg) then (op (y_X11_unraw k 0 (lI lZ 0 ((σ.2.2.1 23 ((((L.1 2)) + 1)).toNatClampNeg))) σ) (fun r3 => op (y_X1_length k 0 (lI lZ 1 ((σ.2.2.1 23 ((L.1 2)).toNatClampNeg))) r3.2) (fun r4 => if r3.1 < r4.1 then (f_X3_nextMember__a23 k 1 (lI (lI L 5 ((σ.2.2.1 23 ((L.1 2)).toNatClampNeg))) 6 r3.1) r4.2) else (op (y_X3_letGo__a23 k 0 (lI (lI lZ 2 ((L.1 2))) 3 ((L.1 4))) r4.2) (fun r6 => oP (sPr r6.2) (fun b7 => if ¬ (((((L.1 3)) + 1)) < 0 ∨ (sN r6.2 (pR0 ((sKd r6.2 b7)))) ≤ ((((L.1 3)) + 1)).toNatClampNeg) then (some ((0, 0), (uI r6.2 1900 ((((L.1 3)) + ((r6.2.2.2.1 (pR0 ((sKd r6.2 b7))) ((((L.1 3)) + 1)).toNatClampNeg))))), (0, 0))) else none)))))) else none) else none
  | k + 1, 1, L, σ => op (y_X11_raw k 0 (lI lZ 0 ((((L.1 6)) + 1))) σ) (fun r1 => if ¬ (((((L.1 2)) + 1)) < 0 ∨ 3780 ≤ ((((L.1 2)) + 1)).toNatClampNeg) then (op (y_X1_taken k 0 (lI (lI lZ 1 ((L.1 5))) 2 ((L.1 6))) (uA r1.2 23 ((((L.1 2)) + 1)).toNatClampNeg r1.1)) (fun r3 => ox (f_X3_push k 0 (lI lZ 1 r3.1) r3.2) (fun r4 => f_X3_nextMember__a23 k 2 L (uI r4.2.1 1900 ((((L.1 3)) + 2)))))) else none)
  | k + 1, 2, L, σ => op (y_X3_spend k 0 (lI lZ 1 1) σ) (fun r1 => some ((0, 0), r1.2, (0, 0)))
  | _ + 1, _ + 3, _, _ => none
def o_f_X3_nextMember__a23 : List Cond := [.initialized RX11, .static yX11_unraw, .fieldLink RX3 39 "SetHouse$Machine" "heap" "LSetHouse$Heap;", .methodLink RX3 399 yX1_length, .instanceMethod yX1_length, .selects RX1 yX1_length yX1_length, .initialized RX1, .methodLink RX3 513 yX3_letGo, .instanceMethod yX3_letGo, .selects RX3 yX3_letGo yX3_letGo, .initialized RX3, .fieldLink RX3 14 "SetHouse$Machine" "run" "LSetHouse$Run;", .fieldLink RX3 58 "SetHouse$Machine" "program" "LSetHouse$Program;", .static yX11_raw, .methodLink RX3 473 yX1_taken, .instanceMethod yX1_taken, .selects RX1 yX1_taken yX1_taken, .methodLink RX3 322 yX3_push, .instanceMethod yX3_push, .selects RX3 yX3_push yX3_push, .methodLink RX3 319 yX3_spend, .instanceMethod yX3_spend, .selects RX3 yX3_spend yX3_spend]
theorem o_f_X3_nextMember__a23_good : o_f_X3_nextMember__a23.all goodWord = true := by decide +kernel
def p_f_X3_nextMember__a23 : List Cond := o_f_X3_nextMember__a23 ++ ((.code yX11_unraw cX11_unraw 1 (some .int) :: p_y_X11_unraw) ++ ((.code yX1_length cX1_length 2 (some .int) :: p_y_X1_length) ++ ((.code yX3_letGo cX3_letGo 5 none :: p_y_X3_letGo__a23) ++ ((.code yX11_raw cX11_raw 1 (some .int) :: p_y_X11_raw) ++ ((.code yX1_taken cX1_taken 3 (some .int) :: p_y_X1_taken) ++ ((.code yX3_push cX3_push 2 none :: p_f_X3_push) ++ ((.code yX3_spend cX3_spend 2 none :: p_y_X3_spend) ++ [])))))))
theorem p_f_X3_nextMember__a23_good : p_f_X3_nextMember__a23.all goodWord = true := nb_all2 o_f_X3_nextMember__a23_good (nb_all2 (nb_allc (by decide +kernel) p_y_X11_unraw_good) (nb_all2 (nb_allc (by decide +kernel) p_y_X1_length_good) (nb_all2 (nb_allc (by decide +kernel) p_y_X3_letGo__a23_good) (nb_all2 (nb_allc (by decide +kernel) p_y_X11_raw_good) (nb_all2 (nb_allc (by decide +kernel) p_y_X1_taken_good) (nb_all2 (nb_allc (by decide +kernel) p_f_X3_push_good) (nb_all2 (nb_allc (by decide +kernel) p_y_X3_spend_good) rfl)))))))
def w_f_X3_nextMember__a23 : List Cond := .code yX3_nextMember cX3_nextMember 7 none :: (p_f_X3_nextMember__a23 ++ fC)
theorem w_f_X3_nextMember__a23_good : w_f_X3_nextMember__a23.all goodWord = true := nb_allc (by decide +kernel) (nb_all2 p_f_X3_nextMember__a23_good fC_good)
theorem in_f_X3_nextMember__a23_X3 : ∀ w ∈ wsX30, w ∈ w_f_X3_nextMember__a23 := fun _ h => List.mem_cons_of_mem _ (List.mem_append_right _ (List.mem_append_right _ (List.mem_append_right _ (List.mem_append_right _ (List.mem_append_left _ h)))))
theorem in_f_X3_nextMember__a23_X7 : ∀ w ∈ wsX70, w ∈ w_f_X3_nextMember__a23 := fun _ h => List.mem_cons_of_mem _ (List.mem_append_right _ (List.mem_append_right _ (List.mem_append_right _ (List.mem_append_right _ (List.mem_append_right _ (List.mem_append_right _ (List.mem_append_right _ (List.mem_append_left _ h))))))))
theorem in_f_X3_nextMember__a23_X8 : ∀ w ∈ wsX80, w ∈ w_f_X3_nextMember__a23 := fun _ h => List.mem_cons_of_mem _ (List.mem_append_right _ (List.mem_append_right _ (List.mem_append_right _ (List.mem_append_right _ (List.mem_append_right _ (List.mem_append_right _ (List.mem_append_right _ (List.mem_append_right _ (List.mem_append_left _ h)))))))))
theorem hd_f_X3_nextMember__a23 : yX3_nextMember.cls = RX3 ∧ yX3_nextMember.cls ≠ "java/lang/invoke/MethodHandle" ∧ yX3_nextMember.cls ≠ "java/lang/invoke/VarHandle" ∧ (parseMethodDescriptor yX3_nextMember.desc).map (fun d => d.parameters.length) = some 4 := by decide +kernel
theorem gg_f_X3_nextMember__a23_X3_push : GoodIn w_f_X3_nextMember__a23 w_f_X3_push := goodIn_sub (fun w h => (List.mem_cons.mp h).elim (fun e => (List.mem_cons_of_mem _ (List.mem_append_left _ (List.mem_append_right _ (List.mem_append_right _ (List.mem_append_right _ (List.mem_append_right _ (List.mem_append_right _ (List.mem_append_right _ (List.mem_append_left _ (List.mem_cons.mpr (Or.inl e)))))))))))) (fun h => (List.mem_append.mp h).elim (fun h => (List.mem_cons_of_mem _ (List.mem_append_left _ (List.mem_append_right _ (List.mem_append_right _ (List.mem_append_right _ (List.mem_append_right _ (List.mem_append_right _ (List.mem_append_right _ (List.mem_append_left _ (List.mem_cons_of_mem _ h))))))))))) (fun h => List.mem_cons_of_mem _ (List.mem_append_right _ h)))) w_f_X3_push_good
theorem g_f_X3_nextMember__a23_X3_push_V322 : GoodIn w_f_X3_nextMember__a23 (wsV RX3 322 RX3 yX3_push w_f_X3_push) := goodIn_app (nb_g4 (List.mem_cons_of_mem _ (List.mem_append_left _ (List.mem_append_left _ (List.mem_of_getElem? (i := 17) rfl)))) (List.mem_cons_of_mem _ (List.mem_append_left _ (List.mem_append_left _ (List.mem_of_getElem? (i := 18) rfl)))) (List.mem_cons_of_mem _ (List.mem_append_left _ (List.mem_append_left _ (List.mem_of_getElem? (i := 19) rfl)))) (List.mem_cons_of_mem _ (List.mem_append_left _ (List.mem_append_left _ (List.mem_of_getElem? (i := 10) rfl)))) (by decide +kernel)) gg_f_X3_nextMember__a23_X3_push
theorem gg_f_X3_nextMember__a23_X11_raw : GoodIn w_f_X3_nextMember__a23 w_y_X11_raw := goodIn_sub (fun w h => (List.mem_cons.mp h).elim (fun e => (List.mem_cons_of_mem _ (List.mem_append_left _ (List.mem_append_right _ (List.mem_append_right _ (List.mem_append_right _ (List.mem_append_right _ (List.mem_append_left _ (List.mem_cons.mpr (Or.inl e)))))))))) (fun h => (List.mem_append.mp h).elim (fun h => (List.mem_cons_of_mem _ (List.mem_append_left _ (List.mem_append_right _ (List.mem_append_right _ (List.mem_append_right _ (List.mem_append_right _ (List.mem_append_left _ (List.mem_cons_of_mem _ h))))))))) (fun h => List.mem_cons_of_mem _ (List.mem_append_right _ h)))) w_y_X11_raw_good
theorem g_y_X3_nextMember__a23_X11_raw_SN182 : GoodIn w_f_X3_nextMember__a23 w_y_X11_raw := gg_f_X3_nextMember__a23_X11_raw
theorem gg_f_X3_nextMember__a23_X11_unraw : GoodIn w_f_X3_nextMember__a23 w_y_X11_unraw := goodIn_sub (fun w h => (List.mem_cons.mp h).elim (fun e => (List.mem_cons_of_mem _ (List.mem_append_left _ (List.mem_append_right _ (List.mem_append_left _ (List.mem_cons.mpr (Or.inl e))))))) (fun h => (List.mem_append.mp h).elim (fun h => (List.mem_cons_of_mem _ (List.mem_append_left _ (List.mem_append_right _ (List.mem_append_left _ (List.mem_cons_of_mem _ h)))))) (fun h => List.mem_cons_of_mem _ (List.mem_append_right _ h)))) w_y_X11_unraw_good
theorem g_y_X3_nextMember__a23_X11_unraw_SN388 : GoodIn w_f_X3_nextMember__a23 w_y_X11_unraw := gg_f_X3_nextMember__a23_X11_unraw
theorem gg_f_X3_nextMember__a23_X1_length : GoodIn w_f_X3_nextMember__a23 w_y_X1_length := goodIn_sub (fun w h => (List.mem_cons.mp h).elim (fun e => (List.mem_cons_of_mem _ (List.mem_append_left _ (List.mem_append_right _ (List.mem_append_right _ (List.mem_append_left _ (List.mem_cons.mpr (Or.inl e)))))))) (fun h => (List.mem_append.mp h).elim (fun h => (List.mem_cons_of_mem _ (List.mem_append_left _ (List.mem_append_right _ (List.mem_append_right _ (List.mem_append_left _ (List.mem_cons_of_mem _ h))))))) (fun h => List.mem_cons_of_mem _ (List.mem_append_right _ h)))) w_y_X1_length_good
theorem g_y_X3_nextMember__a23_X1_length_V399 : GoodIn w_f_X3_nextMember__a23 (wsV RX3 399 RX1 yX1_length w_y_X1_length) := goodIn_app (nb_g4 (List.mem_cons_of_mem _ (List.mem_append_left _ (List.mem_append_left _ (List.mem_of_getElem? (i := 3) rfl)))) (List.mem_cons_of_mem _ (List.mem_append_left _ (List.mem_append_left _ (List.mem_of_getElem? (i := 4) rfl)))) (List.mem_cons_of_mem _ (List.mem_append_left _ (List.mem_append_left _ (List.mem_of_getElem? (i := 5) rfl)))) (List.mem_cons_of_mem _ (List.mem_append_left _ (List.mem_append_left _ (List.mem_of_getElem? (i := 6) rfl)))) (by decide +kernel)) gg_f_X3_nextMember__a23_X1_length
theorem gg_f_X3_nextMember__a23_X1_taken : GoodIn w_f_X3_nextMember__a23 w_y_X1_taken := goodIn_sub (fun w h => (List.mem_cons.mp h).elim (fun e => (List.mem_cons_of_mem _ (List.mem_append_left _ (List.mem_append_right _ (List.mem_append_right _ (List.mem_append_right _ (List.mem_append_right _ (List.mem_append_right _ (List.mem_append_left _ (List.mem_cons.mpr (Or.inl e))))))))))) (fun h => (List.mem_append.mp h).elim (fun h => (List.mem_cons_of_mem _ (List.mem_append_left _ (List.mem_append_right _ (List.mem_append_right _ (List.mem_append_right _ (List.mem_append_right _ (List.mem_append_right _ (List.mem_append_left _ (List.mem_cons_of_mem _ h)))))))))) (fun h => List.mem_cons_of_mem _ (List.mem_append_right _ h)))) w_y_X1_taken_good
theorem g_y_X3_nextMember__a23_X1_taken_V473 : GoodIn w_f_X3_nextMember__a23 (wsV RX3 473 RX1 yX1_taken w_y_X1_taken) := goodIn_app (nb_g4 (List.mem_cons_of_mem _ (List.mem_append_left _ (List.mem_append_left _ (List.mem_of_getElem? (i := 14) rfl)))) (List.mem_cons_of_mem _ (List.mem_append_left _ (List.mem_append_left _ (List.mem_of_getElem? (i := 15) rfl)))) (List.mem_cons_of_mem _ (List.mem_append_left _ (List.mem_append_left _ (List.mem_of_getElem? (i := 16) rfl)))) (List.mem_cons_of_mem _ (List.mem_append_left _ (List.mem_append_left _ (List.mem_of_getElem? (i := 6) rfl)))) (by decide +kernel)) gg_f_X3_nextMember__a23_X1_taken
theorem gg_f_X3_nextMember__a23_X3_letGo__a23 : GoodIn w_f_X3_nextMember__a23 w_y_X3_letGo__a23 := goodIn_sub (fun w h => (List.mem_cons.mp h).elim (fun e => (List.mem_cons_of_mem _ (List.mem_append_left _ (List.mem_append_right _ (List.mem_append_right _ (List.mem_append_right _ (List.mem_append_left _ (List.mem_cons.mpr (Or.inl e))))))))) (fun h => (List.mem_append.mp h).elim (fun h => (List.mem_cons_of_mem _ (List.mem_append_left _ (List.mem_append_right _ (List.mem_append_right _ (List.mem_append_right _ (List.mem_append_left _ (List.mem_cons_of_mem _ h)))))))) (fun h => List.mem_cons_of_mem _ (List.mem_append_right _ h)))) w_y_X3_letGo__a23_good
theorem g_y_X3_nextMember__a23_X3_letGo__a23_V513 : GoodIn w_f_X3_nextMember__a23 (wsV RX3 513 RX3 yX3_letGo w_y_X3_letGo__a23) := goodIn_app (nb_g4 (List.mem_cons_of_mem _ (List.mem_append_left _ (List.mem_append_left _ (List.mem_of_getElem? (i := 7) rfl)))) (List.mem_cons_of_mem _ (List.mem_append_left _ (List.mem_append_left _ (List.mem_of_getElem? (i := 8) rfl)))) (List.mem_cons_of_mem _ (List.mem_append_left _ (List.mem_append_left _ (List.mem_of_getElem? (i := 9) rfl)))) (List.mem_cons_of_mem _ (List.mem_append_left _ (List.mem_append_left _ (List.mem_of_getElem? (i := 10) rfl)))) (by decide +kernel)) gg_f_X3_nextMember__a23_X3_letGo__a23
theorem gg_f_X3_nextMember__a23_X3_spend : GoodIn w_f_X3_nextMember__a23 w_y_X3_spend := goodIn_sub (fun w h => (List.mem_cons.mp h).elim (fun e => (List.mem_cons_of_mem _ (List.mem_append_left _ (List.mem_append_right _ (List.mem_append_right _ (List.mem_append_right _ (List.mem_append_right _ (List.mem_append_right _ (List.mem_append_right _ (List.mem_append_right _ (List.mem_append_left _ (List.mem_cons.mpr (Or.inl e))))))))))))) (fun h => (List.mem_append.mp h).elim (fun h => (List.mem_cons_of_mem _ (List.mem_append_left _ (List.mem_append_right _ (List.mem_append_right _ (List.mem_append_right _ (List.mem_append_right _ (List.mem_append_right _ (List.mem_append_right _ (List.mem_append_right _ (List.mem_append_left _ (List.mem_cons_of_mem _ h)))))))))))) (fun h => List.mem_cons_of_mem _ (List.mem_append_right _ h)))) w_y_X3_spend_good
theorem g_y_X3_nextMember__a23_X3_spend_V319 : GoodIn w_f_X3_nextMember__a23 (wsV RX3 319 RX3 yX3_spend w_y_X3_spend) := goodIn_app (nb_g4 (List.mem_cons_of_mem _ (List.mem_append_left _ (List.mem_append_left _ (List.mem_of_getElem? (i := 20) rfl)))) (List.mem_cons_of_mem _ (List.mem_append_left _ (List.mem_append_left _ (List.mem_of_getElem? (i := 21) rfl)))) (List.mem_cons_of_mem _ (List.mem_append_left _ (List.mem_append_left _ (List.mem_of_getElem? (i := 22) rfl)))) (List.mem_cons_of_mem _ (List.mem_append_left _ (List.mem_append_left _ (List.mem_of_getElem? (i := 10) rfl)))) (by decide +kernel)) gg_f_X3_nextMember__a23_X3_spend
set_option maxHeartbeats 40000000 in
set_option maxRecDepth 100000 in
theorem c_f_X3_nextMember__a23 (l : Launch) (hl0 : l.stackTraces = false) (dC : Nat → ClassId) (dI : Nat → Nat → Nat) (cy : Nat → ClassId) (ek a : Nat → Nat) (k0 : Nat) (L0 : LV) (σ0 : CS) (r0 : RS) (h0 : f_X3_nextMember__a23 k0 0 L0 σ0 = some r0) (z : Nat → Nat) (sz : Nat) : vx_Met l yX3_nextMember w_f_X3_nextMember__a23 ({ frames := 5, cells := r0.2.2.1, slots := r0.2.2.2, locals := 156 }) (va_Pc [.ref (a 18), .ref (a 23), .int (L0.1 2), .int (L0.1 3), .int (L0.1 4)] (nInF (dC, dI) cy ek sz (vC cy a z σ0))) (xV dC dI cy a (va_A (vC cy a z σ0) sz) [20] z r0) (xX dC dI cy a (va_A (vC cy a z σ0) sz) [20] z r0) r0.2.2.1 r0.2.2.2 (va_A (vC cy a z σ0) sz) := by
  refine vx_ofW (cc := cX3_nextMember) (maxL := 7) (ret := none) (by decide) rfl ?_
  intro p e s m args below meth c s₁ B hml hno hv
  obtain ⟨rfl, ⟨⟨hsz, hP, hK, hD0, hG⟩, hE⟩, hT⟩ := hv
  have hx := B.exec
  have hb := B.bytes
  have hr := B.returns
  have hts := atoms_spec (ws := w_f_X3_nextMember__a23) B.pre
  have hown : s.vm.findClass RX3 = some m.cls := findClass_of_methodNamed B.named
  have hlocks := B.notSynchronized
  subst hsz
  have hD := hD0.self (sz := s.heap.size)
  generalize hAe : va_A (vC cy a z σ0) s.heap.size = A at hD hE hT ⊢
  have hA : ∀ q : Nat, s.heap.size ≤ q → A q := fun q h => by rw [← hAe]; exact Or.inr h
  have hS : va_S A s.heap s.heap [] := va_S.rf
  have hl := lv_entry ([.ref (a 18), .ref (a 23), .int (L0.1 2), .int (L0.1 3), .int (L0.1 4)]) (n := 7) (Nat.le_of_ble_eq_true rfl)
  rw [lg_entry_eq]
  generalize (lg_sl ([.ref (a 18), .ref (a 23), .int (L0.1 2), .int (L0.1 3), .int (L0.1 4)]) ++ List.replicate (7 - (lg_sl ([.ref (a 18), .ref (a 23), .int (L0.1 2), .int (L0.1 3), .int (L0.1 4)])).length) Slot.unset).toArray = ls at hl ⊢
  have hl : lv_has ls 7 [(0, .ref (a 18)), (1, .ref (a 23)), (2, .int (L0.1 2)), (3, .int (L0.1 3)), (4, .int (L0.1 4))] := hl
  generalize hmc : r0.2.2.1 = mc
  generalize hms : r0.2.2.2 = ms
  have blk : ∀ k : Nat, (bX p l e (headSpec w_f_X3_nextMember__a23 ({ frames := 5, cells := mc, slots := ms, locals := 156 })).room s m #[.ref (a 18), .ref (a 23), .int (L0.1 2), .int (L0.1 3), .int (L0.1 4)] below meth c dC dI cy a A (fun r => vx_MQ below (xV dC dI cy a A [20] z r) (xX dC dI cy a A [20] z r) #[.ref (a 18), .ref (a 23), .int (L0.1 2), .int (L0.1 3), .int (L0.1 4)] s mc ms A) [20] z mc ms 7 (f_X3_nextMember__a23 k 0) (fun z L => [(0, .ref (a 18)), (1, .ref (a 23)), (2, .int (L.1 2)), (3, .int (L.1 3)), (4, .int (L.1 4))]) 0 (fun z L => [])) ∧ (bX p l e (headSpec w_f_X3_nextMember__a23 ({ frames := 5, cells := mc, slots := ms, locals := 156 })).room s m #[.ref (a 18), .ref (a 23), .int (L0.1 2), .int (L0.1 3), .int (L0.1 4)] below meth c dC dI cy a A (fun r => vx_MQ below (xV dC dI cy a A [20] z r) (xX dC dI cy a A [20] z r) #[.ref (a 18), .ref (a 23), .int (L0.1 2), .int (L0.1 3), .int (L0.1 4)] s mc ms A) [20] z mc ms 7 (f_X3_nextMember__a23 k 1) (fun z L => [(0, .ref (a 18)), (1, .ref (a 23)), (2, .int (L.1 2)), (3, .int (L.1 3)), (5, .int (L.1 5)), (6, .int (L.1 6))]) 58 (fun z L => [])) ∧ (bX p l e (headSpec w_f_X3_nextMember__a23 ({ frames := 5, cells := mc, slots := ms, locals := 156 })).room s m #[.ref (a 18), .ref (a 23), .int (L0.1 2), .int (L0.1 3), .int (L0.1 4)] below meth c dC dI cy a A (fun r => vx_MQ below (xV dC dI cy a A [20] z r) (xX dC dI cy a A [20] z r) #[.ref (a 18), .ref (a 23), .int (L0.1 2), .int (L0.1 3), .int (L0.1 4)] s mc ms A) [20] z mc ms 7 (f_X3_nextMember__a23 k 2) (fun z L => [(0, .ref (a 18))]) 95 (fun z L => [])) := by
    intro k
    induction k with
    | zero => exact ⟨fun z c1 c2 L σ r h => (by cases h), fun z c1 c2 L σ r h => (by cases h), fun z c1 c2 L σ r h => (by cases h)⟩
    | succ k ih =>
      refine ⟨?_, ?_, ?_⟩
      · intro z cells slots L σ r h hzk hc hs H locs ls hP hD hS hl
        rw [f_X3_nextMember__a23] at h
        refine lv_aload_n hx hb dX3_nextMember_0 rfl (lv_at hl 1 rfl) ?_
        refine lv_iload_n hx hb dX3_nextMember_1 rfl (lv_at hl 2 rfl) ?_
        obtain ⟨q1, h⟩ := kr_ite1 h
        refine hl_23 hx hb hK hP q1 dX3_nextMember_2 ?_
        refine lv_istore (lv' := [(5, .int (σ.2.2.1 23 ((L.1 2)).toNatClampNeg)), (0, .ref (a 18)), (1, .ref (a 23)), (2, .int (L.1 2)), (3, .int (L.1 3)), (4, .int (L.1 4))]) hx hb dX3_nextMember_3 hl (by decide) rfl (fun ls hl => ?_)
        refine lv_aload_n hx hb dX3_nextMember_5 rfl (lv_at hl 2 rfl) ?_
        refine lv_iload_n hx hb dX3_nextMember_6 rfl (lv_at hl 3 rfl) ?_
        refine lv_iconst (v := 1) hx hb dX3_nextMember_7 (by decide) ?_
        refine lv_iadd hx hb dX3_nextMember_8 ?_
        obtain ⟨q2, h⟩ := kr_ite1 h
        refine hl_23 hx hb hK hP q2 dX3_nextMember_9 ?_
        obtain ⟨r3, hc3, h⟩ := op_ex h
        refine kc_i (va_runSN (As := [.int (σ.2.2.1 23 ((((L.1 2)) + 1)).toNatClampNeg)]) (rest := []) ⟨hx, hb, hml, hown, hts⟩ (c_y_X11_unraw l dC dI cy a z k (lI lZ 0 ((σ.2.2.1 23 ((((L.1 2)) + 1)).toNatClampNeg))) σ r3 hc3 H.size) ⟨va_cnB 1 hts g_y_X3_nextMember__a23_X11_unraw_SN388 rfl rfl rfl (hG.1 _ (List.mem_of_getElem? (i := 104) rfl)) (hts _ (List.mem_cons_of_mem _ (List.mem_append_left _ (List.mem_append_left _ (List.mem_of_getElem? (i := 0) rfl))))) hd_y_X11_unraw ⟨Nat.le_of_ble_eq_true rfl, Nat.le_of_ble_eq_true rfl⟩, (hts _ (List.mem_cons_of_mem _ (List.mem_append_left _ (List.mem_append_left _ (List.mem_of_getElem? (i := 1) rfl))))), trivial⟩ ⟨nb_blind, (kb_pre hK hG hP hD)⟩ rfl rfl hl.1 rfl (lv_room (Nat.le_of_ble_eq_true rfl)) dX3_nextMember_10 ⟨(Nat.le_trans (Nat.le_add_right _ _) (Nat.le_of_eq hc)), (Nat.le_trans (Nat.le_add_right _ _) (Nat.le_of_eq hs))⟩) hA hP hD hS (fun H locs hP hD hS => ?_)
        refine lv_istore (lv' := [(6, .int r3.1), (5, .int (σ.2.2.1 23 ((L.1 2)).toNatClampNeg)), (0, .ref (a 18)), (1, .ref (a 23)), (2, .int (L.1 2)), (3, .int (L.1 3)), (4, .int (L.1 4))]) hx hb dX3_nextMember_13 hl (by decide) rfl (fun ls hl => ?_)
        refine lv_iload hx hb dX3_nextMember_15 (lv_at hl 0 rfl) ?_
        refine lv_aload_n hx hb dX3_nextMember_17 rfl (lv_at hl 2 rfl) ?_
        refine hg_18_0 hx hb hts in_f_X3_nextMember__a23_X3 hown hK hP (hts _ (List.mem_cons_of_mem _ (List.mem_append_left _ (List.mem_append_left _ (List.mem_of_getElem? (i := 2) rfl))))) dX3_nextMember_18 ?_
        refine lv_iload hx hb dX3_nextMember_21 (lv_at hl 1 rfl) ?_
        obtain ⟨r4, hc4, h⟩ := op_ex h
        refine kc_i (va_runV (As := [.int (σ.2.2.1 23 ((L.1 2)).toNatClampNeg)]) (rest := [.int r3.1]) ⟨hx, hb, hml, hown, hts⟩ (c_y_X1_length l dC dI cy a z k (lI lZ 1 ((σ.2.2.1 23 ((L.1 2)).toNatClampNeg))) r3.2 r4 hc4 H.size) (cwV 1 hts g_y_X3_nextMember__a23_X1_length_V399 rfl rfl rfl hd_y_X1_length ⟨Nat.le_of_ble_eq_true rfl, Nat.le_of_ble_eq_true rfl⟩) ⟨nb_blind, va_recv hK hP (ci := 1) (q0 := 0) rfl rfl, (kb_pre hK hG hP hD)⟩ rfl rfl hl.1 rfl (lv_room (Nat.le_of_ble_eq_true rfl)) dX3_nextMember_23 ⟨(Nat.le_trans (Nat.le_add_right _ _) (Nat.le_of_eq hc)), (Nat.le_trans (Nat.le_add_right _ _) (Nat.le_of_eq hs))⟩) hA hP hD hS (fun H locs hP hD hS => ?_)
        refine lv_icmp_lt (tgt := 58) hx hb dX3_nextMember_26 (by decide) (fun c5 => ?_) (fun c5 => ?_)
        · rw [if_pos c5] at h
          exact ih.2.1 z _ _ (lI (lI L 5 ((σ.2.2.1 23 ((L.1 2)).toNatClampNeg))) 6 r3.1) r4.2 _ h hzk hc hs H locs ls hP hD hS (lv_sub hl [2, 3, 4, 5, 1, 0] rfl)
        · rw [if_neg c5] at h
          refine lv_aload_n hx hb dX3_nextMember_29 rfl (lv_at hl 2 rfl) ?_
          refine lv_aload_n hx hb dX3_nextMember_30 rfl (lv_at hl 3 rfl) ?_
          refine lv_iload_n hx hb dX3_nextMember_31 rfl (lv_at hl 4 rfl) ?_
          refine lv_iload hx hb dX3_nextMember_32 (lv_at hl 6 rfl) ?_
          obtain ⟨r6, hc6, h⟩ := op_ex h
          refine kc_v (va_runV (As := [.ref (a 23), .int (L.1 2), .int (L.1 4)]) (rest := []) ⟨hx, hb, hml, hown, hts⟩ (c_y_X3_letGo__a23 l dC dI cy a z k (lI (lI lZ 2 ((L.1 2))) 3 ((L.1 4))) r4.2 r6 hc6 H.size) (cwV 3 hts g_y_X3_nextMember__a23_X3_letGo__a23_V513 rfl rfl rfl hd_y_X3_letGo__a23 ⟨Nat.le_of_ble_eq_true rfl, Nat.le_of_ble_eq_true rfl⟩) ⟨nb_blind, va_recv hK hP (ci := 3) (q0 := 18) rfl rfl, (kb_pre hK hG hP hD)⟩ rfl rfl hl.1 rfl (lv_room (Nat.le_of_ble_eq_true rfl)) dX3_nextMember_34 ⟨(Nat.le_trans (Nat.le_add_right _ _) (Nat.le_of_eq hc)), (Nat.le_trans (Nat.le_add_right _ _) (Nat.le_of_eq hs))⟩) hA hP hD hS (fun H locs hP hD hS => ?_)
          refine lv_aload_n hx hb dX3_nextMember_37 rfl (lv_at hl 2 rfl) ?_
          refine hg_18_5 hx hb hts in_f_X3_nextMember__a23_X3 hown hK hP (hts _ (List.mem_cons_of_mem _ (List.mem_append_left _ (List.mem_append_left _ (List.mem_of_getElem? (i := 11) rfl))))) dX3_nextMember_38 ?_
          refine lv_iload_n hx hb dX3_nextMember_41 rfl (lv_at hl 5 rfl) ?_
          refine lv_aload_n hx hb dX3_nextMember_42 rfl (lv_at hl 2 rfl) ?_
          obtain ⟨b7, hb7, h⟩ := oP_ex h
          refine hgq_18_6 hx hb hts in_f_X3_nextMember__a23_X3 hown hK hP (hts _ (List.mem_cons_of_mem _ (List.mem_append_left _ (List.mem_append_left _ (List.mem_of_getElem? (i := 12) rfl))))) hb7 dX3_nextMember_43 ?_
          refine hg_P_0n b7 hx hb hts in_f_X3_nextMember__a23_X7 hown hK hP (va_Nw.use rfl (hG.1 _ (List.mem_of_getElem? (i := 66) rfl))) dX3_nextMember_46 ?_
          refine lv_iload_n hx hb dX3_nextMember_49 rfl (lv_at hl 5 rfl) ?_
          refine lv_iconst (v := 1) hx hb dX3_nextMember_50 (by decide) ?_
          refine lv_iadd hx hb dX3_nextMember_51 ?_
          obtain ⟨q8, h⟩ := kr_ite1 h
          refine hl_P0 ((sKd r6.2 b7)) hx hb hK hP q8 dX3_nextMember_52 ?_
          refine lv_iadd hx hb dX3_nextMember_53 ?_
          refine hp_19_0n hx hb hts in_f_X3_nextMember__a23_X8 hown hK hP hD hS (va_Nw.use rfl (hG.1 _ (List.mem_of_getElem? (i := 8) rfl))) dX3_nextMember_54 (fun H locs hP hD hS => ?_)
          obtain rfl := Option.some.inj h
          subst hc
          subst hs
          exact xr_v hx hb hr hK hzk hP hD hS hlocks dX3_nextMember_57
      · intro z cells slots L σ r h hzk hc hs H locs ls hP hD hS hl
        rw [f_X3_nextMember__a23] at h
        refine lv_aload_n hx hb dX3_nextMember_58 rfl (lv_at hl 1 rfl) ?_
        refine lv_iload_n hx hb dX3_nextMember_59 rfl (lv_at hl 2 rfl) ?_
        refine lv_iconst (v := 1) hx hb dX3_nextMember_60 (by decide) ?_
        refine lv_iadd hx hb dX3_nextMember_61 ?_
        refine lv_iload hx hb dX3_nextMember_62 (lv_at hl 5 rfl) ?_
        refine lv_iconst (v := 1) hx hb dX3_nextMember_64 (by decide) ?_
        refine lv_iadd hx hb dX3_nextMember_65 ?_
        obtain ⟨r1, hc1, h⟩ := op_ex h
        refine kc_i (va_runSN (As := [.int (((L.1 6)) + 1)]) (rest := [.int (((L.1 2)) + 1), .ref (a 23)]) ⟨hx, hb, hml, hown, hts⟩ (c_y_X11_raw l dC dI cy a z k (lI lZ 0 ((((L.1 6)) + 1))) σ r1 hc1 H.size) ⟨va_cnB 1 hts g_y_X3_nextMember__a23_X11_raw_SN182 rfl rfl rfl (hG.1 _ (List.mem_of_getElem? (i := 103) rfl)) (hts _ (List.mem_cons_of_mem _ (List.mem_append_left _ (List.mem_append_left _ (List.mem_of_getElem? (i := 0) rfl))))) hd_y_X11_raw ⟨Nat.le_of_ble_eq_true rfl, Nat.le_of_ble_eq_true rfl⟩, (hts _ (List.mem_cons_of_mem _ (List.mem_append_left _ (List.mem_append_left _ (List.mem_of_getElem? (i := 13) rfl))))), trivial⟩ ⟨nb_blind, (kb_pre hK hG hP hD)⟩ rfl rfl hl.1 rfl (lv_room (Nat.le_of_ble_eq_true rfl)) dX3_nextMember_66 ⟨(Nat.le_trans (Nat.le_add_right _ _) (Nat.le_of_eq hc)), (Nat.le_trans (Nat.le_add_right _ _) (Nat.le_of_eq hs))⟩) hA hP hD hS (fun H locs hP hD hS => ?_)
        obtain ⟨q2, h⟩ := kr_ite1 h
        refine hs_23 hx hb hK hP hD hS q2 dX3_nextMember_69 (fun H locs hP hD hS => ?_)
        refine lv_aload_n hx hb dX3_nextMember_70 rfl (lv_at hl 0 rfl) ?_
        refine lv_aload_n hx hb dX3_nextMember_71 rfl (lv_at hl 0 rfl) ?_
        refine hg_18_0 hx hb hts in_f_X3_nextMember__a23_X3 hown hK hP (hts _ (List.mem_cons_of_mem _ (List.mem_append_left _ (List.mem_append_left _ (List.mem_of_getElem? (i := 2) rfl))))) dX3_nextMember_72 ?_
        refine lv_iload hx hb dX3_nextMember_75 (lv_at hl 4 rfl) ?_
        refine lv_iload hx hb dX3_nextMember_77 (lv_at hl 5 rfl) ?_
        obtain ⟨r3, hc3, h⟩ := op_ex h
        refine kc_i (va_runV (As := [.int (L.1 5), .int (L.1 6)]) (rest := [.ref (a 18)]) ⟨hx, hb, hml, hown, hts⟩ (c_y_X1_taken l dC dI cy a z k (lI (lI lZ 1 ((L.1 5))) 2 ((L.1 6))) (uA r1.2 23 ((((L.1 2)) + 1)).toNatClampNeg r1.1) r3 hc3 H.size) (cwV 2 hts g_y_X3_nextMember__a23_X1_taken_V473 rfl rfl rfl hd_y_X1_taken ⟨Nat.le_of_ble_eq_true rfl, Nat.le_of_ble_eq_true rfl⟩) ⟨nb_blind, va_recv hK hP (ci := 1) (q0 := 0) rfl rfl, (kb_pre hK hG hP hD)⟩ rfl rfl hl.1 rfl (lv_room (Nat.le_of_ble_eq_true rfl)) dX3_nextMember_79 ⟨(Nat.le_trans (Nat.le_add_right _ _) (Nat.le_of_eq hc)), (Nat.le_trans (Nat.le_add_right _ _) (Nat.le_of_eq hs))⟩) hA hP hD hS (fun H locs hP hD hS => ?_)
        obtain ⟨r4, hc4, hle4, h9⟩ := ox_ex h
        clear h
        refine kx_v (vx_runV (As := [.int r3.1]) (rest := []) ⟨hx, hb, hml, hown, hts⟩ (c_f_X3_push l hl0 dC dI cy ek a k (lI lZ 1 r3.1) r3.2 r4 hc4 z H.size) (cwV 1 hts g_f_X3_nextMember__a23_X3_push_V322 rfl rfl rfl hd_f_X3_push ⟨Nat.le_of_ble_eq_true rfl, Nat.le_of_ble_eq_true rfl⟩) ⟨nb_blindF, va_recv hK hP (ci := 3) (q0 := 18) rfl rfl, (kx_pre hK hG hE hT hA hP hD hS)⟩ rfl rfl hl.1 rfl (lv_room (Nat.le_of_ble_eq_true rfl)) dX3_nextMember_82 ⟨Nat.le_trans (Nat.add_le_add_left hle4.1 _) (Nat.le_of_eq hc), Nat.le_trans (Nat.add_le_add_left hle4.2 _) (Nat.le_of_eq hs)⟩) hK hA hzk hP hD hS (by decide) hno hlocks ?_
        rcases h9 with ⟨h00, y4, hny4, hy⟩ | ⟨h00, hy⟩
        · subst hy
          have h := hny4
          refine Or.inl ⟨h00, fun z H locs hz4 hzk hP hD hS => ?_⟩
          replace hc := (Nat.add_assoc _ _ _).trans hc
          replace hs := (Nat.add_assoc _ _ _).trans hs
          refine lv_aload_n hx hb dX3_nextMember_85 rfl (lv_at hl 0 rfl) ?_
          refine hg_18_5 hx hb hts in_f_X3_nextMember__a23_X3 hown hK hP (hts _ (List.mem_cons_of_mem _ (List.mem_append_left _ (List.mem_append_left _ (List.mem_of_getElem? (i := 11) rfl))))) dX3_nextMember_86 ?_
          refine lv_iload_n hx hb dX3_nextMember_89 rfl (lv_at hl 3 rfl) ?_
          refine lv_iconst (v := 2) hx hb dX3_nextMember_90 (by decide) ?_
          refine lv_iadd hx hb dX3_nextMember_91 ?_
          refine hp_19_0n hx hb hts in_f_X3_nextMember__a23_X8 hown hK hP hD hS (va_Nw.use rfl (hG.1 _ (List.mem_of_getElem? (i := 8) rfl))) dX3_nextMember_92 (fun H locs hP hD hS => ?_)
          exact ih.2.2 z _ _ L (uI r4.2.1 1900 ((((L.1 3)) + 2))) _ h hzk hc hs H locs ls hP hD hS (lv_sub hl [0] rfl)
        · subst hy
          exact Or.inr ⟨h00, rfl, hc, hs⟩
      · intro z cells slots L σ r h hzk hc hs H locs ls hP hD hS hl
        rw [f_X3_nextMember__a23] at h
        refine lv_aload_n hx hb dX3_nextMember_95 rfl (lv_at hl 0 rfl) ?_
        refine lv_iconst (v := 1) hx hb dX3_nextMember_96 (by decide) ?_
        obtain ⟨r1, hc1, h⟩ := op_ex h
        refine kc_v (va_runV (As := [.int 1]) (rest := []) ⟨hx, hb, hml, hown, hts⟩ (c_y_X3_spend l dC dI cy a z k (lI lZ 1 1) σ r1 hc1 H.size) (cwV 1 hts g_y_X3_nextMember__a23_X3_spend_V319 rfl rfl rfl hd_y_X3_spend ⟨Nat.le_of_ble_eq_true rfl, Nat.le_of_ble_eq_true rfl⟩) ⟨nb_blind, va_recv hK hP (ci := 3) (q0 := 18) rfl rfl, (kb_pre hK hG hP hD)⟩ rfl rfl hl.1 rfl (lv_room (Nat.le_of_ble_eq_true rfl)) dX3_nextMember_97 ⟨(Nat.le_trans (Nat.le_add_right _ _) (Nat.le_of_eq hc)), (Nat.le_trans (Nat.le_add_right _ _) (Nat.le_of_eq hs))⟩) hA hP hD hS (fun H locs hP hD hS => ?_)
        obtain rfl := Option.some.inj h
        subst hc
        subst hs
        exact xr_v hx hb hr hK hzk hP hD hS hlocks dX3_nextMember_100
  exact (blk k0).1 z 0 0 L0 σ0 r0 h0 (zk_rf _ _) ((Nat.zero_add _).trans hmc) ((Nat.zero_add _).trans hms) s.heap [] ls hP hD hS hl
/-! X3_spread__a23 -/
def y_X3_spread__a23 : Nat → Nat → LV → CS → Option (Int32 × CS)
  | 0, _, _, _ => none
  | k + 1, 0, L, σ => oc (y_X3_pop k 0 lZ σ) (fun r1 => oc (y_X1_kind k 0 (lI lZ 1 r1.1) r1.2) (fun r2 => if r2.1 = 5 then (oc (y_X1_length k 0 (lI lZ 1 r1.1) r2.2) (fun r4 => if r4.1 ≤ ((L.1 3)) then (y_X3_spread__a23 k 2 (lI L 5 r1.1) r4.2) else (y_X3_spread__a23 k 1 L r4.2))) else (y_X3_spread__a23 k 1 L r2.2)))
  | k + 1, 1, L, σ => oc (y_X3_fail k 0 (lI lZ 1 1) σ) (fun r1 => some (0, r1.2))
  | k + 1, 2, L, σ => y_X3_spread__a23 k 3 (lI L 6 0) σ
  | k + 1, 3, L, σ => if ((L.1 3)) ≤ ((L.1 6)) then (y_X3_spread__a23 k 4 L σ) else (if ((σ.1 1813)) = 0 then (if ((L.1 4)) = 0 then (y_X3_spread__a23 k 5 L σ) else (oc (y_X1_member k 0 (lI (lI lZ 1 ((L.1 5))) 2 ((L.1 6))) σ) (fun r4 => oc (y_X3_assign k 0 (lI (lI (lI lZ 1 ((((L.1 2)) + ((L.1 6))))) 2 r4.1) 3 1) r4.2) (fun r5 => y_X3_spread__a23 k 6 L r5.2)))) else (y_X3_spread__a23 k 4 L σ))
  | k + 1, 4, L, σ => some (0, σ)
  | k + 1, 5, L, σ => oc (y_X1_member k 0 (lI (lI lZ 1 ((L.1 5))) 2 ((L.1 6))) σ) (fun r1 => if ¬ (((((L.1 2)) + ((L.1 6)))) < 0 ∨ 3780 ≤ ((((L.1 2)) + ((L.1 6)))).toNatClampNeg) then (y_X3_spread__a23 k 6 L (uA r1.2 23 ((((L.1 2)) + ((L.1 6)))).toNatClampNeg r1.1)) else none)
  | k + 1, 6, L, σ => y_X3_spread__a23 k 3 (lI L 6 ((((L.1 6)) + 1))) σ
  | _ + 1, _ + 7, _, _ => none
def o_y_X3_spread__a23 : List Cond := [.methodLink RX3 339 yX3_pop, .instanceMethod yX3_pop, .selects RX3 yX3_pop yX3_pop, .initialized RX3, .fieldLink RX3 39 "SetHouse$Machine" "heap" "LSetHouse$Heap;", .methodLink RX3 396 yX1_kind, .instanceMethod yX1_kind, .selects RX1 yX1_kind yX1_kind, .initialized RX1, .methodLink RX3 399 yX1_length, .instanceMethod yX1_length, .selects RX1 yX1_length yX1_length, .methodLink RX3 313 yX3_fail, .instanceMethod yX3_fail, .selects RX3 yX3_fail yX3_fail, .fieldLink RX3 149 "SetHouse$Machine" "trouble" "I", .methodLink RX3 452 yX1_member, .instanceMethod yX1_member, .selects RX1 yX1_member yX1_member, .methodLink RX3 504 yX3_assign, .instanceMethod yX3_assign, .selects RX3 yX3_assign yX3_assign]
theorem o_y_X3_spread__a23_good : o_y_X3_spread__a23.all goodWord = true := by decide +kernel
def p_y_X3_spread__a23 : List Cond := o_y_X3_spread__a23 ++ ((.code yX3_pop cX3_pop 1 (some .int) :: p_y_X3_pop) ++ ((.code yX1_kind cX1_kind 2 (some .int) :: p_y_X1_kind) ++ ((.code yX1_length cX1_length 2 (some .int) :: p_y_X1_length) ++ ((.code yX3_fail cX3_fail 2 none :: p_y_X3_fail) ++ ((.code yX1_member cX1_member 3 (some .int) :: p_y_X1_member) ++ ((.code yX3_assign cX3_assign 5 none :: p_y_X3_assign) ++ []))))))
theorem p_y_X3_spread__a23_good : p_y_X3_spread__a23.all goodWord = true := nb_all2 o_y_X3_spread__a23_good (nb_all2 (nb_allc (by decide +kernel) p_y_X3_pop_good) (nb_all2 (nb_allc (by decide +kernel) p_y_X1_kind_good) (nb_all2 (nb_allc (by decide +kernel) p_y_X1_length_good) (nb_all2 (nb_allc (by decide +kernel) p_y_X3_fail_good) (nb_all2 (nb_allc (by decide +kernel) p_y_X1_member_good) (nb_all2 (nb_allc (by decide +kernel) p_y_X3_assign_good) rfl))))))
def w_y_X3_spread__a23 : List Cond := .code yX3_spread cX3_spread 7 none :: (p_y_X3_spread__a23 ++ fC)
theorem w_y_X3_spread__a23_good : w_y_X3_spread__a23.all goodWord = true := nb_allc (by decide +kernel) (nb_all2 p_y_X3_spread__a23_good fC_good)
theorem in_y_X3_spread__a23_X3 : ∀ w ∈ wsX30, w ∈ w_y_X3_spread__a23 := fun _ h => List.mem_cons_of_mem _ (List.mem_append_right _ (List.mem_append_right _ (List.mem_append_right _ (List.mem_append_right _ (List.mem_append_left _ h)))))
theorem hd_y_X3_spread__a23 : yX3_spread.cls = RX3 ∧ yX3_spread.cls ≠ "java/lang/invoke/MethodHandle" ∧ yX3_spread.cls ≠ "java/lang/invoke/VarHandle" ∧ (parseMethodDescriptor yX3_spread.desc).map (fun d => d.parameters.length) = some 4 := by decide +kernel
theorem gg_y_X3_spread__a23_X1_kind : GoodIn w_y_X3_spread__a23 w_y_X1_kind := goodIn_sub (fun w h => (List.mem_cons.mp h).elim (fun e => (List.mem_cons_of_mem _ (List.mem_append_left _ (List.mem_append_right _ (List.mem_append_right _ (List.mem_append_left _ (List.mem_cons.mpr (Or.inl e)))))))) (fun h => (List.mem_append.mp h).elim (fun h => (List.mem_cons_of_mem _ (List.mem_append_left _ (List.mem_append_right _ (List.mem_append_right _ (List.mem_append_left _ (List.mem_cons_of_mem _ h))))))) (fun h => List.mem_cons_of_mem _ (List.mem_append_right _ h)))) w_y_X1_kind_good
theorem g_y_X3_spread__a23_X1_kind_V396 : GoodIn w_y_X3_spread__a23 (wsV RX3 396 RX1 yX1_kind w_y_X1_kind) := goodIn_app (nb_g4 (List.mem_cons_of_mem _ (List.mem_append_left _ (List.mem_append_left _ (List.mem_of_getElem? (i := 5) rfl)))) (List.mem_cons_of_mem _ (List.mem_append_left _ (List.mem_append_left _ (List.mem_of_getElem? (i := 6) rfl)))) (List.mem_cons_of_mem _ (List.mem_append_left _ (List.mem_append_left _ (List.mem_of_getElem? (i := 7) rfl)))) (List.mem_cons_of_mem _ (List.mem_append_left _ (List.mem_append_left _ (List.mem_of_getElem? (i := 8) rfl)))) (by decide +kernel)) gg_y_X3_spread__a23_X1_kind
theorem gg_y_X3_spread__a23_X1_length : GoodIn w_y_X3_spread__a23 w_y_X1_length := goodIn_sub (fun w h => (List.mem_cons.mp h).elim (fun e => (List.mem_cons_of_mem _ (List.mem_append_left _ (List.mem_append_right _ (List.mem_append_right _ (List.mem_append_right _ (List.mem_append_left _ (List.mem_cons.mpr (Or.inl e))))))))) (fun h => (List.mem_append.mp h).elim (fun h => (List.mem_cons_of_mem _ (List.mem_append_left _ (List.mem_append_right _ (List.mem_append_right _ (List.mem_append_right _ (List.mem_append_left _ (List.mem_cons_of_mem _ h)))))))) (fun h => List.mem_cons_of_mem _ (List.mem_append_right _ h)))) w_y_X1_length_good
theorem g_y_X3_spread__a23_X1_length_V399 : GoodIn w_y_X3_spread__a23 (wsV RX3 399 RX1 yX1_length w_y_X1_length) := goodIn_app (nb_g4 (List.mem_cons_of_mem _ (List.mem_append_left _ (List.mem_append_left _ (List.mem_of_getElem? (i := 9) rfl)))) (List.mem_cons_of_mem _ (List.mem_append_left _ (List.mem_append_left _ (List.mem_of_getElem? (i := 10) rfl)))) (List.mem_cons_of_mem _ (List.mem_append_left _ (List.mem_append_left _ (List.mem_of_getElem? (i := 11) rfl)))) (List.mem_cons_of_mem _ (List.mem_append_left _ (List.mem_append_left _ (List.mem_of_getElem? (i := 8) rfl)))) (by decide +kernel)) gg_y_X3_spread__a23_X1_length
theorem gg_y_X3_spread__a23_X1_member : GoodIn w_y_X3_spread__a23 w_y_X1_member := goodIn_sub (fun w h => (List.mem_cons.mp h).elim (fun e => (List.mem_cons_of_mem _ (List.mem_append_left _ (List.mem_append_right _ (List.mem_append_right _ (List.mem_append_right _ (List.mem_append_right _ (List.mem_append_right _ (List.mem_append_left _ (List.mem_cons.mpr (Or.inl e))))))))))) (fun h => (List.mem_append.mp h).elim (fun h => (List.mem_cons_of_mem _ (List.mem_append_left _ (List.mem_append_right _ (List.mem_append_right _ (List.mem_append_right _ (List.mem_append_right _ (List.mem_append_right _ (List.mem_append_left _ (List.mem_cons_of_mem _ h)))))))))) (fun h => List.mem_cons_of_mem _ (List.mem_append_right _ h)))) w_y_X1_member_good
theorem g_y_X3_spread__a23_X1_member_V452 : GoodIn w_y_X3_spread__a23 (wsV RX3 452 RX1 yX1_member w_y_X1_member) := goodIn_app (nb_g4 (List.mem_cons_of_mem _ (List.mem_append_left _ (List.mem_append_left _ (List.mem_of_getElem? (i := 16) rfl)))) (List.mem_cons_of_mem _ (List.mem_append_left _ (List.mem_append_left _ (List.mem_of_getElem? (i := 17) rfl)))) (List.mem_cons_of_mem _ (List.mem_append_left _ (List.mem_append_left _ (List.mem_of_getElem? (i := 18) rfl)))) (List.mem_cons_of_mem _ (List.mem_append_left _ (List.mem_append_left _ (List.mem_of_getElem? (i := 8) rfl)))) (by decide +kernel)) gg_y_X3_spread__a23_X1_member
theorem gg_y_X3_spread__a23_X3_assign : GoodIn w_y_X3_spread__a23 w_y_X3_assign := goodIn_sub (fun w h => (List.mem_cons.mp h).elim (fun e => (List.mem_cons_of_mem _ (List.mem_append_left _ (List.mem_append_right _ (List.mem_append_right _ (List.mem_append_right _ (List.mem_append_right _ (List.mem_append_right _ (List.mem_append_right _ (List.mem_append_left _ (List.mem_cons.mpr (Or.inl e)))))))))))) (fun h => (List.mem_append.mp h).elim (fun h => (List.mem_cons_of_mem _ (List.mem_append_left _ (List.mem_append_right _ (List.mem_append_right _ (List.mem_append_right _ (List.mem_append_right _ (List.mem_append_right _ (List.mem_append_right _ (List.mem_append_left _ (List.mem_cons_of_mem _ h))))))))))) (fun h => List.mem_cons_of_mem _ (List.mem_append_right _ h)))) w_y_X3_assign_good
theorem g_y_X3_spread__a23_X3_assign_V504 : GoodIn w_y_X3_spread__a23 (wsV RX3 504 RX3 yX3_assign w_y_X3_assign) := goodIn_app (nb_g4 (List.mem_cons_of_mem _ (List.mem_append_left _ (List.mem_append_left _ (List.mem_of_getElem? (i := 19) rfl)))) (List.mem_cons_of_mem _ (List.mem_append_left _ (List.mem_append_left _ (List.mem_of_getElem? (i := 20) rfl)))) (List.mem_cons_of_mem _ (List.mem_append_left _ (List.mem_append_left _ (List.mem_of_getElem? (i := 21) rfl)))) (List.mem_cons_of_mem _ (List.mem_append_left _ (List.mem_append_left _ (List.mem_of_getElem? (i := 3) rfl)))) (by decide +kernel)) gg_y_X3_spread__a23_X3_assign
theorem gg_y_X3_spread__a23_X3_fail : GoodIn w_y_X3_spread__a23 w_y_X3_fail := goodIn_sub (fun w h => (List.mem_cons.mp h).elim (fun e => (List.mem_cons_of_mem _ (List.mem_append_left _ (List.mem_append_right _ (List.mem_append_right _ (List.mem_append_right _ (List.mem_append_right _ (List.mem_append_left _ (List.mem_cons.mpr (Or.inl e)))))))))) (fun h => (List.mem_append.mp h).elim (fun h => (List.mem_cons_of_mem _ (List.mem_append_left _ (List.mem_append_right _ (List.mem_append_right _ (List.mem_append_right _ (List.mem_append_right _ (List.mem_append_left _ (List.mem_cons_of_mem _ h))))))))) (fun h => List.mem_cons_of_mem _ (List.mem_append_right _ h)))) w_y_X3_fail_good
theorem g_y_X3_spread__a23_X3_fail_V313 : GoodIn w_y_X3_spread__a23 (wsV RX3 313 RX3 yX3_fail w_y_X3_fail) := goodIn_app (nb_g4 (List.mem_cons_of_mem _ (List.mem_append_left _ (List.mem_append_left _ (List.mem_of_getElem? (i := 12) rfl)))) (List.mem_cons_of_mem _ (List.mem_append_left _ (List.mem_append_left _ (List.mem_of_getElem? (i := 13) rfl)))) (List.mem_cons_of_mem _ (List.mem_append_left _ (List.mem_append_left _ (List.mem_of_getElem? (i := 14) rfl)))) (List.mem_cons_of_mem _ (List.mem_append_left _ (List.mem_append_left _ (List.mem_of_getElem? (i := 3) rfl)))) (by decide +kernel)) gg_y_X3_spread__a23_X3_fail
theorem gg_y_X3_spread__a23_X3_pop : GoodIn w_y_X3_spread__a23 w_y_X3_pop := goodIn_sub (fun w h => (List.mem_cons.mp h).elim (fun e => (List.mem_cons_of_mem _ (List.mem_append_left _ (List.mem_append_right _ (List.mem_append_left _ (List.mem_cons.mpr (Or.inl e))))))) (fun h => (List.mem_append.mp h).elim (fun h => (List.mem_cons_of_mem _ (List.mem_append_left _ (List.mem_append_right _ (List.mem_append_left _ (List.mem_cons_of_mem _ h)))))) (fun h => List.mem_cons_of_mem _ (List.mem_append_right _ h)))) w_y_X3_pop_good
theorem g_y_X3_spread__a23_X3_pop_V339 : GoodIn w_y_X3_spread__a23 (wsV RX3 339 RX3 yX3_pop w_y_X3_pop) := goodIn_app (nb_g4 (List.mem_cons_of_mem _ (List.mem_append_left _ (List.mem_append_left _ (List.mem_of_getElem? (i := 0) rfl)))) (List.mem_cons_of_mem _ (List.mem_append_left _ (List.mem_append_left _ (List.mem_of_getElem? (i := 1) rfl)))) (List.mem_cons_of_mem _ (List.mem_append_left _ (List.mem_append_left _ (List.mem_of_getElem? (i := 2) rfl)))) (List.mem_cons_of_mem _ (List.mem_append_left _ (List.mem_append_left _ (List.mem_of_getElem? (i := 3) rfl)))) (by decide +kernel)) gg_y_X3_spread__a23_X3_pop
set_option maxHeartbeats 40000000 in
set_option maxRecDepth 100000 in
theorem c_y_X3_spread__a23 (l : Launch) (dC : Nat → ClassId) (dI : Nat → Nat → Nat) (cy : Nat → ClassId) (a z : Nat → Nat) (k0 : Nat) (L0 : LV) (σ0 : CS) (r0 : Int32 × CS) (h0 : y_X3_spread__a23 k0 0 L0 σ0 = some r0) (sz : Nat) : Met l yX3_spread w_y_X3_spread__a23 ({ frames := 2, cells := 0, slots := 0, locals := 46 }) (va_Pc [.ref (a 18), .ref (a 23), .int (L0.1 2), .int (L0.1 3), .int (L0.1 4)] (nIn (dC, dI) cy sz (vC cy a z σ0))) (va_Qv (fun _ : Unit => True) (fun _ t => nOut (dC, dI) cy (va_A (vC cy a z σ0) sz) (vC cy a z r0.2) t) (va_A (vC cy a z σ0) sz)) 0 0 (va_A (vC cy a z σ0) sz) := by
  refine Met.ofW (cc := cX3_spread) (maxL := 7) (ret := none) (by decide) rfl ?_
  intro p e s m args below meth c s₁ B hml hv
  obtain ⟨rfl, hsz, hP, hK, hD0, hG⟩ := hv
  have hx := B.exec
  have hb := B.bytes
  have hr := B.returns
  have hts := atoms_spec (ws := w_y_X3_spread__a23) B.pre
  have hown : s.vm.findClass RX3 = some m.cls := findClass_of_methodNamed B.named
  have hlocks := B.notSynchronized
  subst hsz
  have hD := hD0.self (sz := s.heap.size)
  generalize hAe : va_A (vC cy a z σ0) s.heap.size = A at hD ⊢
  have hA : ∀ q : Nat, s.heap.size ≤ q → A q := fun q h => by rw [← hAe]; exact Or.inr h
  have hS : va_S A s.heap s.heap [] := va_S.rf
  have hl := lv_entry ([.ref (a 18), .ref (a 23), .int (L0.1 2), .int (L0.1 3), .int (L0.1 4)]) (n := 7) (Nat.le_of_ble_eq_true rfl)
  rw [lg_entry_eq]
  generalize (lg_sl ([.ref (a 18), .ref (a 23), .int (L0.1 2), .int (L0.1 3), .int (L0.1 4)]) ++ List.replicate (7 - (lg_sl ([.ref (a 18), .ref (a 23), .int (L0.1 2), .int (L0.1 3), .int (L0.1 4)])).length) Slot.unset).toArray = ls at hl ⊢
  have hl : lv_has ls 7 [(0, .ref (a 18)), (1, .ref (a 23)), (2, .int (L0.1 2)), (3, .int (L0.1 3)), (4, .int (L0.1 4))] := hl
  have blk : ∀ k : Nat, (bC p l e (headSpec w_y_X3_spread__a23 ({ frames := 2, cells := 0, slots := 0, locals := 46 })).room s m #[.ref (a 18), .ref (a 23), .int (L0.1 2), .int (L0.1 3), .int (L0.1 4)] below meth c dC dI cy a z A (kV dC dI cy a z A below #[.ref (a 18), .ref (a 23), .int (L0.1 2), .int (L0.1 3), .int (L0.1 4)] s) 7 (y_X3_spread__a23 k 0) (fun L => [(0, .ref (a 18)), (1, .ref (a 23)), (2, .int (L.1 2)), (3, .int (L.1 3)), (4, .int (L.1 4))]) 0 (fun L => [])) ∧ (bC p l e (headSpec w_y_X3_spread__a23 ({ frames := 2, cells := 0, slots := 0, locals := 46 })).room s m #[.ref (a 18), .ref (a 23), .int (L0.1 2), .int (L0.1 3), .int (L0.1 4)] below meth c dC dI cy a z A (kV dC dI cy a z A below #[.ref (a 18), .ref (a 23), .int (L0.1 2), .int (L0.1 3), .int (L0.1 4)] s) 7 (y_X3_spread__a23 k 1) (fun L => [(0, .ref (a 18))]) 32 (fun L => [])) ∧ (bC p l e (headSpec w_y_X3_spread__a23 ({ frames := 2, cells := 0, slots := 0, locals := 46 })).room s m #[.ref (a 18), .ref (a 23), .int (L0.1 2), .int (L0.1 3), .int (L0.1 4)] below meth c dC dI cy a z A (kV dC dI cy a z A below #[.ref (a 18), .ref (a 23), .int (L0.1 2), .int (L0.1 3), .int (L0.1 4)] s) 7 (y_X3_spread__a23 k 2) (fun L => [(0, .ref (a 18)), (1, .ref (a 23)), (2, .int (L.1 2)), (3, .int (L.1 3)), (4, .int (L.1 4)), (5, .int (L.1 5))]) 38 (fun L => [])) ∧ (bC p l e (headSpec w_y_X3_spread__a23 ({ frames := 2, cells := 0, slots := 0, locals := 46 })).room s m #[.ref (a 18), .ref (a 23), .int (L0.1 2), .int (L0.1 3), .int (L0.1 4)] below meth c dC dI cy a z A (kV dC dI cy a z A below #[.ref (a 18), .ref (a 23), .int (L0.1 2), .int (L0.1 3), .int (L0.1 4)] s) 7 (y_X3_spread__a23 k 3) (fun L => [(0, .ref (a 18)), (1, .ref (a 23)), (2, .int (L.1 2)), (3, .int (L.1 3)), (4, .int (L.1 4)), (5, .int (L.1 5)), (6, .int (L.1 6))]) 41 (fun L => [])) ∧ (bC p l e (headSpec w_y_X3_spread__a23 ({ frames := 2, cells := 0, slots := 0, locals := 46 })).room s m #[.ref (a 18), .ref (a 23), .int (L0.1 2), .int (L0.1 3), .int (L0.1 4)] below meth c dC dI cy a z A (kV dC dI cy a z A below #[.ref (a 18), .ref (a 23), .int (L0.1 2), .int (L0.1 3), .int (L0.1 4)] s) 7 (y_X3_spread__a23 k 4) (fun L => []) 105 (fun L => [])) ∧ (bC p l e (headSpec w_y_X3_spread__a23 ({ frames := 2, cells := 0, slots := 0, locals := 46 })).room s m #[.ref (a 18), .ref (a 23), .int (L0.1 2), .int (L0.1 3), .int (L0.1 4)] below meth c dC dI cy a z A (kV dC dI cy a z A below #[.ref (a 18), .ref (a 23), .int (L0.1 2), .int (L0.1 3), .int (L0.1 4)] s) 7 (y_X3_spread__a23 k 5) (fun L => [(0, .ref (a 18)), (1, .ref (a 23)), (2, .int (L.1 2)), (3, .int (L.1 3)), (4, .int (L.1 4)), (5, .int (L.1 5)), (6, .int (L.1 6))]) 82 (fun L => [])) ∧ (bC p l e (headSpec w_y_X3_spread__a23 ({ frames := 2, cells := 0, slots := 0, locals := 46 })).room s m #[.ref (a 18), .ref (a 23), .int (L0.1 2), .int (L0.1 3), .int (L0.1 4)] below meth c dC dI cy a z A (kV dC dI cy a z A below #[.ref (a 18), .ref (a 23), .int (L0.1 2), .int (L0.1 3), .int (L0.1 4)] s) 7 (y_X3_spread__a23 k 6) (fun L => [(0, .ref (a 18)), (1, .ref (a 23)), (2, .int (L.1 2)), (3, .int (L.1 3)), (4, .int (L.1 4)), (5, .int (L.1 5)), (6, .int (L.1 6))]) 99 (fun L => [])) := by
    intro k
    induction k with
    | zero => exact ⟨fun L σ r h => (by cases h), fun L σ r h => (by cases h), fun L σ r h => (by cases h), fun L σ r h => (by cases h), fun L σ r h => (by cases h), fun L σ r h => (by cases h), fun L σ r h => (by cases h)⟩
    | succ k ih =>
      refine ⟨?_, ?_, ?_, ?_, ?_, ?_, ?_⟩
      · intro L σ r h H locs ls hP hD hS hl
        rw [y_X3_spread__a23] at h
        refine lv_aload_n hx hb dX3_spread_0 rfl (lv_at hl 0 rfl) ?_
        obtain ⟨r1, hc1, h⟩ := oc_ex h
        refine kc_i (va_runV (As := []) (rest := []) ⟨hx, hb, hml, hown, hts⟩ (c_y_X3_pop l dC dI cy a z k lZ σ r1 hc1 H.size) (cwV 0 hts g_y_X3_spread__a23_X3_pop_V339 rfl rfl rfl hd_y_X3_pop ⟨Nat.le_of_ble_eq_true rfl, Nat.le_of_ble_eq_true rfl⟩) ⟨nb_blind, va_recv hK hP (ci := 3) (q0 := 18) rfl rfl, (kb_pre hK hG hP hD)⟩ rfl rfl hl.1 rfl (lv_room (Nat.le_of_ble_eq_true rfl)) dX3_spread_1 ⟨Nat.le_refl _, Nat.le_refl _⟩) hA hP hD hS (fun H locs hP hD hS => ?_)
        refine lv_istore (lv' := [(5, .int r1.1), (0, .ref (a 18)), (1, .ref (a 23)), (2, .int (L.1 2)), (3, .int (L.1 3)), (4, .int (L.1 4))]) hx hb dX3_spread_4 hl (by decide) rfl (fun ls hl => ?_)
        refine lv_aload_n hx hb dX3_spread_6 rfl (lv_at hl 1 rfl) ?_
        refine hg_18_0 hx hb hts in_y_X3_spread__a23_X3 hown hK hP (hts _ (List.mem_cons_of_mem _ (List.mem_append_left _ (List.mem_append_left _ (List.mem_of_getElem? (i := 4) rfl))))) dX3_spread_7 ?_
        refine lv_iload hx hb dX3_spread_10 (lv_at hl 0 rfl) ?_
        obtain ⟨r2, hc2, h⟩ := oc_ex h
        refine kc_i (va_runV (As := [.int r1.1]) (rest := []) ⟨hx, hb, hml, hown, hts⟩ (c_y_X1_kind l dC dI cy a z k (lI lZ 1 r1.1) r1.2 r2 hc2 H.size) (cwV 1 hts g_y_X3_spread__a23_X1_kind_V396 rfl rfl rfl hd_y_X1_kind ⟨Nat.le_of_ble_eq_true rfl, Nat.le_of_ble_eq_true rfl⟩) ⟨nb_blind, va_recv hK hP (ci := 1) (q0 := 0) rfl rfl, (kb_pre hK hG hP hD)⟩ rfl rfl hl.1 rfl (lv_room (Nat.le_of_ble_eq_true rfl)) dX3_spread_12 ⟨Nat.le_refl _, Nat.le_refl _⟩) hA hP hD hS (fun H locs hP hD hS => ?_)
        refine lv_iconst (v := 5) hx hb dX3_spread_15 (by decide) ?_
        refine lv_icmp_ne (tgt := 32) hx hb dX3_spread_16 (by decide) (fun c3 => ?_) (fun c3 => ?_)
        · rw [if_neg c3] at h
          exact ih.2.1 L r2.2 r h H locs ls hP hD hS (lv_sub hl [1] rfl)
        · rw [if_pos c3] at h
          refine lv_aload_n hx hb dX3_spread_19 rfl (lv_at hl 1 rfl) ?_
          refine hg_18_0 hx hb hts in_y_X3_spread__a23_X3 hown hK hP (hts _ (List.mem_cons_of_mem _ (List.mem_append_left _ (List.mem_append_left _ (List.mem_of_getElem? (i := 4) rfl))))) dX3_spread_20 ?_
          refine lv_iload hx hb dX3_spread_23 (lv_at hl 0 rfl) ?_
          obtain ⟨r4, hc4, h⟩ := oc_ex h
          refine kc_i (va_runV (As := [.int r1.1]) (rest := []) ⟨hx, hb, hml, hown, hts⟩ (c_y_X1_length l dC dI cy a z k (lI lZ 1 r1.1) r2.2 r4 hc4 H.size) (cwV 1 hts g_y_X3_spread__a23_X1_length_V399 rfl rfl rfl hd_y_X1_length ⟨Nat.le_of_ble_eq_true rfl, Nat.le_of_ble_eq_true rfl⟩) ⟨nb_blind, va_recv hK hP (ci := 1) (q0 := 0) rfl rfl, (kb_pre hK hG hP hD)⟩ rfl rfl hl.1 rfl (lv_room (Nat.le_of_ble_eq_true rfl)) dX3_spread_25 ⟨Nat.le_refl _, Nat.le_refl _⟩) hA hP hD hS (fun H locs hP hD hS => ?_)
          refine lv_iload_n hx hb dX3_spread_28 rfl (lv_at hl 4 rfl) ?_
          refine lv_icmp_le (tgt := 38) hx hb dX3_spread_29 (by decide) (fun c5 => ?_) (fun c5 => ?_)
          · rw [if_pos c5] at h
            exact ih.2.2.1 (lI L 5 r1.1) r4.2 r h H locs ls hP hD hS (lv_sub hl [1, 2, 3, 4, 5, 0] rfl)
          · rw [if_neg c5] at h
            exact ih.2.1 L r4.2 r h H locs ls hP hD hS (lv_sub hl [1] rfl)
      · intro L σ r h H locs ls hP hD hS hl
        rw [y_X3_spread__a23] at h
        refine lv_aload_n hx hb dX3_spread_32 rfl (lv_at hl 0 rfl) ?_
        refine lv_iconst (v := 1) hx hb dX3_spread_33 (by decide) ?_
        obtain ⟨r1, hc1, h⟩ := oc_ex h
        refine kc_v (va_runV (As := [.int 1]) (rest := []) ⟨hx, hb, hml, hown, hts⟩ (c_y_X3_fail l dC dI cy a z k (lI lZ 1 1) σ r1 hc1 H.size) (cwV 1 hts g_y_X3_spread__a23_X3_fail_V313 rfl rfl rfl hd_y_X3_fail ⟨Nat.le_of_ble_eq_true rfl, Nat.le_of_ble_eq_true rfl⟩) ⟨nb_blind, va_recv hK hP (ci := 3) (q0 := 18) rfl rfl, (kb_pre hK hG hP hD)⟩ rfl rfl hl.1 rfl (lv_room (Nat.le_of_ble_eq_true rfl)) dX3_spread_34 ⟨Nat.le_refl _, Nat.le_refl _⟩) hA hP hD hS (fun H locs hP hD hS => ?_)
        obtain rfl := Option.some.inj h
        exact W.vret hx hb hr (fun t ht hW => ⟨⟨(), rfl, trivial, by rw [ht]; exact hP, va_K.moved hW.alike hK, hD⟩, hS.F ht⟩) hS.2.2 dX3_spread_37
      · intro L σ r h H locs ls hP hD hS hl
        rw [y_X3_spread__a23] at h
        refine lv_iconst (v := 0) hx hb dX3_spread_38 (by decide) ?_
        refine lv_istore (lv' := [(6, .int 0), (0, .ref (a 18)), (1, .ref (a 23)), (2, .int (L.1 2)), (3, .int (L.1 3)), (4, .int (L.1 4)), (5, .int (L.1 5))]) hx hb dX3_spread_39 hl (by decide) rfl (fun ls hl => ?_)
        exact ih.2.2.2.1 (lI L 6 0) σ r h H locs ls hP hD hS (lv_sub hl [1, 2, 3, 4, 5, 6, 0] rfl)
      · intro L σ r h H locs ls hP hD hS hl
        rw [y_X3_spread__a23] at h
        refine lv_iload hx hb dX3_spread_41 (lv_at hl 6 rfl) ?_
        refine lv_iload_n hx hb dX3_spread_43 rfl (lv_at hl 3 rfl) ?_
        refine lv_icmp_ge (tgt := 105) hx hb dX3_spread_44 (by decide) (fun c1 => ?_) (fun c1 => ?_)
        · rw [if_pos c1] at h
          exact ih.2.2.2.2.1 L σ r h H locs ls hP hD hS (lv_sub hl [] rfl)
        · rw [if_neg c1] at h
          refine lv_aload_n hx hb dX3_spread_47 rfl (lv_at hl 0 rfl) ?_
          refine hg_18_13 hx hb hts in_y_X3_spread__a23_X3 hown hK hP (hts _ (List.mem_cons_of_mem _ (List.mem_append_left _ (List.mem_append_left _ (List.mem_of_getElem? (i := 15) rfl))))) dX3_spread_48 ?_
          refine lv_if_ne (tgt := 105) hx hb dX3_spread_51 (by decide) (fun c2 => ?_) (fun c2 => ?_)
          · rw [if_neg c2] at h
            exact ih.2.2.2.2.1 L σ r h H locs ls hP hD hS (lv_sub hl [] rfl)
          · rw [if_pos c2] at h
            refine lv_iload hx hb dX3_spread_54 (lv_at hl 4 rfl) ?_
            refine lv_if_eq (tgt := 82) hx hb dX3_spread_56 (by decide) (fun c3 => ?_) (fun c3 => ?_)
            · rw [if_pos c3] at h
              exact ih.2.2.2.2.2.1 L σ r h H locs ls hP hD hS (lv_sub hl [0, 1, 2, 3, 4, 5, 6] rfl)
            · rw [if_neg c3] at h
              refine lv_aload_n hx hb dX3_spread_59 rfl (lv_at hl 0 rfl) ?_
              refine lv_iload_n hx hb dX3_spread_60 rfl (lv_at hl 2 rfl) ?_
              refine lv_iload hx hb dX3_spread_61 (lv_at hl 6 rfl) ?_
              refine lv_iadd hx hb dX3_spread_63 ?_
              refine lv_aload_n hx hb dX3_spread_64 rfl (lv_at hl 0 rfl) ?_
              refine hg_18_0 hx hb hts in_y_X3_spread__a23_X3 hown hK hP (hts _ (List.mem_cons_of_mem _ (List.mem_append_left _ (List.mem_append_left _ (List.mem_of_getElem? (i := 4) rfl))))) dX3_spread_65 ?_
              refine lv_iload hx hb dX3_spread_68 (lv_at hl 5 rfl) ?_
              refine lv_iload hx hb dX3_spread_70 (lv_at hl 6 rfl) ?_
              obtain ⟨r4, hc4, h⟩ := oc_ex h
              refine kc_i (va_runV (As := [.int (L.1 5), .int (L.1 6)]) (rest := [.int (((L.1 2)) + ((L.1 6))), .ref (a 18)]) ⟨hx, hb, hml, hown, hts⟩ (c_y_X1_member l dC dI cy a z k (lI (lI lZ 1 ((L.1 5))) 2 ((L.1 6))) σ r4 hc4 H.size) (cwV 2 hts g_y_X3_spread__a23_X1_member_V452 rfl rfl rfl hd_y_X1_member ⟨Nat.le_of_ble_eq_true rfl, Nat.le_of_ble_eq_true rfl⟩) ⟨nb_blind, va_recv hK hP (ci := 1) (q0 := 0) rfl rfl, (kb_pre hK hG hP hD)⟩ rfl rfl hl.1 rfl (lv_room (Nat.le_of_ble_eq_true rfl)) dX3_spread_72 ⟨Nat.le_refl _, Nat.le_refl _⟩) hA hP hD hS (fun H locs hP hD hS => ?_)
              refine lv_iconst (v := 1) hx hb dX3_spread_75 (by decide) ?_
              obtain ⟨r5, hc5, h⟩ := oc_ex h
              refine kc_v (va_runV (As := [.int (((L.1 2)) + ((L.1 6))), .int r4.1, .int 1]) (rest := []) ⟨hx, hb, hml, hown, hts⟩ (c_y_X3_assign l dC dI cy a z k (lI (lI (lI lZ 1 ((((L.1 2)) + ((L.1 6))))) 2 r4.1) 3 1) r4.2 r5 hc5 H.size) (cwV 3 hts g_y_X3_spread__a23_X3_assign_V504 rfl rfl rfl hd_y_X3_assign ⟨Nat.le_of_ble_eq_true rfl, Nat.le_of_ble_eq_true rfl⟩) ⟨nb_blind, va_recv hK hP (ci := 3) (q0 := 18) rfl rfl, (kb_pre hK hG hP hD)⟩ rfl rfl hl.1 rfl (lv_room (Nat.le_of_ble_eq_true rfl)) dX3_spread_76 ⟨Nat.le_refl _, Nat.le_refl _⟩) hA hP hD hS (fun H locs hP hD hS => ?_)
              refine lv_goto (tgt := 99) hx hb dX3_spread_79 (by decide) ?_
              exact ih.2.2.2.2.2.2 L r5.2 r h H locs ls hP hD hS (lv_sub hl [0, 1, 2, 3, 4, 5, 6] rfl)
      · intro L σ r h H locs ls hP hD hS hl
        rw [y_X3_spread__a23] at h
        obtain rfl := Option.some.inj h
        exact W.vret hx hb hr (fun t ht hW => ⟨⟨(), rfl, trivial, by rw [ht]; exact hP, va_K.moved hW.alike hK, hD⟩, hS.F ht⟩) hS.2.2 dX3_spread_105
      · intro L σ r h H locs ls hP hD hS hl
        rw [y_X3_spread__a23] at h
        refine lv_aload_n hx hb dX3_spread_82 rfl (lv_at hl 1 rfl) ?_
        refine lv_iload_n hx hb dX3_spread_83 rfl (lv_at hl 2 rfl) ?_
        refine lv_iload hx hb dX3_spread_84 (lv_at hl 6 rfl) ?_
        refine lv_iadd hx hb dX3_spread_86 ?_
        refine lv_aload_n hx hb dX3_spread_87 rfl (lv_at hl 0 rfl) ?_
        refine hg_18_0 hx hb hts in_y_X3_spread__a23_X3 hown hK hP (hts _ (List.mem_cons_of_mem _ (List.mem_append_left _ (List.mem_append_left _ (List.mem_of_getElem? (i := 4) rfl))))) dX3_spread_88 ?_
        refine lv_iload hx hb dX3_spread_91 (lv_at hl 5 rfl) ?_
        refine lv_iload hx hb dX3_spread_93 (lv_at hl 6 rfl) ?_
        obtain ⟨r1, hc1, h⟩ := oc_ex h
        refine kc_i (va_runV (As := [.int (L.1 5), .int (L.1 6)]) (rest := [.int (((L.1 2)) + ((L.1 6))), .ref (a 23)]) ⟨hx, hb, hml, hown, hts⟩ (c_y_X1_member l dC dI cy a z k (lI (lI lZ 1 ((L.1 5))) 2 ((L.1 6))) σ r1 hc1 H.size) (cwV 2 hts g_y_X3_spread__a23_X1_member_V452 rfl rfl rfl hd_y_X1_member ⟨Nat.le_of_ble_eq_true rfl, Nat.le_of_ble_eq_true rfl⟩) ⟨nb_blind, va_recv hK hP (ci := 1) (q0 := 0) rfl rfl, (kb_pre hK hG hP hD)⟩ rfl rfl hl.1 rfl (lv_room (Nat.le_of_ble_eq_true rfl)) dX3_spread_95 ⟨Nat.le_refl _, Nat.le_refl _⟩) hA hP hD hS (fun H locs hP hD hS => ?_)
        obtain ⟨q2, h⟩ := kb_ite1 h
        refine hs_23 hx hb hK hP hD hS q2 dX3_spread_98 (fun H locs hP hD hS => ?_)
        exact ih.2.2.2.2.2.2 L (uA r1.2 23 ((((L.1 2)) + ((L.1 6)))).toNatClampNeg r1.1) r h H locs ls hP hD hS (lv_sub hl [0, 1, 2, 3, 4, 5, 6] rfl)
      · intro L σ r h H locs ls hP hD hS hl
        rw [y_X3_spread__a23] at h
        refine lv_iinc (v := ((L.1 6)) + 1) (lv' := [(6, .int (((L.1 6)) + 1)), (0, .ref (a 18)), (1, .ref (a 23)), (2, .int (L.1 2)), (3, .int (L.1 3)), (4, .int (L.1 4)), (5, .int (L.1 5))]) hx hb dX3_spread_99 hl (k := 6) rfl rfl (by decide) rfl (fun ls hl => ?_)
        refine lv_goto (tgt := 41) hx hb dX3_spread_102 (by decide) ?_
        exact ih.2.2.2.1 (lI L 6 ((((L.1 6)) + 1))) σ r h H locs ls hP hD hS (lv_sub hl [1, 2, 3, 4, 5, 6, 0] rfl)
  exact (blk k0).1 L0 σ0 r0 h0 s.heap [] ls hP hD hS hl

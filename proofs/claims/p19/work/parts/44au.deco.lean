/-! sift -/
def x_sift : Nat → Nat → (Nat → Int32) → MS → Option (Int32 × MS)
  | 0, _, _, _ => none
  | k + 1, 0, L, σ => x_sift k 1 (upd (upd L 4 ((σ.1 59))) 5 0) σ
  | k + 1, 1, L, σ => if ¬ (((((L 1)) + 1)) < 0 ∨ 1740000 ≤ ((((L 1)) + 1)).toNatClampNeg) then (if ((σ.2.2 28 ((((L 1)) + 1)).toNatClampNeg)) ≤ ((L 5)) then (x_sift k 3 L σ) else (if ¬ (((((((L 1)) + 4)) + ((L 5)))) < 0 ∨ 1740000 ≤ ((((((L 1)) + 4)) + ((L 5)))).toNatClampNeg) then (ob (x_has k 0 (upd (upd (fun _ => 0) 1 ((L 2))) 2 ((σ.2.2 28 ((((((L 1)) + 4)) + ((L 5)))).toNatClampNeg))) σ) (fun r4 => if r4.1 = ((L 3)) then (if ¬ (((((((L 1)) + 4)) + ((L 5)))) < 0 ∨ 1740000 ≤ ((((((L 1)) + 4)) + ((L 5)))).toNatClampNeg) then (ob (x_push k 0 (upd (fun _ => 0) 1 ((r4.2.2.2 28 ((((((L 1)) + 4)) + ((L 5)))).toNatClampNeg))) r4.2) (fun r7 => x_sift k 2 L r7.2)) else none) else (x_sift k 2 L r4.2))) else none)) else none
  | k + 1, 2, L, σ => x_sift k 1 (upd L 5 (((L 5)) + 1)) σ
  | k + 1, 3, L, σ => ob (x_setOf k 0 (upd (fun _ => 0) 1 ((L 4))) σ) (fun r1 => some (r1.1, r1.2))
  | _ + 1, _ + 4, _, _ => none
def o_x_sift : List Cond := [.fieldLink RX12 385 "SetHouseModel" "top" "I", .fieldLink RX12 372 "SetHouseModel" "heap" "[I", .methodLink RX12 759 yX12_has, .instanceMethod yX12_has, .selects RX12 yX12_has yX12_has, .initialized RX12, .methodLink RX12 594 yX12_push, .instanceMethod yX12_push, .selects RX12 yX12_push yX12_push, .methodLink RX12 678 yX12_setOf, .instanceMethod yX12_setOf, .selects RX12 yX12_setOf yX12_setOf]
theorem o_x_sift_good : o_x_sift.all goodWord = true := by decide +kernel
def p_x_sift : List Cond := o_x_sift ++ ((.code yX12_has cX12_has 7 (some .boolean) :: p_x_has) ++ ((.code yX12_push cX12_push 2 none :: p_x_push) ++ ((.code yX12_setOf cX12_setOf 5 (some .int) :: p_x_setOf) ++ [])))
theorem p_x_sift_good : p_x_sift.all goodWord = true := nb_all2 o_x_sift_good (nb_all2 (nb_allc (by decide +kernel) p_x_has_good) (nb_all2 (nb_allc (by decide +kernel) p_x_push_good) (nb_all2 (nb_allc (by decide +kernel) p_x_setOf_good) rfl)))
def w_x_sift : List Cond := .code yX12_sift cX12_sift 6 (some .int) :: (p_x_sift ++ fM)
theorem w_x_sift_good : w_x_sift.all goodWord = true := nb_allc (by decide +kernel) (nb_all2 p_x_sift_good fM_good)
theorem in_x_sift : ∀ w ∈ wsX120, w ∈ w_x_sift := fun _ h => List.mem_cons_of_mem _ (List.mem_append_right _ h)
theorem hd_x_sift : yX12_sift.cls = RX12 ∧ yX12_sift.cls ≠ "java/lang/invoke/MethodHandle" ∧ yX12_sift.cls ≠ "java/lang/invoke/VarHandle" ∧ (parseMethodDescriptor yX12_sift.desc).map (fun d => d.parameters.length) = some 3 := by decide +kernel
theorem gg_x_sift_has : GoodIn w_x_sift w_x_has := goodIn_sub (fun w h => (List.mem_cons.mp h).elim (fun e => (List.mem_cons_of_mem _ (List.mem_append_left _ (List.mem_append_right _ (List.mem_append_left _ (List.mem_cons.mpr (Or.inl e))))))) (fun h => (List.mem_append.mp h).elim (fun h => (List.mem_cons_of_mem _ (List.mem_append_left _ (List.mem_append_right _ (List.mem_append_left _ (List.mem_cons_of_mem _ h)))))) (fun h => List.mem_cons_of_mem _ (List.mem_append_right _ h)))) w_x_has_good
theorem g_x_sift_has_759 : GoodIn w_x_sift (wsV RX12 759 RX12 yX12_has w_x_has) := goodIn_app (nb_g4 (List.mem_cons_of_mem _ (List.mem_append_left _ (List.mem_append_left _ (List.mem_of_getElem? (i := 2) rfl)))) (List.mem_cons_of_mem _ (List.mem_append_left _ (List.mem_append_left _ (List.mem_of_getElem? (i := 3) rfl)))) (List.mem_cons_of_mem _ (List.mem_append_left _ (List.mem_append_left _ (List.mem_of_getElem? (i := 4) rfl)))) (List.mem_cons_of_mem _ (List.mem_append_left _ (List.mem_append_left _ (List.mem_of_getElem? (i := 5) rfl)))) (by decide +kernel)) gg_x_sift_has
theorem gg_x_sift_push : GoodIn w_x_sift w_x_push := goodIn_sub (fun w h => (List.mem_cons.mp h).elim (fun e => (List.mem_cons_of_mem _ (List.mem_append_left _ (List.mem_append_right _ (List.mem_append_right _ (List.mem_append_left _ (List.mem_cons.mpr (Or.inl e)))))))) (fun h => (List.mem_append.mp h).elim (fun h => (List.mem_cons_of_mem _ (List.mem_append_left _ (List.mem_append_right _ (List.mem_append_right _ (List.mem_append_left _ (List.mem_cons_of_mem _ h))))))) (fun h => List.mem_cons_of_mem _ (List.mem_append_right _ h)))) w_x_push_good
theorem g_x_sift_push_594 : GoodIn w_x_sift (wsV RX12 594 RX12 yX12_push w_x_push) := goodIn_app (nb_g4 (List.mem_cons_of_mem _ (List.mem_append_left _ (List.mem_append_left _ (List.mem_of_getElem? (i := 6) rfl)))) (List.mem_cons_of_mem _ (List.mem_append_left _ (List.mem_append_left _ (List.mem_of_getElem? (i := 7) rfl)))) (List.mem_cons_of_mem _ (List.mem_append_left _ (List.mem_append_left _ (List.mem_of_getElem? (i := 8) rfl)))) (List.mem_cons_of_mem _ (List.mem_append_left _ (List.mem_append_left _ (List.mem_of_getElem? (i := 5) rfl)))) (by decide +kernel)) gg_x_sift_push
theorem gg_x_sift_setOf : GoodIn w_x_sift w_x_setOf := goodIn_sub (fun w h => (List.mem_cons.mp h).elim (fun e => (List.mem_cons_of_mem _ (List.mem_append_left _ (List.mem_append_right _ (List.mem_append_right _ (List.mem_append_right _ (List.mem_append_left _ (List.mem_cons.mpr (Or.inl e))))))))) (fun h => (List.mem_append.mp h).elim (fun h => (List.mem_cons_of_mem _ (List.mem_append_left _ (List.mem_append_right _ (List.mem_append_right _ (List.mem_append_right _ (List.mem_append_left _ (List.mem_cons_of_mem _ h)))))))) (fun h => List.mem_cons_of_mem _ (List.mem_append_right _ h)))) w_x_setOf_good
theorem g_x_sift_setOf_678 : GoodIn w_x_sift (wsV RX12 678 RX12 yX12_setOf w_x_setOf) := goodIn_app (nb_g4 (List.mem_cons_of_mem _ (List.mem_append_left _ (List.mem_append_left _ (List.mem_of_getElem? (i := 9) rfl)))) (List.mem_cons_of_mem _ (List.mem_append_left _ (List.mem_append_left _ (List.mem_of_getElem? (i := 10) rfl)))) (List.mem_cons_of_mem _ (List.mem_append_left _ (List.mem_append_left _ (List.mem_of_getElem? (i := 11) rfl)))) (List.mem_cons_of_mem _ (List.mem_append_left _ (List.mem_append_left _ (List.mem_of_getElem? (i := 5) rfl)))) (by decide +kernel)) gg_x_sift_setOf
set_option maxHeartbeats 40000000 in
set_option maxRecDepth 100000 in
theorem c_x_sift (l : Launch) (dC : Nat → ClassId) (dI : Nat → Nat → Nat) (cy : Nat → ClassId) (a : Nat → Nat) (k0 : Nat) (L0 : Nat → Int32) (σ0 : MS) (r0 : Int32 × MS) (h0 : x_sift k0 0 L0 σ0 = some r0) (sz : Nat) : Met l yX12_sift w_x_sift ({ frames := 46, cells := 0, slots := 0, locals := 1271 }) (va_Pc [.ref (a 0), .int (L0 1), .int (L0 2), .int (L0 3)] (nIn (dC, dI) cy sz (vM cy a σ0))) (va_Qi (fun (z : Int32) (_ : Unit) => z = r0.1) (fun _ t => nOut (dC, dI) cy (va_A (vM cy a σ0) sz) (vM cy a r0.2) t) (va_A (vM cy a σ0) sz)) 0 0 (va_A (vM cy a σ0) sz) := by
  refine Met.ofW (cc := cX12_sift) (maxL := 6) (ret := (some .int)) (by decide) rfl ?_
  intro p e s m args below meth c s₁ B hml hv
  obtain ⟨rfl, hsz, hP, hK, hD0, hG⟩ := hv
  have hx := B.exec
  have hb := B.bytes
  have hr := B.returns
  have hts := atoms_spec (ws := w_x_sift) B.pre
  have hown : s.vm.findClass RX12 = some m.cls := findClass_of_methodNamed B.named
  have hlocks := B.notSynchronized
  subst hsz
  have hD := hD0.self (sz := s.heap.size)
  generalize hAe : va_A (vM cy a σ0) s.heap.size = A at hD ⊢
  have hA : ∀ q : Nat, s.heap.size ≤ q → A q := fun q h => by rw [← hAe]; exact Or.inr h
  have hS : va_S A s.heap s.heap [] := va_S.rf
  have hl := lv_entry ([.ref (a 0), .int (L0 1), .int (L0 2), .int (L0 3)]) (n := 6) (Nat.le_of_ble_eq_true rfl)
  rw [lg_entry_eq]
  generalize (lg_sl ([.ref (a 0), .int (L0 1), .int (L0 2), .int (L0 3)]) ++ List.replicate (6 - (lg_sl ([.ref (a 0), .int (L0 1), .int (L0 2), .int (L0 3)])).length) Slot.unset).toArray = ls at hl ⊢
  have hl : lv_has ls 6 [(0, .ref (a 0)), (1, .int (L0 1)), (2, .int (L0 2)), (3, .int (L0 3))] := hl
  have blk : ∀ k : Nat, (bT p l e (headSpec w_x_sift ({ frames := 46, cells := 0, slots := 0, locals := 1271 })).room s m #[.ref (a 0), .int (L0 1), .int (L0 2), .int (L0 3)] below meth c dC dI cy a A (qI dC dI cy a A below #[.ref (a 0), .int (L0 1), .int (L0 2), .int (L0 3)] s) 6 (x_sift k 0) (fun L => [(0, .ref (a 0)), (1, .int (L 1)), (2, .int (L 2)), (3, .int (L 3))]) 0 (fun L => [])) ∧ (bT p l e (headSpec w_x_sift ({ frames := 46, cells := 0, slots := 0, locals := 1271 })).room s m #[.ref (a 0), .int (L0 1), .int (L0 2), .int (L0 3)] below meth c dC dI cy a A (qI dC dI cy a A below #[.ref (a 0), .int (L0 1), .int (L0 2), .int (L0 3)] s) 6 (x_sift k 1) (fun L => [(0, .ref (a 0)), (1, .int (L 1)), (2, .int (L 2)), (3, .int (L 3)), (4, .int (L 4)), (5, .int (L 5))]) 9 (fun L => [])) ∧ (bT p l e (headSpec w_x_sift ({ frames := 46, cells := 0, slots := 0, locals := 1271 })).room s m #[.ref (a 0), .int (L0 1), .int (L0 2), .int (L0 3)] below meth c dC dI cy a A (qI dC dI cy a A below #[.ref (a 0), .int (L0 1), .int (L0 2), .int (L0 3)] s) 6 (x_sift k 2) (fun L => [(0, .ref (a 0)), (1, .int (L 1)), (2, .int (L 2)), (3, .int (L 3)), (4, .int (L 4)), (5, .int (L 5))]) 57 (fun L => [])) ∧ (bT p l e (headSpec w_x_sift ({ frames := 46, cells := 0, slots := 0, locals := 1271 })).room s m #[.ref (a 0), .int (L0 1), .int (L0 2), .int (L0 3)] below meth c dC dI cy a A (qI dC dI cy a A below #[.ref (a 0), .int (L0 1), .int (L0 2), .int (L0 3)] s) 6 (x_sift k 3) (fun L => [(0, .ref (a 0)), (1, .int (L 1)), (2, .int (L 2)), (3, .int (L 3)), (4, .int (L 4)), (5, .int (L 5))]) 63 (fun L => [])) := by
    intro k
    induction k with
    | zero => exact ⟨fun L σ r h => (by cases h), fun L σ r h => (by cases h), fun L σ r h => (by cases h), fun L σ r h => (by cases h)⟩
    | succ k ih =>
      refine ⟨?_, ?_, ?_, ?_⟩
      · intro L σ r h H locs ls hP hD hS hl
        rw [x_sift] at h
        refine lv_aload_n hx hb dX12_sift_0 rfl (lv_at hl 0 rfl) ?_
        refine ng_59 hx hb hts in_x_sift hown hK hP (hts _ (List.mem_cons_of_mem _ (List.mem_append_left _ (List.mem_append_left _ (List.mem_of_getElem? (i := 0) rfl))))) dX12_sift_1 ?_
        refine lv_istore (lv' := [(4, .int (σ.1 59)), (0, .ref (a 0)), (1, .int (L 1)), (2, .int (L 2)), (3, .int (L 3))]) hx hb dX12_sift_4 hl (by decide) rfl (fun ls hl => ?_)
        refine lv_iconst (v := 0) hx hb dX12_sift_6 (by decide) ?_
        refine lv_istore (lv' := [(5, .int 0), (4, .int (σ.1 59)), (0, .ref (a 0)), (1, .int (L 1)), (2, .int (L 2)), (3, .int (L 3))]) hx hb dX12_sift_7 hl (by decide) rfl (fun ls hl => ?_)
        exact ih.2.1 (upd (upd L 4 ((σ.1 59))) 5 0) σ r h H locs ls hP hD hS (lv_sub hl [2, 3, 4, 5, 1, 0] rfl)
      · intro L σ r h H locs ls hP hD hS hl
        rw [x_sift] at h
        refine lv_iload hx hb dX12_sift_9 (lv_at hl 5 rfl) ?_
        refine lv_aload_n hx hb dX12_sift_11 rfl (lv_at hl 0 rfl) ?_
        refine ng_53 hx hb hts in_x_sift hown hK hP (hts _ (List.mem_cons_of_mem _ (List.mem_append_left _ (List.mem_append_left _ (List.mem_of_getElem? (i := 1) rfl))))) dX12_sift_12 ?_
        refine lv_iload_n hx hb dX12_sift_15 rfl (lv_at hl 1 rfl) ?_
        refine lv_iconst (v := 1) hx hb dX12_sift_16 (by decide) ?_
        refine lv_iadd hx hb dX12_sift_17 ?_
        obtain ⟨q1, h⟩ := nb_ite1 h
        refine nl_28 hx hb hK hP q1 dX12_sift_18 ?_
        refine lv_icmp_ge (tgt := 63) hx hb dX12_sift_19 (by decide) (fun c2 => ?_) (fun c2 => ?_)
        · rw [if_pos c2] at h
          exact ih.2.2.2 L σ r h H locs ls hP hD hS (lv_sub hl [0, 1, 2, 3, 4, 5] rfl)
        · rw [if_neg c2] at h
          refine lv_aload_n hx hb dX12_sift_22 rfl (lv_at hl 0 rfl) ?_
          refine lv_iload_n hx hb dX12_sift_23 rfl (lv_at hl 2 rfl) ?_
          refine lv_aload_n hx hb dX12_sift_24 rfl (lv_at hl 0 rfl) ?_
          refine ng_53 hx hb hts in_x_sift hown hK hP (hts _ (List.mem_cons_of_mem _ (List.mem_append_left _ (List.mem_append_left _ (List.mem_of_getElem? (i := 1) rfl))))) dX12_sift_25 ?_
          refine lv_iload_n hx hb dX12_sift_28 rfl (lv_at hl 1 rfl) ?_
          refine lv_iconst (v := 4) hx hb dX12_sift_29 (by decide) ?_
          refine lv_iadd hx hb dX12_sift_30 ?_
          refine lv_iload hx hb dX12_sift_31 (lv_at hl 5 rfl) ?_
          refine lv_iadd hx hb dX12_sift_33 ?_
          obtain ⟨q3, h⟩ := nb_ite1 h
          refine nl_28 hx hb hK hP q3 dX12_sift_34 ?_
          obtain ⟨r4, hc4, h⟩ := ob_ex h
          refine nc_Vi (As := [.int (L 2), .int (σ.2.2 28 ((((((L 1)) + 4)) + ((L 5)))).toNatClampNeg)]) (rest := []) ⟨hx, hb, hml, hown, hts⟩ (c_x_has l dC dI cy a k (upd (upd (fun _ => 0) 1 ((L 2))) 2 ((σ.2.2 28 ((((((L 1)) + 4)) + ((L 5)))).toNatClampNeg))) σ r4 hc4 H.size) (cwV 2 hts g_x_sift_has_759 rfl rfl rfl hd_x_has ⟨Nat.le_of_ble_eq_true rfl, Nat.le_of_ble_eq_true rfl⟩) hK hG hA hP hD hS rfl hl.1 rfl (Nat.le_of_ble_eq_true rfl) dX12_sift_35 ⟨Nat.le_refl _, Nat.le_refl _⟩ (fun H locs hP hD hS => ?_)
          refine lv_iload_n hx hb dX12_sift_38 rfl (lv_at hl 3 rfl) ?_
          refine lv_icmp_ne (tgt := 57) hx hb dX12_sift_39 (by decide) (fun c5 => ?_) (fun c5 => ?_)
          · rw [if_neg c5] at h
            exact ih.2.2.1 L r4.2 r h H locs ls hP hD hS (lv_sub hl [0, 1, 2, 3, 4, 5] rfl)
          · rw [if_pos c5] at h
            refine lv_aload_n hx hb dX12_sift_42 rfl (lv_at hl 0 rfl) ?_
            refine lv_aload_n hx hb dX12_sift_43 rfl (lv_at hl 0 rfl) ?_
            refine ng_53 hx hb hts in_x_sift hown hK hP (hts _ (List.mem_cons_of_mem _ (List.mem_append_left _ (List.mem_append_left _ (List.mem_of_getElem? (i := 1) rfl))))) dX12_sift_44 ?_
            refine lv_iload_n hx hb dX12_sift_47 rfl (lv_at hl 1 rfl) ?_
            refine lv_iconst (v := 4) hx hb dX12_sift_48 (by decide) ?_
            refine lv_iadd hx hb dX12_sift_49 ?_
            refine lv_iload hx hb dX12_sift_50 (lv_at hl 5 rfl) ?_
            refine lv_iadd hx hb dX12_sift_52 ?_
            obtain ⟨q6, h⟩ := nb_ite1 h
            refine nl_28 hx hb hK hP q6 dX12_sift_53 ?_
            obtain ⟨r7, hc7, h⟩ := ob_ex h
            refine nc_Vv (As := [.int (r4.2.2.2 28 ((((((L 1)) + 4)) + ((L 5)))).toNatClampNeg)]) (rest := []) ⟨hx, hb, hml, hown, hts⟩ (c_x_push l dC dI cy a k (upd (fun _ => 0) 1 ((r4.2.2.2 28 ((((((L 1)) + 4)) + ((L 5)))).toNatClampNeg))) r4.2 r7 hc7 H.size) (cwV 1 hts g_x_sift_push_594 rfl rfl rfl hd_x_push ⟨Nat.le_of_ble_eq_true rfl, Nat.le_of_ble_eq_true rfl⟩) hK hG hA hP hD hS rfl hl.1 rfl (Nat.le_of_ble_eq_true rfl) dX12_sift_54 ⟨Nat.le_refl _, Nat.le_refl _⟩ (fun H locs hP hD hS => ?_)
            exact ih.2.2.1 L r7.2 r h H locs ls hP hD hS (lv_sub hl [0, 1, 2, 3, 4, 5] rfl)
      · intro L σ r h H locs ls hP hD hS hl
        rw [x_sift] at h
        refine lv_iinc (v := ((L 5)) + 1) (lv' := [(5, .int (((L 5)) + 1)), (0, .ref (a 0)), (1, .int (L 1)), (2, .int (L 2)), (3, .int (L 3)), (4, .int (L 4))]) hx hb dX12_sift_57 hl (k := 5) rfl rfl (by decide) rfl (fun ls hl => ?_)
        refine lv_goto (tgt := 9) hx hb dX12_sift_60 (by decide) ?_
        exact ih.2.1 (upd L 5 (((L 5)) + 1)) σ r h H locs ls hP hD hS (lv_sub hl [1, 2, 3, 4, 5, 0] rfl)
      · intro L σ r h H locs ls hP hD hS hl
        rw [x_sift] at h
        refine lv_aload_n hx hb dX12_sift_63 rfl (lv_at hl 0 rfl) ?_
        refine lv_iload hx hb dX12_sift_64 (lv_at hl 4 rfl) ?_
        obtain ⟨r1, hc1, h⟩ := ob_ex h
        refine nc_Vi (As := [.int (L 4)]) (rest := []) ⟨hx, hb, hml, hown, hts⟩ (c_x_setOf l dC dI cy a k (upd (fun _ => 0) 1 ((L 4))) σ r1 hc1 H.size) (cwV 1 hts g_x_sift_setOf_678 rfl rfl rfl hd_x_setOf ⟨Nat.le_of_ble_eq_true rfl, Nat.le_of_ble_eq_true rfl⟩) hK hG hA hP hD hS rfl hl.1 rfl (Nat.le_of_ble_eq_true rfl) dX12_sift_66 ⟨Nat.le_refl _, Nat.le_refl _⟩ (fun H locs hP hD hS => ?_)
        cases h
        exact W.iret (v := r1.1) hx hb hr (fun t ht hW => ⟨⟨r1.1, (), rfl, rfl, by rw [ht]; exact hP, va_K.moved hW.alike hK, hD⟩, hS.F ht⟩) hS.2.2 dX12_sift_69
  exact (blk k0).1 L0 σ0 r0 h0 s.heap [] ls hP hD hS hl
/-! operate -/
def x_operate : Nat → Nat → (Nat → Int32) → MS → Option (Int32 × MS)
  | 0, _, _, _ => none
  | k + 1, 0, L, σ => ob (x_kind k 0 (upd (fun _ => 0) 1 ((L 2))) σ) (fun r1 => ob (x_kind k 0 (upd (fun _ => 0) 1 ((L 3))) r1.2) (fun r2 => if r1.1 = 2 then (if r2.1 = 2 then (x_operate k 2 (upd (upd (upd L 4 r1.1) 5 r2.1) 100 1) r2.2) else (x_operate k 1 (upd (upd L 4 r1.1) 5 r2.1) r2.2)) else (x_operate k 1 (upd (upd L 4 r1.1) 5 r2.1) r2.2)))
  | k + 1, 1, L, σ => x_operate k 2 (upd L 100 0) σ
  | k + 1, 2, L, σ => if ((L 1)) = (2 : Int32) then (x_operate k 3 (upd L 6 ((L 100))) σ) else (if ((L 1)) = (3 : Int32) then (x_operate k 4 (upd L 6 ((L 100))) σ) else (if ((L 1)) = (4 : Int32) then (x_operate k 8 (upd L 6 ((L 100))) σ) else (if ((L 1)) = (5 : Int32) then (x_operate k 14 (upd L 6 ((L 100))) σ) else (if ((L 1)) = (17 : Int32) then (x_operate k 17 (upd L 6 ((L 100))) σ) else (if ((L 1)) = (18 : Int32) then (x_operate k 20 (upd L 6 ((L 100))) σ) else (if ((L 1)) = (114 : Int32) then (x_operate k 29 (upd L 6 ((L 100))) σ) else (if ((L 1)) = (115 : Int32) then (x_operate k 30 (upd L 6 ((L 100))) σ) else (if ((L 1)) = (116 : Int32) then (x_operate k 33 (upd L 6 ((L 100))) σ) else (if ((L 1)) = (135 : Int32) then (x_operate k 23 (upd L 6 ((L 100))) σ) else (if ((L 1)) = (136 : Int32) then (x_operate k 26 (upd L 6 ((L 100))) σ) else (x_operate k 36 (upd L 6 ((L 100))) σ)))))))))))
  | k + 1, 3, L, σ => ob (x_plus k 0 (upd (upd (fun _ => 0) 1 ((L 2))) 2 ((L 3))) σ) (fun r1 => some (r1.1, r1.2))
  | k + 1, 4, L, σ => if ((L 6)) = 0 then (x_operate k 5 L σ) else (ob (x_add k 0 (upd (upd (upd (fun _ => 0) 1 ((L 2))) 2 ((L 3))) 3 ((-1))) σ) (fun r2 => some (r2.1, r2.2)))
  | k + 1, 5, L, σ => if ((L 4)) = 6 then (if ((L 5)) = 6 then (ob (x_sift k 0 (upd (upd (upd (fun _ => 0) 1 ((L 2))) 2 ((L 3))) 3 0) σ) (fun r3 => x_operate k 7 (upd L 100 r3.1) r3.2)) else (x_operate k 6 L σ)) else (x_operate k 6 L σ)
  | k + 1, 6, L, σ => ob (x_wrongKind k 0 (fun _ => 0) σ) (fun r1 => x_operate k 7 (upd L 100 r1.1) r1.2)
  | k + 1, 7, L, σ => some ((L 100), σ)
  | k + 1, 8, L, σ => if ((L 6)) = 0 then (x_operate k 9 L σ) else (ob (x_multiply k 0 (upd (upd (fun _ => 0) 1 ((L 2))) 2 ((L 3))) (fun _ => 0) σ) (fun r2 => some (r2.1, r2.2)))
  | k + 1, 9, L, σ => if ((L 4)) = 6 then (if ((L 5)) = 6 then (ob (x_sift k 0 (upd (upd (upd (fun _ => 0) 1 ((L 2))) 2 ((L 3))) 3 1) σ) (fun r3 => some (r3.1, r3.2))) else (x_operate k 10 L σ)) else (x_operate k 10 L σ)
  | k + 1, 10, L, σ => if ((L 4)) = 4 then (x_operate k 11 L σ) else (if ((L 4)) = 5 then (x_operate k 11 L σ) else (x_operate k 12 L σ))
  | k + 1, 11, L, σ => if ((L 5)) = 2 then (ob (x_repeat k 0 (upd (upd (fun _ => 0) 1 ((L 2))) 2 ((L 3))) σ) (fun r2 => x_operate k 13 (upd L 100 r2.1) r2.2)) else (x_operate k 12 L σ)
  | k + 1, 12, L, σ => ob (x_wrongKind k 0 (fun _ => 0) σ) (fun r1 => x_operate k 13 (upd L 100 r1.1) r1.2)
  | k + 1, 13, L, σ => some ((L 100), σ)
  | k + 1, 14, L, σ => if ((L 6)) = 0 then (x_operate k 15 L σ) else (ob (x_raise k 0 (upd (upd (fun _ => 0) 1 ((L 2))) 2 ((L 3))) σ) (fun r2 => x_operate k 16 (upd L 100 r2.1) r2.2))
  | k + 1, 15, L, σ => ob (x_wrongKind k 0 (fun _ => 0) σ) (fun r1 => x_operate k 16 (upd L 100 r1.1) r1.2)
  | k + 1, 16, L, σ => some ((L 100), σ)
  | k + 1, 17, L, σ => ob (x_compare k 0 (upd (upd (fun _ => 0) 1 ((L 2))) 2 ((L 3))) σ) (fun r1 => if r1.1 = 0 then (x_operate k 19 (upd L 100 1) r1.2) else (x_operate k 18 L r1.2))
  | k + 1, 18, L, σ => x_operate k 19 (upd L 100 0) σ
  | k + 1, 19, L, σ => ob (x_truth k 0 (upd (fun _ => 0) 1 ((L 100))) σ) (fun r1 => some (r1.1, r1.2))
  | k + 1, 20, L, σ => ob (x_compare k 0 (upd (upd (fun _ => 0) 1 ((L 2))) 2 ((L 3))) σ) (fun r1 => if r1.1 = 0 then (x_operate k 21 L r1.2) else (x_operate k 22 (upd L 100 1) r1.2))
  | k + 1, 21, L, σ => x_operate k 22 (upd L 100 0) σ
  | k + 1, 22, L, σ => ob (x_truth k 0 (upd (fun _ => 0) 1 ((L 100))) σ) (fun r1 => some (r1.1, r1.2))
  | k + 1, 23, L, σ => if ((L 6)) = 0 then (x_operate k 24 L σ) else (ob (x_divide k 0 (upd (upd (upd (fun _ => 0) 1 ((L 2))) 2 ((L 3))) 3 0) σ) (fun r2 => x_operate k 25 (upd L 100 r2.1) r2.2))
  | k + 1, 24, L, σ => ob (x_wrongKind k 0 (fun _ => 0) σ) (fun r1 => x_operate k 25 (upd L 100 r1.1) r1.2)
  | k + 1, 25, L, σ => some ((L 100), σ)
  | k + 1, 26, L, σ => if ((L 6)) = 0 then (x_operate k 27 L σ) else (ob (x_divide k 0 (upd (upd (upd (fun _ => 0) 1 ((L 2))) 2 ((L 3))) 3 1) σ) (fun r2 => x_operate k 28 (upd L 100 r2.1) r2.2))
  | k + 1, 27, L, σ => ob (x_wrongKind k 0 (fun _ => 0) σ) (fun r1 => x_operate k 28 (upd L 100 r1.1) r1.2)
  | k + 1, 28, L, σ => some ((L 100), σ)
  | k + 1, 29, L, σ => ob (x_isIn k 0 (upd (upd (fun _ => 0) 1 ((L 2))) 2 ((L 3))) σ) (fun r1 => some (r1.1, r1.2))
  | k + 1, 30, L, σ => ob (x_isIn k 0 (upd (upd (fun _ => 0) 1 ((L 2))) 2 ((L 3))) σ) (fun r1 => if r1.1 = 1 then (x_operate k 32 (upd (upd L 7 r1.1) 100 1) r1.2) else (x_operate k 31 (upd L 7 r1.1) r1.2))
  | k + 1, 31, L, σ => x_operate k 32 (upd L 100 0) σ
  | k + 1, 32, L, σ => ob (x_truth k 0 (upd (fun _ => 0) 1 ((L 100))) σ) (fun r1 => some (r1.1, r1.2))
  | k + 1, 33, L, σ => if ((L 4)) = 6 then (if ((L 5)) = 6 then (ob (x_isSubset k 0 (upd (upd (fun _ => 0) 1 ((L 2))) 2 ((L 3))) σ) (fun r3 => ob (x_truth k 0 (upd (fun _ => 0) 1 r3.1) r3.2) (fun r4 => x_operate k 35 (upd L 100 r4.1) r4.2))) else (x_operate k 34 L σ)) else (x_operate k 34 L σ)
  | k + 1, 34, L, σ => ob (x_wrongKind k 0 (fun _ => 0) σ) (fun r1 => x_operate k 35 (upd L 100 r1.1) r1.2)
  | k + 1, 35, L, σ => some ((L 100), σ)
  | k + 1, 36, L, σ => if ((L 6)) = 0 then (if ((L 4)) = 4 then (if ((L 5)) = 4 then (x_operate k 38 L σ) else (x_operate k 37 L σ)) else (x_operate k 37 L σ)) else (x_operate k 38 L σ)
  | k + 1, 37, L, σ => ob (x_wrongKind k 0 (fun _ => 0) σ) (fun r1 => some (r1.1, r1.2))
  | k + 1, 38, L, σ => ob (x_compare k 0 (upd (upd (fun _ => 0) 1 ((L 2))) 2 ((L 3))) σ) (fun r1 => if ((L 1)) = 19 then (if 0 ≤ r1.1 then (x_operate k 39 (upd L 7 r1.1) r1.2) else (x_operate k 46 (upd (upd L 7 r1.1) 100 1) r1.2)) else (x_operate k 40 (upd L 7 r1.1) r1.2))
  | k + 1, 39, L, σ => x_operate k 46 (upd L 100 0) σ
  | k + 1, 40, L, σ => if ((L 1)) = 20 then (if 0 < ((L 7)) then (x_operate k 41 L σ) else (x_operate k 46 (upd L 100 1) σ)) else (x_operate k 42 L σ)
  | k + 1, 41, L, σ => x_operate k 46 (upd L 100 0) σ
  | k + 1, 42, L, σ => if ((L 1)) = 21 then (if ((L 7)) ≤ 0 then (x_operate k 43 L σ) else (x_operate k 46 (upd L 100 1) σ)) else (x_operate k 44 L σ)
  | k + 1, 43, L, σ => x_operate k 46 (upd L 100 0) σ
  | k + 1, 44, L, σ => if ((L 7)) < 0 then (x_operate k 45 L σ) else (x_operate k 46 (upd L 100 1) σ)
  | k + 1, 45, L, σ => x_operate k 46 (upd L 100 0) σ
  | k + 1, 46, L, σ => ob (x_truth k 0 (upd (fun _ => 0) 1 ((L 100))) σ) (fun r1 => some (r1.1, r1.2))
  | _ + 1, _ + 47, _, _ => none
def o_x_operate : List Cond := [.methodLink RX12 545 yX12_kind, .instanceMethod yX12_kind, .selects RX12 yX12_kind yX12_kind, .initialized RX12, .methodLink RX12 725 yX12_plus, .instanceMethod yX12_plus, .selects RX12 yX12_plus yX12_plus, .methodLink RX12 728 yX12_add, .instanceMethod yX12_add, .selects RX12 yX12_add yX12_add, .methodLink RX12 731 yX12_sift, .instanceMethod yX12_sift, .selects RX12 yX12_sift yX12_sift, .methodLink RX12 666 yX12_wrongKind, .instanceMethod yX12_wrongKind, .selects RX12 yX12_wrongKind yX12_wrongKind, .methodLink RX12 735 yX12_multiply, .instanceMethod yX12_multiply, .selects RX12 yX12_multiply yX12_multiply, .methodLink RX12 738 yX12_repeat, .instanceMethod yX12_repeat, .selects RX12 yX12_repeat yX12_repeat, .methodLink RX12 741 yX12_raise, .instanceMethod yX12_raise, .selects RX12 yX12_raise yX12_raise, .methodLink RX12 451 yX12_compare, .instanceMethod yX12_compare, .selects RX12 yX12_compare yX12_compare, .methodLink RX12 646 yX12_truth, .instanceMethod yX12_truth, .selects RX12 yX12_truth yX12_truth, .methodLink RX12 744 yX12_divide, .instanceMethod yX12_divide, .selects RX12 yX12_divide yX12_divide, .methodLink RX12 747 yX12_isIn, .instanceMethod yX12_isIn, .selects RX12 yX12_isIn yX12_isIn, .methodLink RX12 750 yX12_isSubset, .instanceMethod yX12_isSubset, .selects RX12 yX12_isSubset yX12_isSubset]
theorem o_x_operate_good : o_x_operate.all goodWord = true := by decide +kernel
def p_x_operate : List Cond := o_x_operate ++ ((.code yX12_kind cX12_kind 2 (some .int) :: p_x_kind) ++ ((.code yX12_plus cX12_plus 6 (some .int) :: p_x_plus) ++ ((.code yX12_add cX12_add 12 (some .int) :: p_x_add) ++ ((.code yX12_sift cX12_sift 6 (some .int) :: p_x_sift) ++ ((.code yX12_wrongKind cX12_wrongKind 1 (some .int) :: p_x_wrongKind) ++ ((.code yX12_multiply cX12_multiply 7 (some .int) :: p_x_multiply) ++ ((.code yX12_repeat cX12_repeat 7 (some .int) :: p_x_repeat) ++ ((.code yX12_raise cX12_raise 8 (some .int) :: p_x_raise) ++ ((.code yX12_compare cX12_compare 9 (some .int) :: p_x_GC) ++ ((.code yX12_truth cX12_truth 2 (some .int) :: p_x_truth) ++ ((.code yX12_divide cX12_divide 9 (some .int) :: p_x_divide) ++ ((.code yX12_isIn cX12_isIn 8 (some .int) :: p_x_isIn) ++ ((.code yX12_isSubset cX12_isSubset 5 (some .boolean) :: p_x_isSubset) ++ [])))))))))))))
theorem p_x_operate_good : p_x_operate.all goodWord = true := nb_all2 o_x_operate_good (nb_all2 (nb_allc (by decide +kernel) p_x_kind_good) (nb_all2 (nb_allc (by decide +kernel) p_x_plus_good) (nb_all2 (nb_allc (by decide +kernel) p_x_add_good) (nb_all2 (nb_allc (by decide +kernel) p_x_sift_good) (nb_all2 (nb_allc (by decide +kernel) p_x_wrongKind_good) (nb_all2 (nb_allc (by decide +kernel) p_x_multiply_good) (nb_all2 (nb_allc (by decide +kernel) p_x_repeat_good) (nb_all2 (nb_allc (by decide +kernel) p_x_raise_good) (nb_all2 (nb_allc (by decide +kernel) p_x_GC_good) (nb_all2 (nb_allc (by decide +kernel) p_x_truth_good) (nb_all2 (nb_allc (by decide +kernel) p_x_divide_good) (nb_all2 (nb_allc (by decide +kernel) p_x_isIn_good) (nb_all2 (nb_allc (by decide +kernel) p_x_isSubset_good) rfl)))))))))))))
def w_x_operate : List Cond := .code yX12_operate cX12_operate 8 (some .int) :: (p_x_operate ++ fM)
theorem w_x_operate_good : w_x_operate.all goodWord = true := nb_allc (by decide +kernel) (nb_all2 p_x_operate_good fM_good)
theorem in_x_operate : ∀ w ∈ wsX120, w ∈ w_x_operate := fun _ h => List.mem_cons_of_mem _ (List.mem_append_right _ h)
theorem hd_x_operate : yX12_operate.cls = RX12 ∧ yX12_operate.cls ≠ "java/lang/invoke/MethodHandle" ∧ yX12_operate.cls ≠ "java/lang/invoke/VarHandle" ∧ (parseMethodDescriptor yX12_operate.desc).map (fun d => d.parameters.length) = some 3 := by decide +kernel
theorem gg_x_operate_add : GoodIn w_x_operate w_x_add := goodIn_sub (fun w h => (List.mem_cons.mp h).elim (fun e => (List.mem_cons_of_mem _ (List.mem_append_left _ (List.mem_append_right _ (List.mem_append_right _ (List.mem_append_right _ (List.mem_append_left _ (List.mem_cons.mpr (Or.inl e))))))))) (fun h => (List.mem_append.mp h).elim (fun h => (List.mem_cons_of_mem _ (List.mem_append_left _ (List.mem_append_right _ (List.mem_append_right _ (List.mem_append_right _ (List.mem_append_left _ (List.mem_cons_of_mem _ h)))))))) (fun h => List.mem_cons_of_mem _ (List.mem_append_right _ h)))) w_x_add_good
theorem g_x_operate_add_728 : GoodIn w_x_operate (wsV RX12 728 RX12 yX12_add w_x_add) := goodIn_app (nb_g4 (List.mem_cons_of_mem _ (List.mem_append_left _ (List.mem_append_left _ (List.mem_of_getElem? (i := 7) rfl)))) (List.mem_cons_of_mem _ (List.mem_append_left _ (List.mem_append_left _ (List.mem_of_getElem? (i := 8) rfl)))) (List.mem_cons_of_mem _ (List.mem_append_left _ (List.mem_append_left _ (List.mem_of_getElem? (i := 9) rfl)))) (List.mem_cons_of_mem _ (List.mem_append_left _ (List.mem_append_left _ (List.mem_of_getElem? (i := 3) rfl)))) (by decide +kernel)) gg_x_operate_add
theorem gg_x_operate_compare : GoodIn w_x_operate w_x_compare := goodIn_sub (fun w h => (List.mem_cons.mp h).elim (fun e => (List.mem_cons_of_mem _ (List.mem_append_left _ (List.mem_append_right _ (List.mem_append_right _ (List.mem_append_right _ (List.mem_append_right _ (List.mem_append_right _ (List.mem_append_right _ (List.mem_append_right _ (List.mem_append_right _ (List.mem_append_right _ (List.mem_append_left _ (List.mem_cons.mpr (Or.inl e))))))))))))))) (fun h => (List.mem_append.mp h).elim (fun h => (List.mem_cons_of_mem _ (List.mem_append_left _ (List.mem_append_right _ (List.mem_append_right _ (List.mem_append_right _ (List.mem_append_right _ (List.mem_append_right _ (List.mem_append_right _ (List.mem_append_right _ (List.mem_append_right _ (List.mem_append_right _ (List.mem_append_left _ (List.mem_cons_of_mem _ h)))))))))))))) (fun h => List.mem_cons_of_mem _ (List.mem_append_right _ h)))) w_x_compare_good
theorem g_x_operate_compare_451 : GoodIn w_x_operate (wsV RX12 451 RX12 yX12_compare w_x_compare) := goodIn_app (nb_g4 (List.mem_cons_of_mem _ (List.mem_append_left _ (List.mem_append_left _ (List.mem_of_getElem? (i := 25) rfl)))) (List.mem_cons_of_mem _ (List.mem_append_left _ (List.mem_append_left _ (List.mem_of_getElem? (i := 26) rfl)))) (List.mem_cons_of_mem _ (List.mem_append_left _ (List.mem_append_left _ (List.mem_of_getElem? (i := 27) rfl)))) (List.mem_cons_of_mem _ (List.mem_append_left _ (List.mem_append_left _ (List.mem_of_getElem? (i := 3) rfl)))) (by decide +kernel)) gg_x_operate_compare
theorem gg_x_operate_divide : GoodIn w_x_operate w_x_divide := goodIn_sub (fun w h => (List.mem_cons.mp h).elim (fun e => (List.mem_cons_of_mem _ (List.mem_append_left _ (List.mem_append_right _ (List.mem_append_right _ (List.mem_append_right _ (List.mem_append_right _ (List.mem_append_right _ (List.mem_append_right _ (List.mem_append_right _ (List.mem_append_right _ (List.mem_append_right _ (List.mem_append_right _ (List.mem_append_right _ (List.mem_append_left _ (List.mem_cons.mpr (Or.inl e))))))))))))))))) (fun h => (List.mem_append.mp h).elim (fun h => (List.mem_cons_of_mem _ (List.mem_append_left _ (List.mem_append_right _ (List.mem_append_right _ (List.mem_append_right _ (List.mem_append_right _ (List.mem_append_right _ (List.mem_append_right _ (List.mem_append_right _ (List.mem_append_right _ (List.mem_append_right _ (List.mem_append_right _ (List.mem_append_right _ (List.mem_append_left _ (List.mem_cons_of_mem _ h)))))))))))))))) (fun h => List.mem_cons_of_mem _ (List.mem_append_right _ h)))) w_x_divide_good
theorem g_x_operate_divide_744 : GoodIn w_x_operate (wsV RX12 744 RX12 yX12_divide w_x_divide) := goodIn_app (nb_g4 (List.mem_cons_of_mem _ (List.mem_append_left _ (List.mem_append_left _ (List.mem_of_getElem? (i := 31) rfl)))) (List.mem_cons_of_mem _ (List.mem_append_left _ (List.mem_append_left _ (List.mem_of_getElem? (i := 32) rfl)))) (List.mem_cons_of_mem _ (List.mem_append_left _ (List.mem_append_left _ (List.mem_of_getElem? (i := 33) rfl)))) (List.mem_cons_of_mem _ (List.mem_append_left _ (List.mem_append_left _ (List.mem_of_getElem? (i := 3) rfl)))) (by decide +kernel)) gg_x_operate_divide
theorem gg_x_operate_isIn : GoodIn w_x_operate w_x_isIn := goodIn_sub (fun w h => (List.mem_cons.mp h).elim (fun e => (List.mem_cons_of_mem _ (List.mem_append_left _ (List.mem_append_right _ (List.mem_append_right _ (List.mem_append_right _ (List.mem_append_right _ (List.mem_append_right _ (List.mem_append_right _ (List.mem_append_right _ (List.mem_append_right _ (List.mem_append_right _ (List.mem_append_right _ (List.mem_append_right _ (List.mem_append_right _ (List.mem_append_left _ (List.mem_cons.mpr (Or.inl e)))))))))))))))))) (fun h => (List.mem_append.mp h).elim (fun h => (List.mem_cons_of_mem _ (List.mem_append_left _ (List.mem_append_right _ (List.mem_append_right _ (List.mem_append_right _ (List.mem_append_right _ (List.mem_append_right _ (List.mem_append_right _ (List.mem_append_right _ (List.mem_append_right _ (List.mem_append_right _ (List.mem_append_right _ (List.mem_append_right _ (List.mem_append_right _ (List.mem_append_left _ (List.mem_cons_of_mem _ h))))))))))))))))) (fun h => List.mem_cons_of_mem _ (List.mem_append_right _ h)))) w_x_isIn_good
theorem g_x_operate_isIn_747 : GoodIn w_x_operate (wsV RX12 747 RX12 yX12_isIn w_x_isIn) := goodIn_app (nb_g4 (List.mem_cons_of_mem _ (List.mem_append_left _ (List.mem_append_left _ (List.mem_of_getElem? (i := 34) rfl)))) (List.mem_cons_of_mem _ (List.mem_append_left _ (List.mem_append_left _ (List.mem_of_getElem? (i := 35) rfl)))) (List.mem_cons_of_mem _ (List.mem_append_left _ (List.mem_append_left _ (List.mem_of_getElem? (i := 36) rfl)))) (List.mem_cons_of_mem _ (List.mem_append_left _ (List.mem_append_left _ (List.mem_of_getElem? (i := 3) rfl)))) (by decide +kernel)) gg_x_operate_isIn
theorem gg_x_operate_isSubset : GoodIn w_x_operate w_x_isSubset := goodIn_sub (fun w h => (List.mem_cons.mp h).elim (fun e => (List.mem_cons_of_mem _ (List.mem_append_left _ (List.mem_append_right _ (List.mem_append_right _ (List.mem_append_right _ (List.mem_append_right _ (List.mem_append_right _ (List.mem_append_right _ (List.mem_append_right _ (List.mem_append_right _ (List.mem_append_right _ (List.mem_append_right _ (List.mem_append_right _ (List.mem_append_right _ (List.mem_append_right _ (List.mem_append_left _ (List.mem_cons.mpr (Or.inl e))))))))))))))))))) (fun h => (List.mem_append.mp h).elim (fun h => (List.mem_cons_of_mem _ (List.mem_append_left _ (List.mem_append_right _ (List.mem_append_right _ (List.mem_append_right _ (List.mem_append_right _ (List.mem_append_right _ (List.mem_append_right _ (List.mem_append_right _ (List.mem_append_right _ (List.mem_append_right _ (List.mem_append_right _ (List.mem_append_right _ (List.mem_append_right _ (List.mem_append_right _ (List.mem_append_left _ (List.mem_cons_of_mem _ h)))))))))))))))))) (fun h => List.mem_cons_of_mem _ (List.mem_append_right _ h)))) w_x_isSubset_good
theorem g_x_operate_isSubset_750 : GoodIn w_x_operate (wsV RX12 750 RX12 yX12_isSubset w_x_isSubset) := goodIn_app (nb_g4 (List.mem_cons_of_mem _ (List.mem_append_left _ (List.mem_append_left _ (List.mem_of_getElem? (i := 37) rfl)))) (List.mem_cons_of_mem _ (List.mem_append_left _ (List.mem_append_left _ (List.mem_of_getElem? (i := 38) rfl)))) (List.mem_cons_of_mem _ (List.mem_append_left _ (List.mem_append_left _ (List.mem_of_getElem? (i := 39) rfl)))) (List.mem_cons_of_mem _ (List.mem_append_left _ (List.mem_append_left _ (List.mem_of_getElem? (i := 3) rfl)))) (by decide +kernel)) gg_x_operate_isSubset
theorem gg_x_operate_kind : GoodIn w_x_operate w_x_kind := goodIn_sub (fun w h => (List.mem_cons.mp h).elim (fun e => (List.mem_cons_of_mem _ (List.mem_append_left _ (List.mem_append_right _ (List.mem_append_left _ (List.mem_cons.mpr (Or.inl e))))))) (fun h => (List.mem_append.mp h).elim (fun h => (List.mem_cons_of_mem _ (List.mem_append_left _ (List.mem_append_right _ (List.mem_append_left _ (List.mem_cons_of_mem _ h)))))) (fun h => List.mem_cons_of_mem _ (List.mem_append_right _ h)))) w_x_kind_good
theorem g_x_operate_kind_545 : GoodIn w_x_operate (wsV RX12 545 RX12 yX12_kind w_x_kind) := goodIn_app (nb_g4 (List.mem_cons_of_mem _ (List.mem_append_left _ (List.mem_append_left _ (List.mem_of_getElem? (i := 0) rfl)))) (List.mem_cons_of_mem _ (List.mem_append_left _ (List.mem_append_left _ (List.mem_of_getElem? (i := 1) rfl)))) (List.mem_cons_of_mem _ (List.mem_append_left _ (List.mem_append_left _ (List.mem_of_getElem? (i := 2) rfl)))) (List.mem_cons_of_mem _ (List.mem_append_left _ (List.mem_append_left _ (List.mem_of_getElem? (i := 3) rfl)))) (by decide +kernel)) gg_x_operate_kind
theorem gg_x_operate_multiply : GoodIn w_x_operate w_x_multiply := goodIn_sub (fun w h => (List.mem_cons.mp h).elim (fun e => (List.mem_cons_of_mem _ (List.mem_append_left _ (List.mem_append_right _ (List.mem_append_right _ (List.mem_append_right _ (List.mem_append_right _ (List.mem_append_right _ (List.mem_append_right _ (List.mem_append_left _ (List.mem_cons.mpr (Or.inl e)))))))))))) (fun h => (List.mem_append.mp h).elim (fun h => (List.mem_cons_of_mem _ (List.mem_append_left _ (List.mem_append_right _ (List.mem_append_right _ (List.mem_append_right _ (List.mem_append_right _ (List.mem_append_right _ (List.mem_append_right _ (List.mem_append_left _ (List.mem_cons_of_mem _ h))))))))))) (fun h => List.mem_cons_of_mem _ (List.mem_append_right _ h)))) w_x_multiply_good
theorem g_x_operate_multiply_735 : GoodIn w_x_operate (wsV RX12 735 RX12 yX12_multiply w_x_multiply) := goodIn_app (nb_g4 (List.mem_cons_of_mem _ (List.mem_append_left _ (List.mem_append_left _ (List.mem_of_getElem? (i := 16) rfl)))) (List.mem_cons_of_mem _ (List.mem_append_left _ (List.mem_append_left _ (List.mem_of_getElem? (i := 17) rfl)))) (List.mem_cons_of_mem _ (List.mem_append_left _ (List.mem_append_left _ (List.mem_of_getElem? (i := 18) rfl)))) (List.mem_cons_of_mem _ (List.mem_append_left _ (List.mem_append_left _ (List.mem_of_getElem? (i := 3) rfl)))) (by decide +kernel)) gg_x_operate_multiply
theorem gg_x_operate_plus : GoodIn w_x_operate w_x_plus := goodIn_sub (fun w h => (List.mem_cons.mp h).elim (fun e => (List.mem_cons_of_mem _ (List.mem_append_left _ (List.mem_append_right _ (List.mem_append_right _ (List.mem_append_left _ (List.mem_cons.mpr (Or.inl e)))))))) (fun h => (List.mem_append.mp h).elim (fun h => (List.mem_cons_of_mem _ (List.mem_append_left _ (List.mem_append_right _ (List.mem_append_right _ (List.mem_append_left _ (List.mem_cons_of_mem _ h))))))) (fun h => List.mem_cons_of_mem _ (List.mem_append_right _ h)))) w_x_plus_good
theorem g_x_operate_plus_725 : GoodIn w_x_operate (wsV RX12 725 RX12 yX12_plus w_x_plus) := goodIn_app (nb_g4 (List.mem_cons_of_mem _ (List.mem_append_left _ (List.mem_append_left _ (List.mem_of_getElem? (i := 4) rfl)))) (List.mem_cons_of_mem _ (List.mem_append_left _ (List.mem_append_left _ (List.mem_of_getElem? (i := 5) rfl)))) (List.mem_cons_of_mem _ (List.mem_append_left _ (List.mem_append_left _ (List.mem_of_getElem? (i := 6) rfl)))) (List.mem_cons_of_mem _ (List.mem_append_left _ (List.mem_append_left _ (List.mem_of_getElem? (i := 3) rfl)))) (by decide +kernel)) gg_x_operate_plus
theorem gg_x_operate_raise : GoodIn w_x_operate w_x_raise := goodIn_sub (fun w h => (List.mem_cons.mp h).elim (fun e => (List.mem_cons_of_mem _ (List.mem_append_left _ (List.mem_append_right _ (List.mem_append_right _ (List.mem_append_right _ (List.mem_append_right _ (List.mem_append_right _ (List.mem_append_right _ (List.mem_append_right _ (List.mem_append_right _ (List.mem_append_left _ (List.mem_cons.mpr (Or.inl e)))))))))))))) (fun h => (List.mem_append.mp h).elim (fun h => (List.mem_cons_of_mem _ (List.mem_append_left _ (List.mem_append_right _ (List.mem_append_right _ (List.mem_append_right _ (List.mem_append_right _ (List.mem_append_right _ (List.mem_append_right _ (List.mem_append_right _ (List.mem_append_right _ (List.mem_append_left _ (List.mem_cons_of_mem _ h))))))))))))) (fun h => List.mem_cons_of_mem _ (List.mem_append_right _ h)))) w_x_raise_good
theorem g_x_operate_raise_741 : GoodIn w_x_operate (wsV RX12 741 RX12 yX12_raise w_x_raise) := goodIn_app (nb_g4 (List.mem_cons_of_mem _ (List.mem_append_left _ (List.mem_append_left _ (List.mem_of_getElem? (i := 22) rfl)))) (List.mem_cons_of_mem _ (List.mem_append_left _ (List.mem_append_left _ (List.mem_of_getElem? (i := 23) rfl)))) (List.mem_cons_of_mem _ (List.mem_append_left _ (List.mem_append_left _ (List.mem_of_getElem? (i := 24) rfl)))) (List.mem_cons_of_mem _ (List.mem_append_left _ (List.mem_append_left _ (List.mem_of_getElem? (i := 3) rfl)))) (by decide +kernel)) gg_x_operate_raise
theorem gg_x_operate_repeat : GoodIn w_x_operate w_x_repeat := goodIn_sub (fun w h => (List.mem_cons.mp h).elim (fun e => (List.mem_cons_of_mem _ (List.mem_append_left _ (List.mem_append_right _ (List.mem_append_right _ (List.mem_append_right _ (List.mem_append_right _ (List.mem_append_right _ (List.mem_append_right _ (List.mem_append_right _ (List.mem_append_left _ (List.mem_cons.mpr (Or.inl e))))))))))))) (fun h => (List.mem_append.mp h).elim (fun h => (List.mem_cons_of_mem _ (List.mem_append_left _ (List.mem_append_right _ (List.mem_append_right _ (List.mem_append_right _ (List.mem_append_right _ (List.mem_append_right _ (List.mem_append_right _ (List.mem_append_right _ (List.mem_append_left _ (List.mem_cons_of_mem _ h)))))))))))) (fun h => List.mem_cons_of_mem _ (List.mem_append_right _ h)))) w_x_repeat_good
theorem g_x_operate_repeat_738 : GoodIn w_x_operate (wsV RX12 738 RX12 yX12_repeat w_x_repeat) := goodIn_app (nb_g4 (List.mem_cons_of_mem _ (List.mem_append_left _ (List.mem_append_left _ (List.mem_of_getElem? (i := 19) rfl)))) (List.mem_cons_of_mem _ (List.mem_append_left _ (List.mem_append_left _ (List.mem_of_getElem? (i := 20) rfl)))) (List.mem_cons_of_mem _ (List.mem_append_left _ (List.mem_append_left _ (List.mem_of_getElem? (i := 21) rfl)))) (List.mem_cons_of_mem _ (List.mem_append_left _ (List.mem_append_left _ (List.mem_of_getElem? (i := 3) rfl)))) (by decide +kernel)) gg_x_operate_repeat
theorem gg_x_operate_sift : GoodIn w_x_operate w_x_sift := goodIn_sub (fun w h => (List.mem_cons.mp h).elim (fun e => (List.mem_cons_of_mem _ (List.mem_append_left _ (List.mem_append_right _ (List.mem_append_right _ (List.mem_append_right _ (List.mem_append_right _ (List.mem_append_left _ (List.mem_cons.mpr (Or.inl e)))))))))) (fun h => (List.mem_append.mp h).elim (fun h => (List.mem_cons_of_mem _ (List.mem_append_left _ (List.mem_append_right _ (List.mem_append_right _ (List.mem_append_right _ (List.mem_append_right _ (List.mem_append_left _ (List.mem_cons_of_mem _ h))))))))) (fun h => List.mem_cons_of_mem _ (List.mem_append_right _ h)))) w_x_sift_good
theorem g_x_operate_sift_731 : GoodIn w_x_operate (wsV RX12 731 RX12 yX12_sift w_x_sift) := goodIn_app (nb_g4 (List.mem_cons_of_mem _ (List.mem_append_left _ (List.mem_append_left _ (List.mem_of_getElem? (i := 10) rfl)))) (List.mem_cons_of_mem _ (List.mem_append_left _ (List.mem_append_left _ (List.mem_of_getElem? (i := 11) rfl)))) (List.mem_cons_of_mem _ (List.mem_append_left _ (List.mem_append_left _ (List.mem_of_getElem? (i := 12) rfl)))) (List.mem_cons_of_mem _ (List.mem_append_left _ (List.mem_append_left _ (List.mem_of_getElem? (i := 3) rfl)))) (by decide +kernel)) gg_x_operate_sift
theorem gg_x_operate_truth : GoodIn w_x_operate w_x_truth := goodIn_sub (fun w h => (List.mem_cons.mp h).elim (fun e => (List.mem_cons_of_mem _ (List.mem_append_left _ (List.mem_append_right _ (List.mem_append_right _ (List.mem_append_right _ (List.mem_append_right _ (List.mem_append_right _ (List.mem_append_right _ (List.mem_append_right _ (List.mem_append_right _ (List.mem_append_right _ (List.mem_append_right _ (List.mem_append_left _ (List.mem_cons.mpr (Or.inl e)))))))))))))))) (fun h => (List.mem_append.mp h).elim (fun h => (List.mem_cons_of_mem _ (List.mem_append_left _ (List.mem_append_right _ (List.mem_append_right _ (List.mem_append_right _ (List.mem_append_right _ (List.mem_append_right _ (List.mem_append_right _ (List.mem_append_right _ (List.mem_append_right _ (List.mem_append_right _ (List.mem_append_right _ (List.mem_append_left _ (List.mem_cons_of_mem _ h))))))))))))))) (fun h => List.mem_cons_of_mem _ (List.mem_append_right _ h)))) w_x_truth_good
theorem g_x_operate_truth_646 : GoodIn w_x_operate (wsV RX12 646 RX12 yX12_truth w_x_truth) := goodIn_app (nb_g4 (List.mem_cons_of_mem _ (List.mem_append_left _ (List.mem_append_left _ (List.mem_of_getElem? (i := 28) rfl)))) (List.mem_cons_of_mem _ (List.mem_append_left _ (List.mem_append_left _ (List.mem_of_getElem? (i := 29) rfl)))) (List.mem_cons_of_mem _ (List.mem_append_left _ (List.mem_append_left _ (List.mem_of_getElem? (i := 30) rfl)))) (List.mem_cons_of_mem _ (List.mem_append_left _ (List.mem_append_left _ (List.mem_of_getElem? (i := 3) rfl)))) (by decide +kernel)) gg_x_operate_truth
theorem gg_x_operate_wrongKind : GoodIn w_x_operate w_x_wrongKind := goodIn_sub (fun w h => (List.mem_cons.mp h).elim (fun e => (List.mem_cons_of_mem _ (List.mem_append_left _ (List.mem_append_right _ (List.mem_append_right _ (List.mem_append_right _ (List.mem_append_right _ (List.mem_append_right _ (List.mem_append_left _ (List.mem_cons.mpr (Or.inl e))))))))))) (fun h => (List.mem_append.mp h).elim (fun h => (List.mem_cons_of_mem _ (List.mem_append_left _ (List.mem_append_right _ (List.mem_append_right _ (List.mem_append_right _ (List.mem_append_right _ (List.mem_append_right _ (List.mem_append_left _ (List.mem_cons_of_mem _ h)))))))))) (fun h => List.mem_cons_of_mem _ (List.mem_append_right _ h)))) w_x_wrongKind_good
theorem g_x_operate_wrongKind_666 : GoodIn w_x_operate (wsV RX12 666 RX12 yX12_wrongKind w_x_wrongKind) := goodIn_app (nb_g4 (List.mem_cons_of_mem _ (List.mem_append_left _ (List.mem_append_left _ (List.mem_of_getElem? (i := 13) rfl)))) (List.mem_cons_of_mem _ (List.mem_append_left _ (List.mem_append_left _ (List.mem_of_getElem? (i := 14) rfl)))) (List.mem_cons_of_mem _ (List.mem_append_left _ (List.mem_append_left _ (List.mem_of_getElem? (i := 15) rfl)))) (List.mem_cons_of_mem _ (List.mem_append_left _ (List.mem_append_left _ (List.mem_of_getElem? (i := 3) rfl)))) (by decide +kernel)) gg_x_operate_wrongKind
set_option maxHeartbeats 40000000 in
set_option maxRecDepth 100000 in
theorem c_x_operate (l : Launch) (dC : Nat → ClassId) (dI : Nat → Nat → Nat) (cy : Nat → ClassId) (a : Nat → Nat) (k0 : Nat) (L0 : Nat → Int32) (σ0 : MS) (r0 : Int32 × MS) (h0 : x_operate k0 0 L0 σ0 = some r0) (sz : Nat) : Met l yX12_operate w_x_operate ({ frames := 47, cells := 0, slots := 0, locals := 1296 }) (va_Pc [.ref (a 0), .int (L0 1), .int (L0 2), .int (L0 3)] (nIn (dC, dI) cy sz (vM cy a σ0))) (va_Qi (fun (z : Int32) (_ : Unit) => z = r0.1) (fun _ t => nOut (dC, dI) cy (va_A (vM cy a σ0) sz) (vM cy a r0.2) t) (va_A (vM cy a σ0) sz)) 0 0 (va_A (vM cy a σ0) sz) := by
  refine Met.ofW (cc := cX12_operate) (maxL := 8) (ret := (some .int)) (by decide) rfl ?_
  intro p e s m args below meth c s₁ B hml hv
  obtain ⟨rfl, hsz, hP, hK, hD0, hG⟩ := hv
  have hx := B.exec
  have hb := B.bytes
  have hr := B.returns
  have hts := atoms_spec (ws := w_x_operate) B.pre
  have hown : s.vm.findClass RX12 = some m.cls := findClass_of_methodNamed B.named
  have hlocks := B.notSynchronized
  subst hsz
  have hD := hD0.self (sz := s.heap.size)
  generalize hAe : va_A (vM cy a σ0) s.heap.size = A at hD ⊢
  have hA : ∀ q : Nat, s.heap.size ≤ q → A q := fun q h => by rw [← hAe]; exact Or.inr h
  have hS : va_S A s.heap s.heap [] := va_S.rf
  have hl := lv_entry ([.ref (a 0), .int (L0 1), .int (L0 2), .int (L0 3)]) (n := 8) (Nat.le_of_ble_eq_true rfl)
  rw [lg_entry_eq]
  generalize (lg_sl ([.ref (a 0), .int (L0 1), .int (L0 2), .int (L0 3)]) ++ List.replicate (8 - (lg_sl ([.ref (a 0), .int (L0 1), .int (L0 2), .int (L0 3)])).length) Slot.unset).toArray = ls at hl ⊢
  have hl : lv_has ls 8 [(0, .ref (a 0)), (1, .int (L0 1)), (2, .int (L0 2)), (3, .int (L0 3))] := hl
  have blk : ∀ k : Nat, (bT p l e (headSpec w_x_operate ({ frames := 47, cells := 0, slots := 0, locals := 1296 })).room s m #[.ref (a 0), .int (L0 1), .int (L0 2), .int (L0 3)] below meth c dC dI cy a A (qI dC dI cy a A below #[.ref (a 0), .int (L0 1), .int (L0 2), .int (L0 3)] s) 8 (x_operate k 0) (fun L => [(0, .ref (a 0)), (1, .int (L 1)), (2, .int (L 2)), (3, .int (L 3))]) 0 (fun L => [])) ∧ (bT p l e (headSpec w_x_operate ({ frames := 47, cells := 0, slots := 0, locals := 1296 })).room s m #[.ref (a 0), .int (L0 1), .int (L0 2), .int (L0 3)] below meth c dC dI cy a A (qI dC dI cy a A below #[.ref (a 0), .int (L0 1), .int (L0 2), .int (L0 3)] s) 8 (x_operate k 1) (fun L => [(0, .ref (a 0)), (1, .int (L 1)), (2, .int (L 2)), (3, .int (L 3)), (4, .int (L 4)), (5, .int (L 5))]) 30 (fun L => [])) ∧ (bT p l e (headSpec w_x_operate ({ frames := 47, cells := 0, slots := 0, locals := 1296 })).room s m #[.ref (a 0), .int (L0 1), .int (L0 2), .int (L0 3)] below meth c dC dI cy a A (qI dC dI cy a A below #[.ref (a 0), .int (L0 1), .int (L0 2), .int (L0 3)] s) 8 (x_operate k 2) (fun L => [(0, .ref (a 0)), (1, .int (L 1)), (2, .int (L 2)), (3, .int (L 3)), (4, .int (L 4)), (5, .int (L 5))]) 31 (fun L => [.int (L 100)])) ∧ (bT p l e (headSpec w_x_operate ({ frames := 47, cells := 0, slots := 0, locals := 1296 })).room s m #[.ref (a 0), .int (L0 1), .int (L0 2), .int (L0 3)] below meth c dC dI cy a A (qI dC dI cy a A below #[.ref (a 0), .int (L0 1), .int (L0 2), .int (L0 3)] s) 8 (x_operate k 3) (fun L => [(0, .ref (a 0)), (1, .int (L 1)), (2, .int (L 2)), (3, .int (L 3)), (4, .int (L 4)), (5, .int (L 5)), (6, .int (L 6))]) 132 (fun L => [])) ∧ (bT p l e (headSpec w_x_operate ({ frames := 47, cells := 0, slots := 0, locals := 1296 })).room s m #[.ref (a 0), .int (L0 1), .int (L0 2), .int (L0 3)] below meth c dC dI cy a A (qI dC dI cy a A below #[.ref (a 0), .int (L0 1), .int (L0 2), .int (L0 3)] s) 8 (x_operate k 4) (fun L => [(0, .ref (a 0)), (1, .int (L 1)), (2, .int (L 2)), (3, .int (L 3)), (4, .int (L 4)), (5, .int (L 5)), (6, .int (L 6))]) 139 (fun L => [])) ∧ (bT p l e (headSpec w_x_operate ({ frames := 47, cells := 0, slots := 0, locals := 1296 })).room s m #[.ref (a 0), .int (L0 1), .int (L0 2), .int (L0 3)] below meth c dC dI cy a A (qI dC dI cy a A below #[.ref (a 0), .int (L0 1), .int (L0 2), .int (L0 3)] s) 8 (x_operate k 5) (fun L => [(0, .ref (a 0)), (1, .int (L 1)), (2, .int (L 2)), (3, .int (L 3)), (4, .int (L 4)), (5, .int (L 5)), (6, .int (L 6))]) 152 (fun L => [])) ∧ (bT p l e (headSpec w_x_operate ({ frames := 47, cells := 0, slots := 0, locals := 1296 })).room s m #[.ref (a 0), .int (L0 1), .int (L0 2), .int (L0 3)] below meth c dC dI cy a A (qI dC dI cy a A below #[.ref (a 0), .int (L0 1), .int (L0 2), .int (L0 3)] s) 8 (x_operate k 6) (fun L => [(0, .ref (a 0)), (1, .int (L 1)), (2, .int (L 2)), (3, .int (L 3)), (4, .int (L 4)), (5, .int (L 5)), (6, .int (L 6))]) 176 (fun L => [])) ∧ (bT p l e (headSpec w_x_operate ({ frames := 47, cells := 0, slots := 0, locals := 1296 })).room s m #[.ref (a 0), .int (L0 1), .int (L0 2), .int (L0 3)] below meth c dC dI cy a A (qI dC dI cy a A below #[.ref (a 0), .int (L0 1), .int (L0 2), .int (L0 3)] s) 8 (x_operate k 7) (fun L => [(0, .ref (a 0)), (1, .int (L 1)), (2, .int (L 2)), (3, .int (L 3)), (4, .int (L 4)), (5, .int (L 5)), (6, .int (L 6))]) 180 (fun L => [.int (L 100)])) ∧ (bT p l e (headSpec w_x_operate ({ frames := 47, cells := 0, slots := 0, locals := 1296 })).room s m #[.ref (a 0), .int (L0 1), .int (L0 2), .int (L0 3)] below meth c dC dI cy a A (qI dC dI cy a A below #[.ref (a 0), .int (L0 1), .int (L0 2), .int (L0 3)] s) 8 (x_operate k 8) (fun L => [(0, .ref (a 0)), (1, .int (L 1)), (2, .int (L 2)), (3, .int (L 3)), (4, .int (L 4)), (5, .int (L 5)), (6, .int (L 6))]) 181 (fun L => [])) ∧ (bT p l e (headSpec w_x_operate ({ frames := 47, cells := 0, slots := 0, locals := 1296 })).room s m #[.ref (a 0), .int (L0 1), .int (L0 2), .int (L0 3)] below meth c dC dI cy a A (qI dC dI cy a A below #[.ref (a 0), .int (L0 1), .int (L0 2), .int (L0 3)] s) 8 (x_operate k 9) (fun L => [(0, .ref (a 0)), (1, .int (L 1)), (2, .int (L 2)), (3, .int (L 3)), (4, .int (L 4)), (5, .int (L 5)), (6, .int (L 6))]) 193 (fun L => [])) ∧ (bT p l e (headSpec w_x_operate ({ frames := 47, cells := 0, slots := 0, locals := 1296 })).room s m #[.ref (a 0), .int (L0 1), .int (L0 2), .int (L0 3)] below meth c dC dI cy a A (qI dC dI cy a A below #[.ref (a 0), .int (L0 1), .int (L0 2), .int (L0 3)] s) 8 (x_operate k 10) (fun L => [(0, .ref (a 0)), (1, .int (L 1)), (2, .int (L 2)), (3, .int (L 3)), (4, .int (L 4)), (5, .int (L 5)), (6, .int (L 6))]) 215 (fun L => [])) ∧ (bT p l e (headSpec w_x_operate ({ frames := 47, cells := 0, slots := 0, locals := 1296 })).room s m #[.ref (a 0), .int (L0 1), .int (L0 2), .int (L0 3)] below meth c dC dI cy a A (qI dC dI cy a A below #[.ref (a 0), .int (L0 1), .int (L0 2), .int (L0 3)] s) 8 (x_operate k 11) (fun L => [(0, .ref (a 0)), (1, .int (L 1)), (2, .int (L 2)), (3, .int (L 3)), (4, .int (L 4)), (5, .int (L 5)), (6, .int (L 6))]) 227 (fun L => [])) ∧ (bT p l e (headSpec w_x_operate ({ frames := 47, cells := 0, slots := 0, locals := 1296 })).room s m #[.ref (a 0), .int (L0 1), .int (L0 2), .int (L0 3)] below meth c dC dI cy a A (qI dC dI cy a A below #[.ref (a 0), .int (L0 1), .int (L0 2), .int (L0 3)] s) 8 (x_operate k 12) (fun L => [(0, .ref (a 0)), (1, .int (L 1)), (2, .int (L 2)), (3, .int (L 3)), (4, .int (L 4)), (5, .int (L 5)), (6, .int (L 6))]) 242 (fun L => [])) ∧ (bT p l e (headSpec w_x_operate ({ frames := 47, cells := 0, slots := 0, locals := 1296 })).room s m #[.ref (a 0), .int (L0 1), .int (L0 2), .int (L0 3)] below meth c dC dI cy a A (qI dC dI cy a A below #[.ref (a 0), .int (L0 1), .int (L0 2), .int (L0 3)] s) 8 (x_operate k 13) (fun L => [(0, .ref (a 0)), (1, .int (L 1)), (2, .int (L 2)), (3, .int (L 3)), (4, .int (L 4)), (5, .int (L 5)), (6, .int (L 6))]) 246 (fun L => [.int (L 100)])) ∧ (bT p l e (headSpec w_x_operate ({ frames := 47, cells := 0, slots := 0, locals := 1296 })).room s m #[.ref (a 0), .int (L0 1), .int (L0 2), .int (L0 3)] below meth c dC dI cy a A (qI dC dI cy a A below #[.ref (a 0), .int (L0 1), .int (L0 2), .int (L0 3)] s) 8 (x_operate k 14) (fun L => [(0, .ref (a 0)), (1, .int (L 1)), (2, .int (L 2)), (3, .int (L 3)), (4, .int (L 4)), (5, .int (L 5)), (6, .int (L 6))]) 247 (fun L => [])) ∧ (bT p l e (headSpec w_x_operate ({ frames := 47, cells := 0, slots := 0, locals := 1296 })).room s m #[.ref (a 0), .int (L0 1), .int (L0 2), .int (L0 3)] below meth c dC dI cy a A (qI dC dI cy a A below #[.ref (a 0), .int (L0 1), .int (L0 2), .int (L0 3)] s) 8 (x_operate k 15) (fun L => [(0, .ref (a 0)), (1, .int (L 1)), (2, .int (L 2)), (3, .int (L 3)), (4, .int (L 4)), (5, .int (L 5)), (6, .int (L 6))]) 261 (fun L => [])) ∧ (bT p l e (headSpec w_x_operate ({ frames := 47, cells := 0, slots := 0, locals := 1296 })).room s m #[.ref (a 0), .int (L0 1), .int (L0 2), .int (L0 3)] below meth c dC dI cy a A (qI dC dI cy a A below #[.ref (a 0), .int (L0 1), .int (L0 2), .int (L0 3)] s) 8 (x_operate k 16) (fun L => [(0, .ref (a 0)), (1, .int (L 1)), (2, .int (L 2)), (3, .int (L 3)), (4, .int (L 4)), (5, .int (L 5)), (6, .int (L 6))]) 265 (fun L => [.int (L 100)])) ∧ (bT p l e (headSpec w_x_operate ({ frames := 47, cells := 0, slots := 0, locals := 1296 })).room s m #[.ref (a 0), .int (L0 1), .int (L0 2), .int (L0 3)] below meth c dC dI cy a A (qI dC dI cy a A below #[.ref (a 0), .int (L0 1), .int (L0 2), .int (L0 3)] s) 8 (x_operate k 17) (fun L => [(0, .ref (a 0)), (1, .int (L 1)), (2, .int (L 2)), (3, .int (L 3)), (4, .int (L 4)), (5, .int (L 5)), (6, .int (L 6))]) 266 (fun L => [])) ∧ (bT p l e (headSpec w_x_operate ({ frames := 47, cells := 0, slots := 0, locals := 1296 })).room s m #[.ref (a 0), .int (L0 1), .int (L0 2), .int (L0 3)] below meth c dC dI cy a A (qI dC dI cy a A below #[.ref (a 0), .int (L0 1), .int (L0 2), .int (L0 3)] s) 8 (x_operate k 18) (fun L => [(0, .ref (a 0)), (1, .int (L 1)), (2, .int (L 2)), (3, .int (L 3)), (4, .int (L 4)), (5, .int (L 5)), (6, .int (L 6))]) 280 (fun L => [.ref (a 0)])) ∧ (bT p l e (headSpec w_x_operate ({ frames := 47, cells := 0, slots := 0, locals := 1296 })).room s m #[.ref (a 0), .int (L0 1), .int (L0 2), .int (L0 3)] below meth c dC dI cy a A (qI dC dI cy a A below #[.ref (a 0), .int (L0 1), .int (L0 2), .int (L0 3)] s) 8 (x_operate k 19) (fun L => [(0, .ref (a 0)), (1, .int (L 1)), (2, .int (L 2)), (3, .int (L 3)), (4, .int (L 4)), (5, .int (L 5)), (6, .int (L 6))]) 281 (fun L => [.int (L 100), .ref (a 0)])) ∧ (bT p l e (headSpec w_x_operate ({ frames := 47, cells := 0, slots := 0, locals := 1296 })).room s m #[.ref (a 0), .int (L0 1), .int (L0 2), .int (L0 3)] below meth c dC dI cy a A (qI dC dI cy a A below #[.ref (a 0), .int (L0 1), .int (L0 2), .int (L0 3)] s) 8 (x_operate k 20) (fun L => [(0, .ref (a 0)), (1, .int (L 1)), (2, .int (L 2)), (3, .int (L 3)), (4, .int (L 4)), (5, .int (L 5)), (6, .int (L 6))]) 285 (fun L => [])) ∧ (bT p l e (headSpec w_x_operate ({ frames := 47, cells := 0, slots := 0, locals := 1296 })).room s m #[.ref (a 0), .int (L0 1), .int (L0 2), .int (L0 3)] below meth c dC dI cy a A (qI dC dI cy a A below #[.ref (a 0), .int (L0 1), .int (L0 2), .int (L0 3)] s) 8 (x_operate k 21) (fun L => [(0, .ref (a 0)), (1, .int (L 1)), (2, .int (L 2)), (3, .int (L 3)), (4, .int (L 4)), (5, .int (L 5)), (6, .int (L 6))]) 299 (fun L => [.ref (a 0)])) ∧ (bT p l e (headSpec w_x_operate ({ frames := 47, cells := 0, slots := 0, locals := 1296 })).room s m #[.ref (a 0), .int (L0 1), .int (L0 2), .int (L0 3)] below meth c dC dI cy a A (qI dC dI cy a A below #[.ref (a 0), .int (L0 1), .int (L0 2), .int (L0 3)] s) 8 (x_operate k 22) (fun L => [(0, .ref (a 0)), (1, .int (L 1)), (2, .int (L 2)), (3, .int (L 3)), (4, .int (L 4)), (5, .int (L 5)), (6, .int (L 6))]) 300 (fun L => [.int (L 100), .ref (a 0)])) ∧ (bT p l e (headSpec w_x_operate ({ frames := 47, cells := 0, slots := 0, locals := 1296 })).room s m #[.ref (a 0), .int (L0 1), .int (L0 2), .int (L0 3)] below meth c dC dI cy a A (qI dC dI cy a A below #[.ref (a 0), .int (L0 1), .int (L0 2), .int (L0 3)] s) 8 (x_operate k 23) (fun L => [(0, .ref (a 0)), (1, .int (L 1)), (2, .int (L 2)), (3, .int (L 3)), (4, .int (L 4)), (5, .int (L 5)), (6, .int (L 6))]) 304 (fun L => [])) ∧ (bT p l e (headSpec w_x_operate ({ frames := 47, cells := 0, slots := 0, locals := 1296 })).room s m #[.ref (a 0), .int (L0 1), .int (L0 2), .int (L0 3)] below meth c dC dI cy a A (qI dC dI cy a A below #[.ref (a 0), .int (L0 1), .int (L0 2), .int (L0 3)] s) 8 (x_operate k 24) (fun L => [(0, .ref (a 0)), (1, .int (L 1)), (2, .int (L 2)), (3, .int (L 3)), (4, .int (L 4)), (5, .int (L 5)), (6, .int (L 6))]) 319 (fun L => [])) ∧ (bT p l e (headSpec w_x_operate ({ frames := 47, cells := 0, slots := 0, locals := 1296 })).room s m #[.ref (a 0), .int (L0 1), .int (L0 2), .int (L0 3)] below meth c dC dI cy a A (qI dC dI cy a A below #[.ref (a 0), .int (L0 1), .int (L0 2), .int (L0 3)] s) 8 (x_operate k 25) (fun L => [(0, .ref (a 0)), (1, .int (L 1)), (2, .int (L 2)), (3, .int (L 3)), (4, .int (L 4)), (5, .int (L 5)), (6, .int (L 6))]) 323 (fun L => [.int (L 100)])) ∧ (bT p l e (headSpec w_x_operate ({ frames := 47, cells := 0, slots := 0, locals := 1296 })).room s m #[.ref (a 0), .int (L0 1), .int (L0 2), .int (L0 3)] below meth c dC dI cy a A (qI dC dI cy a A below #[.ref (a 0), .int (L0 1), .int (L0 2), .int (L0 3)] s) 8 (x_operate k 26) (fun L => [(0, .ref (a 0)), (1, .int (L 1)), (2, .int (L 2)), (3, .int (L 3)), (4, .int (L 4)), (5, .int (L 5)), (6, .int (L 6))]) 324 (fun L => [])) ∧ (bT p l e (headSpec w_x_operate ({ frames := 47, cells := 0, slots := 0, locals := 1296 })).room s m #[.ref (a 0), .int (L0 1), .int (L0 2), .int (L0 3)] below meth c dC dI cy a A (qI dC dI cy a A below #[.ref (a 0), .int (L0 1), .int (L0 2), .int (L0 3)] s) 8 (x_operate k 27) (fun L => [(0, .ref (a 0)), (1, .int (L 1)), (2, .int (L 2)), (3, .int (L 3)), (4, .int (L 4)), (5, .int (L 5)), (6, .int (L 6))]) 339 (fun L => [])) ∧ (bT p l e (headSpec w_x_operate ({ frames := 47, cells := 0, slots := 0, locals := 1296 })).room s m #[.ref (a 0), .int (L0 1), .int (L0 2), .int (L0 3)] below meth c dC dI cy a A (qI dC dI cy a A below #[.ref (a 0), .int (L0 1), .int (L0 2), .int (L0 3)] s) 8 (x_operate k 28) (fun L => [(0, .ref (a 0)), (1, .int (L 1)), (2, .int (L 2)), (3, .int (L 3)), (4, .int (L 4)), (5, .int (L 5)), (6, .int (L 6))]) 343 (fun L => [.int (L 100)])) ∧ (bT p l e (headSpec w_x_operate ({ frames := 47, cells := 0, slots := 0, locals := 1296 })).room s m #[.ref (a 0), .int (L0 1), .int (L0 2), .int (L0 3)] below meth c dC dI cy a A (qI dC dI cy a A below #[.ref (a 0), .int (L0 1), .int (L0 2), .int (L0 3)] s) 8 (x_operate k 29) (fun L => [(0, .ref (a 0)), (1, .int (L 1)), (2, .int (L 2)), (3, .int (L 3)), (4, .int (L 4)), (5, .int (L 5)), (6, .int (L 6))]) 344 (fun L => [])) ∧ (bT p l e (headSpec w_x_operate ({ frames := 47, cells := 0, slots := 0, locals := 1296 })).room s m #[.ref (a 0), .int (L0 1), .int (L0 2), .int (L0 3)] below meth c dC dI cy a A (qI dC dI cy a A below #[.ref (a 0), .int (L0 1), .int (L0 2), .int (L0 3)] s) 8 (x_operate k 30) (fun L => [(0, .ref (a 0)), (1, .int (L 1)), (2, .int (L 2)), (3, .int (L 3)), (4, .int (L 4)), (5, .int (L 5)), (6, .int (L 6))]) 351 (fun L => [])) ∧ (bT p l e (headSpec w_x_operate ({ frames := 47, cells := 0, slots := 0, locals := 1296 })).room s m #[.ref (a 0), .int (L0 1), .int (L0 2), .int (L0 3)] below meth c dC dI cy a A (qI dC dI cy a A below #[.ref (a 0), .int (L0 1), .int (L0 2), .int (L0 3)] s) 8 (x_operate k 31) (fun L => [(0, .ref (a 0)), (1, .int (L 1)), (2, .int (L 2)), (3, .int (L 3)), (4, .int (L 4)), (5, .int (L 5)), (6, .int (L 6)), (7, .int (L 7))]) 370 (fun L => [.ref (a 0)])) ∧ (bT p l e (headSpec w_x_operate ({ frames := 47, cells := 0, slots := 0, locals := 1296 })).room s m #[.ref (a 0), .int (L0 1), .int (L0 2), .int (L0 3)] below meth c dC dI cy a A (qI dC dI cy a A below #[.ref (a 0), .int (L0 1), .int (L0 2), .int (L0 3)] s) 8 (x_operate k 32) (fun L => [(0, .ref (a 0)), (1, .int (L 1)), (2, .int (L 2)), (3, .int (L 3)), (4, .int (L 4)), (5, .int (L 5)), (6, .int (L 6)), (7, .int (L 7))]) 371 (fun L => [.int (L 100), .ref (a 0)])) ∧ (bT p l e (headSpec w_x_operate ({ frames := 47, cells := 0, slots := 0, locals := 1296 })).room s m #[.ref (a 0), .int (L0 1), .int (L0 2), .int (L0 3)] below meth c dC dI cy a A (qI dC dI cy a A below #[.ref (a 0), .int (L0 1), .int (L0 2), .int (L0 3)] s) 8 (x_operate k 33) (fun L => [(0, .ref (a 0)), (1, .int (L 1)), (2, .int (L 2)), (3, .int (L 3)), (4, .int (L 4)), (5, .int (L 5)), (6, .int (L 6))]) 375 (fun L => [])) ∧ (bT p l e (headSpec w_x_operate ({ frames := 47, cells := 0, slots := 0, locals := 1296 })).room s m #[.ref (a 0), .int (L0 1), .int (L0 2), .int (L0 3)] below meth c dC dI cy a A (qI dC dI cy a A below #[.ref (a 0), .int (L0 1), .int (L0 2), .int (L0 3)] s) 8 (x_operate k 34) (fun L => [(0, .ref (a 0)), (1, .int (L 1)), (2, .int (L 2)), (3, .int (L 3)), (4, .int (L 4)), (5, .int (L 5)), (6, .int (L 6))]) 402 (fun L => [])) ∧ (bT p l e (headSpec w_x_operate ({ frames := 47, cells := 0, slots := 0, locals := 1296 })).room s m #[.ref (a 0), .int (L0 1), .int (L0 2), .int (L0 3)] below meth c dC dI cy a A (qI dC dI cy a A below #[.ref (a 0), .int (L0 1), .int (L0 2), .int (L0 3)] s) 8 (x_operate k 35) (fun L => [(0, .ref (a 0)), (1, .int (L 1)), (2, .int (L 2)), (3, .int (L 3)), (4, .int (L 4)), (5, .int (L 5)), (6, .int (L 6))]) 406 (fun L => [.int (L 100)])) ∧ (bT p l e (headSpec w_x_operate ({ frames := 47, cells := 0, slots := 0, locals := 1296 })).room s m #[.ref (a 0), .int (L0 1), .int (L0 2), .int (L0 3)] below meth c dC dI cy a A (qI dC dI cy a A below #[.ref (a 0), .int (L0 1), .int (L0 2), .int (L0 3)] s) 8 (x_operate k 36) (fun L => [(0, .ref (a 0)), (1, .int (L 1)), (2, .int (L 2)), (3, .int (L 3)), (4, .int (L 4)), (5, .int (L 5)), (6, .int (L 6))]) 407 (fun L => [])) ∧ (bT p l e (headSpec w_x_operate ({ frames := 47, cells := 0, slots := 0, locals := 1296 })).room s m #[.ref (a 0), .int (L0 1), .int (L0 2), .int (L0 3)] below meth c dC dI cy a A (qI dC dI cy a A below #[.ref (a 0), .int (L0 1), .int (L0 2), .int (L0 3)] s) 8 (x_operate k 37) (fun L => [(0, .ref (a 0)), (1, .int (L 1)), (2, .int (L 2)), (3, .int (L 3)), (4, .int (L 4)), (5, .int (L 5)), (6, .int (L 6))]) 424 (fun L => [])) ∧ (bT p l e (headSpec w_x_operate ({ frames := 47, cells := 0, slots := 0, locals := 1296 })).room s m #[.ref (a 0), .int (L0 1), .int (L0 2), .int (L0 3)] below meth c dC dI cy a A (qI dC dI cy a A below #[.ref (a 0), .int (L0 1), .int (L0 2), .int (L0 3)] s) 8 (x_operate k 38) (fun L => [(0, .ref (a 0)), (1, .int (L 1)), (2, .int (L 2)), (3, .int (L 3)), (4, .int (L 4)), (5, .int (L 5)), (6, .int (L 6))]) 429 (fun L => [])) ∧ (bT p l e (headSpec w_x_operate ({ frames := 47, cells := 0, slots := 0, locals := 1296 })).room s m #[.ref (a 0), .int (L0 1), .int (L0 2), .int (L0 3)] below meth c dC dI cy a A (qI dC dI cy a A below #[.ref (a 0), .int (L0 1), .int (L0 2), .int (L0 3)] s) 8 (x_operate k 39) (fun L => [(0, .ref (a 0)), (1, .int (L 1)), (2, .int (L 2)), (3, .int (L 3)), (4, .int (L 4)), (5, .int (L 5)), (6, .int (L 6)), (7, .int (L 7))]) 453 (fun L => [.ref (a 0)])) ∧ (bT p l e (headSpec w_x_operate ({ frames := 47, cells := 0, slots := 0, locals := 1296 })).room s m #[.ref (a 0), .int (L0 1), .int (L0 2), .int (L0 3)] below meth c dC dI cy a A (qI dC dI cy a A below #[.ref (a 0), .int (L0 1), .int (L0 2), .int (L0 3)] s) 8 (x_operate k 40) (fun L => [(0, .ref (a 0)), (1, .int (L 1)), (2, .int (L 2)), (3, .int (L 3)), (4, .int (L 4)), (5, .int (L 5)), (6, .int (L 6)), (7, .int (L 7))]) 457 (fun L => [.ref (a 0)])) ∧ (bT p l e (headSpec w_x_operate ({ frames := 47, cells := 0, slots := 0, locals := 1296 })).room s m #[.ref (a 0), .int (L0 1), .int (L0 2), .int (L0 3)] below meth c dC dI cy a A (qI dC dI cy a A below #[.ref (a 0), .int (L0 1), .int (L0 2), .int (L0 3)] s) 8 (x_operate k 41) (fun L => [(0, .ref (a 0)), (1, .int (L 1)), (2, .int (L 2)), (3, .int (L 3)), (4, .int (L 4)), (5, .int (L 5)), (6, .int (L 6)), (7, .int (L 7))]) 472 (fun L => [.ref (a 0)])) ∧ (bT p l e (headSpec w_x_operate ({ frames := 47, cells := 0, slots := 0, locals := 1296 })).room s m #[.ref (a 0), .int (L0 1), .int (L0 2), .int (L0 3)] below meth c dC dI cy a A (qI dC dI cy a A below #[.ref (a 0), .int (L0 1), .int (L0 2), .int (L0 3)] s) 8 (x_operate k 42) (fun L => [(0, .ref (a 0)), (1, .int (L 1)), (2, .int (L 2)), (3, .int (L 3)), (4, .int (L 4)), (5, .int (L 5)), (6, .int (L 6)), (7, .int (L 7))]) 476 (fun L => [.ref (a 0)])) ∧ (bT p l e (headSpec w_x_operate ({ frames := 47, cells := 0, slots := 0, locals := 1296 })).room s m #[.ref (a 0), .int (L0 1), .int (L0 2), .int (L0 3)] below meth c dC dI cy a A (qI dC dI cy a A below #[.ref (a 0), .int (L0 1), .int (L0 2), .int (L0 3)] s) 8 (x_operate k 43) (fun L => [(0, .ref (a 0)), (1, .int (L 1)), (2, .int (L 2)), (3, .int (L 3)), (4, .int (L 4)), (5, .int (L 5)), (6, .int (L 6)), (7, .int (L 7))]) 491 (fun L => [.ref (a 0)])) ∧ (bT p l e (headSpec w_x_operate ({ frames := 47, cells := 0, slots := 0, locals := 1296 })).room s m #[.ref (a 0), .int (L0 1), .int (L0 2), .int (L0 3)] below meth c dC dI cy a A (qI dC dI cy a A below #[.ref (a 0), .int (L0 1), .int (L0 2), .int (L0 3)] s) 8 (x_operate k 44) (fun L => [(0, .ref (a 0)), (1, .int (L 1)), (2, .int (L 2)), (3, .int (L 3)), (4, .int (L 4)), (5, .int (L 5)), (6, .int (L 6)), (7, .int (L 7))]) 495 (fun L => [.ref (a 0)])) ∧ (bT p l e (headSpec w_x_operate ({ frames := 47, cells := 0, slots := 0, locals := 1296 })).room s m #[.ref (a 0), .int (L0 1), .int (L0 2), .int (L0 3)] below meth c dC dI cy a A (qI dC dI cy a A below #[.ref (a 0), .int (L0 1), .int (L0 2), .int (L0 3)] s) 8 (x_operate k 45) (fun L => [(0, .ref (a 0)), (1, .int (L 1)), (2, .int (L 2)), (3, .int (L 3)), (4, .int (L 4)), (5, .int (L 5)), (6, .int (L 6)), (7, .int (L 7))]) 504 (fun L => [.ref (a 0)])) ∧ (bT p l e (headSpec w_x_operate ({ frames := 47, cells := 0, slots := 0, locals := 1296 })).room s m #[.ref (a 0), .int (L0 1), .int (L0 2), .int (L0 3)] below meth c dC dI cy a A (qI dC dI cy a A below #[.ref (a 0), .int (L0 1), .int (L0 2), .int (L0 3)] s) 8 (x_operate k 46) (fun L => [(0, .ref (a 0)), (1, .int (L 1)), (2, .int (L 2)), (3, .int (L 3)), (4, .int (L 4)), (5, .int (L 5)), (6, .int (L 6)), (7, .int (L 7))]) 505 (fun L => [.int (L 100), .ref (a 0)])) := by
    intro k
    induction k with
    | zero => exact ⟨fun L σ r h => (by cases h), fun L σ r h => (by cases h), fun L σ r h => (by cases h), fun L σ r h => (by cases h), fun L σ r h => (by cases h), fun L σ r h => (by cases h), fun L σ r h => (by cases h), fun L σ r h => (by cases h), fun L σ r h => (by cases h), fun L σ r h => (by cases h), fun L σ r h => (by cases h), fun L σ r h => (by cases h), fun L σ r h => (by cases h), fun L σ r h => (by cases h), fun L σ r h => (by cases h), fun L σ r h => (by cases h), fun L σ r h => (by cases h), fun L σ r h => (by cases h), fun L σ r h => (by cases h), fun L σ r h => (by cases h), fun L σ r h => (by cases h), fun L σ r h => (by cases h), fun L σ r h => (by cases h), fun L σ r h => (by cases h), fun L σ r h => (by cases h), fun L σ r h => (by cases h), fun L σ r h => (by cases h), fun L σ r h => (by cases h), fun L σ r h => (by cases h), fun L σ r h => (by cases h), fun L σ r h => (by cases h), fun L σ r h => (by cases h), fun L σ r h => (by cases h), fun L σ r h => (by cases h), fun L σ r h => (by cases h), fun L σ r h => (by cases h), fun L σ r h => (by cases h), fun L σ r h => (by cases h), fun L σ r h => (by cases h), fun L σ r h => (by cases h), fun L σ r h => (by cases h), fun L σ r h => (by cases h), fun L σ r h => (by cases h), fun L σ r h => (by cases h), fun L σ r h => (by cases h), fun L σ r h => (by cases h), fun L σ r h => (by cases h)⟩
    | succ k ih =>
      refine ⟨?_, ?_, ?_, ?_, ?_, ?_, ?_, ?_, ?_, ?_, ?_, ?_, ?_, ?_, ?_, ?_, ?_, ?_, ?_, ?_, ?_, ?_, ?_, ?_, ?_, ?_, ?_, ?_, ?_, ?_, ?_, ?_, ?_, ?_, ?_, ?_, ?_, ?_, ?_, ?_, ?_, ?_, ?_, ?_, ?_, ?_, ?_⟩
      · intro L σ r h H locs ls hP hD hS hl
        rw [x_operate] at h
        refine lv_aload_n hx hb dX12_operate_0 rfl (lv_at hl 0 rfl) ?_
        refine lv_iload_n hx hb dX12_operate_1 rfl (lv_at hl 2 rfl) ?_
        obtain ⟨r1, hc1, h⟩ := ob_ex h
        refine nc_Vi (As := [.int (L 2)]) (rest := []) ⟨hx, hb, hml, hown, hts⟩ (c_x_kind l dC dI cy a k (upd (fun _ => 0) 1 ((L 2))) σ r1 hc1 H.size) (cwV 1 hts g_x_operate_kind_545 rfl rfl rfl hd_x_kind ⟨Nat.le_of_ble_eq_true rfl, Nat.le_of_ble_eq_true rfl⟩) hK hG hA hP hD hS rfl hl.1 rfl (Nat.le_of_ble_eq_true rfl) dX12_operate_2 ⟨Nat.le_refl _, Nat.le_refl _⟩ (fun H locs hP hD hS => ?_)
        refine lv_istore (lv' := [(4, .int r1.1), (0, .ref (a 0)), (1, .int (L 1)), (2, .int (L 2)), (3, .int (L 3))]) hx hb dX12_operate_5 hl (by decide) rfl (fun ls hl => ?_)
        refine lv_aload_n hx hb dX12_operate_7 rfl (lv_at hl 1 rfl) ?_
        refine lv_iload_n hx hb dX12_operate_8 rfl (lv_at hl 4 rfl) ?_
        obtain ⟨r2, hc2, h⟩ := ob_ex h
        refine nc_Vi (As := [.int (L 3)]) (rest := []) ⟨hx, hb, hml, hown, hts⟩ (c_x_kind l dC dI cy a k (upd (fun _ => 0) 1 ((L 3))) r1.2 r2 hc2 H.size) (cwV 1 hts g_x_operate_kind_545 rfl rfl rfl hd_x_kind ⟨Nat.le_of_ble_eq_true rfl, Nat.le_of_ble_eq_true rfl⟩) hK hG hA hP hD hS rfl hl.1 rfl (Nat.le_of_ble_eq_true rfl) dX12_operate_9 ⟨Nat.le_refl _, Nat.le_refl _⟩ (fun H locs hP hD hS => ?_)
        refine lv_istore (lv' := [(5, .int r2.1), (4, .int r1.1), (0, .ref (a 0)), (1, .int (L 1)), (2, .int (L 2)), (3, .int (L 3))]) hx hb dX12_operate_12 hl (by decide) rfl (fun ls hl => ?_)
        refine lv_iload hx hb dX12_operate_14 (lv_at hl 1 rfl) ?_
        refine lv_iconst (v := 2) hx hb dX12_operate_16 (by decide) ?_
        refine lv_icmp_ne (tgt := 30) hx hb dX12_operate_17 (by decide) (fun c3 => ?_) (fun c3 => ?_)
        · rw [if_neg c3] at h
          exact ih.2.1 (upd (upd L 4 r1.1) 5 r2.1) r2.2 r h H locs ls hP hD hS (lv_sub hl [2, 3, 4, 5, 1, 0] rfl)
        · rw [if_pos c3] at h
          refine lv_iload hx hb dX12_operate_20 (lv_at hl 0 rfl) ?_
          refine lv_iconst (v := 2) hx hb dX12_operate_22 (by decide) ?_
          refine lv_icmp_ne (tgt := 30) hx hb dX12_operate_23 (by decide) (fun c4 => ?_) (fun c4 => ?_)
          · rw [if_neg c4] at h
            exact ih.2.1 (upd (upd L 4 r1.1) 5 r2.1) r2.2 r h H locs ls hP hD hS (lv_sub hl [2, 3, 4, 5, 1, 0] rfl)
          · rw [if_pos c4] at h
            refine lv_iconst (v := 1) hx hb dX12_operate_26 (by decide) ?_
            refine lv_goto (tgt := 31) hx hb dX12_operate_27 (by decide) ?_
            exact ih.2.2.1 (upd (upd (upd L 4 r1.1) 5 r2.1) 100 1) r2.2 r h H locs ls hP hD hS (lv_sub hl [2, 3, 4, 5, 1, 0] rfl)
      · intro L σ r h H locs ls hP hD hS hl
        rw [x_operate] at h
        refine lv_iconst (v := 0) hx hb dX12_operate_30 (by decide) ?_
        exact ih.2.2.1 (upd L 100 0) σ r h H locs ls hP hD hS (lv_sub hl [0, 1, 2, 3, 4, 5] rfl)
      · intro L σ r h H locs ls hP hD hS hl
        rw [x_operate] at h
        refine lv_istore (lv' := [(6, .int (L 100)), (0, .ref (a 0)), (1, .int (L 1)), (2, .int (L 2)), (3, .int (L 3)), (4, .int (L 4)), (5, .int (L 5))]) hx hb dX12_operate_31 hl (by decide) rfl (fun ls hl => ?_)
        refine lv_iload_n hx hb dX12_operate_33 rfl (lv_at hl 2 rfl) ?_
        by_cases q1 : ((L 1)) = (2 : Int32)
        · rw [if_pos q1] at h
          refine lv_lookup (off := 98) (tgt := 132) hx hb dX12_operate_34 (by decide) (by rw [q1]; decide) (by decide) ?_
          exact ih.2.2.2.1 (upd L 6 ((L 100))) σ r h H locs ls hP hD hS (lv_sub hl [1, 2, 3, 4, 5, 6, 0] rfl)
        · rw [if_neg q1] at h
          by_cases q2 : ((L 1)) = (3 : Int32)
          · rw [if_pos q2] at h
            refine lv_lookup (off := 105) (tgt := 139) hx hb dX12_operate_34 (by decide) (by rw [q2]; decide) (by decide) ?_
            exact ih.2.2.2.2.1 (upd L 6 ((L 100))) σ r h H locs ls hP hD hS (lv_sub hl [1, 2, 3, 4, 5, 6, 0] rfl)
          · rw [if_neg q2] at h
            by_cases q3 : ((L 1)) = (4 : Int32)
            · rw [if_pos q3] at h
              refine lv_lookup (off := 147) (tgt := 181) hx hb dX12_operate_34 (by decide) (by rw [q3]; decide) (by decide) ?_
              exact ih.2.2.2.2.2.2.2.2.1 (upd L 6 ((L 100))) σ r h H locs ls hP hD hS (lv_sub hl [1, 2, 3, 4, 5, 6, 0] rfl)
            · rw [if_neg q3] at h
              by_cases q4 : ((L 1)) = (5 : Int32)
              · rw [if_pos q4] at h
                refine lv_lookup (off := 213) (tgt := 247) hx hb dX12_operate_34 (by decide) (by rw [q4]; decide) (by decide) ?_
                exact ih.2.2.2.2.2.2.2.2.2.2.2.2.2.2.1 (upd L 6 ((L 100))) σ r h H locs ls hP hD hS (lv_sub hl [1, 2, 3, 4, 5, 6, 0] rfl)
              · rw [if_neg q4] at h
                by_cases q5 : ((L 1)) = (17 : Int32)
                · rw [if_pos q5] at h
                  refine lv_lookup (off := 232) (tgt := 266) hx hb dX12_operate_34 (by decide) (by rw [q5]; decide) (by decide) ?_
                  exact ih.2.2.2.2.2.2.2.2.2.2.2.2.2.2.2.2.2.1 (upd L 6 ((L 100))) σ r h H locs ls hP hD hS (lv_sub hl [1, 2, 3, 4, 5, 6, 0] rfl)
                · rw [if_neg q5] at h
                  by_cases q6 : ((L 1)) = (18 : Int32)
                  · rw [if_pos q6] at h
                    refine lv_lookup (off := 251) (tgt := 285) hx hb dX12_operate_34 (by decide) (by rw [q6]; decide) (by decide) ?_
                    exact ih.2.2.2.2.2.2.2.2.2.2.2.2.2.2.2.2.2.2.2.2.1 (upd L 6 ((L 100))) σ r h H locs ls hP hD hS (lv_sub hl [1, 2, 3, 4, 5, 6, 0] rfl)
                  · rw [if_neg q6] at h
                    by_cases q7 : ((L 1)) = (114 : Int32)
                    · rw [if_pos q7] at h
                      refine lv_lookup (off := 310) (tgt := 344) hx hb dX12_operate_34 (by decide) (by rw [q7]; decide) (by decide) ?_
                      exact ih.2.2.2.2.2.2.2.2.2.2.2.2.2.2.2.2.2.2.2.2.2.2.2.2.2.2.2.2.2.1 (upd L 6 ((L 100))) σ r h H locs ls hP hD hS (lv_sub hl [1, 2, 3, 4, 5, 6, 0] rfl)
                    · rw [if_neg q7] at h
                      by_cases q8 : ((L 1)) = (115 : Int32)
                      · rw [if_pos q8] at h
                        refine lv_lookup (off := 317) (tgt := 351) hx hb dX12_operate_34 (by decide) (by rw [q8]; decide) (by decide) ?_
                        exact ih.2.2.2.2.2.2.2.2.2.2.2.2.2.2.2.2.2.2.2.2.2.2.2.2.2.2.2.2.2.2.1 (upd L 6 ((L 100))) σ r h H locs ls hP hD hS (lv_sub hl [1, 2, 3, 4, 5, 6, 0] rfl)
                      · rw [if_neg q8] at h
                        by_cases q9 : ((L 1)) = (116 : Int32)
                        · rw [if_pos q9] at h
                          refine lv_lookup (off := 341) (tgt := 375) hx hb dX12_operate_34 (by decide) (by rw [q9]; decide) (by decide) ?_
                          exact ih.2.2.2.2.2.2.2.2.2.2.2.2.2.2.2.2.2.2.2.2.2.2.2.2.2.2.2.2.2.2.2.2.2.1 (upd L 6 ((L 100))) σ r h H locs ls hP hD hS (lv_sub hl [1, 2, 3, 4, 5, 6, 0] rfl)
                        · rw [if_neg q9] at h
                          by_cases q10 : ((L 1)) = (135 : Int32)
                          · rw [if_pos q10] at h
                            refine lv_lookup (off := 270) (tgt := 304) hx hb dX12_operate_34 (by decide) (by rw [q10]; decide) (by decide) ?_
                            exact ih.2.2.2.2.2.2.2.2.2.2.2.2.2.2.2.2.2.2.2.2.2.2.2.1 (upd L 6 ((L 100))) σ r h H locs ls hP hD hS (lv_sub hl [1, 2, 3, 4, 5, 6, 0] rfl)
                          · rw [if_neg q10] at h
                            by_cases q11 : ((L 1)) = (136 : Int32)
                            · rw [if_pos q11] at h
                              refine lv_lookup (off := 290) (tgt := 324) hx hb dX12_operate_34 (by decide) (by rw [q11]; decide) (by decide) ?_
                              exact ih.2.2.2.2.2.2.2.2.2.2.2.2.2.2.2.2.2.2.2.2.2.2.2.2.2.2.1 (upd L 6 ((L 100))) σ r h H locs ls hP hD hS (lv_sub hl [1, 2, 3, 4, 5, 6, 0] rfl)
                            · rw [if_neg q11] at h
                              have nq1 : ¬ ((L 1)).toInt = 2 := nb_ti q1 rfl
                              have nq2 : ¬ ((L 1)).toInt = 3 := nb_ti q2 rfl
                              have nq3 : ¬ ((L 1)).toInt = 4 := nb_ti q3 rfl
                              have nq4 : ¬ ((L 1)).toInt = 5 := nb_ti q4 rfl
                              have nq5 : ¬ ((L 1)).toInt = 17 := nb_ti q5 rfl
                              have nq6 : ¬ ((L 1)).toInt = 18 := nb_ti q6 rfl
                              have nq7 : ¬ ((L 1)).toInt = 114 := nb_ti q7 rfl
                              have nq8 : ¬ ((L 1)).toInt = 115 := nb_ti q8 rfl
                              have nq9 : ¬ ((L 1)).toInt = 116 := nb_ti q9 rfl
                              have nq10 : ¬ ((L 1)).toInt = 135 := nb_ti q10 rfl
                              have nq11 : ¬ ((L 1)).toInt = 136 := nb_ti q11 rfl
                              refine lv_lookup (off := 373) (tgt := 407) hx hb dX12_operate_34 (by decide) (nb_lk (by simp only [List.forall_mem_cons]; exact ⟨nq1, nq2, nq3, nq4, nq5, nq6, nq7, nq8, nq9, nq10, nq11, fun _ h => absurd h List.not_mem_nil⟩)) (by decide) ?_
                              exact ih.2.2.2.2.2.2.2.2.2.2.2.2.2.2.2.2.2.2.2.2.2.2.2.2.2.2.2.2.2.2.2.2.2.2.2.2.1 (upd L 6 ((L 100))) σ r h H locs ls hP hD hS (lv_sub hl [1, 2, 3, 4, 5, 6, 0] rfl)
      · intro L σ r h H locs ls hP hD hS hl
        rw [x_operate] at h
        refine lv_aload_n hx hb dX12_operate_132 rfl (lv_at hl 0 rfl) ?_
        refine lv_iload_n hx hb dX12_operate_133 rfl (lv_at hl 2 rfl) ?_
        refine lv_iload_n hx hb dX12_operate_134 rfl (lv_at hl 3 rfl) ?_
        obtain ⟨r1, hc1, h⟩ := ob_ex h
        refine nc_Vi (As := [.int (L 2), .int (L 3)]) (rest := []) ⟨hx, hb, hml, hown, hts⟩ (c_x_plus l dC dI cy a k (upd (upd (fun _ => 0) 1 ((L 2))) 2 ((L 3))) σ r1 hc1 H.size) (cwV 2 hts g_x_operate_plus_725 rfl rfl rfl hd_x_plus ⟨Nat.le_of_ble_eq_true rfl, Nat.le_of_ble_eq_true rfl⟩) hK hG hA hP hD hS rfl hl.1 rfl (Nat.le_of_ble_eq_true rfl) dX12_operate_135 ⟨Nat.le_refl _, Nat.le_refl _⟩ (fun H locs hP hD hS => ?_)
        cases h
        exact W.iret (v := r1.1) hx hb hr (fun t ht hW => ⟨⟨r1.1, (), rfl, rfl, by rw [ht]; exact hP, va_K.moved hW.alike hK, hD⟩, hS.F ht⟩) hS.2.2 dX12_operate_138
      · intro L σ r h H locs ls hP hD hS hl
        rw [x_operate] at h
        refine lv_iload hx hb dX12_operate_139 (lv_at hl 6 rfl) ?_
        refine lv_if_eq (tgt := 152) hx hb dX12_operate_141 (by decide) (fun c1 => ?_) (fun c1 => ?_)
        · rw [if_pos c1] at h
          exact ih.2.2.2.2.2.1 L σ r h H locs ls hP hD hS (lv_sub hl [0, 1, 2, 3, 4, 5, 6] rfl)
        · rw [if_neg c1] at h
          refine lv_aload_n hx hb dX12_operate_144 rfl (lv_at hl 0 rfl) ?_
          refine lv_iload_n hx hb dX12_operate_145 rfl (lv_at hl 2 rfl) ?_
          refine lv_iload_n hx hb dX12_operate_146 rfl (lv_at hl 3 rfl) ?_
          refine lv_iconst (v := (-1)) hx hb dX12_operate_147 (by decide) ?_
          obtain ⟨r2, hc2, h⟩ := ob_ex h
          refine nc_Vi (As := [.int (L 2), .int (L 3), .int (-1)]) (rest := []) ⟨hx, hb, hml, hown, hts⟩ (c_x_add l dC dI cy a k (upd (upd (upd (fun _ => 0) 1 ((L 2))) 2 ((L 3))) 3 ((-1))) σ r2 hc2 H.size) (cwV 3 hts g_x_operate_add_728 rfl rfl rfl hd_x_add ⟨Nat.le_of_ble_eq_true rfl, Nat.le_of_ble_eq_true rfl⟩) hK hG hA hP hD hS rfl hl.1 rfl (Nat.le_of_ble_eq_true rfl) dX12_operate_148 ⟨Nat.le_refl _, Nat.le_refl _⟩ (fun H locs hP hD hS => ?_)
          cases h
          exact W.iret (v := r2.1) hx hb hr (fun t ht hW => ⟨⟨r2.1, (), rfl, rfl, by rw [ht]; exact hP, va_K.moved hW.alike hK, hD⟩, hS.F ht⟩) hS.2.2 dX12_operate_151
      · intro L σ r h H locs ls hP hD hS hl
        rw [x_operate] at h
        refine lv_iload hx hb dX12_operate_152 (lv_at hl 4 rfl) ?_
        refine lv_bipush (v := 6) hx hb dX12_operate_154 (by decide) ?_
        refine lv_icmp_ne (tgt := 176) hx hb dX12_operate_156 (by decide) (fun c1 => ?_) (fun c1 => ?_)
        · rw [if_neg c1] at h
          exact ih.2.2.2.2.2.2.1 L σ r h H locs ls hP hD hS (lv_sub hl [0, 1, 2, 3, 4, 5, 6] rfl)
        · rw [if_pos c1] at h
          refine lv_iload hx hb dX12_operate_159 (lv_at hl 5 rfl) ?_
          refine lv_bipush (v := 6) hx hb dX12_operate_161 (by decide) ?_
          refine lv_icmp_ne (tgt := 176) hx hb dX12_operate_163 (by decide) (fun c2 => ?_) (fun c2 => ?_)
          · rw [if_neg c2] at h
            exact ih.2.2.2.2.2.2.1 L σ r h H locs ls hP hD hS (lv_sub hl [0, 1, 2, 3, 4, 5, 6] rfl)
          · rw [if_pos c2] at h
            refine lv_aload_n hx hb dX12_operate_166 rfl (lv_at hl 0 rfl) ?_
            refine lv_iload_n hx hb dX12_operate_167 rfl (lv_at hl 2 rfl) ?_
            refine lv_iload_n hx hb dX12_operate_168 rfl (lv_at hl 3 rfl) ?_
            refine lv_iconst (v := 0) hx hb dX12_operate_169 (by decide) ?_
            obtain ⟨r3, hc3, h⟩ := ob_ex h
            refine nc_Vi (As := [.int (L 2), .int (L 3), .int 0]) (rest := []) ⟨hx, hb, hml, hown, hts⟩ (c_x_sift l dC dI cy a k (upd (upd (upd (fun _ => 0) 1 ((L 2))) 2 ((L 3))) 3 0) σ r3 hc3 H.size) (cwV 3 hts g_x_operate_sift_731 rfl rfl rfl hd_x_sift ⟨Nat.le_of_ble_eq_true rfl, Nat.le_of_ble_eq_true rfl⟩) hK hG hA hP hD hS rfl hl.1 rfl (Nat.le_of_ble_eq_true rfl) dX12_operate_170 ⟨Nat.le_refl _, Nat.le_refl _⟩ (fun H locs hP hD hS => ?_)
            refine lv_goto (tgt := 180) hx hb dX12_operate_173 (by decide) ?_
            exact ih.2.2.2.2.2.2.2.1 (upd L 100 r3.1) r3.2 r h H locs ls hP hD hS (lv_sub hl [0, 1, 2, 3, 4, 5, 6] rfl)
      · intro L σ r h H locs ls hP hD hS hl
        rw [x_operate] at h
        refine lv_aload_n hx hb dX12_operate_176 rfl (lv_at hl 0 rfl) ?_
        obtain ⟨r1, hc1, h⟩ := ob_ex h
        refine nc_Vi (As := []) (rest := []) ⟨hx, hb, hml, hown, hts⟩ (c_x_wrongKind l dC dI cy a k (fun _ => 0) σ r1 hc1 H.size) (cwV 0 hts g_x_operate_wrongKind_666 rfl rfl rfl hd_x_wrongKind ⟨Nat.le_of_ble_eq_true rfl, Nat.le_of_ble_eq_true rfl⟩) hK hG hA hP hD hS rfl hl.1 rfl (Nat.le_of_ble_eq_true rfl) dX12_operate_177 ⟨Nat.le_refl _, Nat.le_refl _⟩ (fun H locs hP hD hS => ?_)
        exact ih.2.2.2.2.2.2.2.1 (upd L 100 r1.1) r1.2 r h H locs ls hP hD hS (lv_sub hl [0, 1, 2, 3, 4, 5, 6] rfl)
      · intro L σ r h H locs ls hP hD hS hl
        rw [x_operate] at h
        cases h
        exact W.iret (v := (L 100)) hx hb hr (fun t ht hW => ⟨⟨(L 100), (), rfl, rfl, by rw [ht]; exact hP, va_K.moved hW.alike hK, hD⟩, hS.F ht⟩) hS.2.2 dX12_operate_180
      · intro L σ r h H locs ls hP hD hS hl
        rw [x_operate] at h
        refine lv_iload hx hb dX12_operate_181 (lv_at hl 6 rfl) ?_
        refine lv_if_eq (tgt := 193) hx hb dX12_operate_183 (by decide) (fun c1 => ?_) (fun c1 => ?_)
        · rw [if_pos c1] at h
          exact ih.2.2.2.2.2.2.2.2.2.1 L σ r h H locs ls hP hD hS (lv_sub hl [0, 1, 2, 3, 4, 5, 6] rfl)
        · rw [if_neg c1] at h
          refine lv_aload_n hx hb dX12_operate_186 rfl (lv_at hl 0 rfl) ?_
          refine lv_iload_n hx hb dX12_operate_187 rfl (lv_at hl 2 rfl) ?_
          refine lv_iload_n hx hb dX12_operate_188 rfl (lv_at hl 3 rfl) ?_
          obtain ⟨r2, hc2, h⟩ := ob_ex h
          refine nc_Vi (As := [.int (L 2), .int (L 3)]) (rest := []) ⟨hx, hb, hml, hown, hts⟩ (c_x_multiply l dC dI cy a k (upd (upd (fun _ => 0) 1 ((L 2))) 2 ((L 3))) (fun _ => 0) σ r2 hc2 H.size) (cwV 2 hts g_x_operate_multiply_735 rfl rfl rfl hd_x_multiply ⟨Nat.le_of_ble_eq_true rfl, Nat.le_of_ble_eq_true rfl⟩) hK hG hA hP hD hS rfl hl.1 rfl (Nat.le_of_ble_eq_true rfl) dX12_operate_189 ⟨Nat.le_refl _, Nat.le_refl _⟩ (fun H locs hP hD hS => ?_)
          cases h
          exact W.iret (v := r2.1) hx hb hr (fun t ht hW => ⟨⟨r2.1, (), rfl, rfl, by rw [ht]; exact hP, va_K.moved hW.alike hK, hD⟩, hS.F ht⟩) hS.2.2 dX12_operate_192
      · intro L σ r h H locs ls hP hD hS hl
        rw [x_operate] at h
        refine lv_iload hx hb dX12_operate_193 (lv_at hl 4 rfl) ?_
        refine lv_bipush (v := 6) hx hb dX12_operate_195 (by decide) ?_
        refine lv_icmp_ne (tgt := 215) hx hb dX12_operate_197 (by decide) (fun c1 => ?_) (fun c1 => ?_)
        · rw [if_neg c1] at h
          exact ih.2.2.2.2.2.2.2.2.2.2.1 L σ r h H locs ls hP hD hS (lv_sub hl [0, 1, 2, 3, 4, 5, 6] rfl)
        · rw [if_pos c1] at h
          refine lv_iload hx hb dX12_operate_200 (lv_at hl 5 rfl) ?_
          refine lv_bipush (v := 6) hx hb dX12_operate_202 (by decide) ?_
          refine lv_icmp_ne (tgt := 215) hx hb dX12_operate_204 (by decide) (fun c2 => ?_) (fun c2 => ?_)
          · rw [if_neg c2] at h
            exact ih.2.2.2.2.2.2.2.2.2.2.1 L σ r h H locs ls hP hD hS (lv_sub hl [0, 1, 2, 3, 4, 5, 6] rfl)
          · rw [if_pos c2] at h
            refine lv_aload_n hx hb dX12_operate_207 rfl (lv_at hl 0 rfl) ?_
            refine lv_iload_n hx hb dX12_operate_208 rfl (lv_at hl 2 rfl) ?_
            refine lv_iload_n hx hb dX12_operate_209 rfl (lv_at hl 3 rfl) ?_
            refine lv_iconst (v := 1) hx hb dX12_operate_210 (by decide) ?_
            obtain ⟨r3, hc3, h⟩ := ob_ex h
            refine nc_Vi (As := [.int (L 2), .int (L 3), .int 1]) (rest := []) ⟨hx, hb, hml, hown, hts⟩ (c_x_sift l dC dI cy a k (upd (upd (upd (fun _ => 0) 1 ((L 2))) 2 ((L 3))) 3 1) σ r3 hc3 H.size) (cwV 3 hts g_x_operate_sift_731 rfl rfl rfl hd_x_sift ⟨Nat.le_of_ble_eq_true rfl, Nat.le_of_ble_eq_true rfl⟩) hK hG hA hP hD hS rfl hl.1 rfl (Nat.le_of_ble_eq_true rfl) dX12_operate_211 ⟨Nat.le_refl _, Nat.le_refl _⟩ (fun H locs hP hD hS => ?_)
            cases h
            exact W.iret (v := r3.1) hx hb hr (fun t ht hW => ⟨⟨r3.1, (), rfl, rfl, by rw [ht]; exact hP, va_K.moved hW.alike hK, hD⟩, hS.F ht⟩) hS.2.2 dX12_operate_214
      · intro L σ r h H locs ls hP hD hS hl
        rw [x_operate] at h
        refine lv_iload hx hb dX12_operate_215 (lv_at hl 4 rfl) ?_
        refine lv_iconst (v := 4) hx hb dX12_operate_217 (by decide) ?_
        refine lv_icmp_eq (tgt := 227) hx hb dX12_operate_218 (by decide) (fun c1 => ?_) (fun c1 => ?_)
        · rw [if_pos c1] at h
          exact ih.2.2.2.2.2.2.2.2.2.2.2.1 L σ r h H locs ls hP hD hS (lv_sub hl [0, 1, 2, 3, 4, 5, 6] rfl)
        · rw [if_neg c1] at h
          refine lv_iload hx hb dX12_operate_221 (lv_at hl 4 rfl) ?_
          refine lv_iconst (v := 5) hx hb dX12_operate_223 (by decide) ?_
          refine lv_icmp_ne (tgt := 242) hx hb dX12_operate_224 (by decide) (fun c2 => ?_) (fun c2 => ?_)
          · rw [if_neg c2] at h
            exact ih.2.2.2.2.2.2.2.2.2.2.2.2.1 L σ r h H locs ls hP hD hS (lv_sub hl [0, 1, 2, 3, 4, 5, 6] rfl)
          · rw [if_pos c2] at h
            exact ih.2.2.2.2.2.2.2.2.2.2.2.1 L σ r h H locs ls hP hD hS (lv_sub hl [0, 1, 2, 3, 4, 5, 6] rfl)
      · intro L σ r h H locs ls hP hD hS hl
        rw [x_operate] at h
        refine lv_iload hx hb dX12_operate_227 (lv_at hl 5 rfl) ?_
        refine lv_iconst (v := 2) hx hb dX12_operate_229 (by decide) ?_
        refine lv_icmp_ne (tgt := 242) hx hb dX12_operate_230 (by decide) (fun c1 => ?_) (fun c1 => ?_)
        · rw [if_neg c1] at h
          exact ih.2.2.2.2.2.2.2.2.2.2.2.2.1 L σ r h H locs ls hP hD hS (lv_sub hl [0, 1, 2, 3, 4, 5, 6] rfl)
        · rw [if_pos c1] at h
          refine lv_aload_n hx hb dX12_operate_233 rfl (lv_at hl 0 rfl) ?_
          refine lv_iload_n hx hb dX12_operate_234 rfl (lv_at hl 2 rfl) ?_
          refine lv_iload_n hx hb dX12_operate_235 rfl (lv_at hl 3 rfl) ?_
          obtain ⟨r2, hc2, h⟩ := ob_ex h
          refine nc_Vi (As := [.int (L 2), .int (L 3)]) (rest := []) ⟨hx, hb, hml, hown, hts⟩ (c_x_repeat l dC dI cy a k (upd (upd (fun _ => 0) 1 ((L 2))) 2 ((L 3))) σ r2 hc2 H.size) (cwV 2 hts g_x_operate_repeat_738 rfl rfl rfl hd_x_repeat ⟨Nat.le_of_ble_eq_true rfl, Nat.le_of_ble_eq_true rfl⟩) hK hG hA hP hD hS rfl hl.1 rfl (Nat.le_of_ble_eq_true rfl) dX12_operate_236 ⟨Nat.le_refl _, Nat.le_refl _⟩ (fun H locs hP hD hS => ?_)
          refine lv_goto (tgt := 246) hx hb dX12_operate_239 (by decide) ?_
          exact ih.2.2.2.2.2.2.2.2.2.2.2.2.2.1 (upd L 100 r2.1) r2.2 r h H locs ls hP hD hS (lv_sub hl [0, 1, 2, 3, 4, 5, 6] rfl)
      · intro L σ r h H locs ls hP hD hS hl
        rw [x_operate] at h
        refine lv_aload_n hx hb dX12_operate_242 rfl (lv_at hl 0 rfl) ?_
        obtain ⟨r1, hc1, h⟩ := ob_ex h
        refine nc_Vi (As := []) (rest := []) ⟨hx, hb, hml, hown, hts⟩ (c_x_wrongKind l dC dI cy a k (fun _ => 0) σ r1 hc1 H.size) (cwV 0 hts g_x_operate_wrongKind_666 rfl rfl rfl hd_x_wrongKind ⟨Nat.le_of_ble_eq_true rfl, Nat.le_of_ble_eq_true rfl⟩) hK hG hA hP hD hS rfl hl.1 rfl (Nat.le_of_ble_eq_true rfl) dX12_operate_243 ⟨Nat.le_refl _, Nat.le_refl _⟩ (fun H locs hP hD hS => ?_)
        exact ih.2.2.2.2.2.2.2.2.2.2.2.2.2.1 (upd L 100 r1.1) r1.2 r h H locs ls hP hD hS (lv_sub hl [0, 1, 2, 3, 4, 5, 6] rfl)
      · intro L σ r h H locs ls hP hD hS hl
        rw [x_operate] at h
        cases h
        exact W.iret (v := (L 100)) hx hb hr (fun t ht hW => ⟨⟨(L 100), (), rfl, rfl, by rw [ht]; exact hP, va_K.moved hW.alike hK, hD⟩, hS.F ht⟩) hS.2.2 dX12_operate_246
      · intro L σ r h H locs ls hP hD hS hl
        rw [x_operate] at h
        refine lv_iload hx hb dX12_operate_247 (lv_at hl 6 rfl) ?_
        refine lv_if_eq (tgt := 261) hx hb dX12_operate_249 (by decide) (fun c1 => ?_) (fun c1 => ?_)
        · rw [if_pos c1] at h
          exact ih.2.2.2.2.2.2.2.2.2.2.2.2.2.2.2.1 L σ r h H locs ls hP hD hS (lv_sub hl [0, 1, 2, 3, 4, 5, 6] rfl)
        · rw [if_neg c1] at h
          refine lv_aload_n hx hb dX12_operate_252 rfl (lv_at hl 0 rfl) ?_
          refine lv_iload_n hx hb dX12_operate_253 rfl (lv_at hl 2 rfl) ?_
          refine lv_iload_n hx hb dX12_operate_254 rfl (lv_at hl 3 rfl) ?_
          obtain ⟨r2, hc2, h⟩ := ob_ex h
          refine nc_Vi (As := [.int (L 2), .int (L 3)]) (rest := []) ⟨hx, hb, hml, hown, hts⟩ (c_x_raise l dC dI cy a k (upd (upd (fun _ => 0) 1 ((L 2))) 2 ((L 3))) σ r2 hc2 H.size) (cwV 2 hts g_x_operate_raise_741 rfl rfl rfl hd_x_raise ⟨Nat.le_of_ble_eq_true rfl, Nat.le_of_ble_eq_true rfl⟩) hK hG hA hP hD hS rfl hl.1 rfl (Nat.le_of_ble_eq_true rfl) dX12_operate_255 ⟨Nat.le_refl _, Nat.le_refl _⟩ (fun H locs hP hD hS => ?_)
          refine lv_goto (tgt := 265) hx hb dX12_operate_258 (by decide) ?_
          exact ih.2.2.2.2.2.2.2.2.2.2.2.2.2.2.2.2.1 (upd L 100 r2.1) r2.2 r h H locs ls hP hD hS (lv_sub hl [0, 1, 2, 3, 4, 5, 6] rfl)
      · intro L σ r h H locs ls hP hD hS hl
        rw [x_operate] at h
        refine lv_aload_n hx hb dX12_operate_261 rfl (lv_at hl 0 rfl) ?_
        obtain ⟨r1, hc1, h⟩ := ob_ex h
        refine nc_Vi (As := []) (rest := []) ⟨hx, hb, hml, hown, hts⟩ (c_x_wrongKind l dC dI cy a k (fun _ => 0) σ r1 hc1 H.size) (cwV 0 hts g_x_operate_wrongKind_666 rfl rfl rfl hd_x_wrongKind ⟨Nat.le_of_ble_eq_true rfl, Nat.le_of_ble_eq_true rfl⟩) hK hG hA hP hD hS rfl hl.1 rfl (Nat.le_of_ble_eq_true rfl) dX12_operate_262 ⟨Nat.le_refl _, Nat.le_refl _⟩ (fun H locs hP hD hS => ?_)
        exact ih.2.2.2.2.2.2.2.2.2.2.2.2.2.2.2.2.1 (upd L 100 r1.1) r1.2 r h H locs ls hP hD hS (lv_sub hl [0, 1, 2, 3, 4, 5, 6] rfl)
      · intro L σ r h H locs ls hP hD hS hl
        rw [x_operate] at h
        cases h
        exact W.iret (v := (L 100)) hx hb hr (fun t ht hW => ⟨⟨(L 100), (), rfl, rfl, by rw [ht]; exact hP, va_K.moved hW.alike hK, hD⟩, hS.F ht⟩) hS.2.2 dX12_operate_265
      · intro L σ r h H locs ls hP hD hS hl
        rw [x_operate] at h
        refine lv_aload_n hx hb dX12_operate_266 rfl (lv_at hl 0 rfl) ?_
        refine lv_aload_n hx hb dX12_operate_267 rfl (lv_at hl 0 rfl) ?_
        refine lv_iload_n hx hb dX12_operate_268 rfl (lv_at hl 2 rfl) ?_
        refine lv_iload_n hx hb dX12_operate_269 rfl (lv_at hl 3 rfl) ?_
        obtain ⟨r1, hc1, h⟩ := ob_ex h
        refine nc_Vi (As := [.int (L 2), .int (L 3)]) (rest := [.ref (a 0)]) ⟨hx, hb, hml, hown, hts⟩ (c_x_compare l dC dI cy a k (upd (upd (fun _ => 0) 1 ((L 2))) 2 ((L 3))) σ r1 hc1 H.size) (cwV 2 hts g_x_operate_compare_451 rfl rfl rfl hd_x_compare ⟨Nat.le_of_ble_eq_true rfl, Nat.le_of_ble_eq_true rfl⟩) hK hG hA hP hD hS rfl hl.1 rfl (Nat.le_of_ble_eq_true rfl) dX12_operate_270 ⟨Nat.le_refl _, Nat.le_refl _⟩ (fun H locs hP hD hS => ?_)
        refine lv_if_ne (tgt := 280) hx hb dX12_operate_273 (by decide) (fun c2 => ?_) (fun c2 => ?_)
        · rw [if_neg c2] at h
          exact ih.2.2.2.2.2.2.2.2.2.2.2.2.2.2.2.2.2.2.1 L r1.2 r h H locs ls hP hD hS (lv_sub hl [0, 1, 2, 3, 4, 5, 6] rfl)
        · rw [if_pos c2] at h
          refine lv_iconst (v := 1) hx hb dX12_operate_276 (by decide) ?_
          refine lv_goto (tgt := 281) hx hb dX12_operate_277 (by decide) ?_
          exact ih.2.2.2.2.2.2.2.2.2.2.2.2.2.2.2.2.2.2.2.1 (upd L 100 1) r1.2 r h H locs ls hP hD hS (lv_sub hl [0, 1, 2, 3, 4, 5, 6] rfl)
      · intro L σ r h H locs ls hP hD hS hl
        rw [x_operate] at h
        refine lv_iconst (v := 0) hx hb dX12_operate_280 (by decide) ?_
        exact ih.2.2.2.2.2.2.2.2.2.2.2.2.2.2.2.2.2.2.2.1 (upd L 100 0) σ r h H locs ls hP hD hS (lv_sub hl [0, 1, 2, 3, 4, 5, 6] rfl)
      · intro L σ r h H locs ls hP hD hS hl
        rw [x_operate] at h
        obtain ⟨r1, hc1, h⟩ := ob_ex h
        refine nc_Vi (As := [.int (L 100)]) (rest := []) ⟨hx, hb, hml, hown, hts⟩ (c_x_truth l dC dI cy a k (upd (fun _ => 0) 1 ((L 100))) σ r1 hc1 H.size) (cwV 1 hts g_x_operate_truth_646 rfl rfl rfl hd_x_truth ⟨Nat.le_of_ble_eq_true rfl, Nat.le_of_ble_eq_true rfl⟩) hK hG hA hP hD hS rfl hl.1 rfl (Nat.le_of_ble_eq_true rfl) dX12_operate_281 ⟨Nat.le_refl _, Nat.le_refl _⟩ (fun H locs hP hD hS => ?_)
        cases h
        exact W.iret (v := r1.1) hx hb hr (fun t ht hW => ⟨⟨r1.1, (), rfl, rfl, by rw [ht]; exact hP, va_K.moved hW.alike hK, hD⟩, hS.F ht⟩) hS.2.2 dX12_operate_284
      · intro L σ r h H locs ls hP hD hS hl
        rw [x_operate] at h
        refine lv_aload_n hx hb dX12_operate_285 rfl (lv_at hl 0 rfl) ?_
        refine lv_aload_n hx hb dX12_operate_286 rfl (lv_at hl 0 rfl) ?_
        refine lv_iload_n hx hb dX12_operate_287 rfl (lv_at hl 2 rfl) ?_
        refine lv_iload_n hx hb dX12_operate_288 rfl (lv_at hl 3 rfl) ?_
        obtain ⟨r1, hc1, h⟩ := ob_ex h
        refine nc_Vi (As := [.int (L 2), .int (L 3)]) (rest := [.ref (a 0)]) ⟨hx, hb, hml, hown, hts⟩ (c_x_compare l dC dI cy a k (upd (upd (fun _ => 0) 1 ((L 2))) 2 ((L 3))) σ r1 hc1 H.size) (cwV 2 hts g_x_operate_compare_451 rfl rfl rfl hd_x_compare ⟨Nat.le_of_ble_eq_true rfl, Nat.le_of_ble_eq_true rfl⟩) hK hG hA hP hD hS rfl hl.1 rfl (Nat.le_of_ble_eq_true rfl) dX12_operate_289 ⟨Nat.le_refl _, Nat.le_refl _⟩ (fun H locs hP hD hS => ?_)
        refine lv_if_eq (tgt := 299) hx hb dX12_operate_292 (by decide) (fun c2 => ?_) (fun c2 => ?_)
        · rw [if_pos c2] at h
          exact ih.2.2.2.2.2.2.2.2.2.2.2.2.2.2.2.2.2.2.2.2.2.1 L r1.2 r h H locs ls hP hD hS (lv_sub hl [0, 1, 2, 3, 4, 5, 6] rfl)
        · rw [if_neg c2] at h
          refine lv_iconst (v := 1) hx hb dX12_operate_295 (by decide) ?_
          refine lv_goto (tgt := 300) hx hb dX12_operate_296 (by decide) ?_
          exact ih.2.2.2.2.2.2.2.2.2.2.2.2.2.2.2.2.2.2.2.2.2.2.1 (upd L 100 1) r1.2 r h H locs ls hP hD hS (lv_sub hl [0, 1, 2, 3, 4, 5, 6] rfl)
      · intro L σ r h H locs ls hP hD hS hl
        rw [x_operate] at h
        refine lv_iconst (v := 0) hx hb dX12_operate_299 (by decide) ?_
        exact ih.2.2.2.2.2.2.2.2.2.2.2.2.2.2.2.2.2.2.2.2.2.2.1 (upd L 100 0) σ r h H locs ls hP hD hS (lv_sub hl [0, 1, 2, 3, 4, 5, 6] rfl)
      · intro L σ r h H locs ls hP hD hS hl
        rw [x_operate] at h
        obtain ⟨r1, hc1, h⟩ := ob_ex h
        refine nc_Vi (As := [.int (L 100)]) (rest := []) ⟨hx, hb, hml, hown, hts⟩ (c_x_truth l dC dI cy a k (upd (fun _ => 0) 1 ((L 100))) σ r1 hc1 H.size) (cwV 1 hts g_x_operate_truth_646 rfl rfl rfl hd_x_truth ⟨Nat.le_of_ble_eq_true rfl, Nat.le_of_ble_eq_true rfl⟩) hK hG hA hP hD hS rfl hl.1 rfl (Nat.le_of_ble_eq_true rfl) dX12_operate_300 ⟨Nat.le_refl _, Nat.le_refl _⟩ (fun H locs hP hD hS => ?_)
        cases h
        exact W.iret (v := r1.1) hx hb hr (fun t ht hW => ⟨⟨r1.1, (), rfl, rfl, by rw [ht]; exact hP, va_K.moved hW.alike hK, hD⟩, hS.F ht⟩) hS.2.2 dX12_operate_303
      · intro L σ r h H locs ls hP hD hS hl
        rw [x_operate] at h
        refine lv_iload hx hb dX12_operate_304 (lv_at hl 6 rfl) ?_
        refine lv_if_eq (tgt := 319) hx hb dX12_operate_306 (by decide) (fun c1 => ?_) (fun c1 => ?_)
        · rw [if_pos c1] at h
          exact ih.2.2.2.2.2.2.2.2.2.2.2.2.2.2.2.2.2.2.2.2.2.2.2.2.1 L σ r h H locs ls hP hD hS (lv_sub hl [0, 1, 2, 3, 4, 5, 6] rfl)
        · rw [if_neg c1] at h
          refine lv_aload_n hx hb dX12_operate_309 rfl (lv_at hl 0 rfl) ?_
          refine lv_iload_n hx hb dX12_operate_310 rfl (lv_at hl 2 rfl) ?_
          refine lv_iload_n hx hb dX12_operate_311 rfl (lv_at hl 3 rfl) ?_
          refine lv_iconst (v := 0) hx hb dX12_operate_312 (by decide) ?_
          obtain ⟨r2, hc2, h⟩ := ob_ex h
          refine nc_Vi (As := [.int (L 2), .int (L 3), .int 0]) (rest := []) ⟨hx, hb, hml, hown, hts⟩ (c_x_divide l dC dI cy a k (upd (upd (upd (fun _ => 0) 1 ((L 2))) 2 ((L 3))) 3 0) σ r2 hc2 H.size) (cwV 3 hts g_x_operate_divide_744 rfl rfl rfl hd_x_divide ⟨Nat.le_of_ble_eq_true rfl, Nat.le_of_ble_eq_true rfl⟩) hK hG hA hP hD hS rfl hl.1 rfl (Nat.le_of_ble_eq_true rfl) dX12_operate_313 ⟨Nat.le_refl _, Nat.le_refl _⟩ (fun H locs hP hD hS => ?_)
          refine lv_goto (tgt := 323) hx hb dX12_operate_316 (by decide) ?_
          exact ih.2.2.2.2.2.2.2.2.2.2.2.2.2.2.2.2.2.2.2.2.2.2.2.2.2.1 (upd L 100 r2.1) r2.2 r h H locs ls hP hD hS (lv_sub hl [0, 1, 2, 3, 4, 5, 6] rfl)
      · intro L σ r h H locs ls hP hD hS hl
        rw [x_operate] at h
        refine lv_aload_n hx hb dX12_operate_319 rfl (lv_at hl 0 rfl) ?_
        obtain ⟨r1, hc1, h⟩ := ob_ex h
        refine nc_Vi (As := []) (rest := []) ⟨hx, hb, hml, hown, hts⟩ (c_x_wrongKind l dC dI cy a k (fun _ => 0) σ r1 hc1 H.size) (cwV 0 hts g_x_operate_wrongKind_666 rfl rfl rfl hd_x_wrongKind ⟨Nat.le_of_ble_eq_true rfl, Nat.le_of_ble_eq_true rfl⟩) hK hG hA hP hD hS rfl hl.1 rfl (Nat.le_of_ble_eq_true rfl) dX12_operate_320 ⟨Nat.le_refl _, Nat.le_refl _⟩ (fun H locs hP hD hS => ?_)
        exact ih.2.2.2.2.2.2.2.2.2.2.2.2.2.2.2.2.2.2.2.2.2.2.2.2.2.1 (upd L 100 r1.1) r1.2 r h H locs ls hP hD hS (lv_sub hl [0, 1, 2, 3, 4, 5, 6] rfl)
      · intro L σ r h H locs ls hP hD hS hl
        rw [x_operate] at h
        cases h
        exact W.iret (v := (L 100)) hx hb hr (fun t ht hW => ⟨⟨(L 100), (), rfl, rfl, by rw [ht]; exact hP, va_K.moved hW.alike hK, hD⟩, hS.F ht⟩) hS.2.2 dX12_operate_323
      · intro L σ r h H locs ls hP hD hS hl
        rw [x_operate] at h
        refine lv_iload hx hb dX12_operate_324 (lv_at hl 6 rfl) ?_
        refine lv_if_eq (tgt := 339) hx hb dX12_operate_326 (by decide) (fun c1 => ?_) (fun c1 => ?_)
        · rw [if_pos c1] at h
          exact ih.2.2.2.2.2.2.2.2.2.2.2.2.2.2.2.2.2.2.2.2.2.2.2.2.2.2.2.1 L σ r h H locs ls hP hD hS (lv_sub hl [0, 1, 2, 3, 4, 5, 6] rfl)
        · rw [if_neg c1] at h
          refine lv_aload_n hx hb dX12_operate_329 rfl (lv_at hl 0 rfl) ?_
          refine lv_iload_n hx hb dX12_operate_330 rfl (lv_at hl 2 rfl) ?_
          refine lv_iload_n hx hb dX12_operate_331 rfl (lv_at hl 3 rfl) ?_
          refine lv_iconst (v := 1) hx hb dX12_operate_332 (by decide) ?_
          obtain ⟨r2, hc2, h⟩ := ob_ex h
          refine nc_Vi (As := [.int (L 2), .int (L 3), .int 1]) (rest := []) ⟨hx, hb, hml, hown, hts⟩ (c_x_divide l dC dI cy a k (upd (upd (upd (fun _ => 0) 1 ((L 2))) 2 ((L 3))) 3 1) σ r2 hc2 H.size) (cwV 3 hts g_x_operate_divide_744 rfl rfl rfl hd_x_divide ⟨Nat.le_of_ble_eq_true rfl, Nat.le_of_ble_eq_true rfl⟩) hK hG hA hP hD hS rfl hl.1 rfl (Nat.le_of_ble_eq_true rfl) dX12_operate_333 ⟨Nat.le_refl _, Nat.le_refl _⟩ (fun H locs hP hD hS => ?_)
          refine lv_goto (tgt := 343) hx hb dX12_operate_336 (by decide) ?_
          exact ih.2.2.2.2.2.2.2.2.2.2.2.2.2.2.2.2.2.2.2.2.2.2.2.2.2.2.2.2.1 (upd L 100 r2.1) r2.2 r h H locs ls hP hD hS (lv_sub hl [0, 1, 2, 3, 4, 5, 6] rfl)
      · intro L σ r h H locs ls hP hD hS hl
        rw [x_operate] at h
        refine lv_aload_n hx hb dX12_operate_339 rfl (lv_at hl 0 rfl) ?_
        obtain ⟨r1, hc1, h⟩ := ob_ex h
        refine nc_Vi (As := []) (rest := []) ⟨hx, hb, hml, hown, hts⟩ (c_x_wrongKind l dC dI cy a k (fun _ => 0) σ r1 hc1 H.size) (cwV 0 hts g_x_operate_wrongKind_666 rfl rfl rfl hd_x_wrongKind ⟨Nat.le_of_ble_eq_true rfl, Nat.le_of_ble_eq_true rfl⟩) hK hG hA hP hD hS rfl hl.1 rfl (Nat.le_of_ble_eq_true rfl) dX12_operate_340 ⟨Nat.le_refl _, Nat.le_refl _⟩ (fun H locs hP hD hS => ?_)
        exact ih.2.2.2.2.2.2.2.2.2.2.2.2.2.2.2.2.2.2.2.2.2.2.2.2.2.2.2.2.1 (upd L 100 r1.1) r1.2 r h H locs ls hP hD hS (lv_sub hl [0, 1, 2, 3, 4, 5, 6] rfl)
      · intro L σ r h H locs ls hP hD hS hl
        rw [x_operate] at h
        cases h
        exact W.iret (v := (L 100)) hx hb hr (fun t ht hW => ⟨⟨(L 100), (), rfl, rfl, by rw [ht]; exact hP, va_K.moved hW.alike hK, hD⟩, hS.F ht⟩) hS.2.2 dX12_operate_343
      · intro L σ r h H locs ls hP hD hS hl
        rw [x_operate] at h
        refine lv_aload_n hx hb dX12_operate_344 rfl (lv_at hl 0 rfl) ?_
        refine lv_iload_n hx hb dX12_operate_345 rfl (lv_at hl 2 rfl) ?_
        refine lv_iload_n hx hb dX12_operate_346 rfl (lv_at hl 3 rfl) ?_
        obtain ⟨r1, hc1, h⟩ := ob_ex h
        refine nc_Vi (As := [.int (L 2), .int (L 3)]) (rest := []) ⟨hx, hb, hml, hown, hts⟩ (c_x_isIn l dC dI cy a k (upd (upd (fun _ => 0) 1 ((L 2))) 2 ((L 3))) σ r1 hc1 H.size) (cwV 2 hts g_x_operate_isIn_747 rfl rfl rfl hd_x_isIn ⟨Nat.le_of_ble_eq_true rfl, Nat.le_of_ble_eq_true rfl⟩) hK hG hA hP hD hS rfl hl.1 rfl (Nat.le_of_ble_eq_true rfl) dX12_operate_347 ⟨Nat.le_refl _, Nat.le_refl _⟩ (fun H locs hP hD hS => ?_)
        cases h
        exact W.iret (v := r1.1) hx hb hr (fun t ht hW => ⟨⟨r1.1, (), rfl, rfl, by rw [ht]; exact hP, va_K.moved hW.alike hK, hD⟩, hS.F ht⟩) hS.2.2 dX12_operate_350
      · intro L σ r h H locs ls hP hD hS hl
        rw [x_operate] at h
        refine lv_aload_n hx hb dX12_operate_351 rfl (lv_at hl 0 rfl) ?_
        refine lv_iload_n hx hb dX12_operate_352 rfl (lv_at hl 2 rfl) ?_
        refine lv_iload_n hx hb dX12_operate_353 rfl (lv_at hl 3 rfl) ?_
        obtain ⟨r1, hc1, h⟩ := ob_ex h
        refine nc_Vi (As := [.int (L 2), .int (L 3)]) (rest := []) ⟨hx, hb, hml, hown, hts⟩ (c_x_isIn l dC dI cy a k (upd (upd (fun _ => 0) 1 ((L 2))) 2 ((L 3))) σ r1 hc1 H.size) (cwV 2 hts g_x_operate_isIn_747 rfl rfl rfl hd_x_isIn ⟨Nat.le_of_ble_eq_true rfl, Nat.le_of_ble_eq_true rfl⟩) hK hG hA hP hD hS rfl hl.1 rfl (Nat.le_of_ble_eq_true rfl) dX12_operate_354 ⟨Nat.le_refl _, Nat.le_refl _⟩ (fun H locs hP hD hS => ?_)
        refine lv_istore (lv' := [(7, .int r1.1), (0, .ref (a 0)), (1, .int (L 1)), (2, .int (L 2)), (3, .int (L 3)), (4, .int (L 4)), (5, .int (L 5)), (6, .int (L 6))]) hx hb dX12_operate_357 hl (by decide) rfl (fun ls hl => ?_)
        refine lv_aload_n hx hb dX12_operate_359 rfl (lv_at hl 1 rfl) ?_
        refine lv_iload hx hb dX12_operate_360 (lv_at hl 0 rfl) ?_
        refine lv_iconst (v := 1) hx hb dX12_operate_362 (by decide) ?_
        refine lv_icmp_ne (tgt := 370) hx hb dX12_operate_363 (by decide) (fun c2 => ?_) (fun c2 => ?_)
        · rw [if_neg c2] at h
          exact ih.2.2.2.2.2.2.2.2.2.2.2.2.2.2.2.2.2.2.2.2.2.2.2.2.2.2.2.2.2.2.2.1 (upd L 7 r1.1) r1.2 r h H locs ls hP hD hS (lv_sub hl [1, 2, 3, 4, 5, 6, 7, 0] rfl)
        · rw [if_pos c2] at h
          refine lv_iconst (v := 1) hx hb dX12_operate_366 (by decide) ?_
          refine lv_goto (tgt := 371) hx hb dX12_operate_367 (by decide) ?_
          exact ih.2.2.2.2.2.2.2.2.2.2.2.2.2.2.2.2.2.2.2.2.2.2.2.2.2.2.2.2.2.2.2.2.1 (upd (upd L 7 r1.1) 100 1) r1.2 r h H locs ls hP hD hS (lv_sub hl [1, 2, 3, 4, 5, 6, 7, 0] rfl)
      · intro L σ r h H locs ls hP hD hS hl
        rw [x_operate] at h
        refine lv_iconst (v := 0) hx hb dX12_operate_370 (by decide) ?_
        exact ih.2.2.2.2.2.2.2.2.2.2.2.2.2.2.2.2.2.2.2.2.2.2.2.2.2.2.2.2.2.2.2.2.1 (upd L 100 0) σ r h H locs ls hP hD hS (lv_sub hl [0, 1, 2, 3, 4, 5, 6, 7] rfl)
      · intro L σ r h H locs ls hP hD hS hl
        rw [x_operate] at h
        obtain ⟨r1, hc1, h⟩ := ob_ex h
        refine nc_Vi (As := [.int (L 100)]) (rest := []) ⟨hx, hb, hml, hown, hts⟩ (c_x_truth l dC dI cy a k (upd (fun _ => 0) 1 ((L 100))) σ r1 hc1 H.size) (cwV 1 hts g_x_operate_truth_646 rfl rfl rfl hd_x_truth ⟨Nat.le_of_ble_eq_true rfl, Nat.le_of_ble_eq_true rfl⟩) hK hG hA hP hD hS rfl hl.1 rfl (Nat.le_of_ble_eq_true rfl) dX12_operate_371 ⟨Nat.le_refl _, Nat.le_refl _⟩ (fun H locs hP hD hS => ?_)
        cases h
        exact W.iret (v := r1.1) hx hb hr (fun t ht hW => ⟨⟨r1.1, (), rfl, rfl, by rw [ht]; exact hP, va_K.moved hW.alike hK, hD⟩, hS.F ht⟩) hS.2.2 dX12_operate_374
      · intro L σ r h H locs ls hP hD hS hl
        rw [x_operate] at h
        refine lv_iload hx hb dX12_operate_375 (lv_at hl 4 rfl) ?_
        refine lv_bipush (v := 6) hx hb dX12_operate_377 (by decide) ?_
        refine lv_icmp_ne (tgt := 402) hx hb dX12_operate_379 (by decide) (fun c1 => ?_) (fun c1 => ?_)
        · rw [if_neg c1] at h
          exact ih.2.2.2.2.2.2.2.2.2.2.2.2.2.2.2.2.2.2.2.2.2.2.2.2.2.2.2.2.2.2.2.2.2.2.1 L σ r h H locs ls hP hD hS (lv_sub hl [0, 1, 2, 3, 4, 5, 6] rfl)
        · rw [if_pos c1] at h
          refine lv_iload hx hb dX12_operate_382 (lv_at hl 5 rfl) ?_
          refine lv_bipush (v := 6) hx hb dX12_operate_384 (by decide) ?_
          refine lv_icmp_ne (tgt := 402) hx hb dX12_operate_386 (by decide) (fun c2 => ?_) (fun c2 => ?_)
          · rw [if_neg c2] at h
            exact ih.2.2.2.2.2.2.2.2.2.2.2.2.2.2.2.2.2.2.2.2.2.2.2.2.2.2.2.2.2.2.2.2.2.2.1 L σ r h H locs ls hP hD hS (lv_sub hl [0, 1, 2, 3, 4, 5, 6] rfl)
          · rw [if_pos c2] at h
            refine lv_aload_n hx hb dX12_operate_389 rfl (lv_at hl 0 rfl) ?_
            refine lv_aload_n hx hb dX12_operate_390 rfl (lv_at hl 0 rfl) ?_
            refine lv_iload_n hx hb dX12_operate_391 rfl (lv_at hl 2 rfl) ?_
            refine lv_iload_n hx hb dX12_operate_392 rfl (lv_at hl 3 rfl) ?_
            obtain ⟨r3, hc3, h⟩ := ob_ex h
            refine nc_Vi (As := [.int (L 2), .int (L 3)]) (rest := [.ref (a 0)]) ⟨hx, hb, hml, hown, hts⟩ (c_x_isSubset l dC dI cy a k (upd (upd (fun _ => 0) 1 ((L 2))) 2 ((L 3))) σ r3 hc3 H.size) (cwV 2 hts g_x_operate_isSubset_750 rfl rfl rfl hd_x_isSubset ⟨Nat.le_of_ble_eq_true rfl, Nat.le_of_ble_eq_true rfl⟩) hK hG hA hP hD hS rfl hl.1 rfl (Nat.le_of_ble_eq_true rfl) dX12_operate_393 ⟨Nat.le_refl _, Nat.le_refl _⟩ (fun H locs hP hD hS => ?_)
            obtain ⟨r4, hc4, h⟩ := ob_ex h
            refine nc_Vi (As := [.int r3.1]) (rest := []) ⟨hx, hb, hml, hown, hts⟩ (c_x_truth l dC dI cy a k (upd (fun _ => 0) 1 r3.1) r3.2 r4 hc4 H.size) (cwV 1 hts g_x_operate_truth_646 rfl rfl rfl hd_x_truth ⟨Nat.le_of_ble_eq_true rfl, Nat.le_of_ble_eq_true rfl⟩) hK hG hA hP hD hS rfl hl.1 rfl (Nat.le_of_ble_eq_true rfl) dX12_operate_396 ⟨Nat.le_refl _, Nat.le_refl _⟩ (fun H locs hP hD hS => ?_)
            refine lv_goto (tgt := 406) hx hb dX12_operate_399 (by decide) ?_
            exact ih.2.2.2.2.2.2.2.2.2.2.2.2.2.2.2.2.2.2.2.2.2.2.2.2.2.2.2.2.2.2.2.2.2.2.2.1 (upd L 100 r4.1) r4.2 r h H locs ls hP hD hS (lv_sub hl [0, 1, 2, 3, 4, 5, 6] rfl)
      · intro L σ r h H locs ls hP hD hS hl
        rw [x_operate] at h
        refine lv_aload_n hx hb dX12_operate_402 rfl (lv_at hl 0 rfl) ?_
        obtain ⟨r1, hc1, h⟩ := ob_ex h
        refine nc_Vi (As := []) (rest := []) ⟨hx, hb, hml, hown, hts⟩ (c_x_wrongKind l dC dI cy a k (fun _ => 0) σ r1 hc1 H.size) (cwV 0 hts g_x_operate_wrongKind_666 rfl rfl rfl hd_x_wrongKind ⟨Nat.le_of_ble_eq_true rfl, Nat.le_of_ble_eq_true rfl⟩) hK hG hA hP hD hS rfl hl.1 rfl (Nat.le_of_ble_eq_true rfl) dX12_operate_403 ⟨Nat.le_refl _, Nat.le_refl _⟩ (fun H locs hP hD hS => ?_)
        exact ih.2.2.2.2.2.2.2.2.2.2.2.2.2.2.2.2.2.2.2.2.2.2.2.2.2.2.2.2.2.2.2.2.2.2.2.1 (upd L 100 r1.1) r1.2 r h H locs ls hP hD hS (lv_sub hl [0, 1, 2, 3, 4, 5, 6] rfl)
      · intro L σ r h H locs ls hP hD hS hl
        rw [x_operate] at h
        cases h
        exact W.iret (v := (L 100)) hx hb hr (fun t ht hW => ⟨⟨(L 100), (), rfl, rfl, by rw [ht]; exact hP, va_K.moved hW.alike hK, hD⟩, hS.F ht⟩) hS.2.2 dX12_operate_406
      · intro L σ r h H locs ls hP hD hS hl
        rw [x_operate] at h
        refine lv_iload hx hb dX12_operate_407 (lv_at hl 6 rfl) ?_
        refine lv_if_ne (tgt := 429) hx hb dX12_operate_409 (by decide) (fun c1 => ?_) (fun c1 => ?_)
        · rw [if_neg c1] at h
          exact ih.2.2.2.2.2.2.2.2.2.2.2.2.2.2.2.2.2.2.2.2.2.2.2.2.2.2.2.2.2.2.2.2.2.2.2.2.2.2.1 L σ r h H locs ls hP hD hS (lv_sub hl [0, 1, 2, 3, 4, 5, 6] rfl)
        · rw [if_pos c1] at h
          refine lv_iload hx hb dX12_operate_412 (lv_at hl 4 rfl) ?_
          refine lv_iconst (v := 4) hx hb dX12_operate_414 (by decide) ?_
          refine lv_icmp_ne (tgt := 424) hx hb dX12_operate_415 (by decide) (fun c2 => ?_) (fun c2 => ?_)
          · rw [if_neg c2] at h
            exact ih.2.2.2.2.2.2.2.2.2.2.2.2.2.2.2.2.2.2.2.2.2.2.2.2.2.2.2.2.2.2.2.2.2.2.2.2.2.1 L σ r h H locs ls hP hD hS (lv_sub hl [0, 1, 2, 3, 4, 5, 6] rfl)
          · rw [if_pos c2] at h
            refine lv_iload hx hb dX12_operate_418 (lv_at hl 5 rfl) ?_
            refine lv_iconst (v := 4) hx hb dX12_operate_420 (by decide) ?_
            refine lv_icmp_eq (tgt := 429) hx hb dX12_operate_421 (by decide) (fun c3 => ?_) (fun c3 => ?_)
            · rw [if_pos c3] at h
              exact ih.2.2.2.2.2.2.2.2.2.2.2.2.2.2.2.2.2.2.2.2.2.2.2.2.2.2.2.2.2.2.2.2.2.2.2.2.2.2.1 L σ r h H locs ls hP hD hS (lv_sub hl [0, 1, 2, 3, 4, 5, 6] rfl)
            · rw [if_neg c3] at h
              exact ih.2.2.2.2.2.2.2.2.2.2.2.2.2.2.2.2.2.2.2.2.2.2.2.2.2.2.2.2.2.2.2.2.2.2.2.2.2.1 L σ r h H locs ls hP hD hS (lv_sub hl [0, 1, 2, 3, 4, 5, 6] rfl)
      · intro L σ r h H locs ls hP hD hS hl
        rw [x_operate] at h
        refine lv_aload_n hx hb dX12_operate_424 rfl (lv_at hl 0 rfl) ?_
        obtain ⟨r1, hc1, h⟩ := ob_ex h
        refine nc_Vi (As := []) (rest := []) ⟨hx, hb, hml, hown, hts⟩ (c_x_wrongKind l dC dI cy a k (fun _ => 0) σ r1 hc1 H.size) (cwV 0 hts g_x_operate_wrongKind_666 rfl rfl rfl hd_x_wrongKind ⟨Nat.le_of_ble_eq_true rfl, Nat.le_of_ble_eq_true rfl⟩) hK hG hA hP hD hS rfl hl.1 rfl (Nat.le_of_ble_eq_true rfl) dX12_operate_425 ⟨Nat.le_refl _, Nat.le_refl _⟩ (fun H locs hP hD hS => ?_)
        cases h
        exact W.iret (v := r1.1) hx hb hr (fun t ht hW => ⟨⟨r1.1, (), rfl, rfl, by rw [ht]; exact hP, va_K.moved hW.alike hK, hD⟩, hS.F ht⟩) hS.2.2 dX12_operate_428
      · intro L σ r h H locs ls hP hD hS hl
        rw [x_operate] at h
        refine lv_aload_n hx hb dX12_operate_429 rfl (lv_at hl 0 rfl) ?_
        refine lv_iload_n hx hb dX12_operate_430 rfl (lv_at hl 2 rfl) ?_
        refine lv_iload_n hx hb dX12_operate_431 rfl (lv_at hl 3 rfl) ?_
        obtain ⟨r1, hc1, h⟩ := ob_ex h
        refine nc_Vi (As := [.int (L 2), .int (L 3)]) (rest := []) ⟨hx, hb, hml, hown, hts⟩ (c_x_compare l dC dI cy a k (upd (upd (fun _ => 0) 1 ((L 2))) 2 ((L 3))) σ r1 hc1 H.size) (cwV 2 hts g_x_operate_compare_451 rfl rfl rfl hd_x_compare ⟨Nat.le_of_ble_eq_true rfl, Nat.le_of_ble_eq_true rfl⟩) hK hG hA hP hD hS rfl hl.1 rfl (Nat.le_of_ble_eq_true rfl) dX12_operate_432 ⟨Nat.le_refl _, Nat.le_refl _⟩ (fun H locs hP hD hS => ?_)
        refine lv_istore (lv' := [(7, .int r1.1), (0, .ref (a 0)), (1, .int (L 1)), (2, .int (L 2)), (3, .int (L 3)), (4, .int (L 4)), (5, .int (L 5)), (6, .int (L 6))]) hx hb dX12_operate_435 hl (by decide) rfl (fun ls hl => ?_)
        refine lv_aload_n hx hb dX12_operate_437 rfl (lv_at hl 1 rfl) ?_
        refine lv_iload_n hx hb dX12_operate_438 rfl (lv_at hl 2 rfl) ?_
        refine lv_bipush (v := 19) hx hb dX12_operate_439 (by decide) ?_
        refine lv_icmp_ne (tgt := 457) hx hb dX12_operate_441 (by decide) (fun c2 => ?_) (fun c2 => ?_)
        · rw [if_neg c2] at h
          exact ih.2.2.2.2.2.2.2.2.2.2.2.2.2.2.2.2.2.2.2.2.2.2.2.2.2.2.2.2.2.2.2.2.2.2.2.2.2.2.2.2.1 (upd L 7 r1.1) r1.2 r h H locs ls hP hD hS (lv_sub hl [1, 2, 3, 4, 5, 6, 7, 0] rfl)
        · rw [if_pos c2] at h
          refine lv_iload hx hb dX12_operate_444 (lv_at hl 0 rfl) ?_
          refine lv_if_ge (tgt := 453) hx hb dX12_operate_446 (by decide) (fun c3 => ?_) (fun c3 => ?_)
          · rw [if_pos c3] at h
            exact ih.2.2.2.2.2.2.2.2.2.2.2.2.2.2.2.2.2.2.2.2.2.2.2.2.2.2.2.2.2.2.2.2.2.2.2.2.2.2.2.1 (upd L 7 r1.1) r1.2 r h H locs ls hP hD hS (lv_sub hl [1, 2, 3, 4, 5, 6, 7, 0] rfl)
          · rw [if_neg c3] at h
            refine lv_iconst (v := 1) hx hb dX12_operate_449 (by decide) ?_
            refine lv_goto (tgt := 505) hx hb dX12_operate_450 (by decide) ?_
            exact ih.2.2.2.2.2.2.2.2.2.2.2.2.2.2.2.2.2.2.2.2.2.2.2.2.2.2.2.2.2.2.2.2.2.2.2.2.2.2.2.2.2.2.2.2.2.2 (upd (upd L 7 r1.1) 100 1) r1.2 r h H locs ls hP hD hS (lv_sub hl [1, 2, 3, 4, 5, 6, 7, 0] rfl)
      · intro L σ r h H locs ls hP hD hS hl
        rw [x_operate] at h
        refine lv_iconst (v := 0) hx hb dX12_operate_453 (by decide) ?_
        refine lv_goto (tgt := 505) hx hb dX12_operate_454 (by decide) ?_
        exact ih.2.2.2.2.2.2.2.2.2.2.2.2.2.2.2.2.2.2.2.2.2.2.2.2.2.2.2.2.2.2.2.2.2.2.2.2.2.2.2.2.2.2.2.2.2.2 (upd L 100 0) σ r h H locs ls hP hD hS (lv_sub hl [0, 1, 2, 3, 4, 5, 6, 7] rfl)
      · intro L σ r h H locs ls hP hD hS hl
        rw [x_operate] at h
        refine lv_iload_n hx hb dX12_operate_457 rfl (lv_at hl 1 rfl) ?_
        refine lv_bipush (v := 20) hx hb dX12_operate_458 (by decide) ?_
        refine lv_icmp_ne (tgt := 476) hx hb dX12_operate_460 (by decide) (fun c1 => ?_) (fun c1 => ?_)
        · rw [if_neg c1] at h
          exact ih.2.2.2.2.2.2.2.2.2.2.2.2.2.2.2.2.2.2.2.2.2.2.2.2.2.2.2.2.2.2.2.2.2.2.2.2.2.2.2.2.2.2.1 L σ r h H locs ls hP hD hS (lv_sub hl [0, 1, 2, 3, 4, 5, 6, 7] rfl)
        · rw [if_pos c1] at h
          refine lv_iload hx hb dX12_operate_463 (lv_at hl 7 rfl) ?_
          refine lv_if_gt (tgt := 472) hx hb dX12_operate_465 (by decide) (fun c2 => ?_) (fun c2 => ?_)
          · rw [if_pos c2] at h
            exact ih.2.2.2.2.2.2.2.2.2.2.2.2.2.2.2.2.2.2.2.2.2.2.2.2.2.2.2.2.2.2.2.2.2.2.2.2.2.2.2.2.2.1 L σ r h H locs ls hP hD hS (lv_sub hl [0, 1, 2, 3, 4, 5, 6, 7] rfl)
          · rw [if_neg c2] at h
            refine lv_iconst (v := 1) hx hb dX12_operate_468 (by decide) ?_
            refine lv_goto (tgt := 505) hx hb dX12_operate_469 (by decide) ?_
            exact ih.2.2.2.2.2.2.2.2.2.2.2.2.2.2.2.2.2.2.2.2.2.2.2.2.2.2.2.2.2.2.2.2.2.2.2.2.2.2.2.2.2.2.2.2.2.2 (upd L 100 1) σ r h H locs ls hP hD hS (lv_sub hl [0, 1, 2, 3, 4, 5, 6, 7] rfl)
      · intro L σ r h H locs ls hP hD hS hl
        rw [x_operate] at h
        refine lv_iconst (v := 0) hx hb dX12_operate_472 (by decide) ?_
        refine lv_goto (tgt := 505) hx hb dX12_operate_473 (by decide) ?_
        exact ih.2.2.2.2.2.2.2.2.2.2.2.2.2.2.2.2.2.2.2.2.2.2.2.2.2.2.2.2.2.2.2.2.2.2.2.2.2.2.2.2.2.2.2.2.2.2 (upd L 100 0) σ r h H locs ls hP hD hS (lv_sub hl [0, 1, 2, 3, 4, 5, 6, 7] rfl)
      · intro L σ r h H locs ls hP hD hS hl
        rw [x_operate] at h
        refine lv_iload_n hx hb dX12_operate_476 rfl (lv_at hl 1 rfl) ?_
        refine lv_bipush (v := 21) hx hb dX12_operate_477 (by decide) ?_
        refine lv_icmp_ne (tgt := 495) hx hb dX12_operate_479 (by decide) (fun c1 => ?_) (fun c1 => ?_)
        · rw [if_neg c1] at h
          exact ih.2.2.2.2.2.2.2.2.2.2.2.2.2.2.2.2.2.2.2.2.2.2.2.2.2.2.2.2.2.2.2.2.2.2.2.2.2.2.2.2.2.2.2.2.1 L σ r h H locs ls hP hD hS (lv_sub hl [0, 1, 2, 3, 4, 5, 6, 7] rfl)
        · rw [if_pos c1] at h
          refine lv_iload hx hb dX12_operate_482 (lv_at hl 7 rfl) ?_
          refine lv_if_le (tgt := 491) hx hb dX12_operate_484 (by decide) (fun c2 => ?_) (fun c2 => ?_)
          · rw [if_pos c2] at h
            exact ih.2.2.2.2.2.2.2.2.2.2.2.2.2.2.2.2.2.2.2.2.2.2.2.2.2.2.2.2.2.2.2.2.2.2.2.2.2.2.2.2.2.2.2.1 L σ r h H locs ls hP hD hS (lv_sub hl [0, 1, 2, 3, 4, 5, 6, 7] rfl)
          · rw [if_neg c2] at h
            refine lv_iconst (v := 1) hx hb dX12_operate_487 (by decide) ?_
            refine lv_goto (tgt := 505) hx hb dX12_operate_488 (by decide) ?_
            exact ih.2.2.2.2.2.2.2.2.2.2.2.2.2.2.2.2.2.2.2.2.2.2.2.2.2.2.2.2.2.2.2.2.2.2.2.2.2.2.2.2.2.2.2.2.2.2 (upd L 100 1) σ r h H locs ls hP hD hS (lv_sub hl [0, 1, 2, 3, 4, 5, 6, 7] rfl)
      · intro L σ r h H locs ls hP hD hS hl
        rw [x_operate] at h
        refine lv_iconst (v := 0) hx hb dX12_operate_491 (by decide) ?_
        refine lv_goto (tgt := 505) hx hb dX12_operate_492 (by decide) ?_
        exact ih.2.2.2.2.2.2.2.2.2.2.2.2.2.2.2.2.2.2.2.2.2.2.2.2.2.2.2.2.2.2.2.2.2.2.2.2.2.2.2.2.2.2.2.2.2.2 (upd L 100 0) σ r h H locs ls hP hD hS (lv_sub hl [0, 1, 2, 3, 4, 5, 6, 7] rfl)
      · intro L σ r h H locs ls hP hD hS hl
        rw [x_operate] at h
        refine lv_iload hx hb dX12_operate_495 (lv_at hl 7 rfl) ?_
        refine lv_if_lt (tgt := 504) hx hb dX12_operate_497 (by decide) (fun c1 => ?_) (fun c1 => ?_)
        · rw [if_pos c1] at h
          exact ih.2.2.2.2.2.2.2.2.2.2.2.2.2.2.2.2.2.2.2.2.2.2.2.2.2.2.2.2.2.2.2.2.2.2.2.2.2.2.2.2.2.2.2.2.2.1 L σ r h H locs ls hP hD hS (lv_sub hl [0, 1, 2, 3, 4, 5, 6, 7] rfl)
        · rw [if_neg c1] at h
          refine lv_iconst (v := 1) hx hb dX12_operate_500 (by decide) ?_
          refine lv_goto (tgt := 505) hx hb dX12_operate_501 (by decide) ?_
          exact ih.2.2.2.2.2.2.2.2.2.2.2.2.2.2.2.2.2.2.2.2.2.2.2.2.2.2.2.2.2.2.2.2.2.2.2.2.2.2.2.2.2.2.2.2.2.2 (upd L 100 1) σ r h H locs ls hP hD hS (lv_sub hl [0, 1, 2, 3, 4, 5, 6, 7] rfl)
      · intro L σ r h H locs ls hP hD hS hl
        rw [x_operate] at h
        refine lv_iconst (v := 0) hx hb dX12_operate_504 (by decide) ?_
        exact ih.2.2.2.2.2.2.2.2.2.2.2.2.2.2.2.2.2.2.2.2.2.2.2.2.2.2.2.2.2.2.2.2.2.2.2.2.2.2.2.2.2.2.2.2.2.2 (upd L 100 0) σ r h H locs ls hP hD hS (lv_sub hl [0, 1, 2, 3, 4, 5, 6, 7] rfl)
      · intro L σ r h H locs ls hP hD hS hl
        rw [x_operate] at h
        obtain ⟨r1, hc1, h⟩ := ob_ex h
        refine nc_Vi (As := [.int (L 100)]) (rest := []) ⟨hx, hb, hml, hown, hts⟩ (c_x_truth l dC dI cy a k (upd (fun _ => 0) 1 ((L 100))) σ r1 hc1 H.size) (cwV 1 hts g_x_operate_truth_646 rfl rfl rfl hd_x_truth ⟨Nat.le_of_ble_eq_true rfl, Nat.le_of_ble_eq_true rfl⟩) hK hG hA hP hD hS rfl hl.1 rfl (Nat.le_of_ble_eq_true rfl) dX12_operate_505 ⟨Nat.le_refl _, Nat.le_refl _⟩ (fun H locs hP hD hS => ?_)
        cases h
        exact W.iret (v := r1.1) hx hb hr (fun t ht hW => ⟨⟨r1.1, (), rfl, rfl, by rw [ht]; exact hP, va_K.moved hW.alike hK, hD⟩, hS.F ht⟩) hS.2.2 dX12_operate_508
  exact (blk k0).1 L0 σ0 r0 h0 s.heap [] ls hP hD hS hl
/-! reduce -/
def x_reduce : Nat → Nat → (Nat → Int32) → MS → Option (Int32 × MS)
  | 0, _, _, _ => none
  | k + 1, 0, L, σ => ob (x_kind k 0 (upd (fun _ => 0) 1 ((L 2))) σ) (fun r1 => if r1.1 = 6 then (x_reduce k 1 (upd L 3 r1.1) r1.2) else (if r1.1 = 5 then (x_reduce k 1 (upd L 3 r1.1) r1.2) else (ob (x_wrongKind k 0 (fun _ => 0) r1.2) (fun r4 => some (r4.1, r4.2)))))
  | k + 1, 1, L, σ => if ¬ (((((L 2)) + 1)) < 0 ∨ 1740000 ≤ ((((L 2)) + 1)).toNatClampNeg) then (if ((σ.2.2 28 ((((L 2)) + 1)).toNatClampNeg)) = 0 then (some (0, σ)) else (x_reduce k 2 (upd L 4 ((σ.2.2 28 ((((L 2)) + 1)).toNatClampNeg))) σ)) else none
  | k + 1, 2, L, σ => ob (x_push k 0 (upd (fun _ => 0) 1 ((L 2))) σ) (fun r1 => if ¬ (((((L 2)) + 4)) < 0 ∨ 1740000 ≤ ((((L 2)) + 4)).toNatClampNeg) then (ob (x_push k 0 (upd (fun _ => 0) 1 ((r1.2.2.2 28 ((((L 2)) + 4)).toNatClampNeg))) r1.2) (fun r3 => x_reduce k 3 (upd (upd L 5 ((σ.1 59))) 6 1) r3.2)) else none)
  | k + 1, 3, L, σ => if ((L 4)) ≤ ((L 6)) then (x_reduce k 14 L σ) else (if ((σ.1 56)) = 0 then (ob (x_sweep k 0 (upd (fun _ => 0) 1 780000) σ) (fun r3 => if ¬ (((((L 5)) + 1)) < 0 ∨ 185000 ≤ ((((L 5)) + 1)).toNatClampNeg) then (if ¬ (((L 5)) < 0 ∨ 185000 ≤ ((L 5)).toNatClampNeg) then (if ¬ (((((((r3.2.2.2 29 ((L 5)).toNatClampNeg)) + 4)) + ((L 6)))) < 0 ∨ 1740000 ≤ ((((((r3.2.2.2 29 ((L 5)).toNatClampNeg)) + 4)) + ((L 6)))).toNatClampNeg) then (if ((L 1)) = 2 then (x_reduce k 4 (upd (upd L 7 ((r3.2.2.2 29 ((((L 5)) + 1)).toNatClampNeg))) 8 ((r3.2.2.2 28 ((((((r3.2.2.2 29 ((L 5)).toNatClampNeg)) + 4)) + ((L 6)))).toNatClampNeg))) r3.2) else (if ((L 1)) = 4 then (x_reduce k 4 (upd (upd L 7 ((r3.2.2.2 29 ((((L 5)) + 1)).toNatClampNeg))) 8 ((r3.2.2.2 28 ((((((r3.2.2.2 29 ((L 5)).toNatClampNeg)) + 4)) + ((L 6)))).toNatClampNeg))) r3.2) else (x_reduce k 5 (upd (upd L 7 ((r3.2.2.2 29 ((((L 5)) + 1)).toNatClampNeg))) 8 ((r3.2.2.2 28 ((((((r3.2.2.2 29 ((L 5)).toNatClampNeg)) + 4)) + ((L 6)))).toNatClampNeg))) r3.2))) else none) else none) else none)) else (x_reduce k 14 L σ))
  | k + 1, 4, L, σ => ob (x_operate k 0 (upd (upd (upd (fun _ => 0) 1 ((L 1))) 2 ((L 7))) 3 ((L 8))) σ) (fun r1 => ob (x_answer k 0 (upd (fun _ => 0) 1 r1.1) r1.2) (fun r2 => x_reduce k 12 (upd L 7 r2.1) r2.2))
  | k + 1, 5, L, σ => ob (x_operate k 0 (upd (upd (upd (fun _ => 0) 1 19) 2 ((L 7))) 3 ((L 8))) σ) (fun r1 => if ((L 1)) = 149 then (x_reduce k 7 (upd (upd L 9 r1.1) 100 1) r1.2) else (x_reduce k 6 (upd L 9 r1.1) r1.2))
  | k + 1, 6, L, σ => x_reduce k 7 (upd L 100 0) σ
  | k + 1, 7, L, σ => if ((σ.1 56)) = 0 then (if ((L 100)) = 0 then (x_reduce k 8 (upd L 10 ((L 100))) σ) else (if ((L 9)) = 2 then (x_reduce k 9 (upd L 10 ((L 100))) σ) else (x_reduce k 10 (upd L 10 ((L 100))) σ))) else (x_reduce k 10 (upd L 10 ((L 100))) σ)
  | k + 1, 8, L, σ => ob (x_operate k 0 (upd (upd (upd (fun _ => 0) 1 19) 2 ((L 8))) 3 ((L 7))) σ) (fun r1 => if r1.1 = 2 then (x_reduce k 9 L r1.2) else (x_reduce k 10 L r1.2))
  | k + 1, 9, L, σ => x_reduce k 11 (upd L 100 ((L 8))) σ
  | k + 1, 10, L, σ => x_reduce k 11 (upd L 100 ((L 7))) σ
  | k + 1, 11, L, σ => x_reduce k 12 (upd L 7 ((L 100))) σ
  | k + 1, 12, L, σ => if ¬ (((((L 5)) + 1)) < 0 ∨ 185000 ≤ ((((L 5)) + 1)).toNatClampNeg) then (x_reduce k 13 L (σ.1, σ.2.1, updG σ.2.2 29 (upd (σ.2.2 29) ((((L 5)) + 1)).toNatClampNeg ((L 7))))) else none
  | k + 1, 13, L, σ => x_reduce k 3 (upd L 6 (((L 6)) + 1)) σ
  | k + 1, 14, L, σ => x_reduce k 15 L (upd σ.1 59 ((L 5)), σ.2.1, σ.2.2)
  | k + 1, 15, L, σ => if ((σ.1 56)) = 0 then (if ¬ (((((L 5)) + 1)) < 0 ∨ 185000 ≤ ((((L 5)) + 1)).toNatClampNeg) then (x_reduce k 17 (upd L 100 ((σ.2.2 29 ((((L 5)) + 1)).toNatClampNeg))) σ) else none) else (x_reduce k 16 L σ)
  | k + 1, 16, L, σ => x_reduce k 17 (upd L 100 0) σ
  | k + 1, 17, L, σ => some ((L 100), σ)
  | _ + 1, _ + 18, _, _ => none
def o_x_reduce : List Cond := [.methodLink RX12 545 yX12_kind, .instanceMethod yX12_kind, .selects RX12 yX12_kind yX12_kind, .initialized RX12, .methodLink RX12 666 yX12_wrongKind, .instanceMethod yX12_wrongKind, .selects RX12 yX12_wrongKind yX12_wrongKind, .fieldLink RX12 372 "SetHouseModel" "heap" "[I", .fieldLink RX12 385 "SetHouseModel" "top" "I", .methodLink RX12 594 yX12_push, .instanceMethod yX12_push, .selects RX12 yX12_push yX12_push, .fieldLink RX12 362 "SetHouseModel" "err" "I", .constant RX12 584 (780000), .methodLink RX12 585 yX12_sweep, .instanceMethod yX12_sweep, .selects RX12 yX12_sweep yX12_sweep, .fieldLink RX12 382 "SetHouseModel" "pile" "[I", .methodLink RX12 659 yX12_operate, .instanceMethod yX12_operate, .selects RX12 yX12_operate yX12_operate, .methodLink RX12 591 yX12_answer, .instanceMethod yX12_answer, .selects RX12 yX12_answer yX12_answer]
theorem o_x_reduce_good : o_x_reduce.all goodWord = true := by decide +kernel
def p_x_reduce : List Cond := o_x_reduce ++ ((.code yX12_kind cX12_kind 2 (some .int) :: p_x_kind) ++ ((.code yX12_wrongKind cX12_wrongKind 1 (some .int) :: p_x_wrongKind) ++ ((.code yX12_push cX12_push 2 none :: p_x_push) ++ ((.code yX12_sweep cX12_sweep 5 none :: p_x_sweep) ++ ((.code yX12_operate cX12_operate 8 (some .int) :: p_x_operate) ++ ((.code yX12_answer cX12_answer 2 (some .int) :: p_x_answer) ++ []))))))
theorem p_x_reduce_good : p_x_reduce.all goodWord = true := nb_all2 o_x_reduce_good (nb_all2 (nb_allc (by decide +kernel) p_x_kind_good) (nb_all2 (nb_allc (by decide +kernel) p_x_wrongKind_good) (nb_all2 (nb_allc (by decide +kernel) p_x_push_good) (nb_all2 (nb_allc (by decide +kernel) p_x_sweep_good) (nb_all2 (nb_allc (by decide +kernel) p_x_operate_good) (nb_all2 (nb_allc (by decide +kernel) p_x_answer_good) rfl))))))
def w_x_reduce : List Cond := .code yX12_reduce cX12_reduce 11 (some .int) :: (p_x_reduce ++ fM)
theorem w_x_reduce_good : w_x_reduce.all goodWord = true := nb_allc (by decide +kernel) (nb_all2 p_x_reduce_good fM_good)
theorem in_x_reduce : ∀ w ∈ wsX120, w ∈ w_x_reduce := fun _ h => List.mem_cons_of_mem _ (List.mem_append_right _ h)
theorem hd_x_reduce : yX12_reduce.cls = RX12 ∧ yX12_reduce.cls ≠ "java/lang/invoke/MethodHandle" ∧ yX12_reduce.cls ≠ "java/lang/invoke/VarHandle" ∧ (parseMethodDescriptor yX12_reduce.desc).map (fun d => d.parameters.length) = some 2 := by decide +kernel
theorem gg_x_reduce_answer : GoodIn w_x_reduce w_x_answer := goodIn_sub (fun w h => (List.mem_cons.mp h).elim (fun e => (List.mem_cons_of_mem _ (List.mem_append_left _ (List.mem_append_right _ (List.mem_append_right _ (List.mem_append_right _ (List.mem_append_right _ (List.mem_append_right _ (List.mem_append_right _ (List.mem_append_left _ (List.mem_cons.mpr (Or.inl e)))))))))))) (fun h => (List.mem_append.mp h).elim (fun h => (List.mem_cons_of_mem _ (List.mem_append_left _ (List.mem_append_right _ (List.mem_append_right _ (List.mem_append_right _ (List.mem_append_right _ (List.mem_append_right _ (List.mem_append_right _ (List.mem_append_left _ (List.mem_cons_of_mem _ h))))))))))) (fun h => List.mem_cons_of_mem _ (List.mem_append_right _ h)))) w_x_answer_good
theorem g_x_reduce_answer_591 : GoodIn w_x_reduce (wsV RX12 591 RX12 yX12_answer w_x_answer) := goodIn_app (nb_g4 (List.mem_cons_of_mem _ (List.mem_append_left _ (List.mem_append_left _ (List.mem_of_getElem? (i := 21) rfl)))) (List.mem_cons_of_mem _ (List.mem_append_left _ (List.mem_append_left _ (List.mem_of_getElem? (i := 22) rfl)))) (List.mem_cons_of_mem _ (List.mem_append_left _ (List.mem_append_left _ (List.mem_of_getElem? (i := 23) rfl)))) (List.mem_cons_of_mem _ (List.mem_append_left _ (List.mem_append_left _ (List.mem_of_getElem? (i := 3) rfl)))) (by decide +kernel)) gg_x_reduce_answer
theorem gg_x_reduce_kind : GoodIn w_x_reduce w_x_kind := goodIn_sub (fun w h => (List.mem_cons.mp h).elim (fun e => (List.mem_cons_of_mem _ (List.mem_append_left _ (List.mem_append_right _ (List.mem_append_left _ (List.mem_cons.mpr (Or.inl e))))))) (fun h => (List.mem_append.mp h).elim (fun h => (List.mem_cons_of_mem _ (List.mem_append_left _ (List.mem_append_right _ (List.mem_append_left _ (List.mem_cons_of_mem _ h)))))) (fun h => List.mem_cons_of_mem _ (List.mem_append_right _ h)))) w_x_kind_good
theorem g_x_reduce_kind_545 : GoodIn w_x_reduce (wsV RX12 545 RX12 yX12_kind w_x_kind) := goodIn_app (nb_g4 (List.mem_cons_of_mem _ (List.mem_append_left _ (List.mem_append_left _ (List.mem_of_getElem? (i := 0) rfl)))) (List.mem_cons_of_mem _ (List.mem_append_left _ (List.mem_append_left _ (List.mem_of_getElem? (i := 1) rfl)))) (List.mem_cons_of_mem _ (List.mem_append_left _ (List.mem_append_left _ (List.mem_of_getElem? (i := 2) rfl)))) (List.mem_cons_of_mem _ (List.mem_append_left _ (List.mem_append_left _ (List.mem_of_getElem? (i := 3) rfl)))) (by decide +kernel)) gg_x_reduce_kind
theorem gg_x_reduce_operate : GoodIn w_x_reduce w_x_operate := goodIn_sub (fun w h => (List.mem_cons.mp h).elim (fun e => (List.mem_cons_of_mem _ (List.mem_append_left _ (List.mem_append_right _ (List.mem_append_right _ (List.mem_append_right _ (List.mem_append_right _ (List.mem_append_right _ (List.mem_append_left _ (List.mem_cons.mpr (Or.inl e))))))))))) (fun h => (List.mem_append.mp h).elim (fun h => (List.mem_cons_of_mem _ (List.mem_append_left _ (List.mem_append_right _ (List.mem_append_right _ (List.mem_append_right _ (List.mem_append_right _ (List.mem_append_right _ (List.mem_append_left _ (List.mem_cons_of_mem _ h)))))))))) (fun h => List.mem_cons_of_mem _ (List.mem_append_right _ h)))) w_x_operate_good
theorem g_x_reduce_operate_659 : GoodIn w_x_reduce (wsV RX12 659 RX12 yX12_operate w_x_operate) := goodIn_app (nb_g4 (List.mem_cons_of_mem _ (List.mem_append_left _ (List.mem_append_left _ (List.mem_of_getElem? (i := 18) rfl)))) (List.mem_cons_of_mem _ (List.mem_append_left _ (List.mem_append_left _ (List.mem_of_getElem? (i := 19) rfl)))) (List.mem_cons_of_mem _ (List.mem_append_left _ (List.mem_append_left _ (List.mem_of_getElem? (i := 20) rfl)))) (List.mem_cons_of_mem _ (List.mem_append_left _ (List.mem_append_left _ (List.mem_of_getElem? (i := 3) rfl)))) (by decide +kernel)) gg_x_reduce_operate
theorem gg_x_reduce_push : GoodIn w_x_reduce w_x_push := goodIn_sub (fun w h => (List.mem_cons.mp h).elim (fun e => (List.mem_cons_of_mem _ (List.mem_append_left _ (List.mem_append_right _ (List.mem_append_right _ (List.mem_append_right _ (List.mem_append_left _ (List.mem_cons.mpr (Or.inl e))))))))) (fun h => (List.mem_append.mp h).elim (fun h => (List.mem_cons_of_mem _ (List.mem_append_left _ (List.mem_append_right _ (List.mem_append_right _ (List.mem_append_right _ (List.mem_append_left _ (List.mem_cons_of_mem _ h)))))))) (fun h => List.mem_cons_of_mem _ (List.mem_append_right _ h)))) w_x_push_good
theorem g_x_reduce_push_594 : GoodIn w_x_reduce (wsV RX12 594 RX12 yX12_push w_x_push) := goodIn_app (nb_g4 (List.mem_cons_of_mem _ (List.mem_append_left _ (List.mem_append_left _ (List.mem_of_getElem? (i := 9) rfl)))) (List.mem_cons_of_mem _ (List.mem_append_left _ (List.mem_append_left _ (List.mem_of_getElem? (i := 10) rfl)))) (List.mem_cons_of_mem _ (List.mem_append_left _ (List.mem_append_left _ (List.mem_of_getElem? (i := 11) rfl)))) (List.mem_cons_of_mem _ (List.mem_append_left _ (List.mem_append_left _ (List.mem_of_getElem? (i := 3) rfl)))) (by decide +kernel)) gg_x_reduce_push
theorem gg_x_reduce_sweep : GoodIn w_x_reduce w_x_sweep := goodIn_sub (fun w h => (List.mem_cons.mp h).elim (fun e => (List.mem_cons_of_mem _ (List.mem_append_left _ (List.mem_append_right _ (List.mem_append_right _ (List.mem_append_right _ (List.mem_append_right _ (List.mem_append_left _ (List.mem_cons.mpr (Or.inl e)))))))))) (fun h => (List.mem_append.mp h).elim (fun h => (List.mem_cons_of_mem _ (List.mem_append_left _ (List.mem_append_right _ (List.mem_append_right _ (List.mem_append_right _ (List.mem_append_right _ (List.mem_append_left _ (List.mem_cons_of_mem _ h))))))))) (fun h => List.mem_cons_of_mem _ (List.mem_append_right _ h)))) w_x_sweep_good
theorem g_x_reduce_sweep_585 : GoodIn w_x_reduce (wsV RX12 585 RX12 yX12_sweep w_x_sweep) := goodIn_app (nb_g4 (List.mem_cons_of_mem _ (List.mem_append_left _ (List.mem_append_left _ (List.mem_of_getElem? (i := 14) rfl)))) (List.mem_cons_of_mem _ (List.mem_append_left _ (List.mem_append_left _ (List.mem_of_getElem? (i := 15) rfl)))) (List.mem_cons_of_mem _ (List.mem_append_left _ (List.mem_append_left _ (List.mem_of_getElem? (i := 16) rfl)))) (List.mem_cons_of_mem _ (List.mem_append_left _ (List.mem_append_left _ (List.mem_of_getElem? (i := 3) rfl)))) (by decide +kernel)) gg_x_reduce_sweep
theorem gg_x_reduce_wrongKind : GoodIn w_x_reduce w_x_wrongKind := goodIn_sub (fun w h => (List.mem_cons.mp h).elim (fun e => (List.mem_cons_of_mem _ (List.mem_append_left _ (List.mem_append_right _ (List.mem_append_right _ (List.mem_append_left _ (List.mem_cons.mpr (Or.inl e)))))))) (fun h => (List.mem_append.mp h).elim (fun h => (List.mem_cons_of_mem _ (List.mem_append_left _ (List.mem_append_right _ (List.mem_append_right _ (List.mem_append_left _ (List.mem_cons_of_mem _ h))))))) (fun h => List.mem_cons_of_mem _ (List.mem_append_right _ h)))) w_x_wrongKind_good
theorem g_x_reduce_wrongKind_666 : GoodIn w_x_reduce (wsV RX12 666 RX12 yX12_wrongKind w_x_wrongKind) := goodIn_app (nb_g4 (List.mem_cons_of_mem _ (List.mem_append_left _ (List.mem_append_left _ (List.mem_of_getElem? (i := 4) rfl)))) (List.mem_cons_of_mem _ (List.mem_append_left _ (List.mem_append_left _ (List.mem_of_getElem? (i := 5) rfl)))) (List.mem_cons_of_mem _ (List.mem_append_left _ (List.mem_append_left _ (List.mem_of_getElem? (i := 6) rfl)))) (List.mem_cons_of_mem _ (List.mem_append_left _ (List.mem_append_left _ (List.mem_of_getElem? (i := 3) rfl)))) (by decide +kernel)) gg_x_reduce_wrongKind
set_option maxHeartbeats 40000000 in
set_option maxRecDepth 100000 in
theorem c_x_reduce (l : Launch) (dC : Nat → ClassId) (dI : Nat → Nat → Nat) (cy : Nat → ClassId) (a : Nat → Nat) (k0 : Nat) (L0 : Nat → Int32) (σ0 : MS) (r0 : Int32 × MS) (h0 : x_reduce k0 0 L0 σ0 = some r0) (sz : Nat) : Met l yX12_reduce w_x_reduce ({ frames := 48, cells := 0, slots := 0, locals := 1323 }) (va_Pc [.ref (a 0), .int (L0 1), .int (L0 2)] (nIn (dC, dI) cy sz (vM cy a σ0))) (va_Qi (fun (z : Int32) (_ : Unit) => z = r0.1) (fun _ t => nOut (dC, dI) cy (va_A (vM cy a σ0) sz) (vM cy a r0.2) t) (va_A (vM cy a σ0) sz)) 0 0 (va_A (vM cy a σ0) sz) := by
  refine Met.ofW (cc := cX12_reduce) (maxL := 11) (ret := (some .int)) (by decide) rfl ?_
  intro p e s m args below meth c s₁ B hml hv
  obtain ⟨rfl, hsz, hP, hK, hD0, hG⟩ := hv
  have hx := B.exec
  have hb := B.bytes
  have hr := B.returns
  have hts := atoms_spec (ws := w_x_reduce) B.pre
  have hown : s.vm.findClass RX12 = some m.cls := findClass_of_methodNamed B.named
  have hlocks := B.notSynchronized
  subst hsz
  have hD := hD0.self (sz := s.heap.size)
  generalize hAe : va_A (vM cy a σ0) s.heap.size = A at hD ⊢
  have hA : ∀ q : Nat, s.heap.size ≤ q → A q := fun q h => by rw [← hAe]; exact Or.inr h
  have hS : va_S A s.heap s.heap [] := va_S.rf
  have hl := lv_entry ([.ref (a 0), .int (L0 1), .int (L0 2)]) (n := 11) (Nat.le_of_ble_eq_true rfl)
  rw [lg_entry_eq]
  generalize (lg_sl ([.ref (a 0), .int (L0 1), .int (L0 2)]) ++ List.replicate (11 - (lg_sl ([.ref (a 0), .int (L0 1), .int (L0 2)])).length) Slot.unset).toArray = ls at hl ⊢
  have hl : lv_has ls 11 [(0, .ref (a 0)), (1, .int (L0 1)), (2, .int (L0 2))] := hl
  have blk : ∀ k : Nat, (bT p l e (headSpec w_x_reduce ({ frames := 48, cells := 0, slots := 0, locals := 1323 })).room s m #[.ref (a 0), .int (L0 1), .int (L0 2)] below meth c dC dI cy a A (qI dC dI cy a A below #[.ref (a 0), .int (L0 1), .int (L0 2)] s) 11 (x_reduce k 0) (fun L => [(0, .ref (a 0)), (1, .int (L 1)), (2, .int (L 2))]) 0 (fun L => [])) ∧ (bT p l e (headSpec w_x_reduce ({ frames := 48, cells := 0, slots := 0, locals := 1323 })).room s m #[.ref (a 0), .int (L0 1), .int (L0 2)] below meth c dC dI cy a A (qI dC dI cy a A below #[.ref (a 0), .int (L0 1), .int (L0 2)] s) 11 (x_reduce k 1) (fun L => [(0, .ref (a 0)), (1, .int (L 1)), (2, .int (L 2)), (3, .int (L 3))]) 22 (fun L => [])) ∧ (bT p l e (headSpec w_x_reduce ({ frames := 48, cells := 0, slots := 0, locals := 1323 })).room s m #[.ref (a 0), .int (L0 1), .int (L0 2)] below meth c dC dI cy a A (qI dC dI cy a A below #[.ref (a 0), .int (L0 1), .int (L0 2)] s) 11 (x_reduce k 2) (fun L => [(0, .ref (a 0)), (1, .int (L 1)), (2, .int (L 2)), (3, .int (L 3)), (4, .int (L 4))]) 39 (fun L => [])) ∧ (bT p l e (headSpec w_x_reduce ({ frames := 48, cells := 0, slots := 0, locals := 1323 })).room s m #[.ref (a 0), .int (L0 1), .int (L0 2)] below meth c dC dI cy a A (qI dC dI cy a A below #[.ref (a 0), .int (L0 1), .int (L0 2)] s) 11 (x_reduce k 3) (fun L => [(0, .ref (a 0)), (1, .int (L 1)), (2, .int (L 2)), (3, .int (L 3)), (4, .int (L 4)), (5, .int (L 5)), (6, .int (L 6))]) 65 (fun L => [])) ∧ (bT p l e (headSpec w_x_reduce ({ frames := 48, cells := 0, slots := 0, locals := 1323 })).room s m #[.ref (a 0), .int (L0 1), .int (L0 2)] below meth c dC dI cy a A (qI dC dI cy a A below #[.ref (a 0), .int (L0 1), .int (L0 2)] s) 11 (x_reduce k 4) (fun L => [(0, .ref (a 0)), (1, .int (L 1)), (2, .int (L 2)), (3, .int (L 3)), (4, .int (L 4)), (5, .int (L 5)), (6, .int (L 6)), (7, .int (L 7)), (8, .int (L 8))]) 126 (fun L => [])) ∧ (bT p l e (headSpec w_x_reduce ({ frames := 48, cells := 0, slots := 0, locals := 1323 })).room s m #[.ref (a 0), .int (L0 1), .int (L0 2)] below meth c dC dI cy a A (qI dC dI cy a A below #[.ref (a 0), .int (L0 1), .int (L0 2)] s) 11 (x_reduce k 5) (fun L => [(0, .ref (a 0)), (1, .int (L 1)), (2, .int (L 2)), (3, .int (L 3)), (4, .int (L 4)), (5, .int (L 5)), (6, .int (L 6)), (7, .int (L 7)), (8, .int (L 8))]) 144 (fun L => [])) ∧ (bT p l e (headSpec w_x_reduce ({ frames := 48, cells := 0, slots := 0, locals := 1323 })).room s m #[.ref (a 0), .int (L0 1), .int (L0 2)] below meth c dC dI cy a A (qI dC dI cy a A below #[.ref (a 0), .int (L0 1), .int (L0 2)] s) 11 (x_reduce k 6) (fun L => [(0, .ref (a 0)), (1, .int (L 1)), (2, .int (L 2)), (3, .int (L 3)), (4, .int (L 4)), (5, .int (L 5)), (6, .int (L 6)), (7, .int (L 7)), (8, .int (L 8)), (9, .int (L 9))]) 167 (fun L => [])) ∧ (bT p l e (headSpec w_x_reduce ({ frames := 48, cells := 0, slots := 0, locals := 1323 })).room s m #[.ref (a 0), .int (L0 1), .int (L0 2)] below meth c dC dI cy a A (qI dC dI cy a A below #[.ref (a 0), .int (L0 1), .int (L0 2)] s) 11 (x_reduce k 7) (fun L => [(0, .ref (a 0)), (1, .int (L 1)), (2, .int (L 2)), (3, .int (L 3)), (4, .int (L 4)), (5, .int (L 5)), (6, .int (L 6)), (7, .int (L 7)), (8, .int (L 8)), (9, .int (L 9))]) 168 (fun L => [.int (L 100)])) ∧ (bT p l e (headSpec w_x_reduce ({ frames := 48, cells := 0, slots := 0, locals := 1323 })).room s m #[.ref (a 0), .int (L0 1), .int (L0 2)] below meth c dC dI cy a A (qI dC dI cy a A below #[.ref (a 0), .int (L0 1), .int (L0 2)] s) 11 (x_reduce k 8) (fun L => [(0, .ref (a 0)), (1, .int (L 1)), (2, .int (L 2)), (3, .int (L 3)), (4, .int (L 4)), (5, .int (L 5)), (6, .int (L 6)), (7, .int (L 7)), (8, .int (L 8)), (9, .int (L 9)), (10, .int (L 10))]) 191 (fun L => [])) ∧ (bT p l e (headSpec w_x_reduce ({ frames := 48, cells := 0, slots := 0, locals := 1323 })).room s m #[.ref (a 0), .int (L0 1), .int (L0 2)] below meth c dC dI cy a A (qI dC dI cy a A below #[.ref (a 0), .int (L0 1), .int (L0 2)] s) 11 (x_reduce k 9) (fun L => [(0, .ref (a 0)), (1, .int (L 1)), (2, .int (L 2)), (3, .int (L 3)), (4, .int (L 4)), (5, .int (L 5)), (6, .int (L 6)), (7, .int (L 7)), (8, .int (L 8)), (9, .int (L 9)), (10, .int (L 10))]) 205 (fun L => [])) ∧ (bT p l e (headSpec w_x_reduce ({ frames := 48, cells := 0, slots := 0, locals := 1323 })).room s m #[.ref (a 0), .int (L0 1), .int (L0 2)] below meth c dC dI cy a A (qI dC dI cy a A below #[.ref (a 0), .int (L0 1), .int (L0 2)] s) 11 (x_reduce k 10) (fun L => [(0, .ref (a 0)), (1, .int (L 1)), (2, .int (L 2)), (3, .int (L 3)), (4, .int (L 4)), (5, .int (L 5)), (6, .int (L 6)), (7, .int (L 7)), (8, .int (L 8)), (9, .int (L 9)), (10, .int (L 10))]) 210 (fun L => [])) ∧ (bT p l e (headSpec w_x_reduce ({ frames := 48, cells := 0, slots := 0, locals := 1323 })).room s m #[.ref (a 0), .int (L0 1), .int (L0 2)] below meth c dC dI cy a A (qI dC dI cy a A below #[.ref (a 0), .int (L0 1), .int (L0 2)] s) 11 (x_reduce k 11) (fun L => [(0, .ref (a 0)), (1, .int (L 1)), (2, .int (L 2)), (3, .int (L 3)), (4, .int (L 4)), (5, .int (L 5)), (6, .int (L 6)), (7, .int (L 7)), (8, .int (L 8)), (9, .int (L 9)), (10, .int (L 10))]) 212 (fun L => [.int (L 100)])) ∧ (bT p l e (headSpec w_x_reduce ({ frames := 48, cells := 0, slots := 0, locals := 1323 })).room s m #[.ref (a 0), .int (L0 1), .int (L0 2)] below meth c dC dI cy a A (qI dC dI cy a A below #[.ref (a 0), .int (L0 1), .int (L0 2)] s) 11 (x_reduce k 12) (fun L => [(0, .ref (a 0)), (1, .int (L 1)), (2, .int (L 2)), (3, .int (L 3)), (4, .int (L 4)), (5, .int (L 5)), (6, .int (L 6)), (7, .int (L 7)), (8, .int (L 8))]) 214 (fun L => [])) ∧ (bT p l e (headSpec w_x_reduce ({ frames := 48, cells := 0, slots := 0, locals := 1323 })).room s m #[.ref (a 0), .int (L0 1), .int (L0 2)] below meth c dC dI cy a A (qI dC dI cy a A below #[.ref (a 0), .int (L0 1), .int (L0 2)] s) 11 (x_reduce k 13) (fun L => [(0, .ref (a 0)), (1, .int (L 1)), (2, .int (L 2)), (3, .int (L 3)), (4, .int (L 4)), (5, .int (L 5)), (6, .int (L 6)), (7, .int (L 7)), (8, .int (L 8))]) 225 (fun L => [])) ∧ (bT p l e (headSpec w_x_reduce ({ frames := 48, cells := 0, slots := 0, locals := 1323 })).room s m #[.ref (a 0), .int (L0 1), .int (L0 2)] below meth c dC dI cy a A (qI dC dI cy a A below #[.ref (a 0), .int (L0 1), .int (L0 2)] s) 11 (x_reduce k 14) (fun L => [(0, .ref (a 0)), (1, .int (L 1)), (2, .int (L 2)), (3, .int (L 3)), (4, .int (L 4)), (5, .int (L 5)), (6, .int (L 6))]) 231 (fun L => [])) ∧ (bT p l e (headSpec w_x_reduce ({ frames := 48, cells := 0, slots := 0, locals := 1323 })).room s m #[.ref (a 0), .int (L0 1), .int (L0 2)] below meth c dC dI cy a A (qI dC dI cy a A below #[.ref (a 0), .int (L0 1), .int (L0 2)] s) 11 (x_reduce k 15) (fun L => [(0, .ref (a 0)), (1, .int (L 1)), (2, .int (L 2)), (3, .int (L 3)), (4, .int (L 4)), (5, .int (L 5)), (6, .int (L 6))]) 237 (fun L => [])) ∧ (bT p l e (headSpec w_x_reduce ({ frames := 48, cells := 0, slots := 0, locals := 1323 })).room s m #[.ref (a 0), .int (L0 1), .int (L0 2)] below meth c dC dI cy a A (qI dC dI cy a A below #[.ref (a 0), .int (L0 1), .int (L0 2)] s) 11 (x_reduce k 16) (fun L => [(0, .ref (a 0)), (1, .int (L 1)), (2, .int (L 2)), (3, .int (L 3)), (4, .int (L 4)), (5, .int (L 5)), (6, .int (L 6))]) 256 (fun L => [])) ∧ (bT p l e (headSpec w_x_reduce ({ frames := 48, cells := 0, slots := 0, locals := 1323 })).room s m #[.ref (a 0), .int (L0 1), .int (L0 2)] below meth c dC dI cy a A (qI dC dI cy a A below #[.ref (a 0), .int (L0 1), .int (L0 2)] s) 11 (x_reduce k 17) (fun L => [(0, .ref (a 0)), (1, .int (L 1)), (2, .int (L 2)), (3, .int (L 3)), (4, .int (L 4)), (5, .int (L 5)), (6, .int (L 6))]) 257 (fun L => [.int (L 100)])) := by
    intro k
    induction k with
    | zero => exact ⟨fun L σ r h => (by cases h), fun L σ r h => (by cases h), fun L σ r h => (by cases h), fun L σ r h => (by cases h), fun L σ r h => (by cases h), fun L σ r h => (by cases h), fun L σ r h => (by cases h), fun L σ r h => (by cases h), fun L σ r h => (by cases h), fun L σ r h => (by cases h), fun L σ r h => (by cases h), fun L σ r h => (by cases h), fun L σ r h => (by cases h), fun L σ r h => (by cases h), fun L σ r h => (by cases h), fun L σ r h => (by cases h), fun L σ r h => (by cases h), fun L σ r h => (by cases h)⟩
    | succ k ih =>
      refine ⟨?_, ?_, ?_, ?_, ?_, ?_, ?_, ?_, ?_, ?_, ?_, ?_, ?_, ?_, ?_, ?_, ?_, ?_⟩
      · intro L σ r h H locs ls hP hD hS hl
        rw [x_reduce] at h
        refine lv_aload_n hx hb dX12_reduce_0 rfl (lv_at hl 0 rfl) ?_
        refine lv_iload_n hx hb dX12_reduce_1 rfl (lv_at hl 2 rfl) ?_
        obtain ⟨r1, hc1, h⟩ := ob_ex h
        refine nc_Vi (As := [.int (L 2)]) (rest := []) ⟨hx, hb, hml, hown, hts⟩ (c_x_kind l dC dI cy a k (upd (fun _ => 0) 1 ((L 2))) σ r1 hc1 H.size) (cwV 1 hts g_x_reduce_kind_545 rfl rfl rfl hd_x_kind ⟨Nat.le_of_ble_eq_true rfl, Nat.le_of_ble_eq_true rfl⟩) hK hG hA hP hD hS rfl hl.1 rfl (Nat.le_of_ble_eq_true rfl) dX12_reduce_2 ⟨Nat.le_refl _, Nat.le_refl _⟩ (fun H locs hP hD hS => ?_)
        refine lv_istore_n (lv' := [(3, .int r1.1), (0, .ref (a 0)), (1, .int (L 1)), (2, .int (L 2))]) hx hb dX12_reduce_5 rfl hl (by decide) rfl (fun ls hl => ?_)
        refine lv_iload_n hx hb dX12_reduce_6 rfl (lv_at hl 0 rfl) ?_
        refine lv_bipush (v := 6) hx hb dX12_reduce_7 (by decide) ?_
        refine lv_icmp_eq (tgt := 22) hx hb dX12_reduce_9 (by decide) (fun c2 => ?_) (fun c2 => ?_)
        · rw [if_pos c2] at h
          exact ih.2.1 (upd L 3 r1.1) r1.2 r h H locs ls hP hD hS (lv_sub hl [1, 2, 3, 0] rfl)
        · rw [if_neg c2] at h
          refine lv_iload_n hx hb dX12_reduce_12 rfl (lv_at hl 0 rfl) ?_
          refine lv_iconst (v := 5) hx hb dX12_reduce_13 (by decide) ?_
          refine lv_icmp_eq (tgt := 22) hx hb dX12_reduce_14 (by decide) (fun c3 => ?_) (fun c3 => ?_)
          · rw [if_pos c3] at h
            exact ih.2.1 (upd L 3 r1.1) r1.2 r h H locs ls hP hD hS (lv_sub hl [1, 2, 3, 0] rfl)
          · rw [if_neg c3] at h
            refine lv_aload_n hx hb dX12_reduce_17 rfl (lv_at hl 1 rfl) ?_
            obtain ⟨r4, hc4, h⟩ := ob_ex h
            refine nc_Vi (As := []) (rest := []) ⟨hx, hb, hml, hown, hts⟩ (c_x_wrongKind l dC dI cy a k (fun _ => 0) r1.2 r4 hc4 H.size) (cwV 0 hts g_x_reduce_wrongKind_666 rfl rfl rfl hd_x_wrongKind ⟨Nat.le_of_ble_eq_true rfl, Nat.le_of_ble_eq_true rfl⟩) hK hG hA hP hD hS rfl hl.1 rfl (Nat.le_of_ble_eq_true rfl) dX12_reduce_18 ⟨Nat.le_refl _, Nat.le_refl _⟩ (fun H locs hP hD hS => ?_)
            cases h
            exact W.iret (v := r4.1) hx hb hr (fun t ht hW => ⟨⟨r4.1, (), rfl, rfl, by rw [ht]; exact hP, va_K.moved hW.alike hK, hD⟩, hS.F ht⟩) hS.2.2 dX12_reduce_21
      · intro L σ r h H locs ls hP hD hS hl
        rw [x_reduce] at h
        refine lv_aload_n hx hb dX12_reduce_22 rfl (lv_at hl 0 rfl) ?_
        refine ng_53 hx hb hts in_x_reduce hown hK hP (hts _ (List.mem_cons_of_mem _ (List.mem_append_left _ (List.mem_append_left _ (List.mem_of_getElem? (i := 7) rfl))))) dX12_reduce_23 ?_
        refine lv_iload_n hx hb dX12_reduce_26 rfl (lv_at hl 2 rfl) ?_
        refine lv_iconst (v := 1) hx hb dX12_reduce_27 (by decide) ?_
        refine lv_iadd hx hb dX12_reduce_28 ?_
        obtain ⟨q1, h⟩ := nb_ite1 h
        refine nl_28 hx hb hK hP q1 dX12_reduce_29 ?_
        refine lv_istore (lv' := [(4, .int (σ.2.2 28 ((((L 2)) + 1)).toNatClampNeg)), (0, .ref (a 0)), (1, .int (L 1)), (2, .int (L 2)), (3, .int (L 3))]) hx hb dX12_reduce_30 hl (by decide) rfl (fun ls hl => ?_)
        refine lv_iload hx hb dX12_reduce_32 (lv_at hl 0 rfl) ?_
        refine lv_if_ne (tgt := 39) hx hb dX12_reduce_34 (by decide) (fun c2 => ?_) (fun c2 => ?_)
        · rw [if_neg c2] at h
          exact ih.2.2.1 (upd L 4 ((σ.2.2 28 ((((L 2)) + 1)).toNatClampNeg))) σ r h H locs ls hP hD hS (lv_sub hl [1, 2, 3, 4, 0] rfl)
        · rw [if_pos c2] at h
          refine lv_iconst (v := 0) hx hb dX12_reduce_37 (by decide) ?_
          cases h
          exact W.iret (v := 0) hx hb hr (fun t ht hW => ⟨⟨0, (), rfl, rfl, by rw [ht]; exact hP, va_K.moved hW.alike hK, hD⟩, hS.F ht⟩) hS.2.2 dX12_reduce_38
      · intro L σ r h H locs ls hP hD hS hl
        rw [x_reduce] at h
        refine lv_aload_n hx hb dX12_reduce_39 rfl (lv_at hl 0 rfl) ?_
        refine ng_59 hx hb hts in_x_reduce hown hK hP (hts _ (List.mem_cons_of_mem _ (List.mem_append_left _ (List.mem_append_left _ (List.mem_of_getElem? (i := 8) rfl))))) dX12_reduce_40 ?_
        refine lv_istore (lv' := [(5, .int (σ.1 59)), (0, .ref (a 0)), (1, .int (L 1)), (2, .int (L 2)), (3, .int (L 3)), (4, .int (L 4))]) hx hb dX12_reduce_43 hl (by decide) rfl (fun ls hl => ?_)
        refine lv_aload_n hx hb dX12_reduce_45 rfl (lv_at hl 1 rfl) ?_
        refine lv_iload_n hx hb dX12_reduce_46 rfl (lv_at hl 3 rfl) ?_
        obtain ⟨r1, hc1, h⟩ := ob_ex h
        refine nc_Vv (As := [.int (L 2)]) (rest := []) ⟨hx, hb, hml, hown, hts⟩ (c_x_push l dC dI cy a k (upd (fun _ => 0) 1 ((L 2))) σ r1 hc1 H.size) (cwV 1 hts g_x_reduce_push_594 rfl rfl rfl hd_x_push ⟨Nat.le_of_ble_eq_true rfl, Nat.le_of_ble_eq_true rfl⟩) hK hG hA hP hD hS rfl hl.1 rfl (Nat.le_of_ble_eq_true rfl) dX12_reduce_47 ⟨Nat.le_refl _, Nat.le_refl _⟩ (fun H locs hP hD hS => ?_)
        refine lv_aload_n hx hb dX12_reduce_50 rfl (lv_at hl 1 rfl) ?_
        refine lv_aload_n hx hb dX12_reduce_51 rfl (lv_at hl 1 rfl) ?_
        refine ng_53 hx hb hts in_x_reduce hown hK hP (hts _ (List.mem_cons_of_mem _ (List.mem_append_left _ (List.mem_append_left _ (List.mem_of_getElem? (i := 7) rfl))))) dX12_reduce_52 ?_
        refine lv_iload_n hx hb dX12_reduce_55 rfl (lv_at hl 3 rfl) ?_
        refine lv_iconst (v := 4) hx hb dX12_reduce_56 (by decide) ?_
        refine lv_iadd hx hb dX12_reduce_57 ?_
        obtain ⟨q2, h⟩ := nb_ite1 h
        refine nl_28 hx hb hK hP q2 dX12_reduce_58 ?_
        obtain ⟨r3, hc3, h⟩ := ob_ex h
        refine nc_Vv (As := [.int (r1.2.2.2 28 ((((L 2)) + 4)).toNatClampNeg)]) (rest := []) ⟨hx, hb, hml, hown, hts⟩ (c_x_push l dC dI cy a k (upd (fun _ => 0) 1 ((r1.2.2.2 28 ((((L 2)) + 4)).toNatClampNeg))) r1.2 r3 hc3 H.size) (cwV 1 hts g_x_reduce_push_594 rfl rfl rfl hd_x_push ⟨Nat.le_of_ble_eq_true rfl, Nat.le_of_ble_eq_true rfl⟩) hK hG hA hP hD hS rfl hl.1 rfl (Nat.le_of_ble_eq_true rfl) dX12_reduce_59 ⟨Nat.le_refl _, Nat.le_refl _⟩ (fun H locs hP hD hS => ?_)
        refine lv_iconst (v := 1) hx hb dX12_reduce_62 (by decide) ?_
        refine lv_istore (lv' := [(6, .int 1), (5, .int (σ.1 59)), (0, .ref (a 0)), (1, .int (L 1)), (2, .int (L 2)), (3, .int (L 3)), (4, .int (L 4))]) hx hb dX12_reduce_63 hl (by decide) rfl (fun ls hl => ?_)
        exact ih.2.2.2.1 (upd (upd L 5 ((σ.1 59))) 6 1) r3.2 r h H locs ls hP hD hS (lv_sub hl [2, 3, 4, 5, 6, 1, 0] rfl)
      · intro L σ r h H locs ls hP hD hS hl
        rw [x_reduce] at h
        refine lv_iload hx hb dX12_reduce_65 (lv_at hl 6 rfl) ?_
        refine lv_iload hx hb dX12_reduce_67 (lv_at hl 4 rfl) ?_
        refine lv_icmp_ge (tgt := 231) hx hb dX12_reduce_69 (by decide) (fun c1 => ?_) (fun c1 => ?_)
        · rw [if_pos c1] at h
          exact ih.2.2.2.2.2.2.2.2.2.2.2.2.2.2.1 L σ r h H locs ls hP hD hS (lv_sub hl [0, 1, 2, 3, 4, 5, 6] rfl)
        · rw [if_neg c1] at h
          refine lv_aload_n hx hb dX12_reduce_72 rfl (lv_at hl 0 rfl) ?_
          refine ng_56 hx hb hts in_x_reduce hown hK hP (hts _ (List.mem_cons_of_mem _ (List.mem_append_left _ (List.mem_append_left _ (List.mem_of_getElem? (i := 12) rfl))))) dX12_reduce_73 ?_
          refine lv_if_ne (tgt := 231) hx hb dX12_reduce_76 (by decide) (fun c2 => ?_) (fun c2 => ?_)
          · rw [if_neg c2] at h
            exact ih.2.2.2.2.2.2.2.2.2.2.2.2.2.2.1 L σ r h H locs ls hP hD hS (lv_sub hl [0, 1, 2, 3, 4, 5, 6] rfl)
          · rw [if_pos c2] at h
            refine lv_aload_n hx hb dX12_reduce_79 rfl (lv_at hl 0 rfl) ?_
            refine lv_ldcw (v := 780000) hx hb hown (hts _ (List.mem_cons_of_mem _ (List.mem_append_left _ (List.mem_append_left _ (List.mem_of_getElem? (i := 13) rfl))))) dX12_reduce_80 ?_
            obtain ⟨r3, hc3, h⟩ := ob_ex h
            refine nc_Vv (As := [.int 780000]) (rest := []) ⟨hx, hb, hml, hown, hts⟩ (c_x_sweep l dC dI cy a k (upd (fun _ => 0) 1 780000) σ r3 hc3 H.size) (cwV 1 hts g_x_reduce_sweep_585 rfl rfl rfl hd_x_sweep ⟨Nat.le_of_ble_eq_true rfl, Nat.le_of_ble_eq_true rfl⟩) hK hG hA hP hD hS rfl hl.1 rfl (Nat.le_of_ble_eq_true rfl) dX12_reduce_83 ⟨Nat.le_refl _, Nat.le_refl _⟩ (fun H locs hP hD hS => ?_)
            refine lv_aload_n hx hb dX12_reduce_86 rfl (lv_at hl 0 rfl) ?_
            refine ng_58 hx hb hts in_x_reduce hown hK hP (hts _ (List.mem_cons_of_mem _ (List.mem_append_left _ (List.mem_append_left _ (List.mem_of_getElem? (i := 17) rfl))))) dX12_reduce_87 ?_
            refine lv_iload hx hb dX12_reduce_90 (lv_at hl 5 rfl) ?_
            refine lv_iconst (v := 1) hx hb dX12_reduce_92 (by decide) ?_
            refine lv_iadd hx hb dX12_reduce_93 ?_
            obtain ⟨q4, h⟩ := nb_ite1 h
            refine nl_29 hx hb hK hP q4 dX12_reduce_94 ?_
            refine lv_istore (lv' := [(7, .int (r3.2.2.2 29 ((((L 5)) + 1)).toNatClampNeg)), (0, .ref (a 0)), (1, .int (L 1)), (2, .int (L 2)), (3, .int (L 3)), (4, .int (L 4)), (5, .int (L 5)), (6, .int (L 6))]) hx hb dX12_reduce_95 hl (by decide) rfl (fun ls hl => ?_)
            refine lv_aload_n hx hb dX12_reduce_97 rfl (lv_at hl 1 rfl) ?_
            refine ng_53 hx hb hts in_x_reduce hown hK hP (hts _ (List.mem_cons_of_mem _ (List.mem_append_left _ (List.mem_append_left _ (List.mem_of_getElem? (i := 7) rfl))))) dX12_reduce_98 ?_
            refine lv_aload_n hx hb dX12_reduce_101 rfl (lv_at hl 1 rfl) ?_
            refine ng_58 hx hb hts in_x_reduce hown hK hP (hts _ (List.mem_cons_of_mem _ (List.mem_append_left _ (List.mem_append_left _ (List.mem_of_getElem? (i := 17) rfl))))) dX12_reduce_102 ?_
            refine lv_iload hx hb dX12_reduce_105 (lv_at hl 6 rfl) ?_
            obtain ⟨q5, h⟩ := nb_ite1 h
            refine nl_29 hx hb hK hP q5 dX12_reduce_107 ?_
            refine lv_iconst (v := 4) hx hb dX12_reduce_108 (by decide) ?_
            refine lv_iadd hx hb dX12_reduce_109 ?_
            refine lv_iload hx hb dX12_reduce_110 (lv_at hl 7 rfl) ?_
            refine lv_iadd hx hb dX12_reduce_112 ?_
            obtain ⟨q6, h⟩ := nb_ite1 h
            refine nl_28 hx hb hK hP q6 dX12_reduce_113 ?_
            refine lv_istore (lv' := [(8, .int (r3.2.2.2 28 ((((((r3.2.2.2 29 ((L 5)).toNatClampNeg)) + 4)) + ((L 6)))).toNatClampNeg)), (7, .int (r3.2.2.2 29 ((((L 5)) + 1)).toNatClampNeg)), (0, .ref (a 0)), (1, .int (L 1)), (2, .int (L 2)), (3, .int (L 3)), (4, .int (L 4)), (5, .int (L 5)), (6, .int (L 6))]) hx hb dX12_reduce_114 hl (by decide) rfl (fun ls hl => ?_)
            refine lv_iload_n hx hb dX12_reduce_116 rfl (lv_at hl 3 rfl) ?_
            refine lv_iconst (v := 2) hx hb dX12_reduce_117 (by decide) ?_
            refine lv_icmp_eq (tgt := 126) hx hb dX12_reduce_118 (by decide) (fun c7 => ?_) (fun c7 => ?_)
            · rw [if_pos c7] at h
              exact ih.2.2.2.2.1 (upd (upd L 7 ((r3.2.2.2 29 ((((L 5)) + 1)).toNatClampNeg))) 8 ((r3.2.2.2 28 ((((((r3.2.2.2 29 ((L 5)).toNatClampNeg)) + 4)) + ((L 6)))).toNatClampNeg))) r3.2 r h H locs ls hP hD hS (lv_sub hl [2, 3, 4, 5, 6, 7, 8, 1, 0] rfl)
            · rw [if_neg c7] at h
              refine lv_iload_n hx hb dX12_reduce_121 rfl (lv_at hl 3 rfl) ?_
              refine lv_iconst (v := 4) hx hb dX12_reduce_122 (by decide) ?_
              refine lv_icmp_ne (tgt := 144) hx hb dX12_reduce_123 (by decide) (fun c8 => ?_) (fun c8 => ?_)
              · rw [if_neg c8] at h
                exact ih.2.2.2.2.2.1 (upd (upd L 7 ((r3.2.2.2 29 ((((L 5)) + 1)).toNatClampNeg))) 8 ((r3.2.2.2 28 ((((((r3.2.2.2 29 ((L 5)).toNatClampNeg)) + 4)) + ((L 6)))).toNatClampNeg))) r3.2 r h H locs ls hP hD hS (lv_sub hl [2, 3, 4, 5, 6, 7, 8, 1, 0] rfl)
              · rw [if_pos c8] at h
                exact ih.2.2.2.2.1 (upd (upd L 7 ((r3.2.2.2 29 ((((L 5)) + 1)).toNatClampNeg))) 8 ((r3.2.2.2 28 ((((((r3.2.2.2 29 ((L 5)).toNatClampNeg)) + 4)) + ((L 6)))).toNatClampNeg))) r3.2 r h H locs ls hP hD hS (lv_sub hl [2, 3, 4, 5, 6, 7, 8, 1, 0] rfl)
      · intro L σ r h H locs ls hP hD hS hl
        rw [x_reduce] at h
        refine lv_aload_n hx hb dX12_reduce_126 rfl (lv_at hl 0 rfl) ?_
        refine lv_aload_n hx hb dX12_reduce_127 rfl (lv_at hl 0 rfl) ?_
        refine lv_iload_n hx hb dX12_reduce_128 rfl (lv_at hl 1 rfl) ?_
        refine lv_iload hx hb dX12_reduce_129 (lv_at hl 7 rfl) ?_
        refine lv_iload hx hb dX12_reduce_131 (lv_at hl 8 rfl) ?_
        obtain ⟨r1, hc1, h⟩ := ob_ex h
        refine nc_Vi (As := [.int (L 1), .int (L 7), .int (L 8)]) (rest := [.ref (a 0)]) ⟨hx, hb, hml, hown, hts⟩ (c_x_operate l dC dI cy a k (upd (upd (upd (fun _ => 0) 1 ((L 1))) 2 ((L 7))) 3 ((L 8))) σ r1 hc1 H.size) (cwV 3 hts g_x_reduce_operate_659 rfl rfl rfl hd_x_operate ⟨Nat.le_of_ble_eq_true rfl, Nat.le_of_ble_eq_true rfl⟩) hK hG hA hP hD hS rfl hl.1 rfl (Nat.le_of_ble_eq_true rfl) dX12_reduce_133 ⟨Nat.le_refl _, Nat.le_refl _⟩ (fun H locs hP hD hS => ?_)
        obtain ⟨r2, hc2, h⟩ := ob_ex h
        refine nc_Vi (As := [.int r1.1]) (rest := []) ⟨hx, hb, hml, hown, hts⟩ (c_x_answer l dC dI cy a k (upd (fun _ => 0) 1 r1.1) r1.2 r2 hc2 H.size) (cwV 1 hts g_x_reduce_answer_591 rfl rfl rfl hd_x_answer ⟨Nat.le_of_ble_eq_true rfl, Nat.le_of_ble_eq_true rfl⟩) hK hG hA hP hD hS rfl hl.1 rfl (Nat.le_of_ble_eq_true rfl) dX12_reduce_136 ⟨Nat.le_refl _, Nat.le_refl _⟩ (fun H locs hP hD hS => ?_)
        refine lv_istore (lv' := [(7, .int r2.1), (0, .ref (a 0)), (1, .int (L 1)), (2, .int (L 2)), (3, .int (L 3)), (4, .int (L 4)), (5, .int (L 5)), (6, .int (L 6)), (8, .int (L 8))]) hx hb dX12_reduce_139 hl (by decide) rfl (fun ls hl => ?_)
        refine lv_goto (tgt := 214) hx hb dX12_reduce_141 (by decide) ?_
        exact ih.2.2.2.2.2.2.2.2.2.2.2.2.1 (upd L 7 r2.1) r2.2 r h H locs ls hP hD hS (lv_sub hl [1, 2, 3, 4, 5, 6, 7, 0, 8] rfl)
      · intro L σ r h H locs ls hP hD hS hl
        rw [x_reduce] at h
        refine lv_aload_n hx hb dX12_reduce_144 rfl (lv_at hl 0 rfl) ?_
        refine lv_bipush (v := 19) hx hb dX12_reduce_145 (by decide) ?_
        refine lv_iload hx hb dX12_reduce_147 (lv_at hl 7 rfl) ?_
        refine lv_iload hx hb dX12_reduce_149 (lv_at hl 8 rfl) ?_
        obtain ⟨r1, hc1, h⟩ := ob_ex h
        refine nc_Vi (As := [.int 19, .int (L 7), .int (L 8)]) (rest := []) ⟨hx, hb, hml, hown, hts⟩ (c_x_operate l dC dI cy a k (upd (upd (upd (fun _ => 0) 1 19) 2 ((L 7))) 3 ((L 8))) σ r1 hc1 H.size) (cwV 3 hts g_x_reduce_operate_659 rfl rfl rfl hd_x_operate ⟨Nat.le_of_ble_eq_true rfl, Nat.le_of_ble_eq_true rfl⟩) hK hG hA hP hD hS rfl hl.1 rfl (Nat.le_of_ble_eq_true rfl) dX12_reduce_151 ⟨Nat.le_refl _, Nat.le_refl _⟩ (fun H locs hP hD hS => ?_)
        refine lv_istore (lv' := [(9, .int r1.1), (0, .ref (a 0)), (1, .int (L 1)), (2, .int (L 2)), (3, .int (L 3)), (4, .int (L 4)), (5, .int (L 5)), (6, .int (L 6)), (7, .int (L 7)), (8, .int (L 8))]) hx hb dX12_reduce_154 hl (by decide) rfl (fun ls hl => ?_)
        refine lv_iload_n hx hb dX12_reduce_156 rfl (lv_at hl 2 rfl) ?_
        refine lv_sipush (v := 149) hx hb dX12_reduce_157 (by decide) ?_
        refine lv_icmp_ne (tgt := 167) hx hb dX12_reduce_160 (by decide) (fun c2 => ?_) (fun c2 => ?_)
        · rw [if_neg c2] at h
          exact ih.2.2.2.2.2.2.1 (upd L 9 r1.1) r1.2 r h H locs ls hP hD hS (lv_sub hl [1, 2, 3, 4, 5, 6, 7, 8, 9, 0] rfl)
        · rw [if_pos c2] at h
          refine lv_iconst (v := 1) hx hb dX12_reduce_163 (by decide) ?_
          refine lv_goto (tgt := 168) hx hb dX12_reduce_164 (by decide) ?_
          exact ih.2.2.2.2.2.2.2.1 (upd (upd L 9 r1.1) 100 1) r1.2 r h H locs ls hP hD hS (lv_sub hl [1, 2, 3, 4, 5, 6, 7, 8, 9, 0] rfl)
      · intro L σ r h H locs ls hP hD hS hl
        rw [x_reduce] at h
        refine lv_iconst (v := 0) hx hb dX12_reduce_167 (by decide) ?_
        exact ih.2.2.2.2.2.2.2.1 (upd L 100 0) σ r h H locs ls hP hD hS (lv_sub hl [0, 1, 2, 3, 4, 5, 6, 7, 8, 9] rfl)
      · intro L σ r h H locs ls hP hD hS hl
        rw [x_reduce] at h
        refine lv_istore (lv' := [(10, .int (L 100)), (0, .ref (a 0)), (1, .int (L 1)), (2, .int (L 2)), (3, .int (L 3)), (4, .int (L 4)), (5, .int (L 5)), (6, .int (L 6)), (7, .int (L 7)), (8, .int (L 8)), (9, .int (L 9))]) hx hb dX12_reduce_168 hl (by decide) rfl (fun ls hl => ?_)
        refine lv_aload_n hx hb dX12_reduce_170 rfl (lv_at hl 1 rfl) ?_
        refine ng_56 hx hb hts in_x_reduce hown hK hP (hts _ (List.mem_cons_of_mem _ (List.mem_append_left _ (List.mem_append_left _ (List.mem_of_getElem? (i := 12) rfl))))) dX12_reduce_171 ?_
        refine lv_if_ne (tgt := 210) hx hb dX12_reduce_174 (by decide) (fun c1 => ?_) (fun c1 => ?_)
        · rw [if_neg c1] at h
          exact ih.2.2.2.2.2.2.2.2.2.2.1 (upd L 10 ((L 100))) σ r h H locs ls hP hD hS (lv_sub hl [1, 2, 3, 4, 5, 6, 7, 8, 9, 10, 0] rfl)
        · rw [if_pos c1] at h
          refine lv_iload hx hb dX12_reduce_177 (lv_at hl 0 rfl) ?_
          refine lv_if_eq (tgt := 191) hx hb dX12_reduce_179 (by decide) (fun c2 => ?_) (fun c2 => ?_)
          · rw [if_pos c2] at h
            exact ih.2.2.2.2.2.2.2.2.1 (upd L 10 ((L 100))) σ r h H locs ls hP hD hS (lv_sub hl [1, 2, 3, 4, 5, 6, 7, 8, 9, 10, 0] rfl)
          · rw [if_neg c2] at h
            refine lv_iload hx hb dX12_reduce_182 (lv_at hl 10 rfl) ?_
            refine lv_iconst (v := 2) hx hb dX12_reduce_184 (by decide) ?_
            refine lv_icmp_ne (tgt := 210) hx hb dX12_reduce_185 (by decide) (fun c3 => ?_) (fun c3 => ?_)
            · rw [if_neg c3] at h
              exact ih.2.2.2.2.2.2.2.2.2.2.1 (upd L 10 ((L 100))) σ r h H locs ls hP hD hS (lv_sub hl [1, 2, 3, 4, 5, 6, 7, 8, 9, 10, 0] rfl)
            · rw [if_pos c3] at h
              refine lv_goto (tgt := 205) hx hb dX12_reduce_188 (by decide) ?_
              exact ih.2.2.2.2.2.2.2.2.2.1 (upd L 10 ((L 100))) σ r h H locs ls hP hD hS (lv_sub hl [1, 2, 3, 4, 5, 6, 7, 8, 9, 10, 0] rfl)
      · intro L σ r h H locs ls hP hD hS hl
        rw [x_reduce] at h
        refine lv_aload_n hx hb dX12_reduce_191 rfl (lv_at hl 0 rfl) ?_
        refine lv_bipush (v := 19) hx hb dX12_reduce_192 (by decide) ?_
        refine lv_iload hx hb dX12_reduce_194 (lv_at hl 8 rfl) ?_
        refine lv_iload hx hb dX12_reduce_196 (lv_at hl 7 rfl) ?_
        obtain ⟨r1, hc1, h⟩ := ob_ex h
        refine nc_Vi (As := [.int 19, .int (L 8), .int (L 7)]) (rest := []) ⟨hx, hb, hml, hown, hts⟩ (c_x_operate l dC dI cy a k (upd (upd (upd (fun _ => 0) 1 19) 2 ((L 8))) 3 ((L 7))) σ r1 hc1 H.size) (cwV 3 hts g_x_reduce_operate_659 rfl rfl rfl hd_x_operate ⟨Nat.le_of_ble_eq_true rfl, Nat.le_of_ble_eq_true rfl⟩) hK hG hA hP hD hS rfl hl.1 rfl (Nat.le_of_ble_eq_true rfl) dX12_reduce_198 ⟨Nat.le_refl _, Nat.le_refl _⟩ (fun H locs hP hD hS => ?_)
        refine lv_iconst (v := 2) hx hb dX12_reduce_201 (by decide) ?_
        refine lv_icmp_ne (tgt := 210) hx hb dX12_reduce_202 (by decide) (fun c2 => ?_) (fun c2 => ?_)
        · rw [if_neg c2] at h
          exact ih.2.2.2.2.2.2.2.2.2.2.1 L r1.2 r h H locs ls hP hD hS (lv_sub hl [0, 1, 2, 3, 4, 5, 6, 7, 8, 9, 10] rfl)
        · rw [if_pos c2] at h
          exact ih.2.2.2.2.2.2.2.2.2.1 L r1.2 r h H locs ls hP hD hS (lv_sub hl [0, 1, 2, 3, 4, 5, 6, 7, 8, 9, 10] rfl)
      · intro L σ r h H locs ls hP hD hS hl
        rw [x_reduce] at h
        refine lv_iload hx hb dX12_reduce_205 (lv_at hl 8 rfl) ?_
        refine lv_goto (tgt := 212) hx hb dX12_reduce_207 (by decide) ?_
        exact ih.2.2.2.2.2.2.2.2.2.2.2.1 (upd L 100 ((L 8))) σ r h H locs ls hP hD hS (lv_sub hl [0, 1, 2, 3, 4, 5, 6, 7, 8, 9, 10] rfl)
      · intro L σ r h H locs ls hP hD hS hl
        rw [x_reduce] at h
        refine lv_iload hx hb dX12_reduce_210 (lv_at hl 7 rfl) ?_
        exact ih.2.2.2.2.2.2.2.2.2.2.2.1 (upd L 100 ((L 7))) σ r h H locs ls hP hD hS (lv_sub hl [0, 1, 2, 3, 4, 5, 6, 7, 8, 9, 10] rfl)
      · intro L σ r h H locs ls hP hD hS hl
        rw [x_reduce] at h
        refine lv_istore (lv' := [(7, .int (L 100)), (0, .ref (a 0)), (1, .int (L 1)), (2, .int (L 2)), (3, .int (L 3)), (4, .int (L 4)), (5, .int (L 5)), (6, .int (L 6)), (8, .int (L 8)), (9, .int (L 9)), (10, .int (L 10))]) hx hb dX12_reduce_212 hl (by decide) rfl (fun ls hl => ?_)
        exact ih.2.2.2.2.2.2.2.2.2.2.2.2.1 (upd L 7 ((L 100))) σ r h H locs ls hP hD hS (lv_sub hl [1, 2, 3, 4, 5, 6, 7, 0, 8] rfl)
      · intro L σ r h H locs ls hP hD hS hl
        rw [x_reduce] at h
        refine lv_aload_n hx hb dX12_reduce_214 rfl (lv_at hl 0 rfl) ?_
        refine ng_58 hx hb hts in_x_reduce hown hK hP (hts _ (List.mem_cons_of_mem _ (List.mem_append_left _ (List.mem_append_left _ (List.mem_of_getElem? (i := 17) rfl))))) dX12_reduce_215 ?_
        refine lv_iload hx hb dX12_reduce_218 (lv_at hl 5 rfl) ?_
        refine lv_iconst (v := 1) hx hb dX12_reduce_220 (by decide) ?_
        refine lv_iadd hx hb dX12_reduce_221 ?_
        refine lv_iload hx hb dX12_reduce_222 (lv_at hl 7 rfl) ?_
        obtain ⟨q1, h⟩ := nb_ite1 h
        refine ns_29 hx hb hK hP hD hS q1 dX12_reduce_224 (fun H locs hP hD hS => ?_)
        exact ih.2.2.2.2.2.2.2.2.2.2.2.2.2.1 L (σ.1, σ.2.1, updG σ.2.2 29 (upd (σ.2.2 29) ((((L 5)) + 1)).toNatClampNeg ((L 7)))) r h H locs ls hP hD hS (lv_sub hl [0, 1, 2, 3, 4, 5, 6, 7, 8] rfl)
      · intro L σ r h H locs ls hP hD hS hl
        rw [x_reduce] at h
        refine lv_iinc (v := ((L 6)) + 1) (lv' := [(6, .int (((L 6)) + 1)), (0, .ref (a 0)), (1, .int (L 1)), (2, .int (L 2)), (3, .int (L 3)), (4, .int (L 4)), (5, .int (L 5)), (7, .int (L 7)), (8, .int (L 8))]) hx hb dX12_reduce_225 hl (k := 6) rfl rfl (by decide) rfl (fun ls hl => ?_)
        refine lv_goto (tgt := 65) hx hb dX12_reduce_228 (by decide) ?_
        exact ih.2.2.2.1 (upd L 6 (((L 6)) + 1)) σ r h H locs ls hP hD hS (lv_sub hl [1, 2, 3, 4, 5, 6, 0] rfl)
      · intro L σ r h H locs ls hP hD hS hl
        rw [x_reduce] at h
        refine lv_aload_n hx hb dX12_reduce_231 rfl (lv_at hl 0 rfl) ?_
        refine lv_iload hx hb dX12_reduce_232 (lv_at hl 5 rfl) ?_
        refine np_59 hx hb hts in_x_reduce hown hK hP hD hS (hts _ (List.mem_cons_of_mem _ (List.mem_append_left _ (List.mem_append_left _ (List.mem_of_getElem? (i := 8) rfl))))) dX12_reduce_234 (fun H locs hP hD hS => ?_)
        exact ih.2.2.2.2.2.2.2.2.2.2.2.2.2.2.2.1 L (upd σ.1 59 ((L 5)), σ.2.1, σ.2.2) r h H locs ls hP hD hS (lv_sub hl [0, 1, 2, 3, 4, 5, 6] rfl)
      · intro L σ r h H locs ls hP hD hS hl
        rw [x_reduce] at h
        refine lv_aload_n hx hb dX12_reduce_237 rfl (lv_at hl 0 rfl) ?_
        refine ng_56 hx hb hts in_x_reduce hown hK hP (hts _ (List.mem_cons_of_mem _ (List.mem_append_left _ (List.mem_append_left _ (List.mem_of_getElem? (i := 12) rfl))))) dX12_reduce_238 ?_
        refine lv_if_ne (tgt := 256) hx hb dX12_reduce_241 (by decide) (fun c1 => ?_) (fun c1 => ?_)
        · rw [if_neg c1] at h
          exact ih.2.2.2.2.2.2.2.2.2.2.2.2.2.2.2.2.1 L σ r h H locs ls hP hD hS (lv_sub hl [0, 1, 2, 3, 4, 5, 6] rfl)
        · rw [if_pos c1] at h
          refine lv_aload_n hx hb dX12_reduce_244 rfl (lv_at hl 0 rfl) ?_
          refine ng_58 hx hb hts in_x_reduce hown hK hP (hts _ (List.mem_cons_of_mem _ (List.mem_append_left _ (List.mem_append_left _ (List.mem_of_getElem? (i := 17) rfl))))) dX12_reduce_245 ?_
          refine lv_iload hx hb dX12_reduce_248 (lv_at hl 5 rfl) ?_
          refine lv_iconst (v := 1) hx hb dX12_reduce_250 (by decide) ?_
          refine lv_iadd hx hb dX12_reduce_251 ?_
          obtain ⟨q2, h⟩ := nb_ite1 h
          refine nl_29 hx hb hK hP q2 dX12_reduce_252 ?_
          refine lv_goto (tgt := 257) hx hb dX12_reduce_253 (by decide) ?_
          exact ih.2.2.2.2.2.2.2.2.2.2.2.2.2.2.2.2.2 (upd L 100 ((σ.2.2 29 ((((L 5)) + 1)).toNatClampNeg))) σ r h H locs ls hP hD hS (lv_sub hl [0, 1, 2, 3, 4, 5, 6] rfl)
      · intro L σ r h H locs ls hP hD hS hl
        rw [x_reduce] at h
        refine lv_iconst (v := 0) hx hb dX12_reduce_256 (by decide) ?_
        exact ih.2.2.2.2.2.2.2.2.2.2.2.2.2.2.2.2.2 (upd L 100 0) σ r h H locs ls hP hD hS (lv_sub hl [0, 1, 2, 3, 4, 5, 6] rfl)
      · intro L σ r h H locs ls hP hD hS hl
        rw [x_reduce] at h
        cases h
        exact W.iret (v := (L 100)) hx hb hr (fun t ht hW => ⟨⟨(L 100), (), rfl, rfl, by rw [ht]; exact hP, va_K.moved hW.alike hK, hD⟩, hS.F ht⟩) hS.2.2 dX12_reduce_257
  exact (blk k0).1 L0 σ0 r0 h0 s.heap [] ls hP hD hS hl

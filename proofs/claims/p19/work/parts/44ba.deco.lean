/-! pushOthers -/
def x_pushOthers : Nat → Nat → (Nat → Int32) → MS → Option (Int32 × MS)
  | 0, _, _, _ => none
  | k + 1, 0, L, σ => x_pushOthers k 1 (upd L 3 0) σ
  | k + 1, 1, L, σ => if ¬ (((((L 1)) + 1)) < 0 ∨ 1740000 ≤ ((((L 1)) + 1)).toNatClampNeg) then (if ((σ.2.2 28 ((((L 1)) + 1)).toNatClampNeg)) ≤ ((L 3)) then (x_pushOthers k 3 L σ) else (if ¬ (((((((L 1)) + 4)) + ((L 3)))) < 0 ∨ 1740000 ≤ ((((((L 1)) + 4)) + ((L 3)))).toNatClampNeg) then (if ¬ (((((σ.2.2 28 ((((((L 1)) + 4)) + ((L 3)))).toNatClampNeg)) + 4)) < 0 ∨ 1740000 ≤ ((((σ.2.2 28 ((((((L 1)) + 4)) + ((L 3)))).toNatClampNeg)) + 4)).toNatClampNeg) then (ob (x_compare k 0 (upd (upd (fun _ => 0) 1 ((σ.2.2 28 ((((σ.2.2 28 ((((((L 1)) + 4)) + ((L 3)))).toNatClampNeg)) + 4)).toNatClampNeg))) 2 ((L 2))) σ) (fun r5 => if r5.1 = 0 then (x_pushOthers k 2 (upd L 4 ((σ.2.2 28 ((((((L 1)) + 4)) + ((L 3)))).toNatClampNeg))) r5.2) else (ob (x_push k 0 (upd (fun _ => 0) 1 ((σ.2.2 28 ((((((L 1)) + 4)) + ((L 3)))).toNatClampNeg))) r5.2) (fun r7 => x_pushOthers k 2 (upd L 4 ((σ.2.2 28 ((((((L 1)) + 4)) + ((L 3)))).toNatClampNeg))) r7.2)))) else none) else none)) else none
  | k + 1, 2, L, σ => x_pushOthers k 1 (upd L 3 (((L 3)) + 1)) σ
  | k + 1, 3, L, σ => some (0, σ)
  | _ + 1, _ + 4, _, _ => none
def o_x_pushOthers : List Cond := [.fieldLink RX12 372 "SetHouseModel" "heap" "[I", .methodLink RX12 451 yX12_compare, .instanceMethod yX12_compare, .selects RX12 yX12_compare yX12_compare, .initialized RX12, .methodLink RX12 594 yX12_push, .instanceMethod yX12_push, .selects RX12 yX12_push yX12_push]
theorem o_x_pushOthers_good : o_x_pushOthers.all goodWord = true := by decide +kernel
def p_x_pushOthers : List Cond := o_x_pushOthers ++ ((.code yX12_compare cX12_compare 9 (some .int) :: p_x_GC) ++ ((.code yX12_push cX12_push 2 none :: p_x_push) ++ []))
theorem p_x_pushOthers_good : p_x_pushOthers.all goodWord = true := nb_all2 o_x_pushOthers_good (nb_all2 (nb_allc (by decide +kernel) p_x_GC_good) (nb_all2 (nb_allc (by decide +kernel) p_x_push_good) rfl))
def w_x_pushOthers : List Cond := .code yX12_pushOthers cX12_pushOthers 5 none :: (p_x_pushOthers ++ fM)
theorem w_x_pushOthers_good : w_x_pushOthers.all goodWord = true := nb_allc (by decide +kernel) (nb_all2 p_x_pushOthers_good fM_good)
theorem in_x_pushOthers : ∀ w ∈ wsX120, w ∈ w_x_pushOthers := fun _ h => List.mem_cons_of_mem _ (List.mem_append_right _ h)
theorem hd_x_pushOthers : yX12_pushOthers.cls = RX12 ∧ yX12_pushOthers.cls ≠ "java/lang/invoke/MethodHandle" ∧ yX12_pushOthers.cls ≠ "java/lang/invoke/VarHandle" ∧ (parseMethodDescriptor yX12_pushOthers.desc).map (fun d => d.parameters.length) = some 2 := by decide +kernel
theorem gg_x_pushOthers_compare : GoodIn w_x_pushOthers w_x_compare := goodIn_sub (fun w h => (List.mem_cons.mp h).elim (fun e => (List.mem_cons_of_mem _ (List.mem_append_left _ (List.mem_append_right _ (List.mem_append_left _ (List.mem_cons.mpr (Or.inl e))))))) (fun h => (List.mem_append.mp h).elim (fun h => (List.mem_cons_of_mem _ (List.mem_append_left _ (List.mem_append_right _ (List.mem_append_left _ (List.mem_cons_of_mem _ h)))))) (fun h => List.mem_cons_of_mem _ (List.mem_append_right _ h)))) w_x_compare_good
theorem g_x_pushOthers_compare_451 : GoodIn w_x_pushOthers (wsV RX12 451 RX12 yX12_compare w_x_compare) := goodIn_app (nb_g4 (List.mem_cons_of_mem _ (List.mem_append_left _ (List.mem_append_left _ (List.mem_of_getElem? (i := 1) rfl)))) (List.mem_cons_of_mem _ (List.mem_append_left _ (List.mem_append_left _ (List.mem_of_getElem? (i := 2) rfl)))) (List.mem_cons_of_mem _ (List.mem_append_left _ (List.mem_append_left _ (List.mem_of_getElem? (i := 3) rfl)))) (List.mem_cons_of_mem _ (List.mem_append_left _ (List.mem_append_left _ (List.mem_of_getElem? (i := 4) rfl)))) (by decide +kernel)) gg_x_pushOthers_compare
theorem gg_x_pushOthers_push : GoodIn w_x_pushOthers w_x_push := goodIn_sub (fun w h => (List.mem_cons.mp h).elim (fun e => (List.mem_cons_of_mem _ (List.mem_append_left _ (List.mem_append_right _ (List.mem_append_right _ (List.mem_append_left _ (List.mem_cons.mpr (Or.inl e)))))))) (fun h => (List.mem_append.mp h).elim (fun h => (List.mem_cons_of_mem _ (List.mem_append_left _ (List.mem_append_right _ (List.mem_append_right _ (List.mem_append_left _ (List.mem_cons_of_mem _ h))))))) (fun h => List.mem_cons_of_mem _ (List.mem_append_right _ h)))) w_x_push_good
theorem g_x_pushOthers_push_594 : GoodIn w_x_pushOthers (wsV RX12 594 RX12 yX12_push w_x_push) := goodIn_app (nb_g4 (List.mem_cons_of_mem _ (List.mem_append_left _ (List.mem_append_left _ (List.mem_of_getElem? (i := 5) rfl)))) (List.mem_cons_of_mem _ (List.mem_append_left _ (List.mem_append_left _ (List.mem_of_getElem? (i := 6) rfl)))) (List.mem_cons_of_mem _ (List.mem_append_left _ (List.mem_append_left _ (List.mem_of_getElem? (i := 7) rfl)))) (List.mem_cons_of_mem _ (List.mem_append_left _ (List.mem_append_left _ (List.mem_of_getElem? (i := 4) rfl)))) (by decide +kernel)) gg_x_pushOthers_push
set_option maxHeartbeats 40000000 in
set_option maxRecDepth 100000 in
theorem c_x_pushOthers (l : Launch) (dC : Nat → ClassId) (dI : Nat → Nat → Nat) (cy : Nat → ClassId) (a : Nat → Nat) (k0 : Nat) (L0 : Nat → Int32) (σ0 : MS) (r0 : Int32 × MS) (h0 : x_pushOthers k0 0 L0 σ0 = some r0) (sz : Nat) : Met l yX12_pushOthers w_x_pushOthers ({ frames := 43, cells := 0, slots := 0, locals := 1195 }) (va_Pc [.ref (a 0), .int (L0 1), .int (L0 2)] (nIn (dC, dI) cy sz (vM cy a σ0))) (va_Qv (fun _ : Unit => True) (fun _ t => nOut (dC, dI) cy (va_A (vM cy a σ0) sz) (vM cy a r0.2) t) (va_A (vM cy a σ0) sz)) 0 0 (va_A (vM cy a σ0) sz) := by
  refine Met.ofW (cc := cX12_pushOthers) (maxL := 5) (ret := none) (by decide) rfl ?_
  intro p e s m args below meth c s₁ B hml hv
  obtain ⟨rfl, hsz, hP, hK, hD0, hG⟩ := hv
  have hx := B.exec
  have hb := B.bytes
  have hr := B.returns
  have hts := atoms_spec (ws := w_x_pushOthers) B.pre
  have hown : s.vm.findClass RX12 = some m.cls := findClass_of_methodNamed B.named
  have hlocks := B.notSynchronized
  subst hsz
  have hD := hD0.self (sz := s.heap.size)
  generalize hAe : va_A (vM cy a σ0) s.heap.size = A at hD ⊢
  have hA : ∀ q : Nat, s.heap.size ≤ q → A q := fun q h => by rw [← hAe]; exact Or.inr h
  have hS : va_S A s.heap s.heap [] := va_S.rf
  have hl := lv_entry ([.ref (a 0), .int (L0 1), .int (L0 2)]) (n := 5) (Nat.le_of_ble_eq_true rfl)
  rw [lg_entry_eq]
  generalize (lg_sl ([.ref (a 0), .int (L0 1), .int (L0 2)]) ++ List.replicate (5 - (lg_sl ([.ref (a 0), .int (L0 1), .int (L0 2)])).length) Slot.unset).toArray = ls at hl ⊢
  have hl : lv_has ls 5 [(0, .ref (a 0)), (1, .int (L0 1)), (2, .int (L0 2))] := hl
  have blk : ∀ k : Nat, (bT p l e (headSpec w_x_pushOthers ({ frames := 43, cells := 0, slots := 0, locals := 1195 })).room s m #[.ref (a 0), .int (L0 1), .int (L0 2)] below meth c dC dI cy a A (qV dC dI cy a A below #[.ref (a 0), .int (L0 1), .int (L0 2)] s) 5 (x_pushOthers k 0) (fun L => [(0, .ref (a 0)), (1, .int (L 1)), (2, .int (L 2))]) 0 (fun L => [])) ∧ (bT p l e (headSpec w_x_pushOthers ({ frames := 43, cells := 0, slots := 0, locals := 1195 })).room s m #[.ref (a 0), .int (L0 1), .int (L0 2)] below meth c dC dI cy a A (qV dC dI cy a A below #[.ref (a 0), .int (L0 1), .int (L0 2)] s) 5 (x_pushOthers k 1) (fun L => [(0, .ref (a 0)), (1, .int (L 1)), (2, .int (L 2)), (3, .int (L 3))]) 2 (fun L => [])) ∧ (bT p l e (headSpec w_x_pushOthers ({ frames := 43, cells := 0, slots := 0, locals := 1195 })).room s m #[.ref (a 0), .int (L0 1), .int (L0 2)] below meth c dC dI cy a A (qV dC dI cy a A below #[.ref (a 0), .int (L0 1), .int (L0 2)] s) 5 (x_pushOthers k 2) (fun L => [(0, .ref (a 0)), (1, .int (L 1)), (2, .int (L 2)), (3, .int (L 3)), (4, .int (L 4))]) 49 (fun L => [])) ∧ (bT p l e (headSpec w_x_pushOthers ({ frames := 43, cells := 0, slots := 0, locals := 1195 })).room s m #[.ref (a 0), .int (L0 1), .int (L0 2)] below meth c dC dI cy a A (qV dC dI cy a A below #[.ref (a 0), .int (L0 1), .int (L0 2)] s) 5 (x_pushOthers k 3) (fun L => [(0, .ref (a 0)), (1, .int (L 1)), (2, .int (L 2)), (3, .int (L 3))]) 55 (fun L => [])) := by
    intro k
    induction k with
    | zero => exact ⟨fun L σ r h => (by cases h), fun L σ r h => (by cases h), fun L σ r h => (by cases h), fun L σ r h => (by cases h)⟩
    | succ k ih =>
      refine ⟨?_, ?_, ?_, ?_⟩
      · intro L σ r h H locs ls hP hD hS hl
        rw [x_pushOthers] at h
        refine lv_iconst (v := 0) hx hb dX12_pushOthers_0 (by decide) ?_
        refine lv_istore_n (lv' := [(3, .int 0), (0, .ref (a 0)), (1, .int (L 1)), (2, .int (L 2))]) hx hb dX12_pushOthers_1 rfl hl (by decide) rfl (fun ls hl => ?_)
        exact ih.2.1 (upd L 3 0) σ r h H locs ls hP hD hS (lv_sub hl [1, 2, 3, 0] rfl)
      · intro L σ r h H locs ls hP hD hS hl
        rw [x_pushOthers] at h
        refine lv_iload_n hx hb dX12_pushOthers_2 rfl (lv_at hl 3 rfl) ?_
        refine lv_aload_n hx hb dX12_pushOthers_3 rfl (lv_at hl 0 rfl) ?_
        refine ng_53 hx hb hts in_x_pushOthers hown hK hP (hts _ (List.mem_cons_of_mem _ (List.mem_append_left _ (List.mem_append_left _ (List.mem_of_getElem? (i := 0) rfl))))) dX12_pushOthers_4 ?_
        refine lv_iload_n hx hb dX12_pushOthers_7 rfl (lv_at hl 1 rfl) ?_
        refine lv_iconst (v := 1) hx hb dX12_pushOthers_8 (by decide) ?_
        refine lv_iadd hx hb dX12_pushOthers_9 ?_
        obtain ⟨q1, h⟩ := nb_ite1 h
        refine nl_28 hx hb hK hP q1 dX12_pushOthers_10 ?_
        refine lv_icmp_ge (tgt := 55) hx hb dX12_pushOthers_11 (by decide) (fun c2 => ?_) (fun c2 => ?_)
        · rw [if_pos c2] at h
          exact ih.2.2.2 L σ r h H locs ls hP hD hS (lv_sub hl [0, 1, 2, 3] rfl)
        · rw [if_neg c2] at h
          refine lv_aload_n hx hb dX12_pushOthers_14 rfl (lv_at hl 0 rfl) ?_
          refine ng_53 hx hb hts in_x_pushOthers hown hK hP (hts _ (List.mem_cons_of_mem _ (List.mem_append_left _ (List.mem_append_left _ (List.mem_of_getElem? (i := 0) rfl))))) dX12_pushOthers_15 ?_
          refine lv_iload_n hx hb dX12_pushOthers_18 rfl (lv_at hl 1 rfl) ?_
          refine lv_iconst (v := 4) hx hb dX12_pushOthers_19 (by decide) ?_
          refine lv_iadd hx hb dX12_pushOthers_20 ?_
          refine lv_iload_n hx hb dX12_pushOthers_21 rfl (lv_at hl 3 rfl) ?_
          refine lv_iadd hx hb dX12_pushOthers_22 ?_
          obtain ⟨q3, h⟩ := nb_ite1 h
          refine nl_28 hx hb hK hP q3 dX12_pushOthers_23 ?_
          refine lv_istore (lv' := [(4, .int (σ.2.2 28 ((((((L 1)) + 4)) + ((L 3)))).toNatClampNeg)), (0, .ref (a 0)), (1, .int (L 1)), (2, .int (L 2)), (3, .int (L 3))]) hx hb dX12_pushOthers_24 hl (by decide) rfl (fun ls hl => ?_)
          refine lv_aload_n hx hb dX12_pushOthers_26 rfl (lv_at hl 1 rfl) ?_
          refine lv_aload_n hx hb dX12_pushOthers_27 rfl (lv_at hl 1 rfl) ?_
          refine ng_53 hx hb hts in_x_pushOthers hown hK hP (hts _ (List.mem_cons_of_mem _ (List.mem_append_left _ (List.mem_append_left _ (List.mem_of_getElem? (i := 0) rfl))))) dX12_pushOthers_28 ?_
          refine lv_iload hx hb dX12_pushOthers_31 (lv_at hl 0 rfl) ?_
          refine lv_iconst (v := 4) hx hb dX12_pushOthers_33 (by decide) ?_
          refine lv_iadd hx hb dX12_pushOthers_34 ?_
          obtain ⟨q4, h⟩ := nb_ite1 h
          refine nl_28 hx hb hK hP q4 dX12_pushOthers_35 ?_
          refine lv_iload_n hx hb dX12_pushOthers_36 rfl (lv_at hl 3 rfl) ?_
          obtain ⟨r5, hc5, h⟩ := ob_ex h
          refine nc_Vi (As := [.int (σ.2.2 28 ((((σ.2.2 28 ((((((L 1)) + 4)) + ((L 3)))).toNatClampNeg)) + 4)).toNatClampNeg), .int (L 2)]) (rest := []) ⟨hx, hb, hml, hown, hts⟩ (c_x_compare l dC dI cy a k (upd (upd (fun _ => 0) 1 ((σ.2.2 28 ((((σ.2.2 28 ((((((L 1)) + 4)) + ((L 3)))).toNatClampNeg)) + 4)).toNatClampNeg))) 2 ((L 2))) σ r5 hc5 H.size) (cwV 2 hts g_x_pushOthers_compare_451 rfl rfl rfl hd_x_compare ⟨Nat.le_of_ble_eq_true rfl, Nat.le_of_ble_eq_true rfl⟩) hK hG hA hP hD hS rfl hl.1 rfl (Nat.le_of_ble_eq_true rfl) dX12_pushOthers_37 ⟨Nat.le_refl _, Nat.le_refl _⟩ (fun H locs hP hD hS => ?_)
          refine lv_if_eq (tgt := 49) hx hb dX12_pushOthers_40 (by decide) (fun c6 => ?_) (fun c6 => ?_)
          · rw [if_pos c6] at h
            exact ih.2.2.1 (upd L 4 ((σ.2.2 28 ((((((L 1)) + 4)) + ((L 3)))).toNatClampNeg))) r5.2 r h H locs ls hP hD hS (lv_sub hl [1, 2, 3, 4, 0] rfl)
          · rw [if_neg c6] at h
            refine lv_aload_n hx hb dX12_pushOthers_43 rfl (lv_at hl 1 rfl) ?_
            refine lv_iload hx hb dX12_pushOthers_44 (lv_at hl 0 rfl) ?_
            obtain ⟨r7, hc7, h⟩ := ob_ex h
            refine nc_Vv (As := [.int (σ.2.2 28 ((((((L 1)) + 4)) + ((L 3)))).toNatClampNeg)]) (rest := []) ⟨hx, hb, hml, hown, hts⟩ (c_x_push l dC dI cy a k (upd (fun _ => 0) 1 ((σ.2.2 28 ((((((L 1)) + 4)) + ((L 3)))).toNatClampNeg))) r5.2 r7 hc7 H.size) (cwV 1 hts g_x_pushOthers_push_594 rfl rfl rfl hd_x_push ⟨Nat.le_of_ble_eq_true rfl, Nat.le_of_ble_eq_true rfl⟩) hK hG hA hP hD hS rfl hl.1 rfl (Nat.le_of_ble_eq_true rfl) dX12_pushOthers_46 ⟨Nat.le_refl _, Nat.le_refl _⟩ (fun H locs hP hD hS => ?_)
            exact ih.2.2.1 (upd L 4 ((σ.2.2 28 ((((((L 1)) + 4)) + ((L 3)))).toNatClampNeg))) r7.2 r h H locs ls hP hD hS (lv_sub hl [1, 2, 3, 4, 0] rfl)
      · intro L σ r h H locs ls hP hD hS hl
        rw [x_pushOthers] at h
        refine lv_iinc (v := ((L 3)) + 1) (lv' := [(3, .int (((L 3)) + 1)), (0, .ref (a 0)), (1, .int (L 1)), (2, .int (L 2)), (4, .int (L 4))]) hx hb dX12_pushOthers_49 hl (k := 3) rfl rfl (by decide) rfl (fun ls hl => ?_)
        refine lv_goto (tgt := 2) hx hb dX12_pushOthers_52 (by decide) ?_
        exact ih.2.1 (upd L 3 (((L 3)) + 1)) σ r h H locs ls hP hD hS (lv_sub hl [1, 2, 3, 0] rfl)
      · intro L σ r h H locs ls hP hD hS hl
        rw [x_pushOthers] at h
        cases h
        exact W.vret hx hb hr (fun t ht hW => ⟨⟨(), rfl, trivial, by rw [ht]; exact hP, va_K.moved hW.alike hK, hD⟩, hS.F ht⟩) hS.2.2 dX12_pushOthers_55
  exact (blk k0).1 L0 σ0 r0 h0 s.heap [] ls hP hD hS hl
/-! putPlace -/
def x_putPlace : Nat → Nat → (Nat → Int32) → MS → Option (Int32 × MS)
  | 0, _, _, _ => none
  | k + 1, 0, L, σ => if ¬ (((((L 1)) + 1)) < 0 ∨ 1740000 ≤ ((((L 1)) + 1)).toNatClampNeg) then (if ((L 2)) ≤ ((σ.2.2 28 ((((L 1)) + 1)).toNatClampNeg)) then (x_putPlace k 1 (upd L 4 ((σ.2.2 28 ((((L 1)) + 1)).toNatClampNeg))) σ) else (if ((L 3)) = 0 then (some ((L 1), σ)) else (x_putPlace k 1 (upd L 4 ((σ.2.2 28 ((((L 1)) + 1)).toNatClampNeg))) σ))) else none
  | k + 1, 1, L, σ => if ((L 2)) ≤ 2000 then (x_putPlace k 2 L σ) else (ob (x_fail k 0 (upd (fun _ => 0) 1 5) σ) (fun r2 => some (0, r2.2)))
  | k + 1, 2, L, σ => x_putPlace k 3 (upd (upd L 5 ((σ.1 59))) 6 1) σ
  | k + 1, 3, L, σ => if ((L 6)) ≤ ((L 4)) then (x_putPlace k 4 L σ) else (if ((L 2)) < ((L 6)) then (x_putPlace k 8 L σ) else (x_putPlace k 4 L σ))
  | k + 1, 4, L, σ => if ((L 6)) = ((L 2)) then (x_putPlace k 7 (upd L 100 ((L 3))) σ) else (x_putPlace k 5 L σ)
  | k + 1, 5, L, σ => if ((L 4)) < ((L 6)) then (x_putPlace k 6 L σ) else (if ¬ (((((((L 1)) + 3)) + ((L 6)))) < 0 ∨ 1740000 ≤ ((((((L 1)) + 3)) + ((L 6)))).toNatClampNeg) then (x_putPlace k 7 (upd L 100 ((σ.2.2 28 ((((((L 1)) + 3)) + ((L 6)))).toNatClampNeg))) σ) else none)
  | k + 1, 6, L, σ => x_putPlace k 7 (upd L 100 0) σ
  | k + 1, 7, L, σ => ob (x_push k 0 (upd (fun _ => 0) 1 ((L 100))) σ) (fun r1 => x_putPlace k 3 (upd L 6 (((L 6)) + 1)) r1.2)
  | k + 1, 8, L, σ => ob (x_tupleOf k 0 (upd (fun _ => 0) 1 ((L 5))) σ) (fun r1 => some (r1.1, r1.2))
  | _ + 1, _ + 9, _, _ => none
def o_x_putPlace : List Cond := [.fieldLink RX12 372 "SetHouseModel" "heap" "[I", .methodLink RX12 369 yX12_fail, .instanceMethod yX12_fail, .selects RX12 yX12_fail yX12_fail, .initialized RX12, .fieldLink RX12 385 "SetHouseModel" "top" "I", .methodLink RX12 594 yX12_push, .instanceMethod yX12_push, .selects RX12 yX12_push yX12_push, .methodLink RX12 675 yX12_tupleOf, .instanceMethod yX12_tupleOf, .selects RX12 yX12_tupleOf yX12_tupleOf]
theorem o_x_putPlace_good : o_x_putPlace.all goodWord = true := by decide +kernel
def p_x_putPlace : List Cond := o_x_putPlace ++ ((.code yX12_fail cX12_fail 2 none :: p_x_fail) ++ ((.code yX12_push cX12_push 2 none :: p_x_push) ++ ((.code yX12_tupleOf cX12_tupleOf 5 (some .int) :: p_x_tupleOf) ++ [])))
theorem p_x_putPlace_good : p_x_putPlace.all goodWord = true := nb_all2 o_x_putPlace_good (nb_all2 (nb_allc (by decide +kernel) p_x_fail_good) (nb_all2 (nb_allc (by decide +kernel) p_x_push_good) (nb_all2 (nb_allc (by decide +kernel) p_x_tupleOf_good) rfl)))
def w_x_putPlace : List Cond := .code yX12_putPlace cX12_putPlace 7 (some .int) :: (p_x_putPlace ++ fM)
theorem w_x_putPlace_good : w_x_putPlace.all goodWord = true := nb_allc (by decide +kernel) (nb_all2 p_x_putPlace_good fM_good)
theorem in_x_putPlace : ∀ w ∈ wsX120, w ∈ w_x_putPlace := fun _ h => List.mem_cons_of_mem _ (List.mem_append_right _ h)
theorem hd_x_putPlace : yX12_putPlace.cls = RX12 ∧ yX12_putPlace.cls ≠ "java/lang/invoke/MethodHandle" ∧ yX12_putPlace.cls ≠ "java/lang/invoke/VarHandle" ∧ (parseMethodDescriptor yX12_putPlace.desc).map (fun d => d.parameters.length) = some 3 := by decide +kernel
theorem gg_x_putPlace_fail : GoodIn w_x_putPlace w_x_fail := goodIn_sub (fun w h => (List.mem_cons.mp h).elim (fun e => (List.mem_cons_of_mem _ (List.mem_append_left _ (List.mem_append_right _ (List.mem_append_left _ (List.mem_cons.mpr (Or.inl e))))))) (fun h => (List.mem_append.mp h).elim (fun h => (List.mem_cons_of_mem _ (List.mem_append_left _ (List.mem_append_right _ (List.mem_append_left _ (List.mem_cons_of_mem _ h)))))) (fun h => List.mem_cons_of_mem _ (List.mem_append_right _ h)))) w_x_fail_good
theorem g_x_putPlace_fail_369 : GoodIn w_x_putPlace (wsV RX12 369 RX12 yX12_fail w_x_fail) := goodIn_app (nb_g4 (List.mem_cons_of_mem _ (List.mem_append_left _ (List.mem_append_left _ (List.mem_of_getElem? (i := 1) rfl)))) (List.mem_cons_of_mem _ (List.mem_append_left _ (List.mem_append_left _ (List.mem_of_getElem? (i := 2) rfl)))) (List.mem_cons_of_mem _ (List.mem_append_left _ (List.mem_append_left _ (List.mem_of_getElem? (i := 3) rfl)))) (List.mem_cons_of_mem _ (List.mem_append_left _ (List.mem_append_left _ (List.mem_of_getElem? (i := 4) rfl)))) (by decide +kernel)) gg_x_putPlace_fail
theorem gg_x_putPlace_push : GoodIn w_x_putPlace w_x_push := goodIn_sub (fun w h => (List.mem_cons.mp h).elim (fun e => (List.mem_cons_of_mem _ (List.mem_append_left _ (List.mem_append_right _ (List.mem_append_right _ (List.mem_append_left _ (List.mem_cons.mpr (Or.inl e)))))))) (fun h => (List.mem_append.mp h).elim (fun h => (List.mem_cons_of_mem _ (List.mem_append_left _ (List.mem_append_right _ (List.mem_append_right _ (List.mem_append_left _ (List.mem_cons_of_mem _ h))))))) (fun h => List.mem_cons_of_mem _ (List.mem_append_right _ h)))) w_x_push_good
theorem g_x_putPlace_push_594 : GoodIn w_x_putPlace (wsV RX12 594 RX12 yX12_push w_x_push) := goodIn_app (nb_g4 (List.mem_cons_of_mem _ (List.mem_append_left _ (List.mem_append_left _ (List.mem_of_getElem? (i := 6) rfl)))) (List.mem_cons_of_mem _ (List.mem_append_left _ (List.mem_append_left _ (List.mem_of_getElem? (i := 7) rfl)))) (List.mem_cons_of_mem _ (List.mem_append_left _ (List.mem_append_left _ (List.mem_of_getElem? (i := 8) rfl)))) (List.mem_cons_of_mem _ (List.mem_append_left _ (List.mem_append_left _ (List.mem_of_getElem? (i := 4) rfl)))) (by decide +kernel)) gg_x_putPlace_push
theorem gg_x_putPlace_tupleOf : GoodIn w_x_putPlace w_x_tupleOf := goodIn_sub (fun w h => (List.mem_cons.mp h).elim (fun e => (List.mem_cons_of_mem _ (List.mem_append_left _ (List.mem_append_right _ (List.mem_append_right _ (List.mem_append_right _ (List.mem_append_left _ (List.mem_cons.mpr (Or.inl e))))))))) (fun h => (List.mem_append.mp h).elim (fun h => (List.mem_cons_of_mem _ (List.mem_append_left _ (List.mem_append_right _ (List.mem_append_right _ (List.mem_append_right _ (List.mem_append_left _ (List.mem_cons_of_mem _ h)))))))) (fun h => List.mem_cons_of_mem _ (List.mem_append_right _ h)))) w_x_tupleOf_good
theorem g_x_putPlace_tupleOf_675 : GoodIn w_x_putPlace (wsV RX12 675 RX12 yX12_tupleOf w_x_tupleOf) := goodIn_app (nb_g4 (List.mem_cons_of_mem _ (List.mem_append_left _ (List.mem_append_left _ (List.mem_of_getElem? (i := 9) rfl)))) (List.mem_cons_of_mem _ (List.mem_append_left _ (List.mem_append_left _ (List.mem_of_getElem? (i := 10) rfl)))) (List.mem_cons_of_mem _ (List.mem_append_left _ (List.mem_append_left _ (List.mem_of_getElem? (i := 11) rfl)))) (List.mem_cons_of_mem _ (List.mem_append_left _ (List.mem_append_left _ (List.mem_of_getElem? (i := 4) rfl)))) (by decide +kernel)) gg_x_putPlace_tupleOf
set_option maxHeartbeats 40000000 in
set_option maxRecDepth 100000 in
theorem c_x_putPlace (l : Launch) (dC : Nat → ClassId) (dI : Nat → Nat → Nat) (cy : Nat → ClassId) (a : Nat → Nat) (k0 : Nat) (L0 : Nat → Int32) (σ0 : MS) (r0 : Int32 × MS) (h0 : x_putPlace k0 0 L0 σ0 = some r0) (sz : Nat) : Met l yX12_putPlace w_x_putPlace ({ frames := 4, cells := 0, slots := 0, locals := 92 }) (va_Pc [.ref (a 0), .int (L0 1), .int (L0 2), .int (L0 3)] (nIn (dC, dI) cy sz (vM cy a σ0))) (va_Qi (fun (z : Int32) (_ : Unit) => z = r0.1) (fun _ t => nOut (dC, dI) cy (va_A (vM cy a σ0) sz) (vM cy a r0.2) t) (va_A (vM cy a σ0) sz)) 0 0 (va_A (vM cy a σ0) sz) := by
  refine Met.ofW (cc := cX12_putPlace) (maxL := 7) (ret := (some .int)) (by decide) rfl ?_
  intro p e s m args below meth c s₁ B hml hv
  obtain ⟨rfl, hsz, hP, hK, hD0, hG⟩ := hv
  have hx := B.exec
  have hb := B.bytes
  have hr := B.returns
  have hts := atoms_spec (ws := w_x_putPlace) B.pre
  have hown : s.vm.findClass RX12 = some m.cls := findClass_of_methodNamed B.named
  have hlocks := B.notSynchronized
  subst hsz
  have hD := hD0.self (sz := s.heap.size)
  generalize hAe : va_A (vM cy a σ0) s.heap.size = A at hD ⊢
  have hA : ∀ q : Nat, s.heap.size ≤ q → A q := fun q h => by rw [← hAe]; exact Or.inr h
  have hS : va_S A s.heap s.heap [] := va_S.rf
  have hl := lv_entry ([.ref (a 0), .int (L0 1), .int (L0 2), .int (L0 3)]) (n := 7) (Nat.le_of_ble_eq_true rfl)
  rw [lg_entry_eq]
  generalize (lg_sl ([.ref (a 0), .int (L0 1), .int (L0 2), .int (L0 3)]) ++ List.replicate (7 - (lg_sl ([.ref (a 0), .int (L0 1), .int (L0 2), .int (L0 3)])).length) Slot.unset).toArray = ls at hl ⊢
  have hl : lv_has ls 7 [(0, .ref (a 0)), (1, .int (L0 1)), (2, .int (L0 2)), (3, .int (L0 3))] := hl
  have blk : ∀ k : Nat, (bT p l e (headSpec w_x_putPlace ({ frames := 4, cells := 0, slots := 0, locals := 92 })).room s m #[.ref (a 0), .int (L0 1), .int (L0 2), .int (L0 3)] below meth c dC dI cy a A (qI dC dI cy a A below #[.ref (a 0), .int (L0 1), .int (L0 2), .int (L0 3)] s) 7 (x_putPlace k 0) (fun L => [(0, .ref (a 0)), (1, .int (L 1)), (2, .int (L 2)), (3, .int (L 3))]) 0 (fun L => [])) ∧ (bT p l e (headSpec w_x_putPlace ({ frames := 4, cells := 0, slots := 0, locals := 92 })).room s m #[.ref (a 0), .int (L0 1), .int (L0 2), .int (L0 3)] below meth c dC dI cy a A (qI dC dI cy a A below #[.ref (a 0), .int (L0 1), .int (L0 2), .int (L0 3)] s) 7 (x_putPlace k 1) (fun L => [(0, .ref (a 0)), (1, .int (L 1)), (2, .int (L 2)), (3, .int (L 3)), (4, .int (L 4))]) 22 (fun L => [])) ∧ (bT p l e (headSpec w_x_putPlace ({ frames := 4, cells := 0, slots := 0, locals := 92 })).room s m #[.ref (a 0), .int (L0 1), .int (L0 2), .int (L0 3)] below meth c dC dI cy a A (qI dC dI cy a A below #[.ref (a 0), .int (L0 1), .int (L0 2), .int (L0 3)] s) 7 (x_putPlace k 2) (fun L => [(0, .ref (a 0)), (1, .int (L 1)), (2, .int (L 2)), (3, .int (L 3)), (4, .int (L 4))]) 36 (fun L => [])) ∧ (bT p l e (headSpec w_x_putPlace ({ frames := 4, cells := 0, slots := 0, locals := 92 })).room s m #[.ref (a 0), .int (L0 1), .int (L0 2), .int (L0 3)] below meth c dC dI cy a A (qI dC dI cy a A below #[.ref (a 0), .int (L0 1), .int (L0 2), .int (L0 3)] s) 7 (x_putPlace k 3) (fun L => [(0, .ref (a 0)), (1, .int (L 1)), (2, .int (L 2)), (3, .int (L 3)), (4, .int (L 4)), (5, .int (L 5)), (6, .int (L 6))]) 45 (fun L => [])) ∧ (bT p l e (headSpec w_x_putPlace ({ frames := 4, cells := 0, slots := 0, locals := 92 })).room s m #[.ref (a 0), .int (L0 1), .int (L0 2), .int (L0 3)] below meth c dC dI cy a A (qI dC dI cy a A below #[.ref (a 0), .int (L0 1), .int (L0 2), .int (L0 3)] s) 7 (x_putPlace k 4) (fun L => [(0, .ref (a 0)), (1, .int (L 1)), (2, .int (L 2)), (3, .int (L 3)), (4, .int (L 4)), (5, .int (L 5)), (6, .int (L 6))]) 58 (fun L => [])) ∧ (bT p l e (headSpec w_x_putPlace ({ frames := 4, cells := 0, slots := 0, locals := 92 })).room s m #[.ref (a 0), .int (L0 1), .int (L0 2), .int (L0 3)] below meth c dC dI cy a A (qI dC dI cy a A below #[.ref (a 0), .int (L0 1), .int (L0 2), .int (L0 3)] s) 7 (x_putPlace k 5) (fun L => [(0, .ref (a 0)), (1, .int (L 1)), (2, .int (L 2)), (3, .int (L 3)), (4, .int (L 4)), (5, .int (L 5)), (6, .int (L 6))]) 69 (fun L => [.ref (a 0)])) ∧ (bT p l e (headSpec w_x_putPlace ({ frames := 4, cells := 0, slots := 0, locals := 92 })).room s m #[.ref (a 0), .int (L0 1), .int (L0 2), .int (L0 3)] below meth c dC dI cy a A (qI dC dI cy a A below #[.ref (a 0), .int (L0 1), .int (L0 2), .int (L0 3)] s) 7 (x_putPlace k 6) (fun L => [(0, .ref (a 0)), (1, .int (L 1)), (2, .int (L 2)), (3, .int (L 3)), (4, .int (L 4)), (5, .int (L 5)), (6, .int (L 6))]) 90 (fun L => [.ref (a 0)])) ∧ (bT p l e (headSpec w_x_putPlace ({ frames := 4, cells := 0, slots := 0, locals := 92 })).room s m #[.ref (a 0), .int (L0 1), .int (L0 2), .int (L0 3)] below meth c dC dI cy a A (qI dC dI cy a A below #[.ref (a 0), .int (L0 1), .int (L0 2), .int (L0 3)] s) 7 (x_putPlace k 7) (fun L => [(0, .ref (a 0)), (1, .int (L 1)), (2, .int (L 2)), (3, .int (L 3)), (4, .int (L 4)), (5, .int (L 5)), (6, .int (L 6))]) 91 (fun L => [.int (L 100), .ref (a 0)])) ∧ (bT p l e (headSpec w_x_putPlace ({ frames := 4, cells := 0, slots := 0, locals := 92 })).room s m #[.ref (a 0), .int (L0 1), .int (L0 2), .int (L0 3)] below meth c dC dI cy a A (qI dC dI cy a A below #[.ref (a 0), .int (L0 1), .int (L0 2), .int (L0 3)] s) 7 (x_putPlace k 8) (fun L => [(0, .ref (a 0)), (1, .int (L 1)), (2, .int (L 2)), (3, .int (L 3)), (4, .int (L 4)), (5, .int (L 5)), (6, .int (L 6))]) 100 (fun L => [])) := by
    intro k
    induction k with
    | zero => exact ⟨fun L σ r h => (by cases h), fun L σ r h => (by cases h), fun L σ r h => (by cases h), fun L σ r h => (by cases h), fun L σ r h => (by cases h), fun L σ r h => (by cases h), fun L σ r h => (by cases h), fun L σ r h => (by cases h), fun L σ r h => (by cases h)⟩
    | succ k ih =>
      refine ⟨?_, ?_, ?_, ?_, ?_, ?_, ?_, ?_, ?_⟩
      · intro L σ r h H locs ls hP hD hS hl
        rw [x_putPlace] at h
        refine lv_aload_n hx hb dX12_putPlace_0 rfl (lv_at hl 0 rfl) ?_
        refine ng_53 hx hb hts in_x_putPlace hown hK hP (hts _ (List.mem_cons_of_mem _ (List.mem_append_left _ (List.mem_append_left _ (List.mem_of_getElem? (i := 0) rfl))))) dX12_putPlace_1 ?_
        refine lv_iload_n hx hb dX12_putPlace_4 rfl (lv_at hl 1 rfl) ?_
        refine lv_iconst (v := 1) hx hb dX12_putPlace_5 (by decide) ?_
        refine lv_iadd hx hb dX12_putPlace_6 ?_
        obtain ⟨q1, h⟩ := nb_ite1 h
        refine nl_28 hx hb hK hP q1 dX12_putPlace_7 ?_
        refine lv_istore (lv' := [(4, .int (σ.2.2 28 ((((L 1)) + 1)).toNatClampNeg)), (0, .ref (a 0)), (1, .int (L 1)), (2, .int (L 2)), (3, .int (L 3))]) hx hb dX12_putPlace_8 hl (by decide) rfl (fun ls hl => ?_)
        refine lv_iload_n hx hb dX12_putPlace_10 rfl (lv_at hl 3 rfl) ?_
        refine lv_iload hx hb dX12_putPlace_11 (lv_at hl 0 rfl) ?_
        refine lv_icmp_le (tgt := 22) hx hb dX12_putPlace_13 (by decide) (fun c2 => ?_) (fun c2 => ?_)
        · rw [if_pos c2] at h
          exact ih.2.1 (upd L 4 ((σ.2.2 28 ((((L 1)) + 1)).toNatClampNeg))) σ r h H locs ls hP hD hS (lv_sub hl [1, 2, 3, 4, 0] rfl)
        · rw [if_neg c2] at h
          refine lv_iload_n hx hb dX12_putPlace_16 rfl (lv_at hl 4 rfl) ?_
          refine lv_if_ne (tgt := 22) hx hb dX12_putPlace_17 (by decide) (fun c3 => ?_) (fun c3 => ?_)
          · rw [if_neg c3] at h
            exact ih.2.1 (upd L 4 ((σ.2.2 28 ((((L 1)) + 1)).toNatClampNeg))) σ r h H locs ls hP hD hS (lv_sub hl [1, 2, 3, 4, 0] rfl)
          · rw [if_pos c3] at h
            refine lv_iload_n hx hb dX12_putPlace_20 rfl (lv_at hl 2 rfl) ?_
            cases h
            exact W.iret (v := (L 1)) hx hb hr (fun t ht hW => ⟨⟨(L 1), (), rfl, rfl, by rw [ht]; exact hP, va_K.moved hW.alike hK, hD⟩, hS.F ht⟩) hS.2.2 dX12_putPlace_21
      · intro L σ r h H locs ls hP hD hS hl
        rw [x_putPlace] at h
        refine lv_iload_n hx hb dX12_putPlace_22 rfl (lv_at hl 2 rfl) ?_
        refine lv_sipush (v := 2000) hx hb dX12_putPlace_23 (by decide) ?_
        refine lv_icmp_le (tgt := 36) hx hb dX12_putPlace_26 (by decide) (fun c1 => ?_) (fun c1 => ?_)
        · rw [if_pos c1] at h
          exact ih.2.2.1 L σ r h H locs ls hP hD hS (lv_sub hl [0, 1, 2, 3, 4] rfl)
        · rw [if_neg c1] at h
          refine lv_aload_n hx hb dX12_putPlace_29 rfl (lv_at hl 0 rfl) ?_
          refine lv_iconst (v := 5) hx hb dX12_putPlace_30 (by decide) ?_
          obtain ⟨r2, hc2, h⟩ := ob_ex h
          refine nc_Vv (As := [.int 5]) (rest := []) ⟨hx, hb, hml, hown, hts⟩ (c_x_fail l dC dI cy a k (upd (fun _ => 0) 1 5) σ r2 hc2 H.size) (cwV 1 hts g_x_putPlace_fail_369 rfl rfl rfl hd_x_fail ⟨Nat.le_of_ble_eq_true rfl, Nat.le_of_ble_eq_true rfl⟩) hK hG hA hP hD hS rfl hl.1 rfl (Nat.le_of_ble_eq_true rfl) dX12_putPlace_31 ⟨Nat.le_refl _, Nat.le_refl _⟩ (fun H locs hP hD hS => ?_)
          refine lv_iconst (v := 0) hx hb dX12_putPlace_34 (by decide) ?_
          cases h
          exact W.iret (v := 0) hx hb hr (fun t ht hW => ⟨⟨0, (), rfl, rfl, by rw [ht]; exact hP, va_K.moved hW.alike hK, hD⟩, hS.F ht⟩) hS.2.2 dX12_putPlace_35
      · intro L σ r h H locs ls hP hD hS hl
        rw [x_putPlace] at h
        refine lv_aload_n hx hb dX12_putPlace_36 rfl (lv_at hl 0 rfl) ?_
        refine ng_59 hx hb hts in_x_putPlace hown hK hP (hts _ (List.mem_cons_of_mem _ (List.mem_append_left _ (List.mem_append_left _ (List.mem_of_getElem? (i := 5) rfl))))) dX12_putPlace_37 ?_
        refine lv_istore (lv' := [(5, .int (σ.1 59)), (0, .ref (a 0)), (1, .int (L 1)), (2, .int (L 2)), (3, .int (L 3)), (4, .int (L 4))]) hx hb dX12_putPlace_40 hl (by decide) rfl (fun ls hl => ?_)
        refine lv_iconst (v := 1) hx hb dX12_putPlace_42 (by decide) ?_
        refine lv_istore (lv' := [(6, .int 1), (5, .int (σ.1 59)), (0, .ref (a 0)), (1, .int (L 1)), (2, .int (L 2)), (3, .int (L 3)), (4, .int (L 4))]) hx hb dX12_putPlace_43 hl (by decide) rfl (fun ls hl => ?_)
        exact ih.2.2.2.1 (upd (upd L 5 ((σ.1 59))) 6 1) σ r h H locs ls hP hD hS (lv_sub hl [2, 3, 4, 5, 6, 1, 0] rfl)
      · intro L σ r h H locs ls hP hD hS hl
        rw [x_putPlace] at h
        refine lv_iload hx hb dX12_putPlace_45 (lv_at hl 6 rfl) ?_
        refine lv_iload hx hb dX12_putPlace_47 (lv_at hl 4 rfl) ?_
        refine lv_icmp_le (tgt := 58) hx hb dX12_putPlace_49 (by decide) (fun c1 => ?_) (fun c1 => ?_)
        · rw [if_pos c1] at h
          exact ih.2.2.2.2.1 L σ r h H locs ls hP hD hS (lv_sub hl [0, 1, 2, 3, 4, 5, 6] rfl)
        · rw [if_neg c1] at h
          refine lv_iload hx hb dX12_putPlace_52 (lv_at hl 6 rfl) ?_
          refine lv_iload_n hx hb dX12_putPlace_54 rfl (lv_at hl 2 rfl) ?_
          refine lv_icmp_gt (tgt := 100) hx hb dX12_putPlace_55 (by decide) (fun c2 => ?_) (fun c2 => ?_)
          · rw [if_pos c2] at h
            exact ih.2.2.2.2.2.2.2.2 L σ r h H locs ls hP hD hS (lv_sub hl [0, 1, 2, 3, 4, 5, 6] rfl)
          · rw [if_neg c2] at h
            exact ih.2.2.2.2.1 L σ r h H locs ls hP hD hS (lv_sub hl [0, 1, 2, 3, 4, 5, 6] rfl)
      · intro L σ r h H locs ls hP hD hS hl
        rw [x_putPlace] at h
        refine lv_aload_n hx hb dX12_putPlace_58 rfl (lv_at hl 0 rfl) ?_
        refine lv_iload hx hb dX12_putPlace_59 (lv_at hl 6 rfl) ?_
        refine lv_iload_n hx hb dX12_putPlace_61 rfl (lv_at hl 2 rfl) ?_
        refine lv_icmp_ne (tgt := 69) hx hb dX12_putPlace_62 (by decide) (fun c1 => ?_) (fun c1 => ?_)
        · rw [if_neg c1] at h
          exact ih.2.2.2.2.2.1 L σ r h H locs ls hP hD hS (lv_sub hl [0, 1, 2, 3, 4, 5, 6] rfl)
        · rw [if_pos c1] at h
          refine lv_iload_n hx hb dX12_putPlace_65 rfl (lv_at hl 3 rfl) ?_
          refine lv_goto (tgt := 91) hx hb dX12_putPlace_66 (by decide) ?_
          exact ih.2.2.2.2.2.2.2.1 (upd L 100 ((L 3))) σ r h H locs ls hP hD hS (lv_sub hl [0, 1, 2, 3, 4, 5, 6] rfl)
      · intro L σ r h H locs ls hP hD hS hl
        rw [x_putPlace] at h
        refine lv_iload hx hb dX12_putPlace_69 (lv_at hl 6 rfl) ?_
        refine lv_iload hx hb dX12_putPlace_71 (lv_at hl 4 rfl) ?_
        refine lv_icmp_gt (tgt := 90) hx hb dX12_putPlace_73 (by decide) (fun c1 => ?_) (fun c1 => ?_)
        · rw [if_pos c1] at h
          exact ih.2.2.2.2.2.2.1 L σ r h H locs ls hP hD hS (lv_sub hl [0, 1, 2, 3, 4, 5, 6] rfl)
        · rw [if_neg c1] at h
          refine lv_aload_n hx hb dX12_putPlace_76 rfl (lv_at hl 0 rfl) ?_
          refine ng_53 hx hb hts in_x_putPlace hown hK hP (hts _ (List.mem_cons_of_mem _ (List.mem_append_left _ (List.mem_append_left _ (List.mem_of_getElem? (i := 0) rfl))))) dX12_putPlace_77 ?_
          refine lv_iload_n hx hb dX12_putPlace_80 rfl (lv_at hl 1 rfl) ?_
          refine lv_iconst (v := 3) hx hb dX12_putPlace_81 (by decide) ?_
          refine lv_iadd hx hb dX12_putPlace_82 ?_
          refine lv_iload hx hb dX12_putPlace_83 (lv_at hl 6 rfl) ?_
          refine lv_iadd hx hb dX12_putPlace_85 ?_
          obtain ⟨q2, h⟩ := nb_ite1 h
          refine nl_28 hx hb hK hP q2 dX12_putPlace_86 ?_
          refine lv_goto (tgt := 91) hx hb dX12_putPlace_87 (by decide) ?_
          exact ih.2.2.2.2.2.2.2.1 (upd L 100 ((σ.2.2 28 ((((((L 1)) + 3)) + ((L 6)))).toNatClampNeg))) σ r h H locs ls hP hD hS (lv_sub hl [0, 1, 2, 3, 4, 5, 6] rfl)
      · intro L σ r h H locs ls hP hD hS hl
        rw [x_putPlace] at h
        refine lv_iconst (v := 0) hx hb dX12_putPlace_90 (by decide) ?_
        exact ih.2.2.2.2.2.2.2.1 (upd L 100 0) σ r h H locs ls hP hD hS (lv_sub hl [0, 1, 2, 3, 4, 5, 6] rfl)
      · intro L σ r h H locs ls hP hD hS hl
        rw [x_putPlace] at h
        obtain ⟨r1, hc1, h⟩ := ob_ex h
        refine nc_Vv (As := [.int (L 100)]) (rest := []) ⟨hx, hb, hml, hown, hts⟩ (c_x_push l dC dI cy a k (upd (fun _ => 0) 1 ((L 100))) σ r1 hc1 H.size) (cwV 1 hts g_x_putPlace_push_594 rfl rfl rfl hd_x_push ⟨Nat.le_of_ble_eq_true rfl, Nat.le_of_ble_eq_true rfl⟩) hK hG hA hP hD hS rfl hl.1 rfl (Nat.le_of_ble_eq_true rfl) dX12_putPlace_91 ⟨Nat.le_refl _, Nat.le_refl _⟩ (fun H locs hP hD hS => ?_)
        refine lv_iinc (v := ((L 6)) + 1) (lv' := [(6, .int (((L 6)) + 1)), (0, .ref (a 0)), (1, .int (L 1)), (2, .int (L 2)), (3, .int (L 3)), (4, .int (L 4)), (5, .int (L 5))]) hx hb dX12_putPlace_94 hl (k := 6) rfl rfl (by decide) rfl (fun ls hl => ?_)
        refine lv_goto (tgt := 45) hx hb dX12_putPlace_97 (by decide) ?_
        exact ih.2.2.2.1 (upd L 6 (((L 6)) + 1)) r1.2 r h H locs ls hP hD hS (lv_sub hl [1, 2, 3, 4, 5, 6, 0] rfl)
      · intro L σ r h H locs ls hP hD hS hl
        rw [x_putPlace] at h
        refine lv_aload_n hx hb dX12_putPlace_100 rfl (lv_at hl 0 rfl) ?_
        refine lv_iload hx hb dX12_putPlace_101 (lv_at hl 5 rfl) ?_
        obtain ⟨r1, hc1, h⟩ := ob_ex h
        refine nc_Vi (As := [.int (L 5)]) (rest := []) ⟨hx, hb, hml, hown, hts⟩ (c_x_tupleOf l dC dI cy a k (upd (fun _ => 0) 1 ((L 5))) σ r1 hc1 H.size) (cwV 1 hts g_x_putPlace_tupleOf_675 rfl rfl rfl hd_x_tupleOf ⟨Nat.le_of_ble_eq_true rfl, Nat.le_of_ble_eq_true rfl⟩) hK hG hA hP hD hS rfl hl.1 rfl (Nat.le_of_ble_eq_true rfl) dX12_putPlace_103 ⟨Nat.le_refl _, Nat.le_refl _⟩ (fun H locs hP hD hS => ?_)
        cases h
        exact W.iret (v := r1.1) hx hb hr (fun t ht hW => ⟨⟨r1.1, (), rfl, rfl, by rw [ht]; exact hP, va_K.moved hW.alike hK, hD⟩, hS.F ht⟩) hS.2.2 dX12_putPlace_106
  exact (blk k0).1 L0 σ0 r0 h0 s.heap [] ls hP hD hS hl
/-! putAt -/
def x_putAt : Nat → Nat → (Nat → Int32) → MS → Option (Int32 × MS)
  | 0, _, _, _ => none
  | k + 1, 0, L, σ => ob (x_kind k 0 (upd (fun _ => 0) 1 ((L 1))) σ) (fun r1 => if r1.1 = 5 then (x_putAt k 1 (upd L 4 r1.1) r1.2) else (if r1.1 = 4 then (x_putAt k 1 (upd L 4 r1.1) r1.2) else (x_putAt k 13 (upd L 4 r1.1) r1.2)))
  | k + 1, 1, L, σ => ob (x_kind k 0 (upd (fun _ => 0) 1 ((L 2))) σ) (fun r1 => if r1.1 = 2 then (if ((L 4)) = 4 then (ob (x_kind k 0 (upd (fun _ => 0) 1 ((L 3))) r1.2) (fun r4 => if r4.1 = 4 then (if ¬ (((((L 3)) + 1)) < 0 ∨ 1740000 ≤ ((((L 3)) + 1)).toNatClampNeg) then (if ((r4.2.2.2 28 ((((L 3)) + 1)).toNatClampNeg)) = 1 then (x_putAt k 3 L r4.2) else (x_putAt k 2 L r4.2)) else none) else (x_putAt k 2 L r4.2))) else (x_putAt k 3 L r1.2)) else (x_putAt k 2 L r1.2))
  | k + 1, 2, L, σ => ob (x_wrongKind k 0 (fun _ => 0) σ) (fun r1 => some (r1.1, r1.2))
  | k + 1, 3, L, σ => ob (x_intOf k 0 (upd (upd (fun _ => 0) 1 ((L 2))) 2 100000) (fun _ => 0) σ) (fun r1 => if ¬ (((((L 1)) + 1)) < 0 ∨ 1740000 ≤ ((((L 1)) + 1)).toNatClampNeg) then (if r1.1 < 1 then (x_putAt k 4 (upd (upd L 5 r1.1) 6 ((r1.2.2.2 28 ((((L 1)) + 1)).toNatClampNeg))) r1.2) else (if ((L 4)) = 4 then (if r1.1 ≤ ((((r1.2.2.2 28 ((((L 1)) + 1)).toNatClampNeg)) + 1)) then (x_putAt k 5 (upd (upd L 5 r1.1) 6 ((r1.2.2.2 28 ((((L 1)) + 1)).toNatClampNeg))) r1.2) else (x_putAt k 4 (upd (upd L 5 r1.1) 6 ((r1.2.2.2 28 ((((L 1)) + 1)).toNatClampNeg))) r1.2)) else (x_putAt k 5 (upd (upd L 5 r1.1) 6 ((r1.2.2.2 28 ((((L 1)) + 1)).toNatClampNeg))) r1.2))) else none)
  | k + 1, 4, L, σ => ob (x_fail k 0 (upd (fun _ => 0) 1 4) σ) (fun r1 => some (0, r1.2))
  | k + 1, 5, L, σ => if ((L 4)) = 4 then (x_putAt k 6 (upd L 7 0) σ) else (x_putAt k 12 L σ)
  | k + 1, 6, L, σ => if ((L 6)) ≤ ((L 7)) then (x_putAt k 8 L σ) else (if ¬ (((((((L 1)) + 4)) + ((L 7)))) < 0 ∨ 1740000 ≤ ((((((L 1)) + 4)) + ((L 7)))).toNatClampNeg) then (if ¬ (((L 7)) < 0 ∨ 8200 ≤ ((L 7)).toNatClampNeg) then (x_putAt k 7 L (σ.1, σ.2.1, updG σ.2.2 51 (upd (σ.2.2 51) ((L 7)).toNatClampNeg ((σ.2.2 28 ((((((L 1)) + 4)) + ((L 7)))).toNatClampNeg))))) else none) else none)
  | k + 1, 7, L, σ => x_putAt k 6 (upd L 7 (((L 7)) + 1)) σ
  | k + 1, 8, L, σ => if ¬ (((((L 3)) + 4)) < 0 ∨ 1740000 ≤ ((((L 3)) + 4)).toNatClampNeg) then (if ¬ (((((L 5)) - 1)) < 0 ∨ 8200 ≤ ((((L 5)) - 1)).toNatClampNeg) then (x_putAt k 9 L (σ.1, σ.2.1, updG σ.2.2 51 (upd (σ.2.2 51) ((((L 5)) - 1)).toNatClampNeg ((σ.2.2 28 ((((L 3)) + 4)).toNatClampNeg))))) else none) else none
  | k + 1, 9, L, σ => if ((L 5)) ≤ ((L 6)) then (x_putAt k 10 (upd L 100 0) σ) else (x_putAt k 11 (upd (upd L 100 ((((L 6)) + 1))) 101 0) σ)
  | k + 1, 10, L, σ => x_putAt k 11 (upd (upd L 100 ((L 6))) 101 ((L 100))) σ
  | k + 1, 11, L, σ => ob (x_stringOf__51 k 0 (upd (upd (fun _ => 0) 2 ((L 101))) 3 ((L 100))) σ) (fun r1 => some (r1.1, r1.2))
  | k + 1, 12, L, σ => ob (x_putPlace k 0 (upd (upd (upd (fun _ => 0) 1 ((L 1))) 2 ((L 5))) 3 ((L 3))) σ) (fun r1 => some (r1.1, r1.2))
  | k + 1, 13, L, σ => ob (x_isMap k 0 (upd (fun _ => 0) 1 ((L 1))) σ) (fun r1 => if r1.1 = 0 then (ob (x_wrongKind k 0 (fun _ => 0) r1.2) (fun r3 => some (r3.1, r3.2))) else (x_putAt k 14 L r1.2))
  | k + 1, 14, L, σ => ob (x_pushOthers k 0 (upd (upd (fun _ => 0) 1 ((L 1))) 2 ((L 2))) σ) (fun r1 => if ((L 3)) = 0 then (x_putAt k 15 (upd L 5 ((σ.1 59))) r1.2) else (ob (x_pair k 0 (upd (upd (fun _ => 0) 1 ((L 2))) 2 ((L 3))) r1.2) (fun r3 => ob (x_push k 0 (upd (fun _ => 0) 1 r3.1) r3.2) (fun r4 => x_putAt k 15 (upd L 5 ((σ.1 59))) r4.2))))
  | k + 1, 15, L, σ => if ((σ.1 56)) ≤ 0 then (x_putAt k 16 L σ) else (x_putAt k 17 (upd L 100 0) σ)
  | k + 1, 16, L, σ => ob (x_setOf k 0 (upd (fun _ => 0) 1 ((L 5))) σ) (fun r1 => x_putAt k 17 (upd L 100 r1.1) r1.2)
  | k + 1, 17, L, σ => some ((L 100), σ)
  | _ + 1, _ + 18, _, _ => none
def o_x_putAt : List Cond := [.methodLink RX12 545 yX12_kind, .instanceMethod yX12_kind, .selects RX12 yX12_kind yX12_kind, .initialized RX12, .fieldLink RX12 372 "SetHouseModel" "heap" "[I", .methodLink RX12 666 yX12_wrongKind, .instanceMethod yX12_wrongKind, .selects RX12 yX12_wrongKind yX12_wrongKind, .constant RX12 804 (100000), .methodLink RX12 515 yX12_intOf, .instanceMethod yX12_intOf, .selects RX12 yX12_intOf yX12_intOf, .methodLink RX12 369 yX12_fail, .instanceMethod yX12_fail, .selects RX12 yX12_fail yX12_fail, .fieldLink RX12 756 "SetHouseModel" "bytes" "[I", .methodLink RX12 597 yX12_stringOf, .instanceMethod yX12_stringOf, .selects RX12 yX12_stringOf yX12_stringOf, .methodLink RX12 843 yX12_putPlace, .instanceMethod yX12_putPlace, .selects RX12 yX12_putPlace yX12_putPlace, .methodLink RX12 785 yX12_isMap, .instanceMethod yX12_isMap, .selects RX12 yX12_isMap yX12_isMap, .fieldLink RX12 385 "SetHouseModel" "top" "I", .methodLink RX12 846 yX12_pushOthers, .instanceMethod yX12_pushOthers, .selects RX12 yX12_pushOthers yX12_pushOthers, .methodLink RX12 849 yX12_pair, .instanceMethod yX12_pair, .selects RX12 yX12_pair yX12_pair, .methodLink RX12 594 yX12_push, .instanceMethod yX12_push, .selects RX12 yX12_push yX12_push, .fieldLink RX12 362 "SetHouseModel" "err" "I", .methodLink RX12 678 yX12_setOf, .instanceMethod yX12_setOf, .selects RX12 yX12_setOf yX12_setOf]
theorem o_x_putAt_good : o_x_putAt.all goodWord = true := by decide +kernel
def p_x_putAt : List Cond := o_x_putAt ++ ((.code yX12_kind cX12_kind 2 (some .int) :: p_x_kind) ++ ((.code yX12_wrongKind cX12_wrongKind 1 (some .int) :: p_x_wrongKind) ++ ((.code yX12_intOf cX12_intOf 7 (some .int) :: p_x_intOf) ++ ((.code yX12_fail cX12_fail 2 none :: p_x_fail) ++ ((.code yX12_stringOf cX12_stringOf 6 (some .int) :: p_x_stringOf__51) ++ ((.code yX12_putPlace cX12_putPlace 7 (some .int) :: p_x_putPlace) ++ ((.code yX12_isMap cX12_isMap 5 (some .boolean) :: p_x_isMap) ++ ((.code yX12_pushOthers cX12_pushOthers 5 none :: p_x_pushOthers) ++ ((.code yX12_pair cX12_pair 4 (some .int) :: p_x_pair) ++ ((.code yX12_push cX12_push 2 none :: p_x_push) ++ ((.code yX12_setOf cX12_setOf 5 (some .int) :: p_x_setOf) ++ [])))))))))))
theorem p_x_putAt_good : p_x_putAt.all goodWord = true := nb_all2 o_x_putAt_good (nb_all2 (nb_allc (by decide +kernel) p_x_kind_good) (nb_all2 (nb_allc (by decide +kernel) p_x_wrongKind_good) (nb_all2 (nb_allc (by decide +kernel) p_x_intOf_good) (nb_all2 (nb_allc (by decide +kernel) p_x_fail_good) (nb_all2 (nb_allc (by decide +kernel) p_x_stringOf__51_good) (nb_all2 (nb_allc (by decide +kernel) p_x_putPlace_good) (nb_all2 (nb_allc (by decide +kernel) p_x_isMap_good) (nb_all2 (nb_allc (by decide +kernel) p_x_pushOthers_good) (nb_all2 (nb_allc (by decide +kernel) p_x_pair_good) (nb_all2 (nb_allc (by decide +kernel) p_x_push_good) (nb_all2 (nb_allc (by decide +kernel) p_x_setOf_good) rfl)))))))))))
def w_x_putAt : List Cond := .code yX12_putAt cX12_putAt 8 (some .int) :: (p_x_putAt ++ fM)
theorem w_x_putAt_good : w_x_putAt.all goodWord = true := nb_allc (by decide +kernel) (nb_all2 p_x_putAt_good fM_good)
theorem in_x_putAt : ∀ w ∈ wsX120, w ∈ w_x_putAt := fun _ h => List.mem_cons_of_mem _ (List.mem_append_right _ h)
theorem hd_x_putAt : yX12_putAt.cls = RX12 ∧ yX12_putAt.cls ≠ "java/lang/invoke/MethodHandle" ∧ yX12_putAt.cls ≠ "java/lang/invoke/VarHandle" ∧ (parseMethodDescriptor yX12_putAt.desc).map (fun d => d.parameters.length) = some 3 := by decide +kernel
theorem gg_x_putAt_fail : GoodIn w_x_putAt w_x_fail := goodIn_sub (fun w h => (List.mem_cons.mp h).elim (fun e => (List.mem_cons_of_mem _ (List.mem_append_left _ (List.mem_append_right _ (List.mem_append_right _ (List.mem_append_right _ (List.mem_append_right _ (List.mem_append_left _ (List.mem_cons.mpr (Or.inl e)))))))))) (fun h => (List.mem_append.mp h).elim (fun h => (List.mem_cons_of_mem _ (List.mem_append_left _ (List.mem_append_right _ (List.mem_append_right _ (List.mem_append_right _ (List.mem_append_right _ (List.mem_append_left _ (List.mem_cons_of_mem _ h))))))))) (fun h => List.mem_cons_of_mem _ (List.mem_append_right _ h)))) w_x_fail_good
theorem g_x_putAt_fail_369 : GoodIn w_x_putAt (wsV RX12 369 RX12 yX12_fail w_x_fail) := goodIn_app (nb_g4 (List.mem_cons_of_mem _ (List.mem_append_left _ (List.mem_append_left _ (List.mem_of_getElem? (i := 12) rfl)))) (List.mem_cons_of_mem _ (List.mem_append_left _ (List.mem_append_left _ (List.mem_of_getElem? (i := 13) rfl)))) (List.mem_cons_of_mem _ (List.mem_append_left _ (List.mem_append_left _ (List.mem_of_getElem? (i := 14) rfl)))) (List.mem_cons_of_mem _ (List.mem_append_left _ (List.mem_append_left _ (List.mem_of_getElem? (i := 3) rfl)))) (by decide +kernel)) gg_x_putAt_fail
theorem gg_x_putAt_intOf : GoodIn w_x_putAt w_x_intOf := goodIn_sub (fun w h => (List.mem_cons.mp h).elim (fun e => (List.mem_cons_of_mem _ (List.mem_append_left _ (List.mem_append_right _ (List.mem_append_right _ (List.mem_append_right _ (List.mem_append_left _ (List.mem_cons.mpr (Or.inl e))))))))) (fun h => (List.mem_append.mp h).elim (fun h => (List.mem_cons_of_mem _ (List.mem_append_left _ (List.mem_append_right _ (List.mem_append_right _ (List.mem_append_right _ (List.mem_append_left _ (List.mem_cons_of_mem _ h)))))))) (fun h => List.mem_cons_of_mem _ (List.mem_append_right _ h)))) w_x_intOf_good
theorem g_x_putAt_intOf_515 : GoodIn w_x_putAt (wsV RX12 515 RX12 yX12_intOf w_x_intOf) := goodIn_app (nb_g4 (List.mem_cons_of_mem _ (List.mem_append_left _ (List.mem_append_left _ (List.mem_of_getElem? (i := 9) rfl)))) (List.mem_cons_of_mem _ (List.mem_append_left _ (List.mem_append_left _ (List.mem_of_getElem? (i := 10) rfl)))) (List.mem_cons_of_mem _ (List.mem_append_left _ (List.mem_append_left _ (List.mem_of_getElem? (i := 11) rfl)))) (List.mem_cons_of_mem _ (List.mem_append_left _ (List.mem_append_left _ (List.mem_of_getElem? (i := 3) rfl)))) (by decide +kernel)) gg_x_putAt_intOf
theorem gg_x_putAt_isMap : GoodIn w_x_putAt w_x_isMap := goodIn_sub (fun w h => (List.mem_cons.mp h).elim (fun e => (List.mem_cons_of_mem _ (List.mem_append_left _ (List.mem_append_right _ (List.mem_append_right _ (List.mem_append_right _ (List.mem_append_right _ (List.mem_append_right _ (List.mem_append_right _ (List.mem_append_right _ (List.mem_append_left _ (List.mem_cons.mpr (Or.inl e))))))))))))) (fun h => (List.mem_append.mp h).elim (fun h => (List.mem_cons_of_mem _ (List.mem_append_left _ (List.mem_append_right _ (List.mem_append_right _ (List.mem_append_right _ (List.mem_append_right _ (List.mem_append_right _ (List.mem_append_right _ (List.mem_append_right _ (List.mem_append_left _ (List.mem_cons_of_mem _ h)))))))))))) (fun h => List.mem_cons_of_mem _ (List.mem_append_right _ h)))) w_x_isMap_good
theorem g_x_putAt_isMap_785 : GoodIn w_x_putAt (wsV RX12 785 RX12 yX12_isMap w_x_isMap) := goodIn_app (nb_g4 (List.mem_cons_of_mem _ (List.mem_append_left _ (List.mem_append_left _ (List.mem_of_getElem? (i := 22) rfl)))) (List.mem_cons_of_mem _ (List.mem_append_left _ (List.mem_append_left _ (List.mem_of_getElem? (i := 23) rfl)))) (List.mem_cons_of_mem _ (List.mem_append_left _ (List.mem_append_left _ (List.mem_of_getElem? (i := 24) rfl)))) (List.mem_cons_of_mem _ (List.mem_append_left _ (List.mem_append_left _ (List.mem_of_getElem? (i := 3) rfl)))) (by decide +kernel)) gg_x_putAt_isMap
theorem gg_x_putAt_kind : GoodIn w_x_putAt w_x_kind := goodIn_sub (fun w h => (List.mem_cons.mp h).elim (fun e => (List.mem_cons_of_mem _ (List.mem_append_left _ (List.mem_append_right _ (List.mem_append_left _ (List.mem_cons.mpr (Or.inl e))))))) (fun h => (List.mem_append.mp h).elim (fun h => (List.mem_cons_of_mem _ (List.mem_append_left _ (List.mem_append_right _ (List.mem_append_left _ (List.mem_cons_of_mem _ h)))))) (fun h => List.mem_cons_of_mem _ (List.mem_append_right _ h)))) w_x_kind_good
theorem g_x_putAt_kind_545 : GoodIn w_x_putAt (wsV RX12 545 RX12 yX12_kind w_x_kind) := goodIn_app (nb_g4 (List.mem_cons_of_mem _ (List.mem_append_left _ (List.mem_append_left _ (List.mem_of_getElem? (i := 0) rfl)))) (List.mem_cons_of_mem _ (List.mem_append_left _ (List.mem_append_left _ (List.mem_of_getElem? (i := 1) rfl)))) (List.mem_cons_of_mem _ (List.mem_append_left _ (List.mem_append_left _ (List.mem_of_getElem? (i := 2) rfl)))) (List.mem_cons_of_mem _ (List.mem_append_left _ (List.mem_append_left _ (List.mem_of_getElem? (i := 3) rfl)))) (by decide +kernel)) gg_x_putAt_kind
theorem gg_x_putAt_pair : GoodIn w_x_putAt w_x_pair := goodIn_sub (fun w h => (List.mem_cons.mp h).elim (fun e => (List.mem_cons_of_mem _ (List.mem_append_left _ (List.mem_append_right _ (List.mem_append_right _ (List.mem_append_right _ (List.mem_append_right _ (List.mem_append_right _ (List.mem_append_right _ (List.mem_append_right _ (List.mem_append_right _ (List.mem_append_right _ (List.mem_append_left _ (List.mem_cons.mpr (Or.inl e))))))))))))))) (fun h => (List.mem_append.mp h).elim (fun h => (List.mem_cons_of_mem _ (List.mem_append_left _ (List.mem_append_right _ (List.mem_append_right _ (List.mem_append_right _ (List.mem_append_right _ (List.mem_append_right _ (List.mem_append_right _ (List.mem_append_right _ (List.mem_append_right _ (List.mem_append_right _ (List.mem_append_left _ (List.mem_cons_of_mem _ h)))))))))))))) (fun h => List.mem_cons_of_mem _ (List.mem_append_right _ h)))) w_x_pair_good
theorem g_x_putAt_pair_849 : GoodIn w_x_putAt (wsV RX12 849 RX12 yX12_pair w_x_pair) := goodIn_app (nb_g4 (List.mem_cons_of_mem _ (List.mem_append_left _ (List.mem_append_left _ (List.mem_of_getElem? (i := 29) rfl)))) (List.mem_cons_of_mem _ (List.mem_append_left _ (List.mem_append_left _ (List.mem_of_getElem? (i := 30) rfl)))) (List.mem_cons_of_mem _ (List.mem_append_left _ (List.mem_append_left _ (List.mem_of_getElem? (i := 31) rfl)))) (List.mem_cons_of_mem _ (List.mem_append_left _ (List.mem_append_left _ (List.mem_of_getElem? (i := 3) rfl)))) (by decide +kernel)) gg_x_putAt_pair
theorem gg_x_putAt_pushOthers : GoodIn w_x_putAt w_x_pushOthers := goodIn_sub (fun w h => (List.mem_cons.mp h).elim (fun e => (List.mem_cons_of_mem _ (List.mem_append_left _ (List.mem_append_right _ (List.mem_append_right _ (List.mem_append_right _ (List.mem_append_right _ (List.mem_append_right _ (List.mem_append_right _ (List.mem_append_right _ (List.mem_append_right _ (List.mem_append_left _ (List.mem_cons.mpr (Or.inl e)))))))))))))) (fun h => (List.mem_append.mp h).elim (fun h => (List.mem_cons_of_mem _ (List.mem_append_left _ (List.mem_append_right _ (List.mem_append_right _ (List.mem_append_right _ (List.mem_append_right _ (List.mem_append_right _ (List.mem_append_right _ (List.mem_append_right _ (List.mem_append_right _ (List.mem_append_left _ (List.mem_cons_of_mem _ h))))))))))))) (fun h => List.mem_cons_of_mem _ (List.mem_append_right _ h)))) w_x_pushOthers_good
theorem g_x_putAt_pushOthers_846 : GoodIn w_x_putAt (wsV RX12 846 RX12 yX12_pushOthers w_x_pushOthers) := goodIn_app (nb_g4 (List.mem_cons_of_mem _ (List.mem_append_left _ (List.mem_append_left _ (List.mem_of_getElem? (i := 26) rfl)))) (List.mem_cons_of_mem _ (List.mem_append_left _ (List.mem_append_left _ (List.mem_of_getElem? (i := 27) rfl)))) (List.mem_cons_of_mem _ (List.mem_append_left _ (List.mem_append_left _ (List.mem_of_getElem? (i := 28) rfl)))) (List.mem_cons_of_mem _ (List.mem_append_left _ (List.mem_append_left _ (List.mem_of_getElem? (i := 3) rfl)))) (by decide +kernel)) gg_x_putAt_pushOthers
theorem gg_x_putAt_push : GoodIn w_x_putAt w_x_push := goodIn_sub (fun w h => (List.mem_cons.mp h).elim (fun e => (List.mem_cons_of_mem _ (List.mem_append_left _ (List.mem_append_right _ (List.mem_append_right _ (List.mem_append_right _ (List.mem_append_right _ (List.mem_append_right _ (List.mem_append_right _ (List.mem_append_right _ (List.mem_append_right _ (List.mem_append_right _ (List.mem_append_right _ (List.mem_append_left _ (List.mem_cons.mpr (Or.inl e)))))))))))))))) (fun h => (List.mem_append.mp h).elim (fun h => (List.mem_cons_of_mem _ (List.mem_append_left _ (List.mem_append_right _ (List.mem_append_right _ (List.mem_append_right _ (List.mem_append_right _ (List.mem_append_right _ (List.mem_append_right _ (List.mem_append_right _ (List.mem_append_right _ (List.mem_append_right _ (List.mem_append_right _ (List.mem_append_left _ (List.mem_cons_of_mem _ h))))))))))))))) (fun h => List.mem_cons_of_mem _ (List.mem_append_right _ h)))) w_x_push_good
theorem g_x_putAt_push_594 : GoodIn w_x_putAt (wsV RX12 594 RX12 yX12_push w_x_push) := goodIn_app (nb_g4 (List.mem_cons_of_mem _ (List.mem_append_left _ (List.mem_append_left _ (List.mem_of_getElem? (i := 32) rfl)))) (List.mem_cons_of_mem _ (List.mem_append_left _ (List.mem_append_left _ (List.mem_of_getElem? (i := 33) rfl)))) (List.mem_cons_of_mem _ (List.mem_append_left _ (List.mem_append_left _ (List.mem_of_getElem? (i := 34) rfl)))) (List.mem_cons_of_mem _ (List.mem_append_left _ (List.mem_append_left _ (List.mem_of_getElem? (i := 3) rfl)))) (by decide +kernel)) gg_x_putAt_push
theorem gg_x_putAt_putPlace : GoodIn w_x_putAt w_x_putPlace := goodIn_sub (fun w h => (List.mem_cons.mp h).elim (fun e => (List.mem_cons_of_mem _ (List.mem_append_left _ (List.mem_append_right _ (List.mem_append_right _ (List.mem_append_right _ (List.mem_append_right _ (List.mem_append_right _ (List.mem_append_right _ (List.mem_append_left _ (List.mem_cons.mpr (Or.inl e)))))))))))) (fun h => (List.mem_append.mp h).elim (fun h => (List.mem_cons_of_mem _ (List.mem_append_left _ (List.mem_append_right _ (List.mem_append_right _ (List.mem_append_right _ (List.mem_append_right _ (List.mem_append_right _ (List.mem_append_right _ (List.mem_append_left _ (List.mem_cons_of_mem _ h))))))))))) (fun h => List.mem_cons_of_mem _ (List.mem_append_right _ h)))) w_x_putPlace_good
theorem g_x_putAt_putPlace_843 : GoodIn w_x_putAt (wsV RX12 843 RX12 yX12_putPlace w_x_putPlace) := goodIn_app (nb_g4 (List.mem_cons_of_mem _ (List.mem_append_left _ (List.mem_append_left _ (List.mem_of_getElem? (i := 19) rfl)))) (List.mem_cons_of_mem _ (List.mem_append_left _ (List.mem_append_left _ (List.mem_of_getElem? (i := 20) rfl)))) (List.mem_cons_of_mem _ (List.mem_append_left _ (List.mem_append_left _ (List.mem_of_getElem? (i := 21) rfl)))) (List.mem_cons_of_mem _ (List.mem_append_left _ (List.mem_append_left _ (List.mem_of_getElem? (i := 3) rfl)))) (by decide +kernel)) gg_x_putAt_putPlace
theorem gg_x_putAt_setOf : GoodIn w_x_putAt w_x_setOf := goodIn_sub (fun w h => (List.mem_cons.mp h).elim (fun e => (List.mem_cons_of_mem _ (List.mem_append_left _ (List.mem_append_right _ (List.mem_append_right _ (List.mem_append_right _ (List.mem_append_right _ (List.mem_append_right _ (List.mem_append_right _ (List.mem_append_right _ (List.mem_append_right _ (List.mem_append_right _ (List.mem_append_right _ (List.mem_append_right _ (List.mem_append_left _ (List.mem_cons.mpr (Or.inl e))))))))))))))))) (fun h => (List.mem_append.mp h).elim (fun h => (List.mem_cons_of_mem _ (List.mem_append_left _ (List.mem_append_right _ (List.mem_append_right _ (List.mem_append_right _ (List.mem_append_right _ (List.mem_append_right _ (List.mem_append_right _ (List.mem_append_right _ (List.mem_append_right _ (List.mem_append_right _ (List.mem_append_right _ (List.mem_append_right _ (List.mem_append_left _ (List.mem_cons_of_mem _ h)))))))))))))))) (fun h => List.mem_cons_of_mem _ (List.mem_append_right _ h)))) w_x_setOf_good
theorem g_x_putAt_setOf_678 : GoodIn w_x_putAt (wsV RX12 678 RX12 yX12_setOf w_x_setOf) := goodIn_app (nb_g4 (List.mem_cons_of_mem _ (List.mem_append_left _ (List.mem_append_left _ (List.mem_of_getElem? (i := 36) rfl)))) (List.mem_cons_of_mem _ (List.mem_append_left _ (List.mem_append_left _ (List.mem_of_getElem? (i := 37) rfl)))) (List.mem_cons_of_mem _ (List.mem_append_left _ (List.mem_append_left _ (List.mem_of_getElem? (i := 38) rfl)))) (List.mem_cons_of_mem _ (List.mem_append_left _ (List.mem_append_left _ (List.mem_of_getElem? (i := 3) rfl)))) (by decide +kernel)) gg_x_putAt_setOf
theorem gg_x_putAt_stringOf__51 : GoodIn w_x_putAt w_x_stringOf__51 := goodIn_sub (fun w h => (List.mem_cons.mp h).elim (fun e => (List.mem_cons_of_mem _ (List.mem_append_left _ (List.mem_append_right _ (List.mem_append_right _ (List.mem_append_right _ (List.mem_append_right _ (List.mem_append_right _ (List.mem_append_left _ (List.mem_cons.mpr (Or.inl e))))))))))) (fun h => (List.mem_append.mp h).elim (fun h => (List.mem_cons_of_mem _ (List.mem_append_left _ (List.mem_append_right _ (List.mem_append_right _ (List.mem_append_right _ (List.mem_append_right _ (List.mem_append_right _ (List.mem_append_left _ (List.mem_cons_of_mem _ h)))))))))) (fun h => List.mem_cons_of_mem _ (List.mem_append_right _ h)))) w_x_stringOf__51_good
theorem g_x_putAt_stringOf__51_597 : GoodIn w_x_putAt (wsV RX12 597 RX12 yX12_stringOf w_x_stringOf__51) := goodIn_app (nb_g4 (List.mem_cons_of_mem _ (List.mem_append_left _ (List.mem_append_left _ (List.mem_of_getElem? (i := 16) rfl)))) (List.mem_cons_of_mem _ (List.mem_append_left _ (List.mem_append_left _ (List.mem_of_getElem? (i := 17) rfl)))) (List.mem_cons_of_mem _ (List.mem_append_left _ (List.mem_append_left _ (List.mem_of_getElem? (i := 18) rfl)))) (List.mem_cons_of_mem _ (List.mem_append_left _ (List.mem_append_left _ (List.mem_of_getElem? (i := 3) rfl)))) (by decide +kernel)) gg_x_putAt_stringOf__51
theorem gg_x_putAt_wrongKind : GoodIn w_x_putAt w_x_wrongKind := goodIn_sub (fun w h => (List.mem_cons.mp h).elim (fun e => (List.mem_cons_of_mem _ (List.mem_append_left _ (List.mem_append_right _ (List.mem_append_right _ (List.mem_append_left _ (List.mem_cons.mpr (Or.inl e)))))))) (fun h => (List.mem_append.mp h).elim (fun h => (List.mem_cons_of_mem _ (List.mem_append_left _ (List.mem_append_right _ (List.mem_append_right _ (List.mem_append_left _ (List.mem_cons_of_mem _ h))))))) (fun h => List.mem_cons_of_mem _ (List.mem_append_right _ h)))) w_x_wrongKind_good
theorem g_x_putAt_wrongKind_666 : GoodIn w_x_putAt (wsV RX12 666 RX12 yX12_wrongKind w_x_wrongKind) := goodIn_app (nb_g4 (List.mem_cons_of_mem _ (List.mem_append_left _ (List.mem_append_left _ (List.mem_of_getElem? (i := 5) rfl)))) (List.mem_cons_of_mem _ (List.mem_append_left _ (List.mem_append_left _ (List.mem_of_getElem? (i := 6) rfl)))) (List.mem_cons_of_mem _ (List.mem_append_left _ (List.mem_append_left _ (List.mem_of_getElem? (i := 7) rfl)))) (List.mem_cons_of_mem _ (List.mem_append_left _ (List.mem_append_left _ (List.mem_of_getElem? (i := 3) rfl)))) (by decide +kernel)) gg_x_putAt_wrongKind
set_option maxHeartbeats 40000000 in
set_option maxRecDepth 100000 in
theorem c_x_putAt (l : Launch) (dC : Nat → ClassId) (dI : Nat → Nat → Nat) (cy : Nat → ClassId) (a : Nat → Nat) (k0 : Nat) (L0 : Nat → Int32) (σ0 : MS) (r0 : Int32 × MS) (h0 : x_putAt k0 0 L0 σ0 = some r0) (sz : Nat) : Met l yX12_putAt w_x_putAt ({ frames := 46, cells := 0, slots := 0, locals := 1271 }) (va_Pc [.ref (a 0), .int (L0 1), .int (L0 2), .int (L0 3)] (nIn (dC, dI) cy sz (vM cy a σ0))) (va_Qi (fun (z : Int32) (_ : Unit) => z = r0.1) (fun _ t => nOut (dC, dI) cy (va_A (vM cy a σ0) sz) (vM cy a r0.2) t) (va_A (vM cy a σ0) sz)) 0 0 (va_A (vM cy a σ0) sz) := by
  refine Met.ofW (cc := cX12_putAt) (maxL := 8) (ret := (some .int)) (by decide) rfl ?_
  intro p e s m args below meth c s₁ B hml hv
  obtain ⟨rfl, hsz, hP, hK, hD0, hG⟩ := hv
  have hx := B.exec
  have hb := B.bytes
  have hr := B.returns
  have hts := atoms_spec (ws := w_x_putAt) B.pre
  have hown : s.vm.findClass RX12 = some m.cls := findClass_of_methodNamed B.named
  have hlocks := B.notSynchronized
  subst hsz
  have hD := hD0.self (sz := s.heap.size)
  generalize hAe : va_A (vM cy a σ0) s.heap.size = A at hD ⊢
  have hA : ∀ q : Nat, s.heap.size ≤ q → A q := fun q h => by rw [← hAe]; exact Or.inr h
  have hS : va_S A s.heap s.heap [] := va_S.rf
  have hl := lv_entry ([.ref (a 0), .int (L0 1), .int (L0 2), .int (L0 3)]) (n := 8) (Nat.le_of_ble_eq_true rfl)
  rw [lg_entry_eq]
  generalize (lg_sl ([.ref (a 0), .int (L0 1), .int (L0 2), .int (L0 3)]) ++ List.replicate (8 - (lg_sl ([.ref (a 0), .int (L0 1), .int (L0 2), .int (L0 3)])).length) Slot.unset).toArray = ls at hl ⊢
  have hl : lv_has ls 8 [(0, .ref (a 0)), (1, .int (L0 1)), (2, .int (L0 2)), (3, .int (L0 3))] := hl
  have blk : ∀ k : Nat, (bT p l e (headSpec w_x_putAt ({ frames := 46, cells := 0, slots := 0, locals := 1271 })).room s m #[.ref (a 0), .int (L0 1), .int (L0 2), .int (L0 3)] below meth c dC dI cy a A (qI dC dI cy a A below #[.ref (a 0), .int (L0 1), .int (L0 2), .int (L0 3)] s) 8 (x_putAt k 0) (fun L => [(0, .ref (a 0)), (1, .int (L 1)), (2, .int (L 2)), (3, .int (L 3))]) 0 (fun L => [])) ∧ (bT p l e (headSpec w_x_putAt ({ frames := 46, cells := 0, slots := 0, locals := 1271 })).room s m #[.ref (a 0), .int (L0 1), .int (L0 2), .int (L0 3)] below meth c dC dI cy a A (qI dC dI cy a A below #[.ref (a 0), .int (L0 1), .int (L0 2), .int (L0 3)] s) 8 (x_putAt k 1) (fun L => [(0, .ref (a 0)), (1, .int (L 1)), (2, .int (L 2)), (3, .int (L 3)), (4, .int (L 4))]) 19 (fun L => [])) ∧ (bT p l e (headSpec w_x_putAt ({ frames := 46, cells := 0, slots := 0, locals := 1271 })).room s m #[.ref (a 0), .int (L0 1), .int (L0 2), .int (L0 3)] below meth c dC dI cy a A (qI dC dI cy a A below #[.ref (a 0), .int (L0 1), .int (L0 2), .int (L0 3)] s) 8 (x_putAt k 2) (fun L => [(0, .ref (a 0)), (1, .int (L 1)), (2, .int (L 2)), (3, .int (L 3)), (4, .int (L 4))]) 55 (fun L => [])) ∧ (bT p l e (headSpec w_x_putAt ({ frames := 46, cells := 0, slots := 0, locals := 1271 })).room s m #[.ref (a 0), .int (L0 1), .int (L0 2), .int (L0 3)] below meth c dC dI cy a A (qI dC dI cy a A below #[.ref (a 0), .int (L0 1), .int (L0 2), .int (L0 3)] s) 8 (x_putAt k 3) (fun L => [(0, .ref (a 0)), (1, .int (L 1)), (2, .int (L 2)), (3, .int (L 3)), (4, .int (L 4))]) 60 (fun L => [])) ∧ (bT p l e (headSpec w_x_putAt ({ frames := 46, cells := 0, slots := 0, locals := 1271 })).room s m #[.ref (a 0), .int (L0 1), .int (L0 2), .int (L0 3)] below meth c dC dI cy a A (qI dC dI cy a A below #[.ref (a 0), .int (L0 1), .int (L0 2), .int (L0 3)] s) 8 (x_putAt k 4) (fun L => [(0, .ref (a 0)), (1, .int (L 1)), (2, .int (L 2)), (3, .int (L 3)), (4, .int (L 4)), (5, .int (L 5)), (6, .int (L 6))]) 101 (fun L => [])) ∧ (bT p l e (headSpec w_x_putAt ({ frames := 46, cells := 0, slots := 0, locals := 1271 })).room s m #[.ref (a 0), .int (L0 1), .int (L0 2), .int (L0 3)] below meth c dC dI cy a A (qI dC dI cy a A below #[.ref (a 0), .int (L0 1), .int (L0 2), .int (L0 3)] s) 8 (x_putAt k 5) (fun L => [(0, .ref (a 0)), (1, .int (L 1)), (2, .int (L 2)), (3, .int (L 3)), (4, .int (L 4)), (5, .int (L 5)), (6, .int (L 6))]) 108 (fun L => [])) ∧ (bT p l e (headSpec w_x_putAt ({ frames := 46, cells := 0, slots := 0, locals := 1271 })).room s m #[.ref (a 0), .int (L0 1), .int (L0 2), .int (L0 3)] below meth c dC dI cy a A (qI dC dI cy a A below #[.ref (a 0), .int (L0 1), .int (L0 2), .int (L0 3)] s) 8 (x_putAt k 6) (fun L => [(0, .ref (a 0)), (1, .int (L 1)), (2, .int (L 2)), (3, .int (L 3)), (4, .int (L 4)), (5, .int (L 5)), (6, .int (L 6)), (7, .int (L 7))]) 117 (fun L => [])) ∧ (bT p l e (headSpec w_x_putAt ({ frames := 46, cells := 0, slots := 0, locals := 1271 })).room s m #[.ref (a 0), .int (L0 1), .int (L0 2), .int (L0 3)] below meth c dC dI cy a A (qI dC dI cy a A below #[.ref (a 0), .int (L0 1), .int (L0 2), .int (L0 3)] s) 8 (x_putAt k 7) (fun L => [(0, .ref (a 0)), (1, .int (L 1)), (2, .int (L 2)), (3, .int (L 3)), (4, .int (L 4)), (5, .int (L 5)), (6, .int (L 6)), (7, .int (L 7))]) 142 (fun L => [])) ∧ (bT p l e (headSpec w_x_putAt ({ frames := 46, cells := 0, slots := 0, locals := 1271 })).room s m #[.ref (a 0), .int (L0 1), .int (L0 2), .int (L0 3)] below meth c dC dI cy a A (qI dC dI cy a A below #[.ref (a 0), .int (L0 1), .int (L0 2), .int (L0 3)] s) 8 (x_putAt k 8) (fun L => [(0, .ref (a 0)), (1, .int (L 1)), (2, .int (L 2)), (3, .int (L 3)), (4, .int (L 4)), (5, .int (L 5)), (6, .int (L 6)), (7, .int (L 7))]) 148 (fun L => [])) ∧ (bT p l e (headSpec w_x_putAt ({ frames := 46, cells := 0, slots := 0, locals := 1271 })).room s m #[.ref (a 0), .int (L0 1), .int (L0 2), .int (L0 3)] below meth c dC dI cy a A (qI dC dI cy a A below #[.ref (a 0), .int (L0 1), .int (L0 2), .int (L0 3)] s) 8 (x_putAt k 9) (fun L => [(0, .ref (a 0)), (1, .int (L 1)), (2, .int (L 2)), (3, .int (L 3)), (4, .int (L 4)), (5, .int (L 5)), (6, .int (L 6)), (7, .int (L 7))]) 165 (fun L => [])) ∧ (bT p l e (headSpec w_x_putAt ({ frames := 46, cells := 0, slots := 0, locals := 1271 })).room s m #[.ref (a 0), .int (L0 1), .int (L0 2), .int (L0 3)] below meth c dC dI cy a A (qI dC dI cy a A below #[.ref (a 0), .int (L0 1), .int (L0 2), .int (L0 3)] s) 8 (x_putAt k 10) (fun L => [(0, .ref (a 0)), (1, .int (L 1)), (2, .int (L 2)), (3, .int (L 3)), (4, .int (L 4)), (5, .int (L 5)), (6, .int (L 6)), (7, .int (L 7))]) 185 (fun L => [.int (L 100), .ref (a 51), .ref (a 0)])) ∧ (bT p l e (headSpec w_x_putAt ({ frames := 46, cells := 0, slots := 0, locals := 1271 })).room s m #[.ref (a 0), .int (L0 1), .int (L0 2), .int (L0 3)] below meth c dC dI cy a A (qI dC dI cy a A below #[.ref (a 0), .int (L0 1), .int (L0 2), .int (L0 3)] s) 8 (x_putAt k 11) (fun L => [(0, .ref (a 0)), (1, .int (L 1)), (2, .int (L 2)), (3, .int (L 3)), (4, .int (L 4)), (5, .int (L 5)), (6, .int (L 6)), (7, .int (L 7))]) 187 (fun L => [.int (L 100), .int (L 101), .ref (a 51), .ref (a 0)])) ∧ (bT p l e (headSpec w_x_putAt ({ frames := 46, cells := 0, slots := 0, locals := 1271 })).room s m #[.ref (a 0), .int (L0 1), .int (L0 2), .int (L0 3)] below meth c dC dI cy a A (qI dC dI cy a A below #[.ref (a 0), .int (L0 1), .int (L0 2), .int (L0 3)] s) 8 (x_putAt k 12) (fun L => [(0, .ref (a 0)), (1, .int (L 1)), (2, .int (L 2)), (3, .int (L 3)), (4, .int (L 4)), (5, .int (L 5)), (6, .int (L 6))]) 191 (fun L => [])) ∧ (bT p l e (headSpec w_x_putAt ({ frames := 46, cells := 0, slots := 0, locals := 1271 })).room s m #[.ref (a 0), .int (L0 1), .int (L0 2), .int (L0 3)] below meth c dC dI cy a A (qI dC dI cy a A below #[.ref (a 0), .int (L0 1), .int (L0 2), .int (L0 3)] s) 8 (x_putAt k 13) (fun L => [(0, .ref (a 0)), (1, .int (L 1)), (2, .int (L 2)), (3, .int (L 3)), (4, .int (L 4))]) 200 (fun L => [])) ∧ (bT p l e (headSpec w_x_putAt ({ frames := 46, cells := 0, slots := 0, locals := 1271 })).room s m #[.ref (a 0), .int (L0 1), .int (L0 2), .int (L0 3)] below meth c dC dI cy a A (qI dC dI cy a A below #[.ref (a 0), .int (L0 1), .int (L0 2), .int (L0 3)] s) 8 (x_putAt k 14) (fun L => [(0, .ref (a 0)), (1, .int (L 1)), (2, .int (L 2)), (3, .int (L 3)), (4, .int (L 4))]) 213 (fun L => [])) ∧ (bT p l e (headSpec w_x_putAt ({ frames := 46, cells := 0, slots := 0, locals := 1271 })).room s m #[.ref (a 0), .int (L0 1), .int (L0 2), .int (L0 3)] below meth c dC dI cy a A (qI dC dI cy a A below #[.ref (a 0), .int (L0 1), .int (L0 2), .int (L0 3)] s) 8 (x_putAt k 15) (fun L => [(0, .ref (a 0)), (1, .int (L 1)), (2, .int (L 2)), (3, .int (L 3)), (4, .int (L 4)), (5, .int (L 5))]) 239 (fun L => [])) ∧ (bT p l e (headSpec w_x_putAt ({ frames := 46, cells := 0, slots := 0, locals := 1271 })).room s m #[.ref (a 0), .int (L0 1), .int (L0 2), .int (L0 3)] below meth c dC dI cy a A (qI dC dI cy a A below #[.ref (a 0), .int (L0 1), .int (L0 2), .int (L0 3)] s) 8 (x_putAt k 16) (fun L => [(0, .ref (a 0)), (1, .int (L 1)), (2, .int (L 2)), (3, .int (L 3)), (4, .int (L 4)), (5, .int (L 5))]) 250 (fun L => [])) ∧ (bT p l e (headSpec w_x_putAt ({ frames := 46, cells := 0, slots := 0, locals := 1271 })).room s m #[.ref (a 0), .int (L0 1), .int (L0 2), .int (L0 3)] below meth c dC dI cy a A (qI dC dI cy a A below #[.ref (a 0), .int (L0 1), .int (L0 2), .int (L0 3)] s) 8 (x_putAt k 17) (fun L => [(0, .ref (a 0)), (1, .int (L 1)), (2, .int (L 2)), (3, .int (L 3)), (4, .int (L 4)), (5, .int (L 5))]) 256 (fun L => [.int (L 100)])) := by
    intro k
    induction k with
    | zero => exact ⟨fun L σ r h => (by cases h), fun L σ r h => (by cases h), fun L σ r h => (by cases h), fun L σ r h => (by cases h), fun L σ r h => (by cases h), fun L σ r h => (by cases h), fun L σ r h => (by cases h), fun L σ r h => (by cases h), fun L σ r h => (by cases h), fun L σ r h => (by cases h), fun L σ r h => (by cases h), fun L σ r h => (by cases h), fun L σ r h => (by cases h), fun L σ r h => (by cases h), fun L σ r h => (by cases h), fun L σ r h => (by cases h), fun L σ r h => (by cases h), fun L σ r h => (by cases h)⟩
    | succ k ih =>
      refine ⟨?_, ?_, ?_, ?_, ?_, ?_, ?_, ?_, ?_, ?_, ?_, ?_, ?_, ?_, ?_, ?_, ?_, ?_⟩
      · intro L σ r h H locs ls hP hD hS hl
        rw [x_putAt] at h
        refine lv_aload_n hx hb dX12_putAt_0 rfl (lv_at hl 0 rfl) ?_
        refine lv_iload_n hx hb dX12_putAt_1 rfl (lv_at hl 1 rfl) ?_
        obtain ⟨r1, hc1, h⟩ := ob_ex h
        refine nc_Vi (As := [.int (L 1)]) (rest := []) ⟨hx, hb, hml, hown, hts⟩ (c_x_kind l dC dI cy a k (upd (fun _ => 0) 1 ((L 1))) σ r1 hc1 H.size) (cwV 1 hts g_x_putAt_kind_545 rfl rfl rfl hd_x_kind ⟨Nat.le_of_ble_eq_true rfl, Nat.le_of_ble_eq_true rfl⟩) hK hG hA hP hD hS rfl hl.1 rfl (Nat.le_of_ble_eq_true rfl) dX12_putAt_2 ⟨Nat.le_refl _, Nat.le_refl _⟩ (fun H locs hP hD hS => ?_)
        refine lv_istore (lv' := [(4, .int r1.1), (0, .ref (a 0)), (1, .int (L 1)), (2, .int (L 2)), (3, .int (L 3))]) hx hb dX12_putAt_5 hl (by decide) rfl (fun ls hl => ?_)
        refine lv_iload hx hb dX12_putAt_7 (lv_at hl 0 rfl) ?_
        refine lv_iconst (v := 5) hx hb dX12_putAt_9 (by decide) ?_
        refine lv_icmp_eq (tgt := 19) hx hb dX12_putAt_10 (by decide) (fun c2 => ?_) (fun c2 => ?_)
        · rw [if_pos c2] at h
          exact ih.2.1 (upd L 4 r1.1) r1.2 r h H locs ls hP hD hS (lv_sub hl [1, 2, 3, 4, 0] rfl)
        · rw [if_neg c2] at h
          refine lv_iload hx hb dX12_putAt_13 (lv_at hl 0 rfl) ?_
          refine lv_iconst (v := 4) hx hb dX12_putAt_15 (by decide) ?_
          refine lv_icmp_ne (tgt := 200) hx hb dX12_putAt_16 (by decide) (fun c3 => ?_) (fun c3 => ?_)
          · rw [if_neg c3] at h
            exact ih.2.2.2.2.2.2.2.2.2.2.2.2.2.1 (upd L 4 r1.1) r1.2 r h H locs ls hP hD hS (lv_sub hl [1, 2, 3, 4, 0] rfl)
          · rw [if_pos c3] at h
            exact ih.2.1 (upd L 4 r1.1) r1.2 r h H locs ls hP hD hS (lv_sub hl [1, 2, 3, 4, 0] rfl)
      · intro L σ r h H locs ls hP hD hS hl
        rw [x_putAt] at h
        refine lv_aload_n hx hb dX12_putAt_19 rfl (lv_at hl 0 rfl) ?_
        refine lv_iload_n hx hb dX12_putAt_20 rfl (lv_at hl 2 rfl) ?_
        obtain ⟨r1, hc1, h⟩ := ob_ex h
        refine nc_Vi (As := [.int (L 2)]) (rest := []) ⟨hx, hb, hml, hown, hts⟩ (c_x_kind l dC dI cy a k (upd (fun _ => 0) 1 ((L 2))) σ r1 hc1 H.size) (cwV 1 hts g_x_putAt_kind_545 rfl rfl rfl hd_x_kind ⟨Nat.le_of_ble_eq_true rfl, Nat.le_of_ble_eq_true rfl⟩) hK hG hA hP hD hS rfl hl.1 rfl (Nat.le_of_ble_eq_true rfl) dX12_putAt_21 ⟨Nat.le_refl _, Nat.le_refl _⟩ (fun H locs hP hD hS => ?_)
        refine lv_iconst (v := 2) hx hb dX12_putAt_24 (by decide) ?_
        refine lv_icmp_ne (tgt := 55) hx hb dX12_putAt_25 (by decide) (fun c2 => ?_) (fun c2 => ?_)
        · rw [if_neg c2] at h
          exact ih.2.2.1 L r1.2 r h H locs ls hP hD hS (lv_sub hl [0, 1, 2, 3, 4] rfl)
        · rw [if_pos c2] at h
          refine lv_iload hx hb dX12_putAt_28 (lv_at hl 4 rfl) ?_
          refine lv_iconst (v := 4) hx hb dX12_putAt_30 (by decide) ?_
          refine lv_icmp_ne (tgt := 60) hx hb dX12_putAt_31 (by decide) (fun c3 => ?_) (fun c3 => ?_)
          · rw [if_neg c3] at h
            exact ih.2.2.2.1 L r1.2 r h H locs ls hP hD hS (lv_sub hl [0, 1, 2, 3, 4] rfl)
          · rw [if_pos c3] at h
            refine lv_aload_n hx hb dX12_putAt_34 rfl (lv_at hl 0 rfl) ?_
            refine lv_iload_n hx hb dX12_putAt_35 rfl (lv_at hl 3 rfl) ?_
            obtain ⟨r4, hc4, h⟩ := ob_ex h
            refine nc_Vi (As := [.int (L 3)]) (rest := []) ⟨hx, hb, hml, hown, hts⟩ (c_x_kind l dC dI cy a k (upd (fun _ => 0) 1 ((L 3))) r1.2 r4 hc4 H.size) (cwV 1 hts g_x_putAt_kind_545 rfl rfl rfl hd_x_kind ⟨Nat.le_of_ble_eq_true rfl, Nat.le_of_ble_eq_true rfl⟩) hK hG hA hP hD hS rfl hl.1 rfl (Nat.le_of_ble_eq_true rfl) dX12_putAt_36 ⟨Nat.le_refl _, Nat.le_refl _⟩ (fun H locs hP hD hS => ?_)
            refine lv_iconst (v := 4) hx hb dX12_putAt_39 (by decide) ?_
            refine lv_icmp_ne (tgt := 55) hx hb dX12_putAt_40 (by decide) (fun c5 => ?_) (fun c5 => ?_)
            · rw [if_neg c5] at h
              exact ih.2.2.1 L r4.2 r h H locs ls hP hD hS (lv_sub hl [0, 1, 2, 3, 4] rfl)
            · rw [if_pos c5] at h
              refine lv_aload_n hx hb dX12_putAt_43 rfl (lv_at hl 0 rfl) ?_
              refine ng_53 hx hb hts in_x_putAt hown hK hP (hts _ (List.mem_cons_of_mem _ (List.mem_append_left _ (List.mem_append_left _ (List.mem_of_getElem? (i := 4) rfl))))) dX12_putAt_44 ?_
              refine lv_iload_n hx hb dX12_putAt_47 rfl (lv_at hl 3 rfl) ?_
              refine lv_iconst (v := 1) hx hb dX12_putAt_48 (by decide) ?_
              refine lv_iadd hx hb dX12_putAt_49 ?_
              obtain ⟨q6, h⟩ := nb_ite1 h
              refine nl_28 hx hb hK hP q6 dX12_putAt_50 ?_
              refine lv_iconst (v := 1) hx hb dX12_putAt_51 (by decide) ?_
              refine lv_icmp_eq (tgt := 60) hx hb dX12_putAt_52 (by decide) (fun c7 => ?_) (fun c7 => ?_)
              · rw [if_pos c7] at h
                exact ih.2.2.2.1 L r4.2 r h H locs ls hP hD hS (lv_sub hl [0, 1, 2, 3, 4] rfl)
              · rw [if_neg c7] at h
                exact ih.2.2.1 L r4.2 r h H locs ls hP hD hS (lv_sub hl [0, 1, 2, 3, 4] rfl)
      · intro L σ r h H locs ls hP hD hS hl
        rw [x_putAt] at h
        refine lv_aload_n hx hb dX12_putAt_55 rfl (lv_at hl 0 rfl) ?_
        obtain ⟨r1, hc1, h⟩ := ob_ex h
        refine nc_Vi (As := []) (rest := []) ⟨hx, hb, hml, hown, hts⟩ (c_x_wrongKind l dC dI cy a k (fun _ => 0) σ r1 hc1 H.size) (cwV 0 hts g_x_putAt_wrongKind_666 rfl rfl rfl hd_x_wrongKind ⟨Nat.le_of_ble_eq_true rfl, Nat.le_of_ble_eq_true rfl⟩) hK hG hA hP hD hS rfl hl.1 rfl (Nat.le_of_ble_eq_true rfl) dX12_putAt_56 ⟨Nat.le_refl _, Nat.le_refl _⟩ (fun H locs hP hD hS => ?_)
        cases h
        exact W.iret (v := r1.1) hx hb hr (fun t ht hW => ⟨⟨r1.1, (), rfl, rfl, by rw [ht]; exact hP, va_K.moved hW.alike hK, hD⟩, hS.F ht⟩) hS.2.2 dX12_putAt_59
      · intro L σ r h H locs ls hP hD hS hl
        rw [x_putAt] at h
        refine lv_aload_n hx hb dX12_putAt_60 rfl (lv_at hl 0 rfl) ?_
        refine lv_iload_n hx hb dX12_putAt_61 rfl (lv_at hl 2 rfl) ?_
        refine lv_ldcw (v := 100000) hx hb hown (hts _ (List.mem_cons_of_mem _ (List.mem_append_left _ (List.mem_append_left _ (List.mem_of_getElem? (i := 8) rfl))))) dX12_putAt_62 ?_
        obtain ⟨r1, hc1, h⟩ := ob_ex h
        refine nc_Vi (As := [.int (L 2), .int 100000]) (rest := []) ⟨hx, hb, hml, hown, hts⟩ (c_x_intOf l dC dI cy a k (upd (upd (fun _ => 0) 1 ((L 2))) 2 100000) (fun _ => 0) σ r1 hc1 H.size) (cwV 2 hts g_x_putAt_intOf_515 rfl rfl rfl hd_x_intOf ⟨Nat.le_of_ble_eq_true rfl, Nat.le_of_ble_eq_true rfl⟩) hK hG hA hP hD hS rfl hl.1 rfl (Nat.le_of_ble_eq_true rfl) dX12_putAt_65 ⟨Nat.le_refl _, Nat.le_refl _⟩ (fun H locs hP hD hS => ?_)
        refine lv_istore (lv' := [(5, .int r1.1), (0, .ref (a 0)), (1, .int (L 1)), (2, .int (L 2)), (3, .int (L 3)), (4, .int (L 4))]) hx hb dX12_putAt_68 hl (by decide) rfl (fun ls hl => ?_)
        refine lv_aload_n hx hb dX12_putAt_70 rfl (lv_at hl 1 rfl) ?_
        refine ng_53 hx hb hts in_x_putAt hown hK hP (hts _ (List.mem_cons_of_mem _ (List.mem_append_left _ (List.mem_append_left _ (List.mem_of_getElem? (i := 4) rfl))))) dX12_putAt_71 ?_
        refine lv_iload_n hx hb dX12_putAt_74 rfl (lv_at hl 2 rfl) ?_
        refine lv_iconst (v := 1) hx hb dX12_putAt_75 (by decide) ?_
        refine lv_iadd hx hb dX12_putAt_76 ?_
        obtain ⟨q2, h⟩ := nb_ite1 h
        refine nl_28 hx hb hK hP q2 dX12_putAt_77 ?_
        refine lv_istore (lv' := [(6, .int (r1.2.2.2 28 ((((L 1)) + 1)).toNatClampNeg)), (5, .int r1.1), (0, .ref (a 0)), (1, .int (L 1)), (2, .int (L 2)), (3, .int (L 3)), (4, .int (L 4))]) hx hb dX12_putAt_78 hl (by decide) rfl (fun ls hl => ?_)
        refine lv_iload hx hb dX12_putAt_80 (lv_at hl 1 rfl) ?_
        refine lv_iconst (v := 1) hx hb dX12_putAt_82 (by decide) ?_
        refine lv_icmp_lt (tgt := 101) hx hb dX12_putAt_83 (by decide) (fun c3 => ?_) (fun c3 => ?_)
        · rw [if_pos c3] at h
          exact ih.2.2.2.2.1 (upd (upd L 5 r1.1) 6 ((r1.2.2.2 28 ((((L 1)) + 1)).toNatClampNeg))) r1.2 r h H locs ls hP hD hS (lv_sub hl [2, 3, 4, 5, 6, 1, 0] rfl)
        · rw [if_neg c3] at h
          refine lv_iload hx hb dX12_putAt_86 (lv_at hl 6 rfl) ?_
          refine lv_iconst (v := 4) hx hb dX12_putAt_88 (by decide) ?_
          refine lv_icmp_ne (tgt := 108) hx hb dX12_putAt_89 (by decide) (fun c4 => ?_) (fun c4 => ?_)
          · rw [if_neg c4] at h
            exact ih.2.2.2.2.2.1 (upd (upd L 5 r1.1) 6 ((r1.2.2.2 28 ((((L 1)) + 1)).toNatClampNeg))) r1.2 r h H locs ls hP hD hS (lv_sub hl [2, 3, 4, 5, 6, 1, 0] rfl)
          · rw [if_pos c4] at h
            refine lv_iload hx hb dX12_putAt_92 (lv_at hl 1 rfl) ?_
            refine lv_iload hx hb dX12_putAt_94 (lv_at hl 0 rfl) ?_
            refine lv_iconst (v := 1) hx hb dX12_putAt_96 (by decide) ?_
            refine lv_iadd hx hb dX12_putAt_97 ?_
            refine lv_icmp_le (tgt := 108) hx hb dX12_putAt_98 (by decide) (fun c5 => ?_) (fun c5 => ?_)
            · rw [if_pos c5] at h
              exact ih.2.2.2.2.2.1 (upd (upd L 5 r1.1) 6 ((r1.2.2.2 28 ((((L 1)) + 1)).toNatClampNeg))) r1.2 r h H locs ls hP hD hS (lv_sub hl [2, 3, 4, 5, 6, 1, 0] rfl)
            · rw [if_neg c5] at h
              exact ih.2.2.2.2.1 (upd (upd L 5 r1.1) 6 ((r1.2.2.2 28 ((((L 1)) + 1)).toNatClampNeg))) r1.2 r h H locs ls hP hD hS (lv_sub hl [2, 3, 4, 5, 6, 1, 0] rfl)
      · intro L σ r h H locs ls hP hD hS hl
        rw [x_putAt] at h
        refine lv_aload_n hx hb dX12_putAt_101 rfl (lv_at hl 0 rfl) ?_
        refine lv_iconst (v := 4) hx hb dX12_putAt_102 (by decide) ?_
        obtain ⟨r1, hc1, h⟩ := ob_ex h
        refine nc_Vv (As := [.int 4]) (rest := []) ⟨hx, hb, hml, hown, hts⟩ (c_x_fail l dC dI cy a k (upd (fun _ => 0) 1 4) σ r1 hc1 H.size) (cwV 1 hts g_x_putAt_fail_369 rfl rfl rfl hd_x_fail ⟨Nat.le_of_ble_eq_true rfl, Nat.le_of_ble_eq_true rfl⟩) hK hG hA hP hD hS rfl hl.1 rfl (Nat.le_of_ble_eq_true rfl) dX12_putAt_103 ⟨Nat.le_refl _, Nat.le_refl _⟩ (fun H locs hP hD hS => ?_)
        refine lv_iconst (v := 0) hx hb dX12_putAt_106 (by decide) ?_
        cases h
        exact W.iret (v := 0) hx hb hr (fun t ht hW => ⟨⟨0, (), rfl, rfl, by rw [ht]; exact hP, va_K.moved hW.alike hK, hD⟩, hS.F ht⟩) hS.2.2 dX12_putAt_107
      · intro L σ r h H locs ls hP hD hS hl
        rw [x_putAt] at h
        refine lv_iload hx hb dX12_putAt_108 (lv_at hl 4 rfl) ?_
        refine lv_iconst (v := 4) hx hb dX12_putAt_110 (by decide) ?_
        refine lv_icmp_ne (tgt := 191) hx hb dX12_putAt_111 (by decide) (fun c1 => ?_) (fun c1 => ?_)
        · rw [if_neg c1] at h
          exact ih.2.2.2.2.2.2.2.2.2.2.2.2.1 L σ r h H locs ls hP hD hS (lv_sub hl [0, 1, 2, 3, 4, 5, 6] rfl)
        · rw [if_pos c1] at h
          refine lv_iconst (v := 0) hx hb dX12_putAt_114 (by decide) ?_
          refine lv_istore (lv' := [(7, .int 0), (0, .ref (a 0)), (1, .int (L 1)), (2, .int (L 2)), (3, .int (L 3)), (4, .int (L 4)), (5, .int (L 5)), (6, .int (L 6))]) hx hb dX12_putAt_115 hl (by decide) rfl (fun ls hl => ?_)
          exact ih.2.2.2.2.2.2.1 (upd L 7 0) σ r h H locs ls hP hD hS (lv_sub hl [1, 2, 3, 4, 5, 6, 7, 0] rfl)
      · intro L σ r h H locs ls hP hD hS hl
        rw [x_putAt] at h
        refine lv_iload hx hb dX12_putAt_117 (lv_at hl 7 rfl) ?_
        refine lv_iload hx hb dX12_putAt_119 (lv_at hl 6 rfl) ?_
        refine lv_icmp_ge (tgt := 148) hx hb dX12_putAt_121 (by decide) (fun c1 => ?_) (fun c1 => ?_)
        · rw [if_pos c1] at h
          exact ih.2.2.2.2.2.2.2.2.1 L σ r h H locs ls hP hD hS (lv_sub hl [0, 1, 2, 3, 4, 5, 6, 7] rfl)
        · rw [if_neg c1] at h
          refine lv_aload_n hx hb dX12_putAt_124 rfl (lv_at hl 0 rfl) ?_
          refine ng_99 hx hb hts in_x_putAt hown hK hP (hts _ (List.mem_cons_of_mem _ (List.mem_append_left _ (List.mem_append_left _ (List.mem_of_getElem? (i := 15) rfl))))) dX12_putAt_125 ?_
          refine lv_iload hx hb dX12_putAt_128 (lv_at hl 7 rfl) ?_
          refine lv_aload_n hx hb dX12_putAt_130 rfl (lv_at hl 0 rfl) ?_
          refine ng_53 hx hb hts in_x_putAt hown hK hP (hts _ (List.mem_cons_of_mem _ (List.mem_append_left _ (List.mem_append_left _ (List.mem_of_getElem? (i := 4) rfl))))) dX12_putAt_131 ?_
          refine lv_iload_n hx hb dX12_putAt_134 rfl (lv_at hl 1 rfl) ?_
          refine lv_iconst (v := 4) hx hb dX12_putAt_135 (by decide) ?_
          refine lv_iadd hx hb dX12_putAt_136 ?_
          refine lv_iload hx hb dX12_putAt_137 (lv_at hl 7 rfl) ?_
          refine lv_iadd hx hb dX12_putAt_139 ?_
          obtain ⟨q2, h⟩ := nb_ite1 h
          refine nl_28 hx hb hK hP q2 dX12_putAt_140 ?_
          obtain ⟨q3, h⟩ := nb_ite1 h
          refine ns_51 hx hb hK hP hD hS q3 dX12_putAt_141 (fun H locs hP hD hS => ?_)
          exact ih.2.2.2.2.2.2.2.1 L (σ.1, σ.2.1, updG σ.2.2 51 (upd (σ.2.2 51) ((L 7)).toNatClampNeg ((σ.2.2 28 ((((((L 1)) + 4)) + ((L 7)))).toNatClampNeg)))) r h H locs ls hP hD hS (lv_sub hl [0, 1, 2, 3, 4, 5, 6, 7] rfl)
      · intro L σ r h H locs ls hP hD hS hl
        rw [x_putAt] at h
        refine lv_iinc (v := ((L 7)) + 1) (lv' := [(7, .int (((L 7)) + 1)), (0, .ref (a 0)), (1, .int (L 1)), (2, .int (L 2)), (3, .int (L 3)), (4, .int (L 4)), (5, .int (L 5)), (6, .int (L 6))]) hx hb dX12_putAt_142 hl (k := 7) rfl rfl (by decide) rfl (fun ls hl => ?_)
        refine lv_goto (tgt := 117) hx hb dX12_putAt_145 (by decide) ?_
        exact ih.2.2.2.2.2.2.1 (upd L 7 (((L 7)) + 1)) σ r h H locs ls hP hD hS (lv_sub hl [1, 2, 3, 4, 5, 6, 7, 0] rfl)
      · intro L σ r h H locs ls hP hD hS hl
        rw [x_putAt] at h
        refine lv_aload_n hx hb dX12_putAt_148 rfl (lv_at hl 0 rfl) ?_
        refine ng_99 hx hb hts in_x_putAt hown hK hP (hts _ (List.mem_cons_of_mem _ (List.mem_append_left _ (List.mem_append_left _ (List.mem_of_getElem? (i := 15) rfl))))) dX12_putAt_149 ?_
        refine lv_iload hx hb dX12_putAt_152 (lv_at hl 5 rfl) ?_
        refine lv_iconst (v := 1) hx hb dX12_putAt_154 (by decide) ?_
        refine lv_isub hx hb dX12_putAt_155 ?_
        refine lv_aload_n hx hb dX12_putAt_156 rfl (lv_at hl 0 rfl) ?_
        refine ng_53 hx hb hts in_x_putAt hown hK hP (hts _ (List.mem_cons_of_mem _ (List.mem_append_left _ (List.mem_append_left _ (List.mem_of_getElem? (i := 4) rfl))))) dX12_putAt_157 ?_
        refine lv_iload_n hx hb dX12_putAt_160 rfl (lv_at hl 3 rfl) ?_
        refine lv_iconst (v := 4) hx hb dX12_putAt_161 (by decide) ?_
        refine lv_iadd hx hb dX12_putAt_162 ?_
        obtain ⟨q1, h⟩ := nb_ite1 h
        refine nl_28 hx hb hK hP q1 dX12_putAt_163 ?_
        obtain ⟨q2, h⟩ := nb_ite1 h
        refine ns_51 hx hb hK hP hD hS q2 dX12_putAt_164 (fun H locs hP hD hS => ?_)
        exact ih.2.2.2.2.2.2.2.2.2.1 L (σ.1, σ.2.1, updG σ.2.2 51 (upd (σ.2.2 51) ((((L 5)) - 1)).toNatClampNeg ((σ.2.2 28 ((((L 3)) + 4)).toNatClampNeg)))) r h H locs ls hP hD hS (lv_sub hl [0, 1, 2, 3, 4, 5, 6, 7] rfl)
      · intro L σ r h H locs ls hP hD hS hl
        rw [x_putAt] at h
        refine lv_aload_n hx hb dX12_putAt_165 rfl (lv_at hl 0 rfl) ?_
        refine lv_aload_n hx hb dX12_putAt_166 rfl (lv_at hl 0 rfl) ?_
        refine ng_99 hx hb hts in_x_putAt hown hK hP (hts _ (List.mem_cons_of_mem _ (List.mem_append_left _ (List.mem_append_left _ (List.mem_of_getElem? (i := 15) rfl))))) dX12_putAt_167 ?_
        refine lv_iconst (v := 0) hx hb dX12_putAt_170 (by decide) ?_
        refine lv_iload hx hb dX12_putAt_171 (lv_at hl 5 rfl) ?_
        refine lv_iload hx hb dX12_putAt_173 (lv_at hl 6 rfl) ?_
        refine lv_icmp_le (tgt := 185) hx hb dX12_putAt_175 (by decide) (fun c1 => ?_) (fun c1 => ?_)
        · rw [if_pos c1] at h
          exact ih.2.2.2.2.2.2.2.2.2.2.1 (upd L 100 0) σ r h H locs ls hP hD hS (lv_sub hl [0, 1, 2, 3, 4, 5, 6, 7] rfl)
        · rw [if_neg c1] at h
          refine lv_iload hx hb dX12_putAt_178 (lv_at hl 6 rfl) ?_
          refine lv_iconst (v := 1) hx hb dX12_putAt_180 (by decide) ?_
          refine lv_iadd hx hb dX12_putAt_181 ?_
          refine lv_goto (tgt := 187) hx hb dX12_putAt_182 (by decide) ?_
          exact ih.2.2.2.2.2.2.2.2.2.2.2.1 (upd (upd L 100 ((((L 6)) + 1))) 101 0) σ r h H locs ls hP hD hS (lv_sub hl [0, 1, 2, 3, 4, 5, 6, 7] rfl)
      · intro L σ r h H locs ls hP hD hS hl
        rw [x_putAt] at h
        refine lv_iload hx hb dX12_putAt_185 (lv_at hl 6 rfl) ?_
        exact ih.2.2.2.2.2.2.2.2.2.2.2.1 (upd (upd L 100 ((L 6))) 101 ((L 100))) σ r h H locs ls hP hD hS (lv_sub hl [0, 1, 2, 3, 4, 5, 6, 7] rfl)
      · intro L σ r h H locs ls hP hD hS hl
        rw [x_putAt] at h
        obtain ⟨r1, hc1, h⟩ := ob_ex h
        refine nc_Vi (As := [.ref (a 51), .int (L 101), .int (L 100)]) (rest := []) ⟨hx, hb, hml, hown, hts⟩ (c_x_stringOf__51 l dC dI cy a k (upd (upd (fun _ => 0) 2 ((L 101))) 3 ((L 100))) σ r1 hc1 H.size) (cwV 3 hts g_x_putAt_stringOf__51_597 rfl rfl rfl hd_x_stringOf__51 ⟨Nat.le_of_ble_eq_true rfl, Nat.le_of_ble_eq_true rfl⟩) hK hG hA hP hD hS rfl hl.1 rfl (Nat.le_of_ble_eq_true rfl) dX12_putAt_187 ⟨Nat.le_refl _, Nat.le_refl _⟩ (fun H locs hP hD hS => ?_)
        cases h
        exact W.iret (v := r1.1) hx hb hr (fun t ht hW => ⟨⟨r1.1, (), rfl, rfl, by rw [ht]; exact hP, va_K.moved hW.alike hK, hD⟩, hS.F ht⟩) hS.2.2 dX12_putAt_190
      · intro L σ r h H locs ls hP hD hS hl
        rw [x_putAt] at h
        refine lv_aload_n hx hb dX12_putAt_191 rfl (lv_at hl 0 rfl) ?_
        refine lv_iload_n hx hb dX12_putAt_192 rfl (lv_at hl 1 rfl) ?_
        refine lv_iload hx hb dX12_putAt_193 (lv_at hl 5 rfl) ?_
        refine lv_iload_n hx hb dX12_putAt_195 rfl (lv_at hl 3 rfl) ?_
        obtain ⟨r1, hc1, h⟩ := ob_ex h
        refine nc_Vi (As := [.int (L 1), .int (L 5), .int (L 3)]) (rest := []) ⟨hx, hb, hml, hown, hts⟩ (c_x_putPlace l dC dI cy a k (upd (upd (upd (fun _ => 0) 1 ((L 1))) 2 ((L 5))) 3 ((L 3))) σ r1 hc1 H.size) (cwV 3 hts g_x_putAt_putPlace_843 rfl rfl rfl hd_x_putPlace ⟨Nat.le_of_ble_eq_true rfl, Nat.le_of_ble_eq_true rfl⟩) hK hG hA hP hD hS rfl hl.1 rfl (Nat.le_of_ble_eq_true rfl) dX12_putAt_196 ⟨Nat.le_refl _, Nat.le_refl _⟩ (fun H locs hP hD hS => ?_)
        cases h
        exact W.iret (v := r1.1) hx hb hr (fun t ht hW => ⟨⟨r1.1, (), rfl, rfl, by rw [ht]; exact hP, va_K.moved hW.alike hK, hD⟩, hS.F ht⟩) hS.2.2 dX12_putAt_199
      · intro L σ r h H locs ls hP hD hS hl
        rw [x_putAt] at h
        refine lv_aload_n hx hb dX12_putAt_200 rfl (lv_at hl 0 rfl) ?_
        refine lv_iload_n hx hb dX12_putAt_201 rfl (lv_at hl 1 rfl) ?_
        obtain ⟨r1, hc1, h⟩ := ob_ex h
        refine nc_Vi (As := [.int (L 1)]) (rest := []) ⟨hx, hb, hml, hown, hts⟩ (c_x_isMap l dC dI cy a k (upd (fun _ => 0) 1 ((L 1))) σ r1 hc1 H.size) (cwV 1 hts g_x_putAt_isMap_785 rfl rfl rfl hd_x_isMap ⟨Nat.le_of_ble_eq_true rfl, Nat.le_of_ble_eq_true rfl⟩) hK hG hA hP hD hS rfl hl.1 rfl (Nat.le_of_ble_eq_true rfl) dX12_putAt_202 ⟨Nat.le_refl _, Nat.le_refl _⟩ (fun H locs hP hD hS => ?_)
        refine lv_if_ne (tgt := 213) hx hb dX12_putAt_205 (by decide) (fun c2 => ?_) (fun c2 => ?_)
        · rw [if_neg c2] at h
          exact ih.2.2.2.2.2.2.2.2.2.2.2.2.2.2.1 L r1.2 r h H locs ls hP hD hS (lv_sub hl [0, 1, 2, 3, 4] rfl)
        · rw [if_pos c2] at h
          refine lv_aload_n hx hb dX12_putAt_208 rfl (lv_at hl 0 rfl) ?_
          obtain ⟨r3, hc3, h⟩ := ob_ex h
          refine nc_Vi (As := []) (rest := []) ⟨hx, hb, hml, hown, hts⟩ (c_x_wrongKind l dC dI cy a k (fun _ => 0) r1.2 r3 hc3 H.size) (cwV 0 hts g_x_putAt_wrongKind_666 rfl rfl rfl hd_x_wrongKind ⟨Nat.le_of_ble_eq_true rfl, Nat.le_of_ble_eq_true rfl⟩) hK hG hA hP hD hS rfl hl.1 rfl (Nat.le_of_ble_eq_true rfl) dX12_putAt_209 ⟨Nat.le_refl _, Nat.le_refl _⟩ (fun H locs hP hD hS => ?_)
          cases h
          exact W.iret (v := r3.1) hx hb hr (fun t ht hW => ⟨⟨r3.1, (), rfl, rfl, by rw [ht]; exact hP, va_K.moved hW.alike hK, hD⟩, hS.F ht⟩) hS.2.2 dX12_putAt_212
      · intro L σ r h H locs ls hP hD hS hl
        rw [x_putAt] at h
        refine lv_aload_n hx hb dX12_putAt_213 rfl (lv_at hl 0 rfl) ?_
        refine ng_59 hx hb hts in_x_putAt hown hK hP (hts _ (List.mem_cons_of_mem _ (List.mem_append_left _ (List.mem_append_left _ (List.mem_of_getElem? (i := 25) rfl))))) dX12_putAt_214 ?_
        refine lv_istore (lv' := [(5, .int (σ.1 59)), (0, .ref (a 0)), (1, .int (L 1)), (2, .int (L 2)), (3, .int (L 3)), (4, .int (L 4))]) hx hb dX12_putAt_217 hl (by decide) rfl (fun ls hl => ?_)
        refine lv_aload_n hx hb dX12_putAt_219 rfl (lv_at hl 1 rfl) ?_
        refine lv_iload_n hx hb dX12_putAt_220 rfl (lv_at hl 2 rfl) ?_
        refine lv_iload_n hx hb dX12_putAt_221 rfl (lv_at hl 3 rfl) ?_
        obtain ⟨r1, hc1, h⟩ := ob_ex h
        refine nc_Vv (As := [.int (L 1), .int (L 2)]) (rest := []) ⟨hx, hb, hml, hown, hts⟩ (c_x_pushOthers l dC dI cy a k (upd (upd (fun _ => 0) 1 ((L 1))) 2 ((L 2))) σ r1 hc1 H.size) (cwV 2 hts g_x_putAt_pushOthers_846 rfl rfl rfl hd_x_pushOthers ⟨Nat.le_of_ble_eq_true rfl, Nat.le_of_ble_eq_true rfl⟩) hK hG hA hP hD hS rfl hl.1 rfl (Nat.le_of_ble_eq_true rfl) dX12_putAt_222 ⟨Nat.le_refl _, Nat.le_refl _⟩ (fun H locs hP hD hS => ?_)
        refine lv_iload_n hx hb dX12_putAt_225 rfl (lv_at hl 4 rfl) ?_
        refine lv_if_eq (tgt := 239) hx hb dX12_putAt_226 (by decide) (fun c2 => ?_) (fun c2 => ?_)
        · rw [if_pos c2] at h
          exact ih.2.2.2.2.2.2.2.2.2.2.2.2.2.2.2.1 (upd L 5 ((σ.1 59))) r1.2 r h H locs ls hP hD hS (lv_sub hl [1, 2, 3, 4, 5, 0] rfl)
        · rw [if_neg c2] at h
          refine lv_aload_n hx hb dX12_putAt_229 rfl (lv_at hl 1 rfl) ?_
          refine lv_aload_n hx hb dX12_putAt_230 rfl (lv_at hl 1 rfl) ?_
          refine lv_iload_n hx hb dX12_putAt_231 rfl (lv_at hl 3 rfl) ?_
          refine lv_iload_n hx hb dX12_putAt_232 rfl (lv_at hl 4 rfl) ?_
          obtain ⟨r3, hc3, h⟩ := ob_ex h
          refine nc_Vi (As := [.int (L 2), .int (L 3)]) (rest := [.ref (a 0)]) ⟨hx, hb, hml, hown, hts⟩ (c_x_pair l dC dI cy a k (upd (upd (fun _ => 0) 1 ((L 2))) 2 ((L 3))) r1.2 r3 hc3 H.size) (cwV 2 hts g_x_putAt_pair_849 rfl rfl rfl hd_x_pair ⟨Nat.le_of_ble_eq_true rfl, Nat.le_of_ble_eq_true rfl⟩) hK hG hA hP hD hS rfl hl.1 rfl (Nat.le_of_ble_eq_true rfl) dX12_putAt_233 ⟨Nat.le_refl _, Nat.le_refl _⟩ (fun H locs hP hD hS => ?_)
          obtain ⟨r4, hc4, h⟩ := ob_ex h
          refine nc_Vv (As := [.int r3.1]) (rest := []) ⟨hx, hb, hml, hown, hts⟩ (c_x_push l dC dI cy a k (upd (fun _ => 0) 1 r3.1) r3.2 r4 hc4 H.size) (cwV 1 hts g_x_putAt_push_594 rfl rfl rfl hd_x_push ⟨Nat.le_of_ble_eq_true rfl, Nat.le_of_ble_eq_true rfl⟩) hK hG hA hP hD hS rfl hl.1 rfl (Nat.le_of_ble_eq_true rfl) dX12_putAt_236 ⟨Nat.le_refl _, Nat.le_refl _⟩ (fun H locs hP hD hS => ?_)
          exact ih.2.2.2.2.2.2.2.2.2.2.2.2.2.2.2.1 (upd L 5 ((σ.1 59))) r4.2 r h H locs ls hP hD hS (lv_sub hl [1, 2, 3, 4, 5, 0] rfl)
      · intro L σ r h H locs ls hP hD hS hl
        rw [x_putAt] at h
        refine lv_aload_n hx hb dX12_putAt_239 rfl (lv_at hl 0 rfl) ?_
        refine ng_56 hx hb hts in_x_putAt hown hK hP (hts _ (List.mem_cons_of_mem _ (List.mem_append_left _ (List.mem_append_left _ (List.mem_of_getElem? (i := 35) rfl))))) dX12_putAt_240 ?_
        refine lv_if_le (tgt := 250) hx hb dX12_putAt_243 (by decide) (fun c1 => ?_) (fun c1 => ?_)
        · rw [if_pos c1] at h
          exact ih.2.2.2.2.2.2.2.2.2.2.2.2.2.2.2.2.1 L σ r h H locs ls hP hD hS (lv_sub hl [0, 1, 2, 3, 4, 5] rfl)
        · rw [if_neg c1] at h
          refine lv_iconst (v := 0) hx hb dX12_putAt_246 (by decide) ?_
          refine lv_goto (tgt := 256) hx hb dX12_putAt_247 (by decide) ?_
          exact ih.2.2.2.2.2.2.2.2.2.2.2.2.2.2.2.2.2 (upd L 100 0) σ r h H locs ls hP hD hS (lv_sub hl [0, 1, 2, 3, 4, 5] rfl)
      · intro L σ r h H locs ls hP hD hS hl
        rw [x_putAt] at h
        refine lv_aload_n hx hb dX12_putAt_250 rfl (lv_at hl 0 rfl) ?_
        refine lv_iload hx hb dX12_putAt_251 (lv_at hl 5 rfl) ?_
        obtain ⟨r1, hc1, h⟩ := ob_ex h
        refine nc_Vi (As := [.int (L 5)]) (rest := []) ⟨hx, hb, hml, hown, hts⟩ (c_x_setOf l dC dI cy a k (upd (fun _ => 0) 1 ((L 5))) σ r1 hc1 H.size) (cwV 1 hts g_x_putAt_setOf_678 rfl rfl rfl hd_x_setOf ⟨Nat.le_of_ble_eq_true rfl, Nat.le_of_ble_eq_true rfl⟩) hK hG hA hP hD hS rfl hl.1 rfl (Nat.le_of_ble_eq_true rfl) dX12_putAt_253 ⟨Nat.le_refl _, Nat.le_refl _⟩ (fun H locs hP hD hS => ?_)
        exact ih.2.2.2.2.2.2.2.2.2.2.2.2.2.2.2.2.2 (upd L 100 r1.1) r1.2 r h H locs ls hP hD hS (lv_sub hl [0, 1, 2, 3, 4, 5] rfl)
      · intro L σ r h H locs ls hP hD hS hl
        rw [x_putAt] at h
        cases h
        exact W.iret (v := (L 100)) hx hb hr (fun t ht hW => ⟨⟨(L 100), (), rfl, rfl, by rw [ht]; exact hP, va_K.moved hW.alike hK, hD⟩, hS.F ht⟩) hS.2.2 dX12_putAt_256
  exact (blk k0).1 L0 σ0 r0 h0 s.heap [] ls hP hD hS hl
/-! putImage -/
def x_putImage : Nat → Nat → (Nat → Int32) → MS → Option (Int32 × MS)
  | 0, _, _, _ => none
  | k + 1, 0, L, σ => ob (x_isMap k 0 (upd (fun _ => 0) 1 ((L 1))) σ) (fun r1 => if r1.1 = 0 then (x_putImage k 1 L r1.2) else (ob (x_kind k 0 (upd (fun _ => 0) 1 ((L 3))) r1.2) (fun r3 => if r3.1 = 6 then (x_putImage k 2 L r3.2) else (x_putImage k 1 L r3.2))))
  | k + 1, 1, L, σ => ob (x_wrongKind k 0 (fun _ => 0) σ) (fun r1 => some (r1.1, r1.2))
  | k + 1, 2, L, σ => ob (x_pushOthers k 0 (upd (upd (fun _ => 0) 1 ((L 1))) 2 ((L 2))) σ) (fun r1 => x_putImage k 3 (upd (upd L 4 ((σ.1 59))) 5 0) r1.2)
  | k + 1, 3, L, σ => if ¬ (((((L 3)) + 1)) < 0 ∨ 1740000 ≤ ((((L 3)) + 1)).toNatClampNeg) then (if ((σ.2.2 28 ((((L 3)) + 1)).toNatClampNeg)) ≤ ((L 5)) then (x_putImage k 4 L σ) else (if ((σ.1 56)) = 0 then (if ¬ (((((((L 3)) + 4)) + ((L 5)))) < 0 ∨ 1740000 ≤ ((((((L 3)) + 4)) + ((L 5)))).toNatClampNeg) then (ob (x_pair k 0 (upd (upd (fun _ => 0) 1 ((L 2))) 2 ((σ.2.2 28 ((((((L 3)) + 4)) + ((L 5)))).toNatClampNeg))) σ) (fun r5 => ob (x_push k 0 (upd (fun _ => 0) 1 r5.1) r5.2) (fun r6 => x_putImage k 3 (upd L 5 (((L 5)) + 1)) r6.2))) else none) else (x_putImage k 4 L σ))) else none
  | k + 1, 4, L, σ => if ((σ.1 56)) ≤ 0 then (x_putImage k 5 L σ) else (x_putImage k 6 (upd L 100 0) σ)
  | k + 1, 5, L, σ => ob (x_setOf k 0 (upd (fun _ => 0) 1 ((L 4))) σ) (fun r1 => x_putImage k 6 (upd L 100 r1.1) r1.2)
  | k + 1, 6, L, σ => some ((L 100), σ)
  | _ + 1, _ + 7, _, _ => none
def o_x_putImage : List Cond := [.methodLink RX12 785 yX12_isMap, .instanceMethod yX12_isMap, .selects RX12 yX12_isMap yX12_isMap, .initialized RX12, .methodLink RX12 545 yX12_kind, .instanceMethod yX12_kind, .selects RX12 yX12_kind yX12_kind, .methodLink RX12 666 yX12_wrongKind, .instanceMethod yX12_wrongKind, .selects RX12 yX12_wrongKind yX12_wrongKind, .fieldLink RX12 385 "SetHouseModel" "top" "I", .methodLink RX12 846 yX12_pushOthers, .instanceMethod yX12_pushOthers, .selects RX12 yX12_pushOthers yX12_pushOthers, .fieldLink RX12 372 "SetHouseModel" "heap" "[I", .fieldLink RX12 362 "SetHouseModel" "err" "I", .methodLink RX12 849 yX12_pair, .instanceMethod yX12_pair, .selects RX12 yX12_pair yX12_pair, .methodLink RX12 594 yX12_push, .instanceMethod yX12_push, .selects RX12 yX12_push yX12_push, .methodLink RX12 678 yX12_setOf, .instanceMethod yX12_setOf, .selects RX12 yX12_setOf yX12_setOf]
theorem o_x_putImage_good : o_x_putImage.all goodWord = true := by decide +kernel
def p_x_putImage : List Cond := o_x_putImage ++ ((.code yX12_isMap cX12_isMap 5 (some .boolean) :: p_x_isMap) ++ ((.code yX12_kind cX12_kind 2 (some .int) :: p_x_kind) ++ ((.code yX12_wrongKind cX12_wrongKind 1 (some .int) :: p_x_wrongKind) ++ ((.code yX12_pushOthers cX12_pushOthers 5 none :: p_x_pushOthers) ++ ((.code yX12_pair cX12_pair 4 (some .int) :: p_x_pair) ++ ((.code yX12_push cX12_push 2 none :: p_x_push) ++ ((.code yX12_setOf cX12_setOf 5 (some .int) :: p_x_setOf) ++ [])))))))
theorem p_x_putImage_good : p_x_putImage.all goodWord = true := nb_all2 o_x_putImage_good (nb_all2 (nb_allc (by decide +kernel) p_x_isMap_good) (nb_all2 (nb_allc (by decide +kernel) p_x_kind_good) (nb_all2 (nb_allc (by decide +kernel) p_x_wrongKind_good) (nb_all2 (nb_allc (by decide +kernel) p_x_pushOthers_good) (nb_all2 (nb_allc (by decide +kernel) p_x_pair_good) (nb_all2 (nb_allc (by decide +kernel) p_x_push_good) (nb_all2 (nb_allc (by decide +kernel) p_x_setOf_good) rfl)))))))
def w_x_putImage : List Cond := .code yX12_putImage cX12_putImage 6 (some .int) :: (p_x_putImage ++ fM)
theorem w_x_putImage_good : w_x_putImage.all goodWord = true := nb_allc (by decide +kernel) (nb_all2 p_x_putImage_good fM_good)
theorem in_x_putImage : ∀ w ∈ wsX120, w ∈ w_x_putImage := fun _ h => List.mem_cons_of_mem _ (List.mem_append_right _ h)
theorem hd_x_putImage : yX12_putImage.cls = RX12 ∧ yX12_putImage.cls ≠ "java/lang/invoke/MethodHandle" ∧ yX12_putImage.cls ≠ "java/lang/invoke/VarHandle" ∧ (parseMethodDescriptor yX12_putImage.desc).map (fun d => d.parameters.length) = some 3 := by decide +kernel
theorem gg_x_putImage_isMap : GoodIn w_x_putImage w_x_isMap := goodIn_sub (fun w h => (List.mem_cons.mp h).elim (fun e => (List.mem_cons_of_mem _ (List.mem_append_left _ (List.mem_append_right _ (List.mem_append_left _ (List.mem_cons.mpr (Or.inl e))))))) (fun h => (List.mem_append.mp h).elim (fun h => (List.mem_cons_of_mem _ (List.mem_append_left _ (List.mem_append_right _ (List.mem_append_left _ (List.mem_cons_of_mem _ h)))))) (fun h => List.mem_cons_of_mem _ (List.mem_append_right _ h)))) w_x_isMap_good
theorem g_x_putImage_isMap_785 : GoodIn w_x_putImage (wsV RX12 785 RX12 yX12_isMap w_x_isMap) := goodIn_app (nb_g4 (List.mem_cons_of_mem _ (List.mem_append_left _ (List.mem_append_left _ (List.mem_of_getElem? (i := 0) rfl)))) (List.mem_cons_of_mem _ (List.mem_append_left _ (List.mem_append_left _ (List.mem_of_getElem? (i := 1) rfl)))) (List.mem_cons_of_mem _ (List.mem_append_left _ (List.mem_append_left _ (List.mem_of_getElem? (i := 2) rfl)))) (List.mem_cons_of_mem _ (List.mem_append_left _ (List.mem_append_left _ (List.mem_of_getElem? (i := 3) rfl)))) (by decide +kernel)) gg_x_putImage_isMap
theorem gg_x_putImage_kind : GoodIn w_x_putImage w_x_kind := goodIn_sub (fun w h => (List.mem_cons.mp h).elim (fun e => (List.mem_cons_of_mem _ (List.mem_append_left _ (List.mem_append_right _ (List.mem_append_right _ (List.mem_append_left _ (List.mem_cons.mpr (Or.inl e)))))))) (fun h => (List.mem_append.mp h).elim (fun h => (List.mem_cons_of_mem _ (List.mem_append_left _ (List.mem_append_right _ (List.mem_append_right _ (List.mem_append_left _ (List.mem_cons_of_mem _ h))))))) (fun h => List.mem_cons_of_mem _ (List.mem_append_right _ h)))) w_x_kind_good
theorem g_x_putImage_kind_545 : GoodIn w_x_putImage (wsV RX12 545 RX12 yX12_kind w_x_kind) := goodIn_app (nb_g4 (List.mem_cons_of_mem _ (List.mem_append_left _ (List.mem_append_left _ (List.mem_of_getElem? (i := 4) rfl)))) (List.mem_cons_of_mem _ (List.mem_append_left _ (List.mem_append_left _ (List.mem_of_getElem? (i := 5) rfl)))) (List.mem_cons_of_mem _ (List.mem_append_left _ (List.mem_append_left _ (List.mem_of_getElem? (i := 6) rfl)))) (List.mem_cons_of_mem _ (List.mem_append_left _ (List.mem_append_left _ (List.mem_of_getElem? (i := 3) rfl)))) (by decide +kernel)) gg_x_putImage_kind
theorem gg_x_putImage_pair : GoodIn w_x_putImage w_x_pair := goodIn_sub (fun w h => (List.mem_cons.mp h).elim (fun e => (List.mem_cons_of_mem _ (List.mem_append_left _ (List.mem_append_right _ (List.mem_append_right _ (List.mem_append_right _ (List.mem_append_right _ (List.mem_append_right _ (List.mem_append_left _ (List.mem_cons.mpr (Or.inl e))))))))))) (fun h => (List.mem_append.mp h).elim (fun h => (List.mem_cons_of_mem _ (List.mem_append_left _ (List.mem_append_right _ (List.mem_append_right _ (List.mem_append_right _ (List.mem_append_right _ (List.mem_append_right _ (List.mem_append_left _ (List.mem_cons_of_mem _ h)))))))))) (fun h => List.mem_cons_of_mem _ (List.mem_append_right _ h)))) w_x_pair_good
theorem g_x_putImage_pair_849 : GoodIn w_x_putImage (wsV RX12 849 RX12 yX12_pair w_x_pair) := goodIn_app (nb_g4 (List.mem_cons_of_mem _ (List.mem_append_left _ (List.mem_append_left _ (List.mem_of_getElem? (i := 16) rfl)))) (List.mem_cons_of_mem _ (List.mem_append_left _ (List.mem_append_left _ (List.mem_of_getElem? (i := 17) rfl)))) (List.mem_cons_of_mem _ (List.mem_append_left _ (List.mem_append_left _ (List.mem_of_getElem? (i := 18) rfl)))) (List.mem_cons_of_mem _ (List.mem_append_left _ (List.mem_append_left _ (List.mem_of_getElem? (i := 3) rfl)))) (by decide +kernel)) gg_x_putImage_pair
theorem gg_x_putImage_pushOthers : GoodIn w_x_putImage w_x_pushOthers := goodIn_sub (fun w h => (List.mem_cons.mp h).elim (fun e => (List.mem_cons_of_mem _ (List.mem_append_left _ (List.mem_append_right _ (List.mem_append_right _ (List.mem_append_right _ (List.mem_append_right _ (List.mem_append_left _ (List.mem_cons.mpr (Or.inl e)))))))))) (fun h => (List.mem_append.mp h).elim (fun h => (List.mem_cons_of_mem _ (List.mem_append_left _ (List.mem_append_right _ (List.mem_append_right _ (List.mem_append_right _ (List.mem_append_right _ (List.mem_append_left _ (List.mem_cons_of_mem _ h))))))))) (fun h => List.mem_cons_of_mem _ (List.mem_append_right _ h)))) w_x_pushOthers_good
theorem g_x_putImage_pushOthers_846 : GoodIn w_x_putImage (wsV RX12 846 RX12 yX12_pushOthers w_x_pushOthers) := goodIn_app (nb_g4 (List.mem_cons_of_mem _ (List.mem_append_left _ (List.mem_append_left _ (List.mem_of_getElem? (i := 11) rfl)))) (List.mem_cons_of_mem _ (List.mem_append_left _ (List.mem_append_left _ (List.mem_of_getElem? (i := 12) rfl)))) (List.mem_cons_of_mem _ (List.mem_append_left _ (List.mem_append_left _ (List.mem_of_getElem? (i := 13) rfl)))) (List.mem_cons_of_mem _ (List.mem_append_left _ (List.mem_append_left _ (List.mem_of_getElem? (i := 3) rfl)))) (by decide +kernel)) gg_x_putImage_pushOthers
theorem gg_x_putImage_push : GoodIn w_x_putImage w_x_push := goodIn_sub (fun w h => (List.mem_cons.mp h).elim (fun e => (List.mem_cons_of_mem _ (List.mem_append_left _ (List.mem_append_right _ (List.mem_append_right _ (List.mem_append_right _ (List.mem_append_right _ (List.mem_append_right _ (List.mem_append_right _ (List.mem_append_left _ (List.mem_cons.mpr (Or.inl e)))))))))))) (fun h => (List.mem_append.mp h).elim (fun h => (List.mem_cons_of_mem _ (List.mem_append_left _ (List.mem_append_right _ (List.mem_append_right _ (List.mem_append_right _ (List.mem_append_right _ (List.mem_append_right _ (List.mem_append_right _ (List.mem_append_left _ (List.mem_cons_of_mem _ h))))))))))) (fun h => List.mem_cons_of_mem _ (List.mem_append_right _ h)))) w_x_push_good
theorem g_x_putImage_push_594 : GoodIn w_x_putImage (wsV RX12 594 RX12 yX12_push w_x_push) := goodIn_app (nb_g4 (List.mem_cons_of_mem _ (List.mem_append_left _ (List.mem_append_left _ (List.mem_of_getElem? (i := 19) rfl)))) (List.mem_cons_of_mem _ (List.mem_append_left _ (List.mem_append_left _ (List.mem_of_getElem? (i := 20) rfl)))) (List.mem_cons_of_mem _ (List.mem_append_left _ (List.mem_append_left _ (List.mem_of_getElem? (i := 21) rfl)))) (List.mem_cons_of_mem _ (List.mem_append_left _ (List.mem_append_left _ (List.mem_of_getElem? (i := 3) rfl)))) (by decide +kernel)) gg_x_putImage_push
theorem gg_x_putImage_setOf : GoodIn w_x_putImage w_x_setOf := goodIn_sub (fun w h => (List.mem_cons.mp h).elim (fun e => (List.mem_cons_of_mem _ (List.mem_append_left _ (List.mem_append_right _ (List.mem_append_right _ (List.mem_append_right _ (List.mem_append_right _ (List.mem_append_right _ (List.mem_append_right _ (List.mem_append_right _ (List.mem_append_left _ (List.mem_cons.mpr (Or.inl e))))))))))))) (fun h => (List.mem_append.mp h).elim (fun h => (List.mem_cons_of_mem _ (List.mem_append_left _ (List.mem_append_right _ (List.mem_append_right _ (List.mem_append_right _ (List.mem_append_right _ (List.mem_append_right _ (List.mem_append_right _ (List.mem_append_right _ (List.mem_append_left _ (List.mem_cons_of_mem _ h)))))))))))) (fun h => List.mem_cons_of_mem _ (List.mem_append_right _ h)))) w_x_setOf_good
theorem g_x_putImage_setOf_678 : GoodIn w_x_putImage (wsV RX12 678 RX12 yX12_setOf w_x_setOf) := goodIn_app (nb_g4 (List.mem_cons_of_mem _ (List.mem_append_left _ (List.mem_append_left _ (List.mem_of_getElem? (i := 22) rfl)))) (List.mem_cons_of_mem _ (List.mem_append_left _ (List.mem_append_left _ (List.mem_of_getElem? (i := 23) rfl)))) (List.mem_cons_of_mem _ (List.mem_append_left _ (List.mem_append_left _ (List.mem_of_getElem? (i := 24) rfl)))) (List.mem_cons_of_mem _ (List.mem_append_left _ (List.mem_append_left _ (List.mem_of_getElem? (i := 3) rfl)))) (by decide +kernel)) gg_x_putImage_setOf
theorem gg_x_putImage_wrongKind : GoodIn w_x_putImage w_x_wrongKind := goodIn_sub (fun w h => (List.mem_cons.mp h).elim (fun e => (List.mem_cons_of_mem _ (List.mem_append_left _ (List.mem_append_right _ (List.mem_append_right _ (List.mem_append_right _ (List.mem_append_left _ (List.mem_cons.mpr (Or.inl e))))))))) (fun h => (List.mem_append.mp h).elim (fun h => (List.mem_cons_of_mem _ (List.mem_append_left _ (List.mem_append_right _ (List.mem_append_right _ (List.mem_append_right _ (List.mem_append_left _ (List.mem_cons_of_mem _ h)))))))) (fun h => List.mem_cons_of_mem _ (List.mem_append_right _ h)))) w_x_wrongKind_good
theorem g_x_putImage_wrongKind_666 : GoodIn w_x_putImage (wsV RX12 666 RX12 yX12_wrongKind w_x_wrongKind) := goodIn_app (nb_g4 (List.mem_cons_of_mem _ (List.mem_append_left _ (List.mem_append_left _ (List.mem_of_getElem? (i := 7) rfl)))) (List.mem_cons_of_mem _ (List.mem_append_left _ (List.mem_append_left _ (List.mem_of_getElem? (i := 8) rfl)))) (List.mem_cons_of_mem _ (List.mem_append_left _ (List.mem_append_left _ (List.mem_of_getElem? (i := 9) rfl)))) (List.mem_cons_of_mem _ (List.mem_append_left _ (List.mem_append_left _ (List.mem_of_getElem? (i := 3) rfl)))) (by decide +kernel)) gg_x_putImage_wrongKind
set_option maxHeartbeats 40000000 in
set_option maxRecDepth 100000 in
theorem c_x_putImage (l : Launch) (dC : Nat → ClassId) (dI : Nat → Nat → Nat) (cy : Nat → ClassId) (a : Nat → Nat) (k0 : Nat) (L0 : Nat → Int32) (σ0 : MS) (r0 : Int32 × MS) (h0 : x_putImage k0 0 L0 σ0 = some r0) (sz : Nat) : Met l yX12_putImage w_x_putImage ({ frames := 46, cells := 0, slots := 0, locals := 1271 }) (va_Pc [.ref (a 0), .int (L0 1), .int (L0 2), .int (L0 3)] (nIn (dC, dI) cy sz (vM cy a σ0))) (va_Qi (fun (z : Int32) (_ : Unit) => z = r0.1) (fun _ t => nOut (dC, dI) cy (va_A (vM cy a σ0) sz) (vM cy a r0.2) t) (va_A (vM cy a σ0) sz)) 0 0 (va_A (vM cy a σ0) sz) := by
  refine Met.ofW (cc := cX12_putImage) (maxL := 6) (ret := (some .int)) (by decide) rfl ?_
  intro p e s m args below meth c s₁ B hml hv
  obtain ⟨rfl, hsz, hP, hK, hD0, hG⟩ := hv
  have hx := B.exec
  have hb := B.bytes
  have hr := B.returns
  have hts := atoms_spec (ws := w_x_putImage) B.pre
  have hown : s.vm.findClass RX12 = some m.cls := findClass_of_methodNamed B.named
  have hlocks := B.notSynchronized
  subst hsz
  have hD := hD0.self (sz := s.heap.size)
  generalize hAe : va_A (vM cy a σ0) s.heap.size = A at hD ⊢
  have hA : ∀ q : Nat, s.heap.size ≤ q → A q := fun q h => by rw [← hAe]; exact Or.inr h
  have hS : va_S A s.heap s.heap [] := va_S.rf
  have hl := lv_entry ([.ref (a 0), .int (L0 1), .int (L0 2), .int (L0 3)]) (n := 6) (Nat.le_of_ble_eq_true rfl)
  rw [lg_entry_eq]
  generalize (lg_sl ([.ref (a 0), .int (L0 1), .int (L0 2), .int (L0 3)]) ++ List.replicate (6 - (lg_sl ([.ref (a 0), .int (L0 1), .int (L0 2), .int (L0 3)])).length) Slot.unset).toArray = ls at hl ⊢
  have hl : lv_has ls 6 [(0, .ref (a 0)), (1, .int (L0 1)), (2, .int (L0 2)), (3, .int (L0 3))] := hl
  have blk : ∀ k : Nat, (bT p l e (headSpec w_x_putImage ({ frames := 46, cells := 0, slots := 0, locals := 1271 })).room s m #[.ref (a 0), .int (L0 1), .int (L0 2), .int (L0 3)] below meth c dC dI cy a A (qI dC dI cy a A below #[.ref (a 0), .int (L0 1), .int (L0 2), .int (L0 3)] s) 6 (x_putImage k 0) (fun L => [(0, .ref (a 0)), (1, .int (L 1)), (2, .int (L 2)), (3, .int (L 3))]) 0 (fun L => [])) ∧ (bT p l e (headSpec w_x_putImage ({ frames := 46, cells := 0, slots := 0, locals := 1271 })).room s m #[.ref (a 0), .int (L0 1), .int (L0 2), .int (L0 3)] below meth c dC dI cy a A (qI dC dI cy a A below #[.ref (a 0), .int (L0 1), .int (L0 2), .int (L0 3)] s) 6 (x_putImage k 1) (fun L => [(0, .ref (a 0)), (1, .int (L 1)), (2, .int (L 2)), (3, .int (L 3))]) 18 (fun L => [])) ∧ (bT p l e (headSpec w_x_putImage ({ frames := 46, cells := 0, slots := 0, locals := 1271 })).room s m #[.ref (a 0), .int (L0 1), .int (L0 2), .int (L0 3)] below meth c dC dI cy a A (qI dC dI cy a A below #[.ref (a 0), .int (L0 1), .int (L0 2), .int (L0 3)] s) 6 (x_putImage k 2) (fun L => [(0, .ref (a 0)), (1, .int (L 1)), (2, .int (L 2)), (3, .int (L 3))]) 23 (fun L => [])) ∧ (bT p l e (headSpec w_x_putImage ({ frames := 46, cells := 0, slots := 0, locals := 1271 })).room s m #[.ref (a 0), .int (L0 1), .int (L0 2), .int (L0 3)] below meth c dC dI cy a A (qI dC dI cy a A below #[.ref (a 0), .int (L0 1), .int (L0 2), .int (L0 3)] s) 6 (x_putImage k 3) (fun L => [(0, .ref (a 0)), (1, .int (L 1)), (2, .int (L 2)), (3, .int (L 3)), (4, .int (L 4)), (5, .int (L 5))]) 38 (fun L => [])) ∧ (bT p l e (headSpec w_x_putImage ({ frames := 46, cells := 0, slots := 0, locals := 1271 })).room s m #[.ref (a 0), .int (L0 1), .int (L0 2), .int (L0 3)] below meth c dC dI cy a A (qI dC dI cy a A below #[.ref (a 0), .int (L0 1), .int (L0 2), .int (L0 3)] s) 6 (x_putImage k 4) (fun L => [(0, .ref (a 0)), (1, .int (L 1)), (2, .int (L 2)), (3, .int (L 3)), (4, .int (L 4)), (5, .int (L 5))]) 84 (fun L => [])) ∧ (bT p l e (headSpec w_x_putImage ({ frames := 46, cells := 0, slots := 0, locals := 1271 })).room s m #[.ref (a 0), .int (L0 1), .int (L0 2), .int (L0 3)] below meth c dC dI cy a A (qI dC dI cy a A below #[.ref (a 0), .int (L0 1), .int (L0 2), .int (L0 3)] s) 6 (x_putImage k 5) (fun L => [(0, .ref (a 0)), (1, .int (L 1)), (2, .int (L 2)), (3, .int (L 3)), (4, .int (L 4)), (5, .int (L 5))]) 95 (fun L => [])) ∧ (bT p l e (headSpec w_x_putImage ({ frames := 46, cells := 0, slots := 0, locals := 1271 })).room s m #[.ref (a 0), .int (L0 1), .int (L0 2), .int (L0 3)] below meth c dC dI cy a A (qI dC dI cy a A below #[.ref (a 0), .int (L0 1), .int (L0 2), .int (L0 3)] s) 6 (x_putImage k 6) (fun L => [(0, .ref (a 0)), (1, .int (L 1)), (2, .int (L 2)), (3, .int (L 3)), (4, .int (L 4)), (5, .int (L 5))]) 101 (fun L => [.int (L 100)])) := by
    intro k
    induction k with
    | zero => exact ⟨fun L σ r h => (by cases h), fun L σ r h => (by cases h), fun L σ r h => (by cases h), fun L σ r h => (by cases h), fun L σ r h => (by cases h), fun L σ r h => (by cases h), fun L σ r h => (by cases h)⟩
    | succ k ih =>
      refine ⟨?_, ?_, ?_, ?_, ?_, ?_, ?_⟩
      · intro L σ r h H locs ls hP hD hS hl
        rw [x_putImage] at h
        refine lv_aload_n hx hb dX12_putImage_0 rfl (lv_at hl 0 rfl) ?_
        refine lv_iload_n hx hb dX12_putImage_1 rfl (lv_at hl 1 rfl) ?_
        obtain ⟨r1, hc1, h⟩ := ob_ex h
        refine nc_Vi (As := [.int (L 1)]) (rest := []) ⟨hx, hb, hml, hown, hts⟩ (c_x_isMap l dC dI cy a k (upd (fun _ => 0) 1 ((L 1))) σ r1 hc1 H.size) (cwV 1 hts g_x_putImage_isMap_785 rfl rfl rfl hd_x_isMap ⟨Nat.le_of_ble_eq_true rfl, Nat.le_of_ble_eq_true rfl⟩) hK hG hA hP hD hS rfl hl.1 rfl (Nat.le_of_ble_eq_true rfl) dX12_putImage_2 ⟨Nat.le_refl _, Nat.le_refl _⟩ (fun H locs hP hD hS => ?_)
        refine lv_if_eq (tgt := 18) hx hb dX12_putImage_5 (by decide) (fun c2 => ?_) (fun c2 => ?_)
        · rw [if_pos c2] at h
          exact ih.2.1 L r1.2 r h H locs ls hP hD hS (lv_sub hl [0, 1, 2, 3] rfl)
        · rw [if_neg c2] at h
          refine lv_aload_n hx hb dX12_putImage_8 rfl (lv_at hl 0 rfl) ?_
          refine lv_iload_n hx hb dX12_putImage_9 rfl (lv_at hl 3 rfl) ?_
          obtain ⟨r3, hc3, h⟩ := ob_ex h
          refine nc_Vi (As := [.int (L 3)]) (rest := []) ⟨hx, hb, hml, hown, hts⟩ (c_x_kind l dC dI cy a k (upd (fun _ => 0) 1 ((L 3))) r1.2 r3 hc3 H.size) (cwV 1 hts g_x_putImage_kind_545 rfl rfl rfl hd_x_kind ⟨Nat.le_of_ble_eq_true rfl, Nat.le_of_ble_eq_true rfl⟩) hK hG hA hP hD hS rfl hl.1 rfl (Nat.le_of_ble_eq_true rfl) dX12_putImage_10 ⟨Nat.le_refl _, Nat.le_refl _⟩ (fun H locs hP hD hS => ?_)
          refine lv_bipush (v := 6) hx hb dX12_putImage_13 (by decide) ?_
          refine lv_icmp_eq (tgt := 23) hx hb dX12_putImage_15 (by decide) (fun c4 => ?_) (fun c4 => ?_)
          · rw [if_pos c4] at h
            exact ih.2.2.1 L r3.2 r h H locs ls hP hD hS (lv_sub hl [0, 1, 2, 3] rfl)
          · rw [if_neg c4] at h
            exact ih.2.1 L r3.2 r h H locs ls hP hD hS (lv_sub hl [0, 1, 2, 3] rfl)
      · intro L σ r h H locs ls hP hD hS hl
        rw [x_putImage] at h
        refine lv_aload_n hx hb dX12_putImage_18 rfl (lv_at hl 0 rfl) ?_
        obtain ⟨r1, hc1, h⟩ := ob_ex h
        refine nc_Vi (As := []) (rest := []) ⟨hx, hb, hml, hown, hts⟩ (c_x_wrongKind l dC dI cy a k (fun _ => 0) σ r1 hc1 H.size) (cwV 0 hts g_x_putImage_wrongKind_666 rfl rfl rfl hd_x_wrongKind ⟨Nat.le_of_ble_eq_true rfl, Nat.le_of_ble_eq_true rfl⟩) hK hG hA hP hD hS rfl hl.1 rfl (Nat.le_of_ble_eq_true rfl) dX12_putImage_19 ⟨Nat.le_refl _, Nat.le_refl _⟩ (fun H locs hP hD hS => ?_)
        cases h
        exact W.iret (v := r1.1) hx hb hr (fun t ht hW => ⟨⟨r1.1, (), rfl, rfl, by rw [ht]; exact hP, va_K.moved hW.alike hK, hD⟩, hS.F ht⟩) hS.2.2 dX12_putImage_22
      · intro L σ r h H locs ls hP hD hS hl
        rw [x_putImage] at h
        refine lv_aload_n hx hb dX12_putImage_23 rfl (lv_at hl 0 rfl) ?_
        refine ng_59 hx hb hts in_x_putImage hown hK hP (hts _ (List.mem_cons_of_mem _ (List.mem_append_left _ (List.mem_append_left _ (List.mem_of_getElem? (i := 10) rfl))))) dX12_putImage_24 ?_
        refine lv_istore (lv' := [(4, .int (σ.1 59)), (0, .ref (a 0)), (1, .int (L 1)), (2, .int (L 2)), (3, .int (L 3))]) hx hb dX12_putImage_27 hl (by decide) rfl (fun ls hl => ?_)
        refine lv_aload_n hx hb dX12_putImage_29 rfl (lv_at hl 1 rfl) ?_
        refine lv_iload_n hx hb dX12_putImage_30 rfl (lv_at hl 2 rfl) ?_
        refine lv_iload_n hx hb dX12_putImage_31 rfl (lv_at hl 3 rfl) ?_
        obtain ⟨r1, hc1, h⟩ := ob_ex h
        refine nc_Vv (As := [.int (L 1), .int (L 2)]) (rest := []) ⟨hx, hb, hml, hown, hts⟩ (c_x_pushOthers l dC dI cy a k (upd (upd (fun _ => 0) 1 ((L 1))) 2 ((L 2))) σ r1 hc1 H.size) (cwV 2 hts g_x_putImage_pushOthers_846 rfl rfl rfl hd_x_pushOthers ⟨Nat.le_of_ble_eq_true rfl, Nat.le_of_ble_eq_true rfl⟩) hK hG hA hP hD hS rfl hl.1 rfl (Nat.le_of_ble_eq_true rfl) dX12_putImage_32 ⟨Nat.le_refl _, Nat.le_refl _⟩ (fun H locs hP hD hS => ?_)
        refine lv_iconst (v := 0) hx hb dX12_putImage_35 (by decide) ?_
        refine lv_istore (lv' := [(5, .int 0), (4, .int (σ.1 59)), (0, .ref (a 0)), (1, .int (L 1)), (2, .int (L 2)), (3, .int (L 3))]) hx hb dX12_putImage_36 hl (by decide) rfl (fun ls hl => ?_)
        exact ih.2.2.2.1 (upd (upd L 4 ((σ.1 59))) 5 0) r1.2 r h H locs ls hP hD hS (lv_sub hl [2, 3, 4, 5, 1, 0] rfl)
      · intro L σ r h H locs ls hP hD hS hl
        rw [x_putImage] at h
        refine lv_iload hx hb dX12_putImage_38 (lv_at hl 5 rfl) ?_
        refine lv_aload_n hx hb dX12_putImage_40 rfl (lv_at hl 0 rfl) ?_
        refine ng_53 hx hb hts in_x_putImage hown hK hP (hts _ (List.mem_cons_of_mem _ (List.mem_append_left _ (List.mem_append_left _ (List.mem_of_getElem? (i := 14) rfl))))) dX12_putImage_41 ?_
        refine lv_iload_n hx hb dX12_putImage_44 rfl (lv_at hl 3 rfl) ?_
        refine lv_iconst (v := 1) hx hb dX12_putImage_45 (by decide) ?_
        refine lv_iadd hx hb dX12_putImage_46 ?_
        obtain ⟨q1, h⟩ := nb_ite1 h
        refine nl_28 hx hb hK hP q1 dX12_putImage_47 ?_
        refine lv_icmp_ge (tgt := 84) hx hb dX12_putImage_48 (by decide) (fun c2 => ?_) (fun c2 => ?_)
        · rw [if_pos c2] at h
          exact ih.2.2.2.2.1 L σ r h H locs ls hP hD hS (lv_sub hl [0, 1, 2, 3, 4, 5] rfl)
        · rw [if_neg c2] at h
          refine lv_aload_n hx hb dX12_putImage_51 rfl (lv_at hl 0 rfl) ?_
          refine ng_56 hx hb hts in_x_putImage hown hK hP (hts _ (List.mem_cons_of_mem _ (List.mem_append_left _ (List.mem_append_left _ (List.mem_of_getElem? (i := 15) rfl))))) dX12_putImage_52 ?_
          refine lv_if_ne (tgt := 84) hx hb dX12_putImage_55 (by decide) (fun c3 => ?_) (fun c3 => ?_)
          · rw [if_neg c3] at h
            exact ih.2.2.2.2.1 L σ r h H locs ls hP hD hS (lv_sub hl [0, 1, 2, 3, 4, 5] rfl)
          · rw [if_pos c3] at h
            refine lv_aload_n hx hb dX12_putImage_58 rfl (lv_at hl 0 rfl) ?_
            refine lv_aload_n hx hb dX12_putImage_59 rfl (lv_at hl 0 rfl) ?_
            refine lv_iload_n hx hb dX12_putImage_60 rfl (lv_at hl 2 rfl) ?_
            refine lv_aload_n hx hb dX12_putImage_61 rfl (lv_at hl 0 rfl) ?_
            refine ng_53 hx hb hts in_x_putImage hown hK hP (hts _ (List.mem_cons_of_mem _ (List.mem_append_left _ (List.mem_append_left _ (List.mem_of_getElem? (i := 14) rfl))))) dX12_putImage_62 ?_
            refine lv_iload_n hx hb dX12_putImage_65 rfl (lv_at hl 3 rfl) ?_
            refine lv_iconst (v := 4) hx hb dX12_putImage_66 (by decide) ?_
            refine lv_iadd hx hb dX12_putImage_67 ?_
            refine lv_iload hx hb dX12_putImage_68 (lv_at hl 5 rfl) ?_
            refine lv_iadd hx hb dX12_putImage_70 ?_
            obtain ⟨q4, h⟩ := nb_ite1 h
            refine nl_28 hx hb hK hP q4 dX12_putImage_71 ?_
            obtain ⟨r5, hc5, h⟩ := ob_ex h
            refine nc_Vi (As := [.int (L 2), .int (σ.2.2 28 ((((((L 3)) + 4)) + ((L 5)))).toNatClampNeg)]) (rest := [.ref (a 0)]) ⟨hx, hb, hml, hown, hts⟩ (c_x_pair l dC dI cy a k (upd (upd (fun _ => 0) 1 ((L 2))) 2 ((σ.2.2 28 ((((((L 3)) + 4)) + ((L 5)))).toNatClampNeg))) σ r5 hc5 H.size) (cwV 2 hts g_x_putImage_pair_849 rfl rfl rfl hd_x_pair ⟨Nat.le_of_ble_eq_true rfl, Nat.le_of_ble_eq_true rfl⟩) hK hG hA hP hD hS rfl hl.1 rfl (Nat.le_of_ble_eq_true rfl) dX12_putImage_72 ⟨Nat.le_refl _, Nat.le_refl _⟩ (fun H locs hP hD hS => ?_)
            obtain ⟨r6, hc6, h⟩ := ob_ex h
            refine nc_Vv (As := [.int r5.1]) (rest := []) ⟨hx, hb, hml, hown, hts⟩ (c_x_push l dC dI cy a k (upd (fun _ => 0) 1 r5.1) r5.2 r6 hc6 H.size) (cwV 1 hts g_x_putImage_push_594 rfl rfl rfl hd_x_push ⟨Nat.le_of_ble_eq_true rfl, Nat.le_of_ble_eq_true rfl⟩) hK hG hA hP hD hS rfl hl.1 rfl (Nat.le_of_ble_eq_true rfl) dX12_putImage_75 ⟨Nat.le_refl _, Nat.le_refl _⟩ (fun H locs hP hD hS => ?_)
            refine lv_iinc (v := ((L 5)) + 1) (lv' := [(5, .int (((L 5)) + 1)), (0, .ref (a 0)), (1, .int (L 1)), (2, .int (L 2)), (3, .int (L 3)), (4, .int (L 4))]) hx hb dX12_putImage_78 hl (k := 5) rfl rfl (by decide) rfl (fun ls hl => ?_)
            refine lv_goto (tgt := 38) hx hb dX12_putImage_81 (by decide) ?_
            exact ih.2.2.2.1 (upd L 5 (((L 5)) + 1)) r6.2 r h H locs ls hP hD hS (lv_sub hl [1, 2, 3, 4, 5, 0] rfl)
      · intro L σ r h H locs ls hP hD hS hl
        rw [x_putImage] at h
        refine lv_aload_n hx hb dX12_putImage_84 rfl (lv_at hl 0 rfl) ?_
        refine ng_56 hx hb hts in_x_putImage hown hK hP (hts _ (List.mem_cons_of_mem _ (List.mem_append_left _ (List.mem_append_left _ (List.mem_of_getElem? (i := 15) rfl))))) dX12_putImage_85 ?_
        refine lv_if_le (tgt := 95) hx hb dX12_putImage_88 (by decide) (fun c1 => ?_) (fun c1 => ?_)
        · rw [if_pos c1] at h
          exact ih.2.2.2.2.2.1 L σ r h H locs ls hP hD hS (lv_sub hl [0, 1, 2, 3, 4, 5] rfl)
        · rw [if_neg c1] at h
          refine lv_iconst (v := 0) hx hb dX12_putImage_91 (by decide) ?_
          refine lv_goto (tgt := 101) hx hb dX12_putImage_92 (by decide) ?_
          exact ih.2.2.2.2.2.2 (upd L 100 0) σ r h H locs ls hP hD hS (lv_sub hl [0, 1, 2, 3, 4, 5] rfl)
      · intro L σ r h H locs ls hP hD hS hl
        rw [x_putImage] at h
        refine lv_aload_n hx hb dX12_putImage_95 rfl (lv_at hl 0 rfl) ?_
        refine lv_iload hx hb dX12_putImage_96 (lv_at hl 4 rfl) ?_
        obtain ⟨r1, hc1, h⟩ := ob_ex h
        refine nc_Vi (As := [.int (L 4)]) (rest := []) ⟨hx, hb, hml, hown, hts⟩ (c_x_setOf l dC dI cy a k (upd (fun _ => 0) 1 ((L 4))) σ r1 hc1 H.size) (cwV 1 hts g_x_putImage_setOf_678 rfl rfl rfl hd_x_setOf ⟨Nat.le_of_ble_eq_true rfl, Nat.le_of_ble_eq_true rfl⟩) hK hG hA hP hD hS rfl hl.1 rfl (Nat.le_of_ble_eq_true rfl) dX12_putImage_98 ⟨Nat.le_refl _, Nat.le_refl _⟩ (fun H locs hP hD hS => ?_)
        exact ih.2.2.2.2.2.2 (upd L 100 r1.1) r1.2 r h H locs ls hP hD hS (lv_sub hl [0, 1, 2, 3, 4, 5] rfl)
      · intro L σ r h H locs ls hP hD hS hl
        rw [x_putImage] at h
        cases h
        exact W.iret (v := (L 100)) hx hb hr (fun t ht hW => ⟨⟨(L 100), (), rfl, rfl, by rw [ht]; exact hP, va_K.moved hW.alike hK, hD⟩, hS.F ht⟩) hS.2.2 dX12_putImage_101
  exact (blk k0).1 L0 σ0 r0 h0 s.heap [] ls hP hD hS hl
/-! putSlice -/
def x_putSlice : Nat → Nat → (Nat → Int32) → MS → Option (Int32 × MS)
  | 0, _, _, _ => none
  | k + 1, 0, L, σ => ob (x_isSlice k 0 (upd (upd (upd (fun _ => 0) 1 ((L 1))) 2 ((L 2))) 3 ((L 3))) σ) (fun r1 => if r1.1 = 0 then (some (0, r1.2)) else (x_putSlice k 1 L r1.2))
  | k + 1, 1, L, σ => ob (x_kind k 0 (upd (fun _ => 0) 1 ((L 4))) σ) (fun r1 => ob (x_kind k 0 (upd (fun _ => 0) 1 ((L 1))) r1.2) (fun r2 => if r1.1 = r2.1 then (x_putSlice k 2 L r2.2) else (ob (x_wrongKind k 0 (fun _ => 0) r2.2) (fun r4 => some (r4.1, r4.2)))))
  | k + 1, 2, L, σ => ob (x_isSliceIn k 0 (upd (fun _ => 0) 1 ((L 1))) σ) (fun r1 => if r1.1 = 0 then (some (0, r1.2)) else (x_putSlice k 3 L r1.2))
  | k + 1, 3, L, σ => if ¬ (((((L 1)) + 1)) < 0 ∨ 1740000 ≤ ((((L 1)) + 1)).toNatClampNeg) then (if ¬ (((((L 4)) + 1)) < 0 ∨ 1740000 ≤ ((((L 4)) + 1)).toNatClampNeg) then (if ¬ (((L 1)) < 0 ∨ 1740000 ≤ ((L 1)).toNatClampNeg) then (if ((σ.2.2 28 ((L 1)).toNatClampNeg)) = 4 then (x_putSlice k 4 (upd (upd (upd (upd L 5 ((σ.2.2 28 ((((L 1)) + 1)).toNatClampNeg))) 6 ((σ.2.2 28 ((((L 4)) + 1)).toNatClampNeg))) 7 0) 8 0) σ) else (x_putSlice k 13 (upd (upd L 5 ((σ.2.2 28 ((((L 1)) + 1)).toNatClampNeg))) 6 ((σ.2.2 28 ((((L 4)) + 1)).toNatClampNeg))) σ)) else none) else none) else none
  | k + 1, 4, L, σ => if ((((σ.1 100)) - 1)) ≤ ((L 8)) then (x_putSlice k 6 L σ) else (if ¬ (((((((L 1)) + 4)) + ((L 8)))) < 0 ∨ 1740000 ≤ ((((((L 1)) + 4)) + ((L 8)))).toNatClampNeg) then (if ¬ (((L 7)) < 0 ∨ 8200 ≤ ((L 7)).toNatClampNeg) then (x_putSlice k 5 L (σ.1, σ.2.1, updG σ.2.2 51 (upd (σ.2.2 51) ((L 7)).toNatClampNeg ((σ.2.2 28 ((((((L 1)) + 4)) + ((L 8)))).toNatClampNeg))))) else none) else none)
  | k + 1, 5, L, σ => x_putSlice k 4 (upd (upd L 7 (((L 7)) + 1)) 8 (((L 8)) + 1)) σ
  | k + 1, 6, L, σ => x_putSlice k 7 (upd L 8 0) σ
  | k + 1, 7, L, σ => if ((L 6)) ≤ ((L 8)) then (x_putSlice k 9 L σ) else (if ¬ (((((((L 4)) + 4)) + ((L 8)))) < 0 ∨ 1740000 ≤ ((((((L 4)) + 4)) + ((L 8)))).toNatClampNeg) then (if ¬ (((L 7)) < 0 ∨ 8200 ≤ ((L 7)).toNatClampNeg) then (x_putSlice k 8 L (σ.1, σ.2.1, updG σ.2.2 51 (upd (σ.2.2 51) ((L 7)).toNatClampNeg ((σ.2.2 28 ((((((L 4)) + 4)) + ((L 8)))).toNatClampNeg))))) else none) else none)
  | k + 1, 8, L, σ => x_putSlice k 7 (upd (upd L 7 (((L 7)) + 1)) 8 (((L 8)) + 1)) σ
  | k + 1, 9, L, σ => x_putSlice k 10 (upd L 8 ((σ.1 101))) σ
  | k + 1, 10, L, σ => if ((L 5)) ≤ ((L 8)) then (x_putSlice k 12 L σ) else (if ¬ (((((((L 1)) + 4)) + ((L 8)))) < 0 ∨ 1740000 ≤ ((((((L 1)) + 4)) + ((L 8)))).toNatClampNeg) then (if ¬ (((L 7)) < 0 ∨ 8200 ≤ ((L 7)).toNatClampNeg) then (x_putSlice k 11 L (σ.1, σ.2.1, updG σ.2.2 51 (upd (σ.2.2 51) ((L 7)).toNatClampNeg ((σ.2.2 28 ((((((L 1)) + 4)) + ((L 8)))).toNatClampNeg))))) else none) else none)
  | k + 1, 11, L, σ => x_putSlice k 10 (upd (upd L 7 (((L 7)) + 1)) 8 (((L 8)) + 1)) σ
  | k + 1, 12, L, σ => ob (x_stringOf__51 k 0 (upd (upd (fun _ => 0) 2 0) 3 ((L 7))) σ) (fun r1 => some (r1.1, r1.2))
  | k + 1, 13, L, σ => x_putSlice k 14 (upd (upd L 7 ((σ.1 59))) 8 0) σ
  | k + 1, 14, L, σ => if ((((σ.1 100)) - 1)) ≤ ((L 8)) then (x_putSlice k 15 L σ) else (if ¬ (((((((L 1)) + 4)) + ((L 8)))) < 0 ∨ 1740000 ≤ ((((((L 1)) + 4)) + ((L 8)))).toNatClampNeg) then (ob (x_push k 0 (upd (fun _ => 0) 1 ((σ.2.2 28 ((((((L 1)) + 4)) + ((L 8)))).toNatClampNeg))) σ) (fun r3 => x_putSlice k 14 (upd L 8 (((L 8)) + 1)) r3.2)) else none)
  | k + 1, 15, L, σ => x_putSlice k 16 (upd L 8 0) σ
  | k + 1, 16, L, σ => if ((L 6)) ≤ ((L 8)) then (x_putSlice k 17 L σ) else (if ¬ (((((((L 4)) + 4)) + ((L 8)))) < 0 ∨ 1740000 ≤ ((((((L 4)) + 4)) + ((L 8)))).toNatClampNeg) then (ob (x_push k 0 (upd (fun _ => 0) 1 ((σ.2.2 28 ((((((L 4)) + 4)) + ((L 8)))).toNatClampNeg))) σ) (fun r3 => x_putSlice k 16 (upd L 8 (((L 8)) + 1)) r3.2)) else none)
  | k + 1, 17, L, σ => x_putSlice k 18 (upd L 8 ((σ.1 101))) σ
  | k + 1, 18, L, σ => if ((L 5)) ≤ ((L 8)) then (x_putSlice k 19 L σ) else (if ¬ (((((((L 1)) + 4)) + ((L 8)))) < 0 ∨ 1740000 ≤ ((((((L 1)) + 4)) + ((L 8)))).toNatClampNeg) then (ob (x_push k 0 (upd (fun _ => 0) 1 ((σ.2.2 28 ((((((L 1)) + 4)) + ((L 8)))).toNatClampNeg))) σ) (fun r3 => x_putSlice k 18 (upd L 8 (((L 8)) + 1)) r3.2)) else none)
  | k + 1, 19, L, σ => ob (x_tupleOf k 0 (upd (fun _ => 0) 1 ((L 7))) σ) (fun r1 => some (r1.1, r1.2))
  | _ + 1, _ + 20, _, _ => none
def o_x_putSlice : List Cond := [.methodLink RX12 811 yX12_isSlice, .instanceMethod yX12_isSlice, .selects RX12 yX12_isSlice yX12_isSlice, .initialized RX12, .methodLink RX12 545 yX12_kind, .instanceMethod yX12_kind, .selects RX12 yX12_kind yX12_kind, .methodLink RX12 666 yX12_wrongKind, .instanceMethod yX12_wrongKind, .selects RX12 yX12_wrongKind yX12_wrongKind, .methodLink RX12 815 yX12_isSliceIn, .instanceMethod yX12_isSliceIn, .selects RX12 yX12_isSliceIn yX12_isSliceIn, .fieldLink RX12 372 "SetHouseModel" "heap" "[I", .fieldLink RX12 805 "SetHouseModel" "sliceFrom" "I", .fieldLink RX12 756 "SetHouseModel" "bytes" "[I", .fieldLink RX12 808 "SetHouseModel" "sliceTo" "I", .methodLink RX12 597 yX12_stringOf, .instanceMethod yX12_stringOf, .selects RX12 yX12_stringOf yX12_stringOf, .fieldLink RX12 385 "SetHouseModel" "top" "I", .methodLink RX12 594 yX12_push, .instanceMethod yX12_push, .selects RX12 yX12_push yX12_push, .methodLink RX12 675 yX12_tupleOf, .instanceMethod yX12_tupleOf, .selects RX12 yX12_tupleOf yX12_tupleOf]
theorem o_x_putSlice_good : o_x_putSlice.all goodWord = true := by decide +kernel
def p_x_putSlice : List Cond := o_x_putSlice ++ ((.code yX12_isSlice cX12_isSlice 5 (some .boolean) :: p_x_isSlice) ++ ((.code yX12_kind cX12_kind 2 (some .int) :: p_x_kind) ++ ((.code yX12_wrongKind cX12_wrongKind 1 (some .int) :: p_x_wrongKind) ++ ((.code yX12_isSliceIn cX12_isSliceIn 2 (some .boolean) :: p_x_isSliceIn) ++ ((.code yX12_stringOf cX12_stringOf 6 (some .int) :: p_x_stringOf__51) ++ ((.code yX12_push cX12_push 2 none :: p_x_push) ++ ((.code yX12_tupleOf cX12_tupleOf 5 (some .int) :: p_x_tupleOf) ++ [])))))))
theorem p_x_putSlice_good : p_x_putSlice.all goodWord = true := nb_all2 o_x_putSlice_good (nb_all2 (nb_allc (by decide +kernel) p_x_isSlice_good) (nb_all2 (nb_allc (by decide +kernel) p_x_kind_good) (nb_all2 (nb_allc (by decide +kernel) p_x_wrongKind_good) (nb_all2 (nb_allc (by decide +kernel) p_x_isSliceIn_good) (nb_all2 (nb_allc (by decide +kernel) p_x_stringOf__51_good) (nb_all2 (nb_allc (by decide +kernel) p_x_push_good) (nb_all2 (nb_allc (by decide +kernel) p_x_tupleOf_good) rfl)))))))
def w_x_putSlice : List Cond := .code yX12_putSlice cX12_putSlice 9 (some .int) :: (p_x_putSlice ++ fM)
theorem w_x_putSlice_good : w_x_putSlice.all goodWord = true := nb_allc (by decide +kernel) (nb_all2 p_x_putSlice_good fM_good)
theorem in_x_putSlice : ∀ w ∈ wsX120, w ∈ w_x_putSlice := fun _ h => List.mem_cons_of_mem _ (List.mem_append_right _ h)
theorem hd_x_putSlice : yX12_putSlice.cls = RX12 ∧ yX12_putSlice.cls ≠ "java/lang/invoke/MethodHandle" ∧ yX12_putSlice.cls ≠ "java/lang/invoke/VarHandle" ∧ (parseMethodDescriptor yX12_putSlice.desc).map (fun d => d.parameters.length) = some 4 := by decide +kernel
theorem gg_x_putSlice_isSliceIn : GoodIn w_x_putSlice w_x_isSliceIn := goodIn_sub (fun w h => (List.mem_cons.mp h).elim (fun e => (List.mem_cons_of_mem _ (List.mem_append_left _ (List.mem_append_right _ (List.mem_append_right _ (List.mem_append_right _ (List.mem_append_right _ (List.mem_append_left _ (List.mem_cons.mpr (Or.inl e)))))))))) (fun h => (List.mem_append.mp h).elim (fun h => (List.mem_cons_of_mem _ (List.mem_append_left _ (List.mem_append_right _ (List.mem_append_right _ (List.mem_append_right _ (List.mem_append_right _ (List.mem_append_left _ (List.mem_cons_of_mem _ h))))))))) (fun h => List.mem_cons_of_mem _ (List.mem_append_right _ h)))) w_x_isSliceIn_good
theorem g_x_putSlice_isSliceIn_815 : GoodIn w_x_putSlice (wsV RX12 815 RX12 yX12_isSliceIn w_x_isSliceIn) := goodIn_app (nb_g4 (List.mem_cons_of_mem _ (List.mem_append_left _ (List.mem_append_left _ (List.mem_of_getElem? (i := 10) rfl)))) (List.mem_cons_of_mem _ (List.mem_append_left _ (List.mem_append_left _ (List.mem_of_getElem? (i := 11) rfl)))) (List.mem_cons_of_mem _ (List.mem_append_left _ (List.mem_append_left _ (List.mem_of_getElem? (i := 12) rfl)))) (List.mem_cons_of_mem _ (List.mem_append_left _ (List.mem_append_left _ (List.mem_of_getElem? (i := 3) rfl)))) (by decide +kernel)) gg_x_putSlice_isSliceIn
theorem gg_x_putSlice_isSlice : GoodIn w_x_putSlice w_x_isSlice := goodIn_sub (fun w h => (List.mem_cons.mp h).elim (fun e => (List.mem_cons_of_mem _ (List.mem_append_left _ (List.mem_append_right _ (List.mem_append_left _ (List.mem_cons.mpr (Or.inl e))))))) (fun h => (List.mem_append.mp h).elim (fun h => (List.mem_cons_of_mem _ (List.mem_append_left _ (List.mem_append_right _ (List.mem_append_left _ (List.mem_cons_of_mem _ h)))))) (fun h => List.mem_cons_of_mem _ (List.mem_append_right _ h)))) w_x_isSlice_good
theorem g_x_putSlice_isSlice_811 : GoodIn w_x_putSlice (wsV RX12 811 RX12 yX12_isSlice w_x_isSlice) := goodIn_app (nb_g4 (List.mem_cons_of_mem _ (List.mem_append_left _ (List.mem_append_left _ (List.mem_of_getElem? (i := 0) rfl)))) (List.mem_cons_of_mem _ (List.mem_append_left _ (List.mem_append_left _ (List.mem_of_getElem? (i := 1) rfl)))) (List.mem_cons_of_mem _ (List.mem_append_left _ (List.mem_append_left _ (List.mem_of_getElem? (i := 2) rfl)))) (List.mem_cons_of_mem _ (List.mem_append_left _ (List.mem_append_left _ (List.mem_of_getElem? (i := 3) rfl)))) (by decide +kernel)) gg_x_putSlice_isSlice
theorem gg_x_putSlice_kind : GoodIn w_x_putSlice w_x_kind := goodIn_sub (fun w h => (List.mem_cons.mp h).elim (fun e => (List.mem_cons_of_mem _ (List.mem_append_left _ (List.mem_append_right _ (List.mem_append_right _ (List.mem_append_left _ (List.mem_cons.mpr (Or.inl e)))))))) (fun h => (List.mem_append.mp h).elim (fun h => (List.mem_cons_of_mem _ (List.mem_append_left _ (List.mem_append_right _ (List.mem_append_right _ (List.mem_append_left _ (List.mem_cons_of_mem _ h))))))) (fun h => List.mem_cons_of_mem _ (List.mem_append_right _ h)))) w_x_kind_good
theorem g_x_putSlice_kind_545 : GoodIn w_x_putSlice (wsV RX12 545 RX12 yX12_kind w_x_kind) := goodIn_app (nb_g4 (List.mem_cons_of_mem _ (List.mem_append_left _ (List.mem_append_left _ (List.mem_of_getElem? (i := 4) rfl)))) (List.mem_cons_of_mem _ (List.mem_append_left _ (List.mem_append_left _ (List.mem_of_getElem? (i := 5) rfl)))) (List.mem_cons_of_mem _ (List.mem_append_left _ (List.mem_append_left _ (List.mem_of_getElem? (i := 6) rfl)))) (List.mem_cons_of_mem _ (List.mem_append_left _ (List.mem_append_left _ (List.mem_of_getElem? (i := 3) rfl)))) (by decide +kernel)) gg_x_putSlice_kind
theorem gg_x_putSlice_push : GoodIn w_x_putSlice w_x_push := goodIn_sub (fun w h => (List.mem_cons.mp h).elim (fun e => (List.mem_cons_of_mem _ (List.mem_append_left _ (List.mem_append_right _ (List.mem_append_right _ (List.mem_append_right _ (List.mem_append_right _ (List.mem_append_right _ (List.mem_append_right _ (List.mem_append_left _ (List.mem_cons.mpr (Or.inl e)))))))))))) (fun h => (List.mem_append.mp h).elim (fun h => (List.mem_cons_of_mem _ (List.mem_append_left _ (List.mem_append_right _ (List.mem_append_right _ (List.mem_append_right _ (List.mem_append_right _ (List.mem_append_right _ (List.mem_append_right _ (List.mem_append_left _ (List.mem_cons_of_mem _ h))))))))))) (fun h => List.mem_cons_of_mem _ (List.mem_append_right _ h)))) w_x_push_good
theorem g_x_putSlice_push_594 : GoodIn w_x_putSlice (wsV RX12 594 RX12 yX12_push w_x_push) := goodIn_app (nb_g4 (List.mem_cons_of_mem _ (List.mem_append_left _ (List.mem_append_left _ (List.mem_of_getElem? (i := 21) rfl)))) (List.mem_cons_of_mem _ (List.mem_append_left _ (List.mem_append_left _ (List.mem_of_getElem? (i := 22) rfl)))) (List.mem_cons_of_mem _ (List.mem_append_left _ (List.mem_append_left _ (List.mem_of_getElem? (i := 23) rfl)))) (List.mem_cons_of_mem _ (List.mem_append_left _ (List.mem_append_left _ (List.mem_of_getElem? (i := 3) rfl)))) (by decide +kernel)) gg_x_putSlice_push
theorem gg_x_putSlice_stringOf__51 : GoodIn w_x_putSlice w_x_stringOf__51 := goodIn_sub (fun w h => (List.mem_cons.mp h).elim (fun e => (List.mem_cons_of_mem _ (List.mem_append_left _ (List.mem_append_right _ (List.mem_append_right _ (List.mem_append_right _ (List.mem_append_right _ (List.mem_append_right _ (List.mem_append_left _ (List.mem_cons.mpr (Or.inl e))))))))))) (fun h => (List.mem_append.mp h).elim (fun h => (List.mem_cons_of_mem _ (List.mem_append_left _ (List.mem_append_right _ (List.mem_append_right _ (List.mem_append_right _ (List.mem_append_right _ (List.mem_append_right _ (List.mem_append_left _ (List.mem_cons_of_mem _ h)))))))))) (fun h => List.mem_cons_of_mem _ (List.mem_append_right _ h)))) w_x_stringOf__51_good
theorem g_x_putSlice_stringOf__51_597 : GoodIn w_x_putSlice (wsV RX12 597 RX12 yX12_stringOf w_x_stringOf__51) := goodIn_app (nb_g4 (List.mem_cons_of_mem _ (List.mem_append_left _ (List.mem_append_left _ (List.mem_of_getElem? (i := 17) rfl)))) (List.mem_cons_of_mem _ (List.mem_append_left _ (List.mem_append_left _ (List.mem_of_getElem? (i := 18) rfl)))) (List.mem_cons_of_mem _ (List.mem_append_left _ (List.mem_append_left _ (List.mem_of_getElem? (i := 19) rfl)))) (List.mem_cons_of_mem _ (List.mem_append_left _ (List.mem_append_left _ (List.mem_of_getElem? (i := 3) rfl)))) (by decide +kernel)) gg_x_putSlice_stringOf__51
theorem gg_x_putSlice_tupleOf : GoodIn w_x_putSlice w_x_tupleOf := goodIn_sub (fun w h => (List.mem_cons.mp h).elim (fun e => (List.mem_cons_of_mem _ (List.mem_append_left _ (List.mem_append_right _ (List.mem_append_right _ (List.mem_append_right _ (List.mem_append_right _ (List.mem_append_right _ (List.mem_append_right _ (List.mem_append_right _ (List.mem_append_left _ (List.mem_cons.mpr (Or.inl e))))))))))))) (fun h => (List.mem_append.mp h).elim (fun h => (List.mem_cons_of_mem _ (List.mem_append_left _ (List.mem_append_right _ (List.mem_append_right _ (List.mem_append_right _ (List.mem_append_right _ (List.mem_append_right _ (List.mem_append_right _ (List.mem_append_right _ (List.mem_append_left _ (List.mem_cons_of_mem _ h)))))))))))) (fun h => List.mem_cons_of_mem _ (List.mem_append_right _ h)))) w_x_tupleOf_good
theorem g_x_putSlice_tupleOf_675 : GoodIn w_x_putSlice (wsV RX12 675 RX12 yX12_tupleOf w_x_tupleOf) := goodIn_app (nb_g4 (List.mem_cons_of_mem _ (List.mem_append_left _ (List.mem_append_left _ (List.mem_of_getElem? (i := 24) rfl)))) (List.mem_cons_of_mem _ (List.mem_append_left _ (List.mem_append_left _ (List.mem_of_getElem? (i := 25) rfl)))) (List.mem_cons_of_mem _ (List.mem_append_left _ (List.mem_append_left _ (List.mem_of_getElem? (i := 26) rfl)))) (List.mem_cons_of_mem _ (List.mem_append_left _ (List.mem_append_left _ (List.mem_of_getElem? (i := 3) rfl)))) (by decide +kernel)) gg_x_putSlice_tupleOf
theorem gg_x_putSlice_wrongKind : GoodIn w_x_putSlice w_x_wrongKind := goodIn_sub (fun w h => (List.mem_cons.mp h).elim (fun e => (List.mem_cons_of_mem _ (List.mem_append_left _ (List.mem_append_right _ (List.mem_append_right _ (List.mem_append_right _ (List.mem_append_left _ (List.mem_cons.mpr (Or.inl e))))))))) (fun h => (List.mem_append.mp h).elim (fun h => (List.mem_cons_of_mem _ (List.mem_append_left _ (List.mem_append_right _ (List.mem_append_right _ (List.mem_append_right _ (List.mem_append_left _ (List.mem_cons_of_mem _ h)))))))) (fun h => List.mem_cons_of_mem _ (List.mem_append_right _ h)))) w_x_wrongKind_good
theorem g_x_putSlice_wrongKind_666 : GoodIn w_x_putSlice (wsV RX12 666 RX12 yX12_wrongKind w_x_wrongKind) := goodIn_app (nb_g4 (List.mem_cons_of_mem _ (List.mem_append_left _ (List.mem_append_left _ (List.mem_of_getElem? (i := 7) rfl)))) (List.mem_cons_of_mem _ (List.mem_append_left _ (List.mem_append_left _ (List.mem_of_getElem? (i := 8) rfl)))) (List.mem_cons_of_mem _ (List.mem_append_left _ (List.mem_append_left _ (List.mem_of_getElem? (i := 9) rfl)))) (List.mem_cons_of_mem _ (List.mem_append_left _ (List.mem_append_left _ (List.mem_of_getElem? (i := 3) rfl)))) (by decide +kernel)) gg_x_putSlice_wrongKind
set_option maxHeartbeats 40000000 in
set_option maxRecDepth 100000 in
theorem c_x_putSlice (l : Launch) (dC : Nat → ClassId) (dI : Nat → Nat → Nat) (cy : Nat → ClassId) (a : Nat → Nat) (k0 : Nat) (L0 : Nat → Int32) (σ0 : MS) (r0 : Int32 × MS) (h0 : x_putSlice k0 0 L0 σ0 = some r0) (sz : Nat) : Met l yX12_putSlice w_x_putSlice ({ frames := 4, cells := 0, slots := 0, locals := 92 }) (va_Pc [.ref (a 0), .int (L0 1), .int (L0 2), .int (L0 3), .int (L0 4)] (nIn (dC, dI) cy sz (vM cy a σ0))) (va_Qi (fun (z : Int32) (_ : Unit) => z = r0.1) (fun _ t => nOut (dC, dI) cy (va_A (vM cy a σ0) sz) (vM cy a r0.2) t) (va_A (vM cy a σ0) sz)) 0 0 (va_A (vM cy a σ0) sz) := by
  refine Met.ofW (cc := cX12_putSlice) (maxL := 9) (ret := (some .int)) (by decide) rfl ?_
  intro p e s m args below meth c s₁ B hml hv
  obtain ⟨rfl, hsz, hP, hK, hD0, hG⟩ := hv
  have hx := B.exec
  have hb := B.bytes
  have hr := B.returns
  have hts := atoms_spec (ws := w_x_putSlice) B.pre
  have hown : s.vm.findClass RX12 = some m.cls := findClass_of_methodNamed B.named
  have hlocks := B.notSynchronized
  subst hsz
  have hD := hD0.self (sz := s.heap.size)
  generalize hAe : va_A (vM cy a σ0) s.heap.size = A at hD ⊢
  have hA : ∀ q : Nat, s.heap.size ≤ q → A q := fun q h => by rw [← hAe]; exact Or.inr h
  have hS : va_S A s.heap s.heap [] := va_S.rf
  have hl := lv_entry ([.ref (a 0), .int (L0 1), .int (L0 2), .int (L0 3), .int (L0 4)]) (n := 9) (Nat.le_of_ble_eq_true rfl)
  rw [lg_entry_eq]
  generalize (lg_sl ([.ref (a 0), .int (L0 1), .int (L0 2), .int (L0 3), .int (L0 4)]) ++ List.replicate (9 - (lg_sl ([.ref (a 0), .int (L0 1), .int (L0 2), .int (L0 3), .int (L0 4)])).length) Slot.unset).toArray = ls at hl ⊢
  have hl : lv_has ls 9 [(0, .ref (a 0)), (1, .int (L0 1)), (2, .int (L0 2)), (3, .int (L0 3)), (4, .int (L0 4))] := hl
  have blk : ∀ k : Nat, (bT p l e (headSpec w_x_putSlice ({ frames := 4, cells := 0, slots := 0, locals := 92 })).room s m #[.ref (a 0), .int (L0 1), .int (L0 2), .int (L0 3), .int (L0 4)] below meth c dC dI cy a A (qI dC dI cy a A below #[.ref (a 0), .int (L0 1), .int (L0 2), .int (L0 3), .int (L0 4)] s) 9 (x_putSlice k 0) (fun L => [(0, .ref (a 0)), (1, .int (L 1)), (2, .int (L 2)), (3, .int (L 3)), (4, .int (L 4))]) 0 (fun L => [])) ∧ (bT p l e (headSpec w_x_putSlice ({ frames := 4, cells := 0, slots := 0, locals := 92 })).room s m #[.ref (a 0), .int (L0 1), .int (L0 2), .int (L0 3), .int (L0 4)] below meth c dC dI cy a A (qI dC dI cy a A below #[.ref (a 0), .int (L0 1), .int (L0 2), .int (L0 3), .int (L0 4)] s) 9 (x_putSlice k 1) (fun L => [(0, .ref (a 0)), (1, .int (L 1)), (2, .int (L 2)), (3, .int (L 3)), (4, .int (L 4))]) 12 (fun L => [])) ∧ (bT p l e (headSpec w_x_putSlice ({ frames := 4, cells := 0, slots := 0, locals := 92 })).room s m #[.ref (a 0), .int (L0 1), .int (L0 2), .int (L0 3), .int (L0 4)] below meth c dC dI cy a A (qI dC dI cy a A below #[.ref (a 0), .int (L0 1), .int (L0 2), .int (L0 3), .int (L0 4)] s) 9 (x_putSlice k 2) (fun L => [(0, .ref (a 0)), (1, .int (L 1)), (2, .int (L 2)), (3, .int (L 3)), (4, .int (L 4))]) 31 (fun L => [])) ∧ (bT p l e (headSpec w_x_putSlice ({ frames := 4, cells := 0, slots := 0, locals := 92 })).room s m #[.ref (a 0), .int (L0 1), .int (L0 2), .int (L0 3), .int (L0 4)] below meth c dC dI cy a A (qI dC dI cy a A below #[.ref (a 0), .int (L0 1), .int (L0 2), .int (L0 3), .int (L0 4)] s) 9 (x_putSlice k 3) (fun L => [(0, .ref (a 0)), (1, .int (L 1)), (2, .int (L 2)), (3, .int (L 3)), (4, .int (L 4))]) 41 (fun L => [])) ∧ (bT p l e (headSpec w_x_putSlice ({ frames := 4, cells := 0, slots := 0, locals := 92 })).room s m #[.ref (a 0), .int (L0 1), .int (L0 2), .int (L0 3), .int (L0 4)] below meth c dC dI cy a A (qI dC dI cy a A below #[.ref (a 0), .int (L0 1), .int (L0 2), .int (L0 3), .int (L0 4)] s) 9 (x_putSlice k 4) (fun L => [(0, .ref (a 0)), (1, .int (L 1)), (2, .int (L 2)), (3, .int (L 3)), (4, .int (L 4)), (5, .int (L 5)), (6, .int (L 6)), (7, .int (L 7)), (8, .int (L 8))]) 78 (fun L => [])) ∧ (bT p l e (headSpec w_x_putSlice ({ frames := 4, cells := 0, slots := 0, locals := 92 })).room s m #[.ref (a 0), .int (L0 1), .int (L0 2), .int (L0 3), .int (L0 4)] below meth c dC dI cy a A (qI dC dI cy a A below #[.ref (a 0), .int (L0 1), .int (L0 2), .int (L0 3), .int (L0 4)] s) 9 (x_putSlice k 5) (fun L => [(0, .ref (a 0)), (1, .int (L 1)), (2, .int (L 2)), (3, .int (L 3)), (4, .int (L 4)), (5, .int (L 5)), (6, .int (L 6)), (7, .int (L 7)), (8, .int (L 8))]) 107 (fun L => [])) ∧ (bT p l e (headSpec w_x_putSlice ({ frames := 4, cells := 0, slots := 0, locals := 92 })).room s m #[.ref (a 0), .int (L0 1), .int (L0 2), .int (L0 3), .int (L0 4)] below meth c dC dI cy a A (qI dC dI cy a A below #[.ref (a 0), .int (L0 1), .int (L0 2), .int (L0 3), .int (L0 4)] s) 9 (x_putSlice k 6) (fun L => [(0, .ref (a 0)), (1, .int (L 1)), (2, .int (L 2)), (3, .int (L 3)), (4, .int (L 4)), (5, .int (L 5)), (6, .int (L 6)), (7, .int (L 7)), (8, .int (L 8))]) 116 (fun L => [])) ∧ (bT p l e (headSpec w_x_putSlice ({ frames := 4, cells := 0, slots := 0, locals := 92 })).room s m #[.ref (a 0), .int (L0 1), .int (L0 2), .int (L0 3), .int (L0 4)] below meth c dC dI cy a A (qI dC dI cy a A below #[.ref (a 0), .int (L0 1), .int (L0 2), .int (L0 3), .int (L0 4)] s) 9 (x_putSlice k 7) (fun L => [(0, .ref (a 0)), (1, .int (L 1)), (2, .int (L 2)), (3, .int (L 3)), (4, .int (L 4)), (5, .int (L 5)), (6, .int (L 6)), (7, .int (L 7)), (8, .int (L 8))]) 119 (fun L => [])) ∧ (bT p l e (headSpec w_x_putSlice ({ frames := 4, cells := 0, slots := 0, locals := 92 })).room s m #[.ref (a 0), .int (L0 1), .int (L0 2), .int (L0 3), .int (L0 4)] below meth c dC dI cy a A (qI dC dI cy a A below #[.ref (a 0), .int (L0 1), .int (L0 2), .int (L0 3), .int (L0 4)] s) 9 (x_putSlice k 8) (fun L => [(0, .ref (a 0)), (1, .int (L 1)), (2, .int (L 2)), (3, .int (L 3)), (4, .int (L 4)), (5, .int (L 5)), (6, .int (L 6)), (7, .int (L 7)), (8, .int (L 8))]) 145 (fun L => [])) ∧ (bT p l e (headSpec w_x_putSlice ({ frames := 4, cells := 0, slots := 0, locals := 92 })).room s m #[.ref (a 0), .int (L0 1), .int (L0 2), .int (L0 3), .int (L0 4)] below meth c dC dI cy a A (qI dC dI cy a A below #[.ref (a 0), .int (L0 1), .int (L0 2), .int (L0 3), .int (L0 4)] s) 9 (x_putSlice k 9) (fun L => [(0, .ref (a 0)), (1, .int (L 1)), (2, .int (L 2)), (3, .int (L 3)), (4, .int (L 4)), (5, .int (L 5)), (6, .int (L 6)), (7, .int (L 7)), (8, .int (L 8))]) 154 (fun L => [])) ∧ (bT p l e (headSpec w_x_putSlice ({ frames := 4, cells := 0, slots := 0, locals := 92 })).room s m #[.ref (a 0), .int (L0 1), .int (L0 2), .int (L0 3), .int (L0 4)] below meth c dC dI cy a A (qI dC dI cy a A below #[.ref (a 0), .int (L0 1), .int (L0 2), .int (L0 3), .int (L0 4)] s) 9 (x_putSlice k 10) (fun L => [(0, .ref (a 0)), (1, .int (L 1)), (2, .int (L 2)), (3, .int (L 3)), (4, .int (L 4)), (5, .int (L 5)), (6, .int (L 6)), (7, .int (L 7)), (8, .int (L 8))]) 160 (fun L => [])) ∧ (bT p l e (headSpec w_x_putSlice ({ frames := 4, cells := 0, slots := 0, locals := 92 })).room s m #[.ref (a 0), .int (L0 1), .int (L0 2), .int (L0 3), .int (L0 4)] below meth c dC dI cy a A (qI dC dI cy a A below #[.ref (a 0), .int (L0 1), .int (L0 2), .int (L0 3), .int (L0 4)] s) 9 (x_putSlice k 11) (fun L => [(0, .ref (a 0)), (1, .int (L 1)), (2, .int (L 2)), (3, .int (L 3)), (4, .int (L 4)), (5, .int (L 5)), (6, .int (L 6)), (7, .int (L 7)), (8, .int (L 8))]) 185 (fun L => [])) ∧ (bT p l e (headSpec w_x_putSlice ({ frames := 4, cells := 0, slots := 0, locals := 92 })).room s m #[.ref (a 0), .int (L0 1), .int (L0 2), .int (L0 3), .int (L0 4)] below meth c dC dI cy a A (qI dC dI cy a A below #[.ref (a 0), .int (L0 1), .int (L0 2), .int (L0 3), .int (L0 4)] s) 9 (x_putSlice k 12) (fun L => [(0, .ref (a 0)), (1, .int (L 1)), (2, .int (L 2)), (3, .int (L 3)), (4, .int (L 4)), (5, .int (L 5)), (6, .int (L 6)), (7, .int (L 7)), (8, .int (L 8))]) 194 (fun L => [])) ∧ (bT p l e (headSpec w_x_putSlice ({ frames := 4, cells := 0, slots := 0, locals := 92 })).room s m #[.ref (a 0), .int (L0 1), .int (L0 2), .int (L0 3), .int (L0 4)] below meth c dC dI cy a A (qI dC dI cy a A below #[.ref (a 0), .int (L0 1), .int (L0 2), .int (L0 3), .int (L0 4)] s) 9 (x_putSlice k 13) (fun L => [(0, .ref (a 0)), (1, .int (L 1)), (2, .int (L 2)), (3, .int (L 3)), (4, .int (L 4)), (5, .int (L 5)), (6, .int (L 6))]) 206 (fun L => [])) ∧ (bT p l e (headSpec w_x_putSlice ({ frames := 4, cells := 0, slots := 0, locals := 92 })).room s m #[.ref (a 0), .int (L0 1), .int (L0 2), .int (L0 3), .int (L0 4)] below meth c dC dI cy a A (qI dC dI cy a A below #[.ref (a 0), .int (L0 1), .int (L0 2), .int (L0 3), .int (L0 4)] s) 9 (x_putSlice k 14) (fun L => [(0, .ref (a 0)), (1, .int (L 1)), (2, .int (L 2)), (3, .int (L 3)), (4, .int (L 4)), (5, .int (L 5)), (6, .int (L 6)), (7, .int (L 7)), (8, .int (L 8))]) 215 (fun L => [])) ∧ (bT p l e (headSpec w_x_putSlice ({ frames := 4, cells := 0, slots := 0, locals := 92 })).room s m #[.ref (a 0), .int (L0 1), .int (L0 2), .int (L0 3), .int (L0 4)] below meth c dC dI cy a A (qI dC dI cy a A below #[.ref (a 0), .int (L0 1), .int (L0 2), .int (L0 3), .int (L0 4)] s) 9 (x_putSlice k 15) (fun L => [(0, .ref (a 0)), (1, .int (L 1)), (2, .int (L 2)), (3, .int (L 3)), (4, .int (L 4)), (5, .int (L 5)), (6, .int (L 6)), (7, .int (L 7)), (8, .int (L 8))]) 247 (fun L => [])) ∧ (bT p l e (headSpec w_x_putSlice ({ frames := 4, cells := 0, slots := 0, locals := 92 })).room s m #[.ref (a 0), .int (L0 1), .int (L0 2), .int (L0 3), .int (L0 4)] below meth c dC dI cy a A (qI dC dI cy a A below #[.ref (a 0), .int (L0 1), .int (L0 2), .int (L0 3), .int (L0 4)] s) 9 (x_putSlice k 16) (fun L => [(0, .ref (a 0)), (1, .int (L 1)), (2, .int (L 2)), (3, .int (L 3)), (4, .int (L 4)), (5, .int (L 5)), (6, .int (L 6)), (7, .int (L 7)), (8, .int (L 8))]) 250 (fun L => [])) ∧ (bT p l e (headSpec w_x_putSlice ({ frames := 4, cells := 0, slots := 0, locals := 92 })).room s m #[.ref (a 0), .int (L0 1), .int (L0 2), .int (L0 3), .int (L0 4)] below meth c dC dI cy a A (qI dC dI cy a A below #[.ref (a 0), .int (L0 1), .int (L0 2), .int (L0 3), .int (L0 4)] s) 9 (x_putSlice k 17) (fun L => [(0, .ref (a 0)), (1, .int (L 1)), (2, .int (L 2)), (3, .int (L 3)), (4, .int (L 4)), (5, .int (L 5)), (6, .int (L 6)), (7, .int (L 7)), (8, .int (L 8))]) 279 (fun L => [])) ∧ (bT p l e (headSpec w_x_putSlice ({ frames := 4, cells := 0, slots := 0, locals := 92 })).room s m #[.ref (a 0), .int (L0 1), .int (L0 2), .int (L0 3), .int (L0 4)] below meth c dC dI cy a A (qI dC dI cy a A below #[.ref (a 0), .int (L0 1), .int (L0 2), .int (L0 3), .int (L0 4)] s) 9 (x_putSlice k 18) (fun L => [(0, .ref (a 0)), (1, .int (L 1)), (2, .int (L 2)), (3, .int (L 3)), (4, .int (L 4)), (5, .int (L 5)), (6, .int (L 6)), (7, .int (L 7)), (8, .int (L 8))]) 285 (fun L => [])) ∧ (bT p l e (headSpec w_x_putSlice ({ frames := 4, cells := 0, slots := 0, locals := 92 })).room s m #[.ref (a 0), .int (L0 1), .int (L0 2), .int (L0 3), .int (L0 4)] below meth c dC dI cy a A (qI dC dI cy a A below #[.ref (a 0), .int (L0 1), .int (L0 2), .int (L0 3), .int (L0 4)] s) 9 (x_putSlice k 19) (fun L => [(0, .ref (a 0)), (1, .int (L 1)), (2, .int (L 2)), (3, .int (L 3)), (4, .int (L 4)), (5, .int (L 5)), (6, .int (L 6)), (7, .int (L 7)), (8, .int (L 8))]) 313 (fun L => [])) := by
    intro k
    induction k with
    | zero => exact ⟨fun L σ r h => (by cases h), fun L σ r h => (by cases h), fun L σ r h => (by cases h), fun L σ r h => (by cases h), fun L σ r h => (by cases h), fun L σ r h => (by cases h), fun L σ r h => (by cases h), fun L σ r h => (by cases h), fun L σ r h => (by cases h), fun L σ r h => (by cases h), fun L σ r h => (by cases h), fun L σ r h => (by cases h), fun L σ r h => (by cases h), fun L σ r h => (by cases h), fun L σ r h => (by cases h), fun L σ r h => (by cases h), fun L σ r h => (by cases h), fun L σ r h => (by cases h), fun L σ r h => (by cases h), fun L σ r h => (by cases h)⟩
    | succ k ih =>
      refine ⟨?_, ?_, ?_, ?_, ?_, ?_, ?_, ?_, ?_, ?_, ?_, ?_, ?_, ?_, ?_, ?_, ?_, ?_, ?_, ?_⟩
      · intro L σ r h H locs ls hP hD hS hl
        rw [x_putSlice] at h
        refine lv_aload_n hx hb dX12_putSlice_0 rfl (lv_at hl 0 rfl) ?_
        refine lv_iload_n hx hb dX12_putSlice_1 rfl (lv_at hl 1 rfl) ?_
        refine lv_iload_n hx hb dX12_putSlice_2 rfl (lv_at hl 2 rfl) ?_
        refine lv_iload_n hx hb dX12_putSlice_3 rfl (lv_at hl 3 rfl) ?_
        obtain ⟨r1, hc1, h⟩ := ob_ex h
        refine nc_Vi (As := [.int (L 1), .int (L 2), .int (L 3)]) (rest := []) ⟨hx, hb, hml, hown, hts⟩ (c_x_isSlice l dC dI cy a k (upd (upd (upd (fun _ => 0) 1 ((L 1))) 2 ((L 2))) 3 ((L 3))) σ r1 hc1 H.size) (cwV 3 hts g_x_putSlice_isSlice_811 rfl rfl rfl hd_x_isSlice ⟨Nat.le_of_ble_eq_true rfl, Nat.le_of_ble_eq_true rfl⟩) hK hG hA hP hD hS rfl hl.1 rfl (Nat.le_of_ble_eq_true rfl) dX12_putSlice_4 ⟨Nat.le_refl _, Nat.le_refl _⟩ (fun H locs hP hD hS => ?_)
        refine lv_if_ne (tgt := 12) hx hb dX12_putSlice_7 (by decide) (fun c2 => ?_) (fun c2 => ?_)
        · rw [if_neg c2] at h
          exact ih.2.1 L r1.2 r h H locs ls hP hD hS (lv_sub hl [0, 1, 2, 3, 4] rfl)
        · rw [if_pos c2] at h
          refine lv_iconst (v := 0) hx hb dX12_putSlice_10 (by decide) ?_
          cases h
          exact W.iret (v := 0) hx hb hr (fun t ht hW => ⟨⟨0, (), rfl, rfl, by rw [ht]; exact hP, va_K.moved hW.alike hK, hD⟩, hS.F ht⟩) hS.2.2 dX12_putSlice_11
      · intro L σ r h H locs ls hP hD hS hl
        rw [x_putSlice] at h
        refine lv_aload_n hx hb dX12_putSlice_12 rfl (lv_at hl 0 rfl) ?_
        refine lv_iload hx hb dX12_putSlice_13 (lv_at hl 4 rfl) ?_
        obtain ⟨r1, hc1, h⟩ := ob_ex h
        refine nc_Vi (As := [.int (L 4)]) (rest := []) ⟨hx, hb, hml, hown, hts⟩ (c_x_kind l dC dI cy a k (upd (fun _ => 0) 1 ((L 4))) σ r1 hc1 H.size) (cwV 1 hts g_x_putSlice_kind_545 rfl rfl rfl hd_x_kind ⟨Nat.le_of_ble_eq_true rfl, Nat.le_of_ble_eq_true rfl⟩) hK hG hA hP hD hS rfl hl.1 rfl (Nat.le_of_ble_eq_true rfl) dX12_putSlice_15 ⟨Nat.le_refl _, Nat.le_refl _⟩ (fun H locs hP hD hS => ?_)
        refine lv_aload_n hx hb dX12_putSlice_18 rfl (lv_at hl 0 rfl) ?_
        refine lv_iload_n hx hb dX12_putSlice_19 rfl (lv_at hl 1 rfl) ?_
        obtain ⟨r2, hc2, h⟩ := ob_ex h
        refine nc_Vi (As := [.int (L 1)]) (rest := [.int r1.1]) ⟨hx, hb, hml, hown, hts⟩ (c_x_kind l dC dI cy a k (upd (fun _ => 0) 1 ((L 1))) r1.2 r2 hc2 H.size) (cwV 1 hts g_x_putSlice_kind_545 rfl rfl rfl hd_x_kind ⟨Nat.le_of_ble_eq_true rfl, Nat.le_of_ble_eq_true rfl⟩) hK hG hA hP hD hS rfl hl.1 rfl (Nat.le_of_ble_eq_true rfl) dX12_putSlice_20 ⟨Nat.le_refl _, Nat.le_refl _⟩ (fun H locs hP hD hS => ?_)
        refine lv_icmp_eq (tgt := 31) hx hb dX12_putSlice_23 (by decide) (fun c3 => ?_) (fun c3 => ?_)
        · rw [if_pos c3] at h
          exact ih.2.2.1 L r2.2 r h H locs ls hP hD hS (lv_sub hl [0, 1, 2, 3, 4] rfl)
        · rw [if_neg c3] at h
          refine lv_aload_n hx hb dX12_putSlice_26 rfl (lv_at hl 0 rfl) ?_
          obtain ⟨r4, hc4, h⟩ := ob_ex h
          refine nc_Vi (As := []) (rest := []) ⟨hx, hb, hml, hown, hts⟩ (c_x_wrongKind l dC dI cy a k (fun _ => 0) r2.2 r4 hc4 H.size) (cwV 0 hts g_x_putSlice_wrongKind_666 rfl rfl rfl hd_x_wrongKind ⟨Nat.le_of_ble_eq_true rfl, Nat.le_of_ble_eq_true rfl⟩) hK hG hA hP hD hS rfl hl.1 rfl (Nat.le_of_ble_eq_true rfl) dX12_putSlice_27 ⟨Nat.le_refl _, Nat.le_refl _⟩ (fun H locs hP hD hS => ?_)
          cases h
          exact W.iret (v := r4.1) hx hb hr (fun t ht hW => ⟨⟨r4.1, (), rfl, rfl, by rw [ht]; exact hP, va_K.moved hW.alike hK, hD⟩, hS.F ht⟩) hS.2.2 dX12_putSlice_30
      · intro L σ r h H locs ls hP hD hS hl
        rw [x_putSlice] at h
        refine lv_aload_n hx hb dX12_putSlice_31 rfl (lv_at hl 0 rfl) ?_
        refine lv_iload_n hx hb dX12_putSlice_32 rfl (lv_at hl 1 rfl) ?_
        obtain ⟨r1, hc1, h⟩ := ob_ex h
        refine nc_Vi (As := [.int (L 1)]) (rest := []) ⟨hx, hb, hml, hown, hts⟩ (c_x_isSliceIn l dC dI cy a k (upd (fun _ => 0) 1 ((L 1))) σ r1 hc1 H.size) (cwV 1 hts g_x_putSlice_isSliceIn_815 rfl rfl rfl hd_x_isSliceIn ⟨Nat.le_of_ble_eq_true rfl, Nat.le_of_ble_eq_true rfl⟩) hK hG hA hP hD hS rfl hl.1 rfl (Nat.le_of_ble_eq_true rfl) dX12_putSlice_33 ⟨Nat.le_refl _, Nat.le_refl _⟩ (fun H locs hP hD hS => ?_)
        refine lv_if_ne (tgt := 41) hx hb dX12_putSlice_36 (by decide) (fun c2 => ?_) (fun c2 => ?_)
        · rw [if_neg c2] at h
          exact ih.2.2.2.1 L r1.2 r h H locs ls hP hD hS (lv_sub hl [0, 1, 2, 3, 4] rfl)
        · rw [if_pos c2] at h
          refine lv_iconst (v := 0) hx hb dX12_putSlice_39 (by decide) ?_
          cases h
          exact W.iret (v := 0) hx hb hr (fun t ht hW => ⟨⟨0, (), rfl, rfl, by rw [ht]; exact hP, va_K.moved hW.alike hK, hD⟩, hS.F ht⟩) hS.2.2 dX12_putSlice_40
      · intro L σ r h H locs ls hP hD hS hl
        rw [x_putSlice] at h
        refine lv_aload_n hx hb dX12_putSlice_41 rfl (lv_at hl 0 rfl) ?_
        refine ng_53 hx hb hts in_x_putSlice hown hK hP (hts _ (List.mem_cons_of_mem _ (List.mem_append_left _ (List.mem_append_left _ (List.mem_of_getElem? (i := 13) rfl))))) dX12_putSlice_42 ?_
        refine lv_iload_n hx hb dX12_putSlice_45 rfl (lv_at hl 1 rfl) ?_
        refine lv_iconst (v := 1) hx hb dX12_putSlice_46 (by decide) ?_
        refine lv_iadd hx hb dX12_putSlice_47 ?_
        obtain ⟨q1, h⟩ := nb_ite1 h
        refine nl_28 hx hb hK hP q1 dX12_putSlice_48 ?_
        refine lv_istore (lv' := [(5, .int (σ.2.2 28 ((((L 1)) + 1)).toNatClampNeg)), (0, .ref (a 0)), (1, .int (L 1)), (2, .int (L 2)), (3, .int (L 3)), (4, .int (L 4))]) hx hb dX12_putSlice_49 hl (by decide) rfl (fun ls hl => ?_)
        refine lv_aload_n hx hb dX12_putSlice_51 rfl (lv_at hl 1 rfl) ?_
        refine ng_53 hx hb hts in_x_putSlice hown hK hP (hts _ (List.mem_cons_of_mem _ (List.mem_append_left _ (List.mem_append_left _ (List.mem_of_getElem? (i := 13) rfl))))) dX12_putSlice_52 ?_
        refine lv_iload hx hb dX12_putSlice_55 (lv_at hl 5 rfl) ?_
        refine lv_iconst (v := 1) hx hb dX12_putSlice_57 (by decide) ?_
        refine lv_iadd hx hb dX12_putSlice_58 ?_
        obtain ⟨q2, h⟩ := nb_ite1 h
        refine nl_28 hx hb hK hP q2 dX12_putSlice_59 ?_
        refine lv_istore (lv' := [(6, .int (σ.2.2 28 ((((L 4)) + 1)).toNatClampNeg)), (5, .int (σ.2.2 28 ((((L 1)) + 1)).toNatClampNeg)), (0, .ref (a 0)), (1, .int (L 1)), (2, .int (L 2)), (3, .int (L 3)), (4, .int (L 4))]) hx hb dX12_putSlice_60 hl (by decide) rfl (fun ls hl => ?_)
        refine lv_aload_n hx hb dX12_putSlice_62 rfl (lv_at hl 2 rfl) ?_
        refine ng_53 hx hb hts in_x_putSlice hown hK hP (hts _ (List.mem_cons_of_mem _ (List.mem_append_left _ (List.mem_append_left _ (List.mem_of_getElem? (i := 13) rfl))))) dX12_putSlice_63 ?_
        refine lv_iload_n hx hb dX12_putSlice_66 rfl (lv_at hl 3 rfl) ?_
        obtain ⟨q3, h⟩ := nb_ite1 h
        refine nl_28 hx hb hK hP q3 dX12_putSlice_67 ?_
        refine lv_iconst (v := 4) hx hb dX12_putSlice_68 (by decide) ?_
        refine lv_icmp_ne (tgt := 206) hx hb dX12_putSlice_69 (by decide) (fun c4 => ?_) (fun c4 => ?_)
        · rw [if_neg c4] at h
          exact ih.2.2.2.2.2.2.2.2.2.2.2.2.2.1 (upd (upd L 5 ((σ.2.2 28 ((((L 1)) + 1)).toNatClampNeg))) 6 ((σ.2.2 28 ((((L 4)) + 1)).toNatClampNeg))) σ r h H locs ls hP hD hS (lv_sub hl [2, 3, 4, 5, 6, 1, 0] rfl)
        · rw [if_pos c4] at h
          refine lv_iconst (v := 0) hx hb dX12_putSlice_72 (by decide) ?_
          refine lv_istore (lv' := [(7, .int 0), (6, .int (σ.2.2 28 ((((L 4)) + 1)).toNatClampNeg)), (5, .int (σ.2.2 28 ((((L 1)) + 1)).toNatClampNeg)), (0, .ref (a 0)), (1, .int (L 1)), (2, .int (L 2)), (3, .int (L 3)), (4, .int (L 4))]) hx hb dX12_putSlice_73 hl (by decide) rfl (fun ls hl => ?_)
          refine lv_iconst (v := 0) hx hb dX12_putSlice_75 (by decide) ?_
          refine lv_istore (lv' := [(8, .int 0), (7, .int 0), (6, .int (σ.2.2 28 ((((L 4)) + 1)).toNatClampNeg)), (5, .int (σ.2.2 28 ((((L 1)) + 1)).toNatClampNeg)), (0, .ref (a 0)), (1, .int (L 1)), (2, .int (L 2)), (3, .int (L 3)), (4, .int (L 4))]) hx hb dX12_putSlice_76 hl (by decide) rfl (fun ls hl => ?_)
          exact ih.2.2.2.2.1 (upd (upd (upd (upd L 5 ((σ.2.2 28 ((((L 1)) + 1)).toNatClampNeg))) 6 ((σ.2.2 28 ((((L 4)) + 1)).toNatClampNeg))) 7 0) 8 0) σ r h H locs ls hP hD hS (lv_sub hl [4, 5, 6, 7, 8, 3, 2, 1, 0] rfl)
      · intro L σ r h H locs ls hP hD hS hl
        rw [x_putSlice] at h
        refine lv_iload hx hb dX12_putSlice_78 (lv_at hl 8 rfl) ?_
        refine lv_aload_n hx hb dX12_putSlice_80 rfl (lv_at hl 0 rfl) ?_
        refine ng_100 hx hb hts in_x_putSlice hown hK hP (hts _ (List.mem_cons_of_mem _ (List.mem_append_left _ (List.mem_append_left _ (List.mem_of_getElem? (i := 14) rfl))))) dX12_putSlice_81 ?_
        refine lv_iconst (v := 1) hx hb dX12_putSlice_84 (by decide) ?_
        refine lv_isub hx hb dX12_putSlice_85 ?_
        refine lv_icmp_ge (tgt := 116) hx hb dX12_putSlice_86 (by decide) (fun c1 => ?_) (fun c1 => ?_)
        · rw [if_pos c1] at h
          exact ih.2.2.2.2.2.2.1 L σ r h H locs ls hP hD hS (lv_sub hl [0, 1, 2, 3, 4, 5, 6, 7, 8] rfl)
        · rw [if_neg c1] at h
          refine lv_aload_n hx hb dX12_putSlice_89 rfl (lv_at hl 0 rfl) ?_
          refine ng_99 hx hb hts in_x_putSlice hown hK hP (hts _ (List.mem_cons_of_mem _ (List.mem_append_left _ (List.mem_append_left _ (List.mem_of_getElem? (i := 15) rfl))))) dX12_putSlice_90 ?_
          refine lv_iload hx hb dX12_putSlice_93 (lv_at hl 7 rfl) ?_
          refine lv_aload_n hx hb dX12_putSlice_95 rfl (lv_at hl 0 rfl) ?_
          refine ng_53 hx hb hts in_x_putSlice hown hK hP (hts _ (List.mem_cons_of_mem _ (List.mem_append_left _ (List.mem_append_left _ (List.mem_of_getElem? (i := 13) rfl))))) dX12_putSlice_96 ?_
          refine lv_iload_n hx hb dX12_putSlice_99 rfl (lv_at hl 1 rfl) ?_
          refine lv_iconst (v := 4) hx hb dX12_putSlice_100 (by decide) ?_
          refine lv_iadd hx hb dX12_putSlice_101 ?_
          refine lv_iload hx hb dX12_putSlice_102 (lv_at hl 8 rfl) ?_
          refine lv_iadd hx hb dX12_putSlice_104 ?_
          obtain ⟨q2, h⟩ := nb_ite1 h
          refine nl_28 hx hb hK hP q2 dX12_putSlice_105 ?_
          obtain ⟨q3, h⟩ := nb_ite1 h
          refine ns_51 hx hb hK hP hD hS q3 dX12_putSlice_106 (fun H locs hP hD hS => ?_)
          exact ih.2.2.2.2.2.1 L (σ.1, σ.2.1, updG σ.2.2 51 (upd (σ.2.2 51) ((L 7)).toNatClampNeg ((σ.2.2 28 ((((((L 1)) + 4)) + ((L 8)))).toNatClampNeg)))) r h H locs ls hP hD hS (lv_sub hl [0, 1, 2, 3, 4, 5, 6, 7, 8] rfl)
      · intro L σ r h H locs ls hP hD hS hl
        rw [x_putSlice] at h
        refine lv_iinc (v := ((L 7)) + 1) (lv' := [(7, .int (((L 7)) + 1)), (0, .ref (a 0)), (1, .int (L 1)), (2, .int (L 2)), (3, .int (L 3)), (4, .int (L 4)), (5, .int (L 5)), (6, .int (L 6)), (8, .int (L 8))]) hx hb dX12_putSlice_107 hl (k := 7) rfl rfl (by decide) rfl (fun ls hl => ?_)
        refine lv_iinc (v := ((L 8)) + 1) (lv' := [(8, .int (((L 8)) + 1)), (7, .int (((L 7)) + 1)), (0, .ref (a 0)), (1, .int (L 1)), (2, .int (L 2)), (3, .int (L 3)), (4, .int (L 4)), (5, .int (L 5)), (6, .int (L 6))]) hx hb dX12_putSlice_110 hl (k := 8) rfl rfl (by decide) rfl (fun ls hl => ?_)
        refine lv_goto (tgt := 78) hx hb dX12_putSlice_113 (by decide) ?_
        exact ih.2.2.2.2.1 (upd (upd L 7 (((L 7)) + 1)) 8 (((L 8)) + 1)) σ r h H locs ls hP hD hS (lv_sub hl [2, 3, 4, 5, 6, 7, 8, 1, 0] rfl)
      · intro L σ r h H locs ls hP hD hS hl
        rw [x_putSlice] at h
        refine lv_iconst (v := 0) hx hb dX12_putSlice_116 (by decide) ?_
        refine lv_istore (lv' := [(8, .int 0), (0, .ref (a 0)), (1, .int (L 1)), (2, .int (L 2)), (3, .int (L 3)), (4, .int (L 4)), (5, .int (L 5)), (6, .int (L 6)), (7, .int (L 7))]) hx hb dX12_putSlice_117 hl (by decide) rfl (fun ls hl => ?_)
        exact ih.2.2.2.2.2.2.2.1 (upd L 8 0) σ r h H locs ls hP hD hS (lv_sub hl [1, 2, 3, 4, 5, 6, 7, 8, 0] rfl)
      · intro L σ r h H locs ls hP hD hS hl
        rw [x_putSlice] at h
        refine lv_iload hx hb dX12_putSlice_119 (lv_at hl 8 rfl) ?_
        refine lv_iload hx hb dX12_putSlice_121 (lv_at hl 6 rfl) ?_
        refine lv_icmp_ge (tgt := 154) hx hb dX12_putSlice_123 (by decide) (fun c1 => ?_) (fun c1 => ?_)
        · rw [if_pos c1] at h
          exact ih.2.2.2.2.2.2.2.2.2.1 L σ r h H locs ls hP hD hS (lv_sub hl [0, 1, 2, 3, 4, 5, 6, 7, 8] rfl)
        · rw [if_neg c1] at h
          refine lv_aload_n hx hb dX12_putSlice_126 rfl (lv_at hl 0 rfl) ?_
          refine ng_99 hx hb hts in_x_putSlice hown hK hP (hts _ (List.mem_cons_of_mem _ (List.mem_append_left _ (List.mem_append_left _ (List.mem_of_getElem? (i := 15) rfl))))) dX12_putSlice_127 ?_
          refine lv_iload hx hb dX12_putSlice_130 (lv_at hl 7 rfl) ?_
          refine lv_aload_n hx hb dX12_putSlice_132 rfl (lv_at hl 0 rfl) ?_
          refine ng_53 hx hb hts in_x_putSlice hown hK hP (hts _ (List.mem_cons_of_mem _ (List.mem_append_left _ (List.mem_append_left _ (List.mem_of_getElem? (i := 13) rfl))))) dX12_putSlice_133 ?_
          refine lv_iload hx hb dX12_putSlice_136 (lv_at hl 4 rfl) ?_
          refine lv_iconst (v := 4) hx hb dX12_putSlice_138 (by decide) ?_
          refine lv_iadd hx hb dX12_putSlice_139 ?_
          refine lv_iload hx hb dX12_putSlice_140 (lv_at hl 8 rfl) ?_
          refine lv_iadd hx hb dX12_putSlice_142 ?_
          obtain ⟨q2, h⟩ := nb_ite1 h
          refine nl_28 hx hb hK hP q2 dX12_putSlice_143 ?_
          obtain ⟨q3, h⟩ := nb_ite1 h
          refine ns_51 hx hb hK hP hD hS q3 dX12_putSlice_144 (fun H locs hP hD hS => ?_)
          exact ih.2.2.2.2.2.2.2.2.1 L (σ.1, σ.2.1, updG σ.2.2 51 (upd (σ.2.2 51) ((L 7)).toNatClampNeg ((σ.2.2 28 ((((((L 4)) + 4)) + ((L 8)))).toNatClampNeg)))) r h H locs ls hP hD hS (lv_sub hl [0, 1, 2, 3, 4, 5, 6, 7, 8] rfl)
      · intro L σ r h H locs ls hP hD hS hl
        rw [x_putSlice] at h
        refine lv_iinc (v := ((L 7)) + 1) (lv' := [(7, .int (((L 7)) + 1)), (0, .ref (a 0)), (1, .int (L 1)), (2, .int (L 2)), (3, .int (L 3)), (4, .int (L 4)), (5, .int (L 5)), (6, .int (L 6)), (8, .int (L 8))]) hx hb dX12_putSlice_145 hl (k := 7) rfl rfl (by decide) rfl (fun ls hl => ?_)
        refine lv_iinc (v := ((L 8)) + 1) (lv' := [(8, .int (((L 8)) + 1)), (7, .int (((L 7)) + 1)), (0, .ref (a 0)), (1, .int (L 1)), (2, .int (L 2)), (3, .int (L 3)), (4, .int (L 4)), (5, .int (L 5)), (6, .int (L 6))]) hx hb dX12_putSlice_148 hl (k := 8) rfl rfl (by decide) rfl (fun ls hl => ?_)
        refine lv_goto (tgt := 119) hx hb dX12_putSlice_151 (by decide) ?_
        exact ih.2.2.2.2.2.2.2.1 (upd (upd L 7 (((L 7)) + 1)) 8 (((L 8)) + 1)) σ r h H locs ls hP hD hS (lv_sub hl [2, 3, 4, 5, 6, 7, 8, 1, 0] rfl)
      · intro L σ r h H locs ls hP hD hS hl
        rw [x_putSlice] at h
        refine lv_aload_n hx hb dX12_putSlice_154 rfl (lv_at hl 0 rfl) ?_
        refine ng_101 hx hb hts in_x_putSlice hown hK hP (hts _ (List.mem_cons_of_mem _ (List.mem_append_left _ (List.mem_append_left _ (List.mem_of_getElem? (i := 16) rfl))))) dX12_putSlice_155 ?_
        refine lv_istore (lv' := [(8, .int (σ.1 101)), (0, .ref (a 0)), (1, .int (L 1)), (2, .int (L 2)), (3, .int (L 3)), (4, .int (L 4)), (5, .int (L 5)), (6, .int (L 6)), (7, .int (L 7))]) hx hb dX12_putSlice_158 hl (by decide) rfl (fun ls hl => ?_)
        exact ih.2.2.2.2.2.2.2.2.2.2.1 (upd L 8 ((σ.1 101))) σ r h H locs ls hP hD hS (lv_sub hl [1, 2, 3, 4, 5, 6, 7, 8, 0] rfl)
      · intro L σ r h H locs ls hP hD hS hl
        rw [x_putSlice] at h
        refine lv_iload hx hb dX12_putSlice_160 (lv_at hl 8 rfl) ?_
        refine lv_iload hx hb dX12_putSlice_162 (lv_at hl 5 rfl) ?_
        refine lv_icmp_ge (tgt := 194) hx hb dX12_putSlice_164 (by decide) (fun c1 => ?_) (fun c1 => ?_)
        · rw [if_pos c1] at h
          exact ih.2.2.2.2.2.2.2.2.2.2.2.2.1 L σ r h H locs ls hP hD hS (lv_sub hl [0, 1, 2, 3, 4, 5, 6, 7, 8] rfl)
        · rw [if_neg c1] at h
          refine lv_aload_n hx hb dX12_putSlice_167 rfl (lv_at hl 0 rfl) ?_
          refine ng_99 hx hb hts in_x_putSlice hown hK hP (hts _ (List.mem_cons_of_mem _ (List.mem_append_left _ (List.mem_append_left _ (List.mem_of_getElem? (i := 15) rfl))))) dX12_putSlice_168 ?_
          refine lv_iload hx hb dX12_putSlice_171 (lv_at hl 7 rfl) ?_
          refine lv_aload_n hx hb dX12_putSlice_173 rfl (lv_at hl 0 rfl) ?_
          refine ng_53 hx hb hts in_x_putSlice hown hK hP (hts _ (List.mem_cons_of_mem _ (List.mem_append_left _ (List.mem_append_left _ (List.mem_of_getElem? (i := 13) rfl))))) dX12_putSlice_174 ?_
          refine lv_iload_n hx hb dX12_putSlice_177 rfl (lv_at hl 1 rfl) ?_
          refine lv_iconst (v := 4) hx hb dX12_putSlice_178 (by decide) ?_
          refine lv_iadd hx hb dX12_putSlice_179 ?_
          refine lv_iload hx hb dX12_putSlice_180 (lv_at hl 8 rfl) ?_
          refine lv_iadd hx hb dX12_putSlice_182 ?_
          obtain ⟨q2, h⟩ := nb_ite1 h
          refine nl_28 hx hb hK hP q2 dX12_putSlice_183 ?_
          obtain ⟨q3, h⟩ := nb_ite1 h
          refine ns_51 hx hb hK hP hD hS q3 dX12_putSlice_184 (fun H locs hP hD hS => ?_)
          exact ih.2.2.2.2.2.2.2.2.2.2.2.1 L (σ.1, σ.2.1, updG σ.2.2 51 (upd (σ.2.2 51) ((L 7)).toNatClampNeg ((σ.2.2 28 ((((((L 1)) + 4)) + ((L 8)))).toNatClampNeg)))) r h H locs ls hP hD hS (lv_sub hl [0, 1, 2, 3, 4, 5, 6, 7, 8] rfl)
      · intro L σ r h H locs ls hP hD hS hl
        rw [x_putSlice] at h
        refine lv_iinc (v := ((L 7)) + 1) (lv' := [(7, .int (((L 7)) + 1)), (0, .ref (a 0)), (1, .int (L 1)), (2, .int (L 2)), (3, .int (L 3)), (4, .int (L 4)), (5, .int (L 5)), (6, .int (L 6)), (8, .int (L 8))]) hx hb dX12_putSlice_185 hl (k := 7) rfl rfl (by decide) rfl (fun ls hl => ?_)
        refine lv_iinc (v := ((L 8)) + 1) (lv' := [(8, .int (((L 8)) + 1)), (7, .int (((L 7)) + 1)), (0, .ref (a 0)), (1, .int (L 1)), (2, .int (L 2)), (3, .int (L 3)), (4, .int (L 4)), (5, .int (L 5)), (6, .int (L 6))]) hx hb dX12_putSlice_188 hl (k := 8) rfl rfl (by decide) rfl (fun ls hl => ?_)
        refine lv_goto (tgt := 160) hx hb dX12_putSlice_191 (by decide) ?_
        exact ih.2.2.2.2.2.2.2.2.2.2.1 (upd (upd L 7 (((L 7)) + 1)) 8 (((L 8)) + 1)) σ r h H locs ls hP hD hS (lv_sub hl [2, 3, 4, 5, 6, 7, 8, 1, 0] rfl)
      · intro L σ r h H locs ls hP hD hS hl
        rw [x_putSlice] at h
        refine lv_aload_n hx hb dX12_putSlice_194 rfl (lv_at hl 0 rfl) ?_
        refine lv_aload_n hx hb dX12_putSlice_195 rfl (lv_at hl 0 rfl) ?_
        refine ng_99 hx hb hts in_x_putSlice hown hK hP (hts _ (List.mem_cons_of_mem _ (List.mem_append_left _ (List.mem_append_left _ (List.mem_of_getElem? (i := 15) rfl))))) dX12_putSlice_196 ?_
        refine lv_iconst (v := 0) hx hb dX12_putSlice_199 (by decide) ?_
        refine lv_iload hx hb dX12_putSlice_200 (lv_at hl 7 rfl) ?_
        obtain ⟨r1, hc1, h⟩ := ob_ex h
        refine nc_Vi (As := [.ref (a 51), .int 0, .int (L 7)]) (rest := []) ⟨hx, hb, hml, hown, hts⟩ (c_x_stringOf__51 l dC dI cy a k (upd (upd (fun _ => 0) 2 0) 3 ((L 7))) σ r1 hc1 H.size) (cwV 3 hts g_x_putSlice_stringOf__51_597 rfl rfl rfl hd_x_stringOf__51 ⟨Nat.le_of_ble_eq_true rfl, Nat.le_of_ble_eq_true rfl⟩) hK hG hA hP hD hS rfl hl.1 rfl (Nat.le_of_ble_eq_true rfl) dX12_putSlice_202 ⟨Nat.le_refl _, Nat.le_refl _⟩ (fun H locs hP hD hS => ?_)
        cases h
        exact W.iret (v := r1.1) hx hb hr (fun t ht hW => ⟨⟨r1.1, (), rfl, rfl, by rw [ht]; exact hP, va_K.moved hW.alike hK, hD⟩, hS.F ht⟩) hS.2.2 dX12_putSlice_205
      · intro L σ r h H locs ls hP hD hS hl
        rw [x_putSlice] at h
        refine lv_aload_n hx hb dX12_putSlice_206 rfl (lv_at hl 0 rfl) ?_
        refine ng_59 hx hb hts in_x_putSlice hown hK hP (hts _ (List.mem_cons_of_mem _ (List.mem_append_left _ (List.mem_append_left _ (List.mem_of_getElem? (i := 20) rfl))))) dX12_putSlice_207 ?_
        refine lv_istore (lv' := [(7, .int (σ.1 59)), (0, .ref (a 0)), (1, .int (L 1)), (2, .int (L 2)), (3, .int (L 3)), (4, .int (L 4)), (5, .int (L 5)), (6, .int (L 6))]) hx hb dX12_putSlice_210 hl (by decide) rfl (fun ls hl => ?_)
        refine lv_iconst (v := 0) hx hb dX12_putSlice_212 (by decide) ?_
        refine lv_istore (lv' := [(8, .int 0), (7, .int (σ.1 59)), (0, .ref (a 0)), (1, .int (L 1)), (2, .int (L 2)), (3, .int (L 3)), (4, .int (L 4)), (5, .int (L 5)), (6, .int (L 6))]) hx hb dX12_putSlice_213 hl (by decide) rfl (fun ls hl => ?_)
        exact ih.2.2.2.2.2.2.2.2.2.2.2.2.2.2.1 (upd (upd L 7 ((σ.1 59))) 8 0) σ r h H locs ls hP hD hS (lv_sub hl [2, 3, 4, 5, 6, 7, 8, 1, 0] rfl)
      · intro L σ r h H locs ls hP hD hS hl
        rw [x_putSlice] at h
        refine lv_iload hx hb dX12_putSlice_215 (lv_at hl 8 rfl) ?_
        refine lv_aload_n hx hb dX12_putSlice_217 rfl (lv_at hl 0 rfl) ?_
        refine ng_100 hx hb hts in_x_putSlice hown hK hP (hts _ (List.mem_cons_of_mem _ (List.mem_append_left _ (List.mem_append_left _ (List.mem_of_getElem? (i := 14) rfl))))) dX12_putSlice_218 ?_
        refine lv_iconst (v := 1) hx hb dX12_putSlice_221 (by decide) ?_
        refine lv_isub hx hb dX12_putSlice_222 ?_
        refine lv_icmp_ge (tgt := 247) hx hb dX12_putSlice_223 (by decide) (fun c1 => ?_) (fun c1 => ?_)
        · rw [if_pos c1] at h
          exact ih.2.2.2.2.2.2.2.2.2.2.2.2.2.2.2.1 L σ r h H locs ls hP hD hS (lv_sub hl [0, 1, 2, 3, 4, 5, 6, 7, 8] rfl)
        · rw [if_neg c1] at h
          refine lv_aload_n hx hb dX12_putSlice_226 rfl (lv_at hl 0 rfl) ?_
          refine lv_aload_n hx hb dX12_putSlice_227 rfl (lv_at hl 0 rfl) ?_
          refine ng_53 hx hb hts in_x_putSlice hown hK hP (hts _ (List.mem_cons_of_mem _ (List.mem_append_left _ (List.mem_append_left _ (List.mem_of_getElem? (i := 13) rfl))))) dX12_putSlice_228 ?_
          refine lv_iload_n hx hb dX12_putSlice_231 rfl (lv_at hl 1 rfl) ?_
          refine lv_iconst (v := 4) hx hb dX12_putSlice_232 (by decide) ?_
          refine lv_iadd hx hb dX12_putSlice_233 ?_
          refine lv_iload hx hb dX12_putSlice_234 (lv_at hl 8 rfl) ?_
          refine lv_iadd hx hb dX12_putSlice_236 ?_
          obtain ⟨q2, h⟩ := nb_ite1 h
          refine nl_28 hx hb hK hP q2 dX12_putSlice_237 ?_
          obtain ⟨r3, hc3, h⟩ := ob_ex h
          refine nc_Vv (As := [.int (σ.2.2 28 ((((((L 1)) + 4)) + ((L 8)))).toNatClampNeg)]) (rest := []) ⟨hx, hb, hml, hown, hts⟩ (c_x_push l dC dI cy a k (upd (fun _ => 0) 1 ((σ.2.2 28 ((((((L 1)) + 4)) + ((L 8)))).toNatClampNeg))) σ r3 hc3 H.size) (cwV 1 hts g_x_putSlice_push_594 rfl rfl rfl hd_x_push ⟨Nat.le_of_ble_eq_true rfl, Nat.le_of_ble_eq_true rfl⟩) hK hG hA hP hD hS rfl hl.1 rfl (Nat.le_of_ble_eq_true rfl) dX12_putSlice_238 ⟨Nat.le_refl _, Nat.le_refl _⟩ (fun H locs hP hD hS => ?_)
          refine lv_iinc (v := ((L 8)) + 1) (lv' := [(8, .int (((L 8)) + 1)), (0, .ref (a 0)), (1, .int (L 1)), (2, .int (L 2)), (3, .int (L 3)), (4, .int (L 4)), (5, .int (L 5)), (6, .int (L 6)), (7, .int (L 7))]) hx hb dX12_putSlice_241 hl (k := 8) rfl rfl (by decide) rfl (fun ls hl => ?_)
          refine lv_goto (tgt := 215) hx hb dX12_putSlice_244 (by decide) ?_
          exact ih.2.2.2.2.2.2.2.2.2.2.2.2.2.2.1 (upd L 8 (((L 8)) + 1)) r3.2 r h H locs ls hP hD hS (lv_sub hl [1, 2, 3, 4, 5, 6, 7, 8, 0] rfl)
      · intro L σ r h H locs ls hP hD hS hl
        rw [x_putSlice] at h
        refine lv_iconst (v := 0) hx hb dX12_putSlice_247 (by decide) ?_
        refine lv_istore (lv' := [(8, .int 0), (0, .ref (a 0)), (1, .int (L 1)), (2, .int (L 2)), (3, .int (L 3)), (4, .int (L 4)), (5, .int (L 5)), (6, .int (L 6)), (7, .int (L 7))]) hx hb dX12_putSlice_248 hl (by decide) rfl (fun ls hl => ?_)
        exact ih.2.2.2.2.2.2.2.2.2.2.2.2.2.2.2.2.1 (upd L 8 0) σ r h H locs ls hP hD hS (lv_sub hl [1, 2, 3, 4, 5, 6, 7, 8, 0] rfl)
      · intro L σ r h H locs ls hP hD hS hl
        rw [x_putSlice] at h
        refine lv_iload hx hb dX12_putSlice_250 (lv_at hl 8 rfl) ?_
        refine lv_iload hx hb dX12_putSlice_252 (lv_at hl 6 rfl) ?_
        refine lv_icmp_ge (tgt := 279) hx hb dX12_putSlice_254 (by decide) (fun c1 => ?_) (fun c1 => ?_)
        · rw [if_pos c1] at h
          exact ih.2.2.2.2.2.2.2.2.2.2.2.2.2.2.2.2.2.1 L σ r h H locs ls hP hD hS (lv_sub hl [0, 1, 2, 3, 4, 5, 6, 7, 8] rfl)
        · rw [if_neg c1] at h
          refine lv_aload_n hx hb dX12_putSlice_257 rfl (lv_at hl 0 rfl) ?_
          refine lv_aload_n hx hb dX12_putSlice_258 rfl (lv_at hl 0 rfl) ?_
          refine ng_53 hx hb hts in_x_putSlice hown hK hP (hts _ (List.mem_cons_of_mem _ (List.mem_append_left _ (List.mem_append_left _ (List.mem_of_getElem? (i := 13) rfl))))) dX12_putSlice_259 ?_
          refine lv_iload hx hb dX12_putSlice_262 (lv_at hl 4 rfl) ?_
          refine lv_iconst (v := 4) hx hb dX12_putSlice_264 (by decide) ?_
          refine lv_iadd hx hb dX12_putSlice_265 ?_
          refine lv_iload hx hb dX12_putSlice_266 (lv_at hl 8 rfl) ?_
          refine lv_iadd hx hb dX12_putSlice_268 ?_
          obtain ⟨q2, h⟩ := nb_ite1 h
          refine nl_28 hx hb hK hP q2 dX12_putSlice_269 ?_
          obtain ⟨r3, hc3, h⟩ := ob_ex h
          refine nc_Vv (As := [.int (σ.2.2 28 ((((((L 4)) + 4)) + ((L 8)))).toNatClampNeg)]) (rest := []) ⟨hx, hb, hml, hown, hts⟩ (c_x_push l dC dI cy a k (upd (fun _ => 0) 1 ((σ.2.2 28 ((((((L 4)) + 4)) + ((L 8)))).toNatClampNeg))) σ r3 hc3 H.size) (cwV 1 hts g_x_putSlice_push_594 rfl rfl rfl hd_x_push ⟨Nat.le_of_ble_eq_true rfl, Nat.le_of_ble_eq_true rfl⟩) hK hG hA hP hD hS rfl hl.1 rfl (Nat.le_of_ble_eq_true rfl) dX12_putSlice_270 ⟨Nat.le_refl _, Nat.le_refl _⟩ (fun H locs hP hD hS => ?_)
          refine lv_iinc (v := ((L 8)) + 1) (lv' := [(8, .int (((L 8)) + 1)), (0, .ref (a 0)), (1, .int (L 1)), (2, .int (L 2)), (3, .int (L 3)), (4, .int (L 4)), (5, .int (L 5)), (6, .int (L 6)), (7, .int (L 7))]) hx hb dX12_putSlice_273 hl (k := 8) rfl rfl (by decide) rfl (fun ls hl => ?_)
          refine lv_goto (tgt := 250) hx hb dX12_putSlice_276 (by decide) ?_
          exact ih.2.2.2.2.2.2.2.2.2.2.2.2.2.2.2.2.1 (upd L 8 (((L 8)) + 1)) r3.2 r h H locs ls hP hD hS (lv_sub hl [1, 2, 3, 4, 5, 6, 7, 8, 0] rfl)
      · intro L σ r h H locs ls hP hD hS hl
        rw [x_putSlice] at h
        refine lv_aload_n hx hb dX12_putSlice_279 rfl (lv_at hl 0 rfl) ?_
        refine ng_101 hx hb hts in_x_putSlice hown hK hP (hts _ (List.mem_cons_of_mem _ (List.mem_append_left _ (List.mem_append_left _ (List.mem_of_getElem? (i := 16) rfl))))) dX12_putSlice_280 ?_
        refine lv_istore (lv' := [(8, .int (σ.1 101)), (0, .ref (a 0)), (1, .int (L 1)), (2, .int (L 2)), (3, .int (L 3)), (4, .int (L 4)), (5, .int (L 5)), (6, .int (L 6)), (7, .int (L 7))]) hx hb dX12_putSlice_283 hl (by decide) rfl (fun ls hl => ?_)
        exact ih.2.2.2.2.2.2.2.2.2.2.2.2.2.2.2.2.2.2.1 (upd L 8 ((σ.1 101))) σ r h H locs ls hP hD hS (lv_sub hl [1, 2, 3, 4, 5, 6, 7, 8, 0] rfl)
      · intro L σ r h H locs ls hP hD hS hl
        rw [x_putSlice] at h
        refine lv_iload hx hb dX12_putSlice_285 (lv_at hl 8 rfl) ?_
        refine lv_iload hx hb dX12_putSlice_287 (lv_at hl 5 rfl) ?_
        refine lv_icmp_ge (tgt := 313) hx hb dX12_putSlice_289 (by decide) (fun c1 => ?_) (fun c1 => ?_)
        · rw [if_pos c1] at h
          exact ih.2.2.2.2.2.2.2.2.2.2.2.2.2.2.2.2.2.2.2 L σ r h H locs ls hP hD hS (lv_sub hl [0, 1, 2, 3, 4, 5, 6, 7, 8] rfl)
        · rw [if_neg c1] at h
          refine lv_aload_n hx hb dX12_putSlice_292 rfl (lv_at hl 0 rfl) ?_
          refine lv_aload_n hx hb dX12_putSlice_293 rfl (lv_at hl 0 rfl) ?_
          refine ng_53 hx hb hts in_x_putSlice hown hK hP (hts _ (List.mem_cons_of_mem _ (List.mem_append_left _ (List.mem_append_left _ (List.mem_of_getElem? (i := 13) rfl))))) dX12_putSlice_294 ?_
          refine lv_iload_n hx hb dX12_putSlice_297 rfl (lv_at hl 1 rfl) ?_
          refine lv_iconst (v := 4) hx hb dX12_putSlice_298 (by decide) ?_
          refine lv_iadd hx hb dX12_putSlice_299 ?_
          refine lv_iload hx hb dX12_putSlice_300 (lv_at hl 8 rfl) ?_
          refine lv_iadd hx hb dX12_putSlice_302 ?_
          obtain ⟨q2, h⟩ := nb_ite1 h
          refine nl_28 hx hb hK hP q2 dX12_putSlice_303 ?_
          obtain ⟨r3, hc3, h⟩ := ob_ex h
          refine nc_Vv (As := [.int (σ.2.2 28 ((((((L 1)) + 4)) + ((L 8)))).toNatClampNeg)]) (rest := []) ⟨hx, hb, hml, hown, hts⟩ (c_x_push l dC dI cy a k (upd (fun _ => 0) 1 ((σ.2.2 28 ((((((L 1)) + 4)) + ((L 8)))).toNatClampNeg))) σ r3 hc3 H.size) (cwV 1 hts g_x_putSlice_push_594 rfl rfl rfl hd_x_push ⟨Nat.le_of_ble_eq_true rfl, Nat.le_of_ble_eq_true rfl⟩) hK hG hA hP hD hS rfl hl.1 rfl (Nat.le_of_ble_eq_true rfl) dX12_putSlice_304 ⟨Nat.le_refl _, Nat.le_refl _⟩ (fun H locs hP hD hS => ?_)
          refine lv_iinc (v := ((L 8)) + 1) (lv' := [(8, .int (((L 8)) + 1)), (0, .ref (a 0)), (1, .int (L 1)), (2, .int (L 2)), (3, .int (L 3)), (4, .int (L 4)), (5, .int (L 5)), (6, .int (L 6)), (7, .int (L 7))]) hx hb dX12_putSlice_307 hl (k := 8) rfl rfl (by decide) rfl (fun ls hl => ?_)
          refine lv_goto (tgt := 285) hx hb dX12_putSlice_310 (by decide) ?_
          exact ih.2.2.2.2.2.2.2.2.2.2.2.2.2.2.2.2.2.2.1 (upd L 8 (((L 8)) + 1)) r3.2 r h H locs ls hP hD hS (lv_sub hl [1, 2, 3, 4, 5, 6, 7, 8, 0] rfl)
      · intro L σ r h H locs ls hP hD hS hl
        rw [x_putSlice] at h
        refine lv_aload_n hx hb dX12_putSlice_313 rfl (lv_at hl 0 rfl) ?_
        refine lv_iload hx hb dX12_putSlice_314 (lv_at hl 7 rfl) ?_
        obtain ⟨r1, hc1, h⟩ := ob_ex h
        refine nc_Vi (As := [.int (L 7)]) (rest := []) ⟨hx, hb, hml, hown, hts⟩ (c_x_tupleOf l dC dI cy a k (upd (fun _ => 0) 1 ((L 7))) σ r1 hc1 H.size) (cwV 1 hts g_x_putSlice_tupleOf_675 rfl rfl rfl hd_x_tupleOf ⟨Nat.le_of_ble_eq_true rfl, Nat.le_of_ble_eq_true rfl⟩) hK hG hA hP hD hS rfl hl.1 rfl (Nat.le_of_ble_eq_true rfl) dX12_putSlice_316 ⟨Nat.le_refl _, Nat.le_refl _⟩ (fun H locs hP hD hS => ?_)
        cases h
        exact W.iret (v := r1.1) hx hb hr (fun t ht hW => ⟨⟨r1.1, (), rfl, rfl, by rw [ht]; exact hP, va_K.moved hW.alike hK, hD⟩, hS.F ht⟩) hS.2.2 dX12_putSlice_319
  exact (blk k0).1 L0 σ0 r0 h0 s.heap [] ls hP hD hS hl

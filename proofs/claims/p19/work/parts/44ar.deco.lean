/-! stepIter -/
def x_stepIter : Nat → Nat → (Nat → Int32) → MS → Option (Int32 × MS)
  | 0, _, _, _ => none
  | k + 1, 0, L, σ => if ¬ (((((σ.1 72)) - 1)) < 0 ∨ 4000 ≤ ((((σ.1 72)) - 1)).toNatClampNeg) then (if ¬ (((((σ.1 72)) - 1)) < 0 ∨ 4000 ≤ ((((σ.1 72)) - 1)).toNatClampNeg) then (if ¬ (((((σ.2.2 34 ((((σ.1 72)) - 1)).toNatClampNeg)) + 1)) < 0 ∨ 1740000 ≤ ((((σ.2.2 34 ((((σ.1 72)) - 1)).toNatClampNeg)) + 1)).toNatClampNeg) then (if ((σ.2.2 35 ((((σ.1 72)) - 1)).toNatClampNeg)) = ((σ.2.2 28 ((((σ.2.2 34 ((((σ.1 72)) - 1)).toNatClampNeg)) + 1)).toNatClampNeg)) then (some (0, σ)) else (x_stepIter k 1 (upd (upd L 2 ((σ.2.2 34 ((((σ.1 72)) - 1)).toNatClampNeg))) 3 ((σ.2.2 35 ((((σ.1 72)) - 1)).toNatClampNeg))) σ)) else none) else none) else none
  | k + 1, 1, L, σ => if ¬ (((((σ.1 72)) - 1)) < 0 ∨ 4000 ≤ ((((σ.1 72)) - 1)).toNatClampNeg) then (x_stepIter k 2 L (σ.1, σ.2.1, updG σ.2.2 35 (upd (σ.2.2 35) ((((σ.1 72)) - 1)).toNatClampNeg ((((L 3)) + 1))))) else none
  | k + 1, 2, L, σ => ob (x_worked k 0 (upd (fun _ => 0) 1 1) σ) (fun r1 => if ((r1.2.1 56)) = 0 then (ob (x_memberAt k 0 (upd (upd (fun _ => 0) 1 ((L 2))) 2 ((L 3))) r1.2) (fun r3 => ob (x_bind k 0 (upd (upd (fun _ => 0) 1 ((L 1))) 2 r3.1) r3.2) (fun r4 => x_stepIter k 3 L r4.2))) else (x_stepIter k 3 L r1.2))
  | k + 1, 3, L, σ => if ((σ.1 56)) = 0 then (x_stepIter k 5 (upd L 100 1) σ) else (x_stepIter k 4 L σ)
  | k + 1, 4, L, σ => x_stepIter k 5 (upd L 100 0) σ
  | k + 1, 5, L, σ => if ((L 100)) = 0 ∨ ((L 100)) = 1 then some ((L 100), σ) else none
  | _ + 1, _ + 6, _, _ => none
def o_x_stepIter : List Cond := [.fieldLink RX12 411 "SetHouseModel" "evValue" "[I", .fieldLink RX12 414 "SetHouseModel" "evTop" "I", .fieldLink RX12 700 "SetHouseModel" "evAt" "[I", .fieldLink RX12 372 "SetHouseModel" "heap" "[I", .methodLink RX12 563 yX12_worked, .instanceMethod yX12_worked, .selects RX12 yX12_worked yX12_worked, .initialized RX12, .fieldLink RX12 362 "SetHouseModel" "err" "I", .methodLink RX12 703 yX12_memberAt, .instanceMethod yX12_memberAt, .selects RX12 yX12_memberAt yX12_memberAt, .methodLink RX12 706 yX12_bind, .instanceMethod yX12_bind, .selects RX12 yX12_bind yX12_bind]
theorem o_x_stepIter_good : o_x_stepIter.all goodWord = true := by decide +kernel
def p_x_stepIter : List Cond := o_x_stepIter ++ ((.code yX12_worked cX12_worked 2 none :: p_x_worked) ++ ((.code yX12_memberAt cX12_memberAt 3 (some .int) :: p_x_memberAt) ++ ((.code yX12_bind cX12_bind 6 none :: p_x_bind) ++ [])))
theorem p_x_stepIter_good : p_x_stepIter.all goodWord = true := nb_all2 o_x_stepIter_good (nb_all2 (nb_allc (by decide +kernel) p_x_worked_good) (nb_all2 (nb_allc (by decide +kernel) p_x_memberAt_good) (nb_all2 (nb_allc (by decide +kernel) p_x_bind_good) rfl)))
def w_x_stepIter : List Cond := .code yX12_stepIter cX12_stepIter 4 (some .boolean) :: (p_x_stepIter ++ fM)
theorem w_x_stepIter_good : w_x_stepIter.all goodWord = true := nb_allc (by decide +kernel) (nb_all2 p_x_stepIter_good fM_good)
theorem in_x_stepIter : ∀ w ∈ wsX120, w ∈ w_x_stepIter := fun _ h => List.mem_cons_of_mem _ (List.mem_append_right _ h)
theorem hd_x_stepIter : yX12_stepIter.cls = RX12 ∧ yX12_stepIter.cls ≠ "java/lang/invoke/MethodHandle" ∧ yX12_stepIter.cls ≠ "java/lang/invoke/VarHandle" ∧ (parseMethodDescriptor yX12_stepIter.desc).map (fun d => d.parameters.length) = some 1 := by decide +kernel
theorem gg_x_stepIter_bind : GoodIn w_x_stepIter w_x_bind := goodIn_sub (fun w h => (List.mem_cons.mp h).elim (fun e => (List.mem_cons_of_mem _ (List.mem_append_left _ (List.mem_append_right _ (List.mem_append_right _ (List.mem_append_right _ (List.mem_append_left _ (List.mem_cons.mpr (Or.inl e))))))))) (fun h => (List.mem_append.mp h).elim (fun h => (List.mem_cons_of_mem _ (List.mem_append_left _ (List.mem_append_right _ (List.mem_append_right _ (List.mem_append_right _ (List.mem_append_left _ (List.mem_cons_of_mem _ h)))))))) (fun h => List.mem_cons_of_mem _ (List.mem_append_right _ h)))) w_x_bind_good
theorem g_x_stepIter_bind_706 : GoodIn w_x_stepIter (wsV RX12 706 RX12 yX12_bind w_x_bind) := goodIn_app (nb_g4 (List.mem_cons_of_mem _ (List.mem_append_left _ (List.mem_append_left _ (List.mem_of_getElem? (i := 12) rfl)))) (List.mem_cons_of_mem _ (List.mem_append_left _ (List.mem_append_left _ (List.mem_of_getElem? (i := 13) rfl)))) (List.mem_cons_of_mem _ (List.mem_append_left _ (List.mem_append_left _ (List.mem_of_getElem? (i := 14) rfl)))) (List.mem_cons_of_mem _ (List.mem_append_left _ (List.mem_append_left _ (List.mem_of_getElem? (i := 7) rfl)))) (by decide +kernel)) gg_x_stepIter_bind
theorem gg_x_stepIter_memberAt : GoodIn w_x_stepIter w_x_memberAt := goodIn_sub (fun w h => (List.mem_cons.mp h).elim (fun e => (List.mem_cons_of_mem _ (List.mem_append_left _ (List.mem_append_right _ (List.mem_append_right _ (List.mem_append_left _ (List.mem_cons.mpr (Or.inl e)))))))) (fun h => (List.mem_append.mp h).elim (fun h => (List.mem_cons_of_mem _ (List.mem_append_left _ (List.mem_append_right _ (List.mem_append_right _ (List.mem_append_left _ (List.mem_cons_of_mem _ h))))))) (fun h => List.mem_cons_of_mem _ (List.mem_append_right _ h)))) w_x_memberAt_good
theorem g_x_stepIter_memberAt_703 : GoodIn w_x_stepIter (wsV RX12 703 RX12 yX12_memberAt w_x_memberAt) := goodIn_app (nb_g4 (List.mem_cons_of_mem _ (List.mem_append_left _ (List.mem_append_left _ (List.mem_of_getElem? (i := 9) rfl)))) (List.mem_cons_of_mem _ (List.mem_append_left _ (List.mem_append_left _ (List.mem_of_getElem? (i := 10) rfl)))) (List.mem_cons_of_mem _ (List.mem_append_left _ (List.mem_append_left _ (List.mem_of_getElem? (i := 11) rfl)))) (List.mem_cons_of_mem _ (List.mem_append_left _ (List.mem_append_left _ (List.mem_of_getElem? (i := 7) rfl)))) (by decide +kernel)) gg_x_stepIter_memberAt
theorem gg_x_stepIter_worked : GoodIn w_x_stepIter w_x_worked := goodIn_sub (fun w h => (List.mem_cons.mp h).elim (fun e => (List.mem_cons_of_mem _ (List.mem_append_left _ (List.mem_append_right _ (List.mem_append_left _ (List.mem_cons.mpr (Or.inl e))))))) (fun h => (List.mem_append.mp h).elim (fun h => (List.mem_cons_of_mem _ (List.mem_append_left _ (List.mem_append_right _ (List.mem_append_left _ (List.mem_cons_of_mem _ h)))))) (fun h => List.mem_cons_of_mem _ (List.mem_append_right _ h)))) w_x_worked_good
theorem g_x_stepIter_worked_563 : GoodIn w_x_stepIter (wsV RX12 563 RX12 yX12_worked w_x_worked) := goodIn_app (nb_g4 (List.mem_cons_of_mem _ (List.mem_append_left _ (List.mem_append_left _ (List.mem_of_getElem? (i := 4) rfl)))) (List.mem_cons_of_mem _ (List.mem_append_left _ (List.mem_append_left _ (List.mem_of_getElem? (i := 5) rfl)))) (List.mem_cons_of_mem _ (List.mem_append_left _ (List.mem_append_left _ (List.mem_of_getElem? (i := 6) rfl)))) (List.mem_cons_of_mem _ (List.mem_append_left _ (List.mem_append_left _ (List.mem_of_getElem? (i := 7) rfl)))) (by decide +kernel)) gg_x_stepIter_worked
set_option maxHeartbeats 40000000 in
set_option maxRecDepth 100000 in
theorem c_x_stepIter (l : Launch) (dC : Nat → ClassId) (dI : Nat → Nat → Nat) (cy : Nat → ClassId) (a : Nat → Nat) (k0 : Nat) (L0 : Nat → Int32) (σ0 : MS) (r0 : Int32 × MS) (h0 : x_stepIter k0 0 L0 σ0 = some r0) (sz : Nat) : Met l yX12_stepIter w_x_stepIter ({ frames := 4, cells := 0, slots := 0, locals := 88 }) (va_Pc [.ref (a 0), .int (L0 1)] (nIn (dC, dI) cy sz (vM cy a σ0))) (va_Qi (fun (z : Int32) (_ : Unit) => z = r0.1) (fun _ t => nOut (dC, dI) cy (va_A (vM cy a σ0) sz) (vM cy a r0.2) t) (va_A (vM cy a σ0) sz)) 0 0 (va_A (vM cy a σ0) sz) := by
  refine Met.ofW (cc := cX12_stepIter) (maxL := 4) (ret := (some .boolean)) (by decide) rfl ?_
  intro p e s m args below meth c s₁ B hml hv
  obtain ⟨rfl, hsz, hP, hK, hD0, hG⟩ := hv
  have hx := B.exec
  have hb := B.bytes
  have hr := B.returns
  have hts := atoms_spec (ws := w_x_stepIter) B.pre
  have hown : s.vm.findClass RX12 = some m.cls := findClass_of_methodNamed B.named
  have hlocks := B.notSynchronized
  subst hsz
  have hD := hD0.self (sz := s.heap.size)
  generalize hAe : va_A (vM cy a σ0) s.heap.size = A at hD ⊢
  have hA : ∀ q : Nat, s.heap.size ≤ q → A q := fun q h => by rw [← hAe]; exact Or.inr h
  have hS : va_S A s.heap s.heap [] := va_S.rf
  have hl := lv_entry ([.ref (a 0), .int (L0 1)]) (n := 4) (Nat.le_of_ble_eq_true rfl)
  rw [lg_entry_eq]
  generalize (lg_sl ([.ref (a 0), .int (L0 1)]) ++ List.replicate (4 - (lg_sl ([.ref (a 0), .int (L0 1)])).length) Slot.unset).toArray = ls at hl ⊢
  have hl : lv_has ls 4 [(0, .ref (a 0)), (1, .int (L0 1))] := hl
  have blk : ∀ k : Nat, (bT p l e (headSpec w_x_stepIter ({ frames := 4, cells := 0, slots := 0, locals := 88 })).room s m #[.ref (a 0), .int (L0 1)] below meth c dC dI cy a A (qI dC dI cy a A below #[.ref (a 0), .int (L0 1)] s) 4 (x_stepIter k 0) (fun L => [(0, .ref (a 0)), (1, .int (L 1))]) 0 (fun L => [])) ∧ (bT p l e (headSpec w_x_stepIter ({ frames := 4, cells := 0, slots := 0, locals := 88 })).room s m #[.ref (a 0), .int (L0 1)] below meth c dC dI cy a A (qI dC dI cy a A below #[.ref (a 0), .int (L0 1)] s) 4 (x_stepIter k 1) (fun L => [(0, .ref (a 0)), (1, .int (L 1)), (2, .int (L 2)), (3, .int (L 3))]) 38 (fun L => [])) ∧ (bT p l e (headSpec w_x_stepIter ({ frames := 4, cells := 0, slots := 0, locals := 88 })).room s m #[.ref (a 0), .int (L0 1)] below meth c dC dI cy a A (qI dC dI cy a A below #[.ref (a 0), .int (L0 1)] s) 4 (x_stepIter k 2) (fun L => [(0, .ref (a 0)), (1, .int (L 1)), (2, .int (L 2)), (3, .int (L 3))]) 52 (fun L => [])) ∧ (bT p l e (headSpec w_x_stepIter ({ frames := 4, cells := 0, slots := 0, locals := 88 })).room s m #[.ref (a 0), .int (L0 1)] below meth c dC dI cy a A (qI dC dI cy a A below #[.ref (a 0), .int (L0 1)] s) 4 (x_stepIter k 3) (fun L => [(0, .ref (a 0)), (1, .int (L 1)), (2, .int (L 2)), (3, .int (L 3))]) 75 (fun L => [])) ∧ (bT p l e (headSpec w_x_stepIter ({ frames := 4, cells := 0, slots := 0, locals := 88 })).room s m #[.ref (a 0), .int (L0 1)] below meth c dC dI cy a A (qI dC dI cy a A below #[.ref (a 0), .int (L0 1)] s) 4 (x_stepIter k 4) (fun L => [(0, .ref (a 0)), (1, .int (L 1)), (2, .int (L 2)), (3, .int (L 3))]) 86 (fun L => [])) ∧ (bT p l e (headSpec w_x_stepIter ({ frames := 4, cells := 0, slots := 0, locals := 88 })).room s m #[.ref (a 0), .int (L0 1)] below meth c dC dI cy a A (qI dC dI cy a A below #[.ref (a 0), .int (L0 1)] s) 4 (x_stepIter k 5) (fun L => [(0, .ref (a 0)), (1, .int (L 1)), (2, .int (L 2)), (3, .int (L 3))]) 87 (fun L => [.int (L 100)])) := by
    intro k
    induction k with
    | zero => exact ⟨fun L σ r h => (by cases h), fun L σ r h => (by cases h), fun L σ r h => (by cases h), fun L σ r h => (by cases h), fun L σ r h => (by cases h), fun L σ r h => (by cases h)⟩
    | succ k ih =>
      refine ⟨?_, ?_, ?_, ?_, ?_, ?_⟩
      · intro L σ r h H locs ls hP hD hS hl
        rw [x_stepIter] at h
        refine lv_aload_n hx hb dX12_stepIter_0 rfl (lv_at hl 0 rfl) ?_
        refine ng_70 hx hb hts in_x_stepIter hown hK hP (hts _ (List.mem_cons_of_mem _ (List.mem_append_left _ (List.mem_append_left _ (List.mem_of_getElem? (i := 0) rfl))))) dX12_stepIter_1 ?_
        refine lv_aload_n hx hb dX12_stepIter_4 rfl (lv_at hl 0 rfl) ?_
        refine ng_72 hx hb hts in_x_stepIter hown hK hP (hts _ (List.mem_cons_of_mem _ (List.mem_append_left _ (List.mem_append_left _ (List.mem_of_getElem? (i := 1) rfl))))) dX12_stepIter_5 ?_
        refine lv_iconst (v := 1) hx hb dX12_stepIter_8 (by decide) ?_
        refine lv_isub hx hb dX12_stepIter_9 ?_
        obtain ⟨q1, h⟩ := nb_ite1 h
        refine nl_34 hx hb hK hP q1 dX12_stepIter_10 ?_
        refine lv_istore_n (lv' := [(2, .int (σ.2.2 34 ((((σ.1 72)) - 1)).toNatClampNeg)), (0, .ref (a 0)), (1, .int (L 1))]) hx hb dX12_stepIter_11 rfl hl (by decide) rfl (fun ls hl => ?_)
        refine lv_aload_n hx hb dX12_stepIter_12 rfl (lv_at hl 1 rfl) ?_
        refine ng_71 hx hb hts in_x_stepIter hown hK hP (hts _ (List.mem_cons_of_mem _ (List.mem_append_left _ (List.mem_append_left _ (List.mem_of_getElem? (i := 2) rfl))))) dX12_stepIter_13 ?_
        refine lv_aload_n hx hb dX12_stepIter_16 rfl (lv_at hl 1 rfl) ?_
        refine ng_72 hx hb hts in_x_stepIter hown hK hP (hts _ (List.mem_cons_of_mem _ (List.mem_append_left _ (List.mem_append_left _ (List.mem_of_getElem? (i := 1) rfl))))) dX12_stepIter_17 ?_
        refine lv_iconst (v := 1) hx hb dX12_stepIter_20 (by decide) ?_
        refine lv_isub hx hb dX12_stepIter_21 ?_
        obtain ⟨q2, h⟩ := nb_ite1 h
        refine nl_35 hx hb hK hP q2 dX12_stepIter_22 ?_
        refine lv_istore_n (lv' := [(3, .int (σ.2.2 35 ((((σ.1 72)) - 1)).toNatClampNeg)), (2, .int (σ.2.2 34 ((((σ.1 72)) - 1)).toNatClampNeg)), (0, .ref (a 0)), (1, .int (L 1))]) hx hb dX12_stepIter_23 rfl hl (by decide) rfl (fun ls hl => ?_)
        refine lv_iload_n hx hb dX12_stepIter_24 rfl (lv_at hl 0 rfl) ?_
        refine lv_aload_n hx hb dX12_stepIter_25 rfl (lv_at hl 2 rfl) ?_
        refine ng_53 hx hb hts in_x_stepIter hown hK hP (hts _ (List.mem_cons_of_mem _ (List.mem_append_left _ (List.mem_append_left _ (List.mem_of_getElem? (i := 3) rfl))))) dX12_stepIter_26 ?_
        refine lv_iload_n hx hb dX12_stepIter_29 rfl (lv_at hl 1 rfl) ?_
        refine lv_iconst (v := 1) hx hb dX12_stepIter_30 (by decide) ?_
        refine lv_iadd hx hb dX12_stepIter_31 ?_
        obtain ⟨q3, h⟩ := nb_ite1 h
        refine nl_28 hx hb hK hP q3 dX12_stepIter_32 ?_
        refine lv_icmp_ne (tgt := 38) hx hb dX12_stepIter_33 (by decide) (fun c4 => ?_) (fun c4 => ?_)
        · rw [if_neg c4] at h
          exact ih.2.1 (upd (upd L 2 ((σ.2.2 34 ((((σ.1 72)) - 1)).toNatClampNeg))) 3 ((σ.2.2 35 ((((σ.1 72)) - 1)).toNatClampNeg))) σ r h H locs ls hP hD hS (lv_sub hl [2, 3, 1, 0] rfl)
        · rw [if_pos c4] at h
          refine lv_iconst (v := 0) hx hb dX12_stepIter_36 (by decide) ?_
          cases h
          exact W.zret (v := 0) hx hb hr rfl (fun t ht hW => ⟨⟨0, (), rfl, rfl, by rw [ht]; exact hP, va_K.moved hW.alike hK, hD⟩, hS.F ht⟩) hS.2.2 dX12_stepIter_37
      · intro L σ r h H locs ls hP hD hS hl
        rw [x_stepIter] at h
        refine lv_aload_n hx hb dX12_stepIter_38 rfl (lv_at hl 0 rfl) ?_
        refine ng_71 hx hb hts in_x_stepIter hown hK hP (hts _ (List.mem_cons_of_mem _ (List.mem_append_left _ (List.mem_append_left _ (List.mem_of_getElem? (i := 2) rfl))))) dX12_stepIter_39 ?_
        refine lv_aload_n hx hb dX12_stepIter_42 rfl (lv_at hl 0 rfl) ?_
        refine ng_72 hx hb hts in_x_stepIter hown hK hP (hts _ (List.mem_cons_of_mem _ (List.mem_append_left _ (List.mem_append_left _ (List.mem_of_getElem? (i := 1) rfl))))) dX12_stepIter_43 ?_
        refine lv_iconst (v := 1) hx hb dX12_stepIter_46 (by decide) ?_
        refine lv_isub hx hb dX12_stepIter_47 ?_
        refine lv_iload_n hx hb dX12_stepIter_48 rfl (lv_at hl 3 rfl) ?_
        refine lv_iconst (v := 1) hx hb dX12_stepIter_49 (by decide) ?_
        refine lv_iadd hx hb dX12_stepIter_50 ?_
        obtain ⟨q1, h⟩ := nb_ite1 h
        refine ns_35 hx hb hK hP hD hS q1 dX12_stepIter_51 (fun H locs hP hD hS => ?_)
        exact ih.2.2.1 L (σ.1, σ.2.1, updG σ.2.2 35 (upd (σ.2.2 35) ((((σ.1 72)) - 1)).toNatClampNeg ((((L 3)) + 1)))) r h H locs ls hP hD hS (lv_sub hl [0, 1, 2, 3] rfl)
      · intro L σ r h H locs ls hP hD hS hl
        rw [x_stepIter] at h
        refine lv_aload_n hx hb dX12_stepIter_52 rfl (lv_at hl 0 rfl) ?_
        refine lv_iconst (v := 1) hx hb dX12_stepIter_53 (by decide) ?_
        obtain ⟨r1, hc1, h⟩ := ob_ex h
        refine nc_Vv (As := [.int 1]) (rest := []) ⟨hx, hb, hml, hown, hts⟩ (c_x_worked l dC dI cy a k (upd (fun _ => 0) 1 1) σ r1 hc1 H.size) (cwV 1 hts g_x_stepIter_worked_563 rfl rfl rfl hd_x_worked ⟨Nat.le_of_ble_eq_true rfl, Nat.le_of_ble_eq_true rfl⟩) hK hG hA hP hD hS rfl hl.1 rfl (Nat.le_of_ble_eq_true rfl) dX12_stepIter_54 ⟨Nat.le_refl _, Nat.le_refl _⟩ (fun H locs hP hD hS => ?_)
        refine lv_aload_n hx hb dX12_stepIter_57 rfl (lv_at hl 0 rfl) ?_
        refine ng_56 hx hb hts in_x_stepIter hown hK hP (hts _ (List.mem_cons_of_mem _ (List.mem_append_left _ (List.mem_append_left _ (List.mem_of_getElem? (i := 8) rfl))))) dX12_stepIter_58 ?_
        refine lv_if_ne (tgt := 75) hx hb dX12_stepIter_61 (by decide) (fun c2 => ?_) (fun c2 => ?_)
        · rw [if_neg c2] at h
          exact ih.2.2.2.1 L r1.2 r h H locs ls hP hD hS (lv_sub hl [0, 1, 2, 3] rfl)
        · rw [if_pos c2] at h
          refine lv_aload_n hx hb dX12_stepIter_64 rfl (lv_at hl 0 rfl) ?_
          refine lv_iload_n hx hb dX12_stepIter_65 rfl (lv_at hl 1 rfl) ?_
          refine lv_aload_n hx hb dX12_stepIter_66 rfl (lv_at hl 0 rfl) ?_
          refine lv_iload_n hx hb dX12_stepIter_67 rfl (lv_at hl 2 rfl) ?_
          refine lv_iload_n hx hb dX12_stepIter_68 rfl (lv_at hl 3 rfl) ?_
          obtain ⟨r3, hc3, h⟩ := ob_ex h
          refine nc_Vi (As := [.int (L 2), .int (L 3)]) (rest := [.int (L 1), .ref (a 0)]) ⟨hx, hb, hml, hown, hts⟩ (c_x_memberAt l dC dI cy a k (upd (upd (fun _ => 0) 1 ((L 2))) 2 ((L 3))) r1.2 r3 hc3 H.size) (cwV 2 hts g_x_stepIter_memberAt_703 rfl rfl rfl hd_x_memberAt ⟨Nat.le_of_ble_eq_true rfl, Nat.le_of_ble_eq_true rfl⟩) hK hG hA hP hD hS rfl hl.1 rfl (Nat.le_of_ble_eq_true rfl) dX12_stepIter_69 ⟨Nat.le_refl _, Nat.le_refl _⟩ (fun H locs hP hD hS => ?_)
          obtain ⟨r4, hc4, h⟩ := ob_ex h
          refine nc_Vv (As := [.int (L 1), .int r3.1]) (rest := []) ⟨hx, hb, hml, hown, hts⟩ (c_x_bind l dC dI cy a k (upd (upd (fun _ => 0) 1 ((L 1))) 2 r3.1) r3.2 r4 hc4 H.size) (cwV 2 hts g_x_stepIter_bind_706 rfl rfl rfl hd_x_bind ⟨Nat.le_of_ble_eq_true rfl, Nat.le_of_ble_eq_true rfl⟩) hK hG hA hP hD hS rfl hl.1 rfl (Nat.le_of_ble_eq_true rfl) dX12_stepIter_72 ⟨Nat.le_refl _, Nat.le_refl _⟩ (fun H locs hP hD hS => ?_)
          exact ih.2.2.2.1 L r4.2 r h H locs ls hP hD hS (lv_sub hl [0, 1, 2, 3] rfl)
      · intro L σ r h H locs ls hP hD hS hl
        rw [x_stepIter] at h
        refine lv_aload_n hx hb dX12_stepIter_75 rfl (lv_at hl 0 rfl) ?_
        refine ng_56 hx hb hts in_x_stepIter hown hK hP (hts _ (List.mem_cons_of_mem _ (List.mem_append_left _ (List.mem_append_left _ (List.mem_of_getElem? (i := 8) rfl))))) dX12_stepIter_76 ?_
        refine lv_if_ne (tgt := 86) hx hb dX12_stepIter_79 (by decide) (fun c1 => ?_) (fun c1 => ?_)
        · rw [if_neg c1] at h
          exact ih.2.2.2.2.1 L σ r h H locs ls hP hD hS (lv_sub hl [0, 1, 2, 3] rfl)
        · rw [if_pos c1] at h
          refine lv_iconst (v := 1) hx hb dX12_stepIter_82 (by decide) ?_
          refine lv_goto (tgt := 87) hx hb dX12_stepIter_83 (by decide) ?_
          exact ih.2.2.2.2.2 (upd L 100 1) σ r h H locs ls hP hD hS (lv_sub hl [0, 1, 2, 3] rfl)
      · intro L σ r h H locs ls hP hD hS hl
        rw [x_stepIter] at h
        refine lv_iconst (v := 0) hx hb dX12_stepIter_86 (by decide) ?_
        exact ih.2.2.2.2.2 (upd L 100 0) σ r h H locs ls hP hD hS (lv_sub hl [0, 1, 2, 3] rfl)
      · intro L σ r h H locs ls hP hD hS hl
        rw [x_stepIter] at h
        obtain ⟨q1, h⟩ := nb_ite1 h
        cases h
        exact W.zret (v := (L 100)) hx hb hr (nb_bz q1) (fun t ht hW => ⟨⟨(L 100), (), rfl, rfl, by rw [ht]; exact hP, va_K.moved hW.alike hK, hD⟩, hS.F ht⟩) hS.2.2 dX12_stepIter_87
  exact (blk k0).1 L0 σ0 r0 h0 s.heap [] ls hP hD hS hl
/-! newAtom -/
def x_newAtom : Nat → Nat → (Nat → Int32) → MS → Option (Int32 × MS)
  | 0, _, _, _ => none
  | k + 1, 0, L, σ => if ((σ.1 95)) = 1000000 then (ob (x_fail k 0 (upd (fun _ => 0) 1 6) σ) (fun r2 => some (0, r2.2))) else (x_newAtom k 1 L σ)
  | k + 1, 1, L, σ => x_newAtom k 2 L (upd σ.1 95 ((((σ.1 95)) + 1)), σ.2.1, σ.2.2)
  | k + 1, 2, L, σ => ob (x_make k 0 (upd (upd (fun _ => 0) 1 3) 2 1) σ) (fun r1 => if ((r1.2.1 56)) ≤ 0 then (x_newAtom k 3 (upd L 1 r1.1) r1.2) else (some (0, r1.2)))
  | k + 1, 3, L, σ => if ¬ (((((L 1)) + 4)) < 0 ∨ 1740000 ≤ ((((L 1)) + 4)).toNatClampNeg) then (x_newAtom k 4 L (σ.1, σ.2.1, updG σ.2.2 28 (upd (σ.2.2 28) ((((L 1)) + 4)).toNatClampNeg ((σ.1 95))))) else none
  | k + 1, 4, L, σ => some ((L 1), σ)
  | _ + 1, _ + 5, _, _ => none
def o_x_newAtom : List Cond := [.fieldLink RX12 681 "SetHouseModel" "atoms" "I", .constant RX12 684 (1000000), .methodLink RX12 369 yX12_fail, .instanceMethod yX12_fail, .selects RX12 yX12_fail yX12_fail, .initialized RX12, .methodLink RX12 429 yX12_make, .instanceMethod yX12_make, .selects RX12 yX12_make yX12_make, .fieldLink RX12 362 "SetHouseModel" "err" "I", .fieldLink RX12 372 "SetHouseModel" "heap" "[I"]
theorem o_x_newAtom_good : o_x_newAtom.all goodWord = true := by decide +kernel
def p_x_newAtom : List Cond := o_x_newAtom ++ ((.code yX12_fail cX12_fail 2 none :: p_x_fail) ++ ((.code yX12_make cX12_make 4 (some .int) :: p_x_make) ++ []))
theorem p_x_newAtom_good : p_x_newAtom.all goodWord = true := nb_all2 o_x_newAtom_good (nb_all2 (nb_allc (by decide +kernel) p_x_fail_good) (nb_all2 (nb_allc (by decide +kernel) p_x_make_good) rfl))
def w_x_newAtom : List Cond := .code yX12_newAtom cX12_newAtom 2 (some .int) :: (p_x_newAtom ++ fM)
theorem w_x_newAtom_good : w_x_newAtom.all goodWord = true := nb_allc (by decide +kernel) (nb_all2 p_x_newAtom_good fM_good)
theorem in_x_newAtom : ∀ w ∈ wsX120, w ∈ w_x_newAtom := fun _ h => List.mem_cons_of_mem _ (List.mem_append_right _ h)
theorem hd_x_newAtom : yX12_newAtom.cls = RX12 ∧ yX12_newAtom.cls ≠ "java/lang/invoke/MethodHandle" ∧ yX12_newAtom.cls ≠ "java/lang/invoke/VarHandle" ∧ (parseMethodDescriptor yX12_newAtom.desc).map (fun d => d.parameters.length) = some 0 := by decide +kernel
theorem gg_x_newAtom_fail : GoodIn w_x_newAtom w_x_fail := goodIn_sub (fun w h => (List.mem_cons.mp h).elim (fun e => (List.mem_cons_of_mem _ (List.mem_append_left _ (List.mem_append_right _ (List.mem_append_left _ (List.mem_cons.mpr (Or.inl e))))))) (fun h => (List.mem_append.mp h).elim (fun h => (List.mem_cons_of_mem _ (List.mem_append_left _ (List.mem_append_right _ (List.mem_append_left _ (List.mem_cons_of_mem _ h)))))) (fun h => List.mem_cons_of_mem _ (List.mem_append_right _ h)))) w_x_fail_good
theorem g_x_newAtom_fail_369 : GoodIn w_x_newAtom (wsV RX12 369 RX12 yX12_fail w_x_fail) := goodIn_app (nb_g4 (List.mem_cons_of_mem _ (List.mem_append_left _ (List.mem_append_left _ (List.mem_of_getElem? (i := 2) rfl)))) (List.mem_cons_of_mem _ (List.mem_append_left _ (List.mem_append_left _ (List.mem_of_getElem? (i := 3) rfl)))) (List.mem_cons_of_mem _ (List.mem_append_left _ (List.mem_append_left _ (List.mem_of_getElem? (i := 4) rfl)))) (List.mem_cons_of_mem _ (List.mem_append_left _ (List.mem_append_left _ (List.mem_of_getElem? (i := 5) rfl)))) (by decide +kernel)) gg_x_newAtom_fail
theorem gg_x_newAtom_make : GoodIn w_x_newAtom w_x_make := goodIn_sub (fun w h => (List.mem_cons.mp h).elim (fun e => (List.mem_cons_of_mem _ (List.mem_append_left _ (List.mem_append_right _ (List.mem_append_right _ (List.mem_append_left _ (List.mem_cons.mpr (Or.inl e)))))))) (fun h => (List.mem_append.mp h).elim (fun h => (List.mem_cons_of_mem _ (List.mem_append_left _ (List.mem_append_right _ (List.mem_append_right _ (List.mem_append_left _ (List.mem_cons_of_mem _ h))))))) (fun h => List.mem_cons_of_mem _ (List.mem_append_right _ h)))) w_x_make_good
theorem g_x_newAtom_make_429 : GoodIn w_x_newAtom (wsV RX12 429 RX12 yX12_make w_x_make) := goodIn_app (nb_g4 (List.mem_cons_of_mem _ (List.mem_append_left _ (List.mem_append_left _ (List.mem_of_getElem? (i := 6) rfl)))) (List.mem_cons_of_mem _ (List.mem_append_left _ (List.mem_append_left _ (List.mem_of_getElem? (i := 7) rfl)))) (List.mem_cons_of_mem _ (List.mem_append_left _ (List.mem_append_left _ (List.mem_of_getElem? (i := 8) rfl)))) (List.mem_cons_of_mem _ (List.mem_append_left _ (List.mem_append_left _ (List.mem_of_getElem? (i := 5) rfl)))) (by decide +kernel)) gg_x_newAtom_make
set_option maxHeartbeats 40000000 in
set_option maxRecDepth 100000 in
theorem c_x_newAtom (l : Launch) (dC : Nat → ClassId) (dI : Nat → Nat → Nat) (cy : Nat → ClassId) (a : Nat → Nat) (k0 : Nat) (L0 : Nat → Int32) (σ0 : MS) (r0 : Int32 × MS) (h0 : x_newAtom k0 0 L0 σ0 = some r0) (sz : Nat) : Met l yX12_newAtom w_x_newAtom ({ frames := 2, cells := 0, slots := 0, locals := 44 }) (va_Pc [.ref (a 0)] (nIn (dC, dI) cy sz (vM cy a σ0))) (va_Qi (fun (z : Int32) (_ : Unit) => z = r0.1) (fun _ t => nOut (dC, dI) cy (va_A (vM cy a σ0) sz) (vM cy a r0.2) t) (va_A (vM cy a σ0) sz)) 0 0 (va_A (vM cy a σ0) sz) := by
  refine Met.ofW (cc := cX12_newAtom) (maxL := 2) (ret := (some .int)) (by decide) rfl ?_
  intro p e s m args below meth c s₁ B hml hv
  obtain ⟨rfl, hsz, hP, hK, hD0, hG⟩ := hv
  have hx := B.exec
  have hb := B.bytes
  have hr := B.returns
  have hts := atoms_spec (ws := w_x_newAtom) B.pre
  have hown : s.vm.findClass RX12 = some m.cls := findClass_of_methodNamed B.named
  have hlocks := B.notSynchronized
  subst hsz
  have hD := hD0.self (sz := s.heap.size)
  generalize hAe : va_A (vM cy a σ0) s.heap.size = A at hD ⊢
  have hA : ∀ q : Nat, s.heap.size ≤ q → A q := fun q h => by rw [← hAe]; exact Or.inr h
  have hS : va_S A s.heap s.heap [] := va_S.rf
  have hl := lv_entry ([.ref (a 0)]) (n := 2) (Nat.le_of_ble_eq_true rfl)
  rw [lg_entry_eq]
  generalize (lg_sl ([.ref (a 0)]) ++ List.replicate (2 - (lg_sl ([.ref (a 0)])).length) Slot.unset).toArray = ls at hl ⊢
  have hl : lv_has ls 2 [(0, .ref (a 0))] := hl
  have blk : ∀ k : Nat, (bT p l e (headSpec w_x_newAtom ({ frames := 2, cells := 0, slots := 0, locals := 44 })).room s m #[.ref (a 0)] below meth c dC dI cy a A (qI dC dI cy a A below #[.ref (a 0)] s) 2 (x_newAtom k 0) (fun L => [(0, .ref (a 0))]) 0 (fun L => [])) ∧ (bT p l e (headSpec w_x_newAtom ({ frames := 2, cells := 0, slots := 0, locals := 44 })).room s m #[.ref (a 0)] below meth c dC dI cy a A (qI dC dI cy a A below #[.ref (a 0)] s) 2 (x_newAtom k 1) (fun L => [(0, .ref (a 0))]) 18 (fun L => [])) ∧ (bT p l e (headSpec w_x_newAtom ({ frames := 2, cells := 0, slots := 0, locals := 44 })).room s m #[.ref (a 0)] below meth c dC dI cy a A (qI dC dI cy a A below #[.ref (a 0)] s) 2 (x_newAtom k 2) (fun L => [(0, .ref (a 0))]) 28 (fun L => [])) ∧ (bT p l e (headSpec w_x_newAtom ({ frames := 2, cells := 0, slots := 0, locals := 44 })).room s m #[.ref (a 0)] below meth c dC dI cy a A (qI dC dI cy a A below #[.ref (a 0)] s) 2 (x_newAtom k 3) (fun L => [(0, .ref (a 0)), (1, .int (L 1))]) 44 (fun L => [])) ∧ (bT p l e (headSpec w_x_newAtom ({ frames := 2, cells := 0, slots := 0, locals := 44 })).room s m #[.ref (a 0)] below meth c dC dI cy a A (qI dC dI cy a A below #[.ref (a 0)] s) 2 (x_newAtom k 4) (fun L => [(0, .ref (a 0)), (1, .int (L 1))]) 56 (fun L => [])) := by
    intro k
    induction k with
    | zero => exact ⟨fun L σ r h => (by cases h), fun L σ r h => (by cases h), fun L σ r h => (by cases h), fun L σ r h => (by cases h), fun L σ r h => (by cases h)⟩
    | succ k ih =>
      refine ⟨?_, ?_, ?_, ?_, ?_⟩
      · intro L σ r h H locs ls hP hD hS hl
        rw [x_newAtom] at h
        refine lv_aload_n hx hb dX12_newAtom_0 rfl (lv_at hl 0 rfl) ?_
        refine ng_95 hx hb hts in_x_newAtom hown hK hP (hts _ (List.mem_cons_of_mem _ (List.mem_append_left _ (List.mem_append_left _ (List.mem_of_getElem? (i := 0) rfl))))) dX12_newAtom_1 ?_
        refine lv_ldcw (v := 1000000) hx hb hown (hts _ (List.mem_cons_of_mem _ (List.mem_append_left _ (List.mem_append_left _ (List.mem_of_getElem? (i := 1) rfl))))) dX12_newAtom_4 ?_
        refine lv_icmp_ne (tgt := 18) hx hb dX12_newAtom_7 (by decide) (fun c1 => ?_) (fun c1 => ?_)
        · rw [if_neg c1] at h
          exact ih.2.1 L σ r h H locs ls hP hD hS (lv_sub hl [0] rfl)
        · rw [if_pos c1] at h
          refine lv_aload_n hx hb dX12_newAtom_10 rfl (lv_at hl 0 rfl) ?_
          refine lv_bipush (v := 6) hx hb dX12_newAtom_11 (by decide) ?_
          obtain ⟨r2, hc2, h⟩ := ob_ex h
          refine nc_Vv (As := [.int 6]) (rest := []) ⟨hx, hb, hml, hown, hts⟩ (c_x_fail l dC dI cy a k (upd (fun _ => 0) 1 6) σ r2 hc2 H.size) (cwV 1 hts g_x_newAtom_fail_369 rfl rfl rfl hd_x_fail ⟨Nat.le_of_ble_eq_true rfl, Nat.le_of_ble_eq_true rfl⟩) hK hG hA hP hD hS rfl hl.1 rfl (Nat.le_of_ble_eq_true rfl) dX12_newAtom_13 ⟨Nat.le_refl _, Nat.le_refl _⟩ (fun H locs hP hD hS => ?_)
          refine lv_iconst (v := 0) hx hb dX12_newAtom_16 (by decide) ?_
          cases h
          exact W.iret (v := 0) hx hb hr (fun t ht hW => ⟨⟨0, (), rfl, rfl, by rw [ht]; exact hP, va_K.moved hW.alike hK, hD⟩, hS.F ht⟩) hS.2.2 dX12_newAtom_17
      · intro L σ r h H locs ls hP hD hS hl
        rw [x_newAtom] at h
        refine lv_aload_n hx hb dX12_newAtom_18 rfl (lv_at hl 0 rfl) ?_
        refine lv_dup hx hb dX12_newAtom_19 rfl ?_
        refine ng_95 hx hb hts in_x_newAtom hown hK hP (hts _ (List.mem_cons_of_mem _ (List.mem_append_left _ (List.mem_append_left _ (List.mem_of_getElem? (i := 0) rfl))))) dX12_newAtom_20 ?_
        refine lv_iconst (v := 1) hx hb dX12_newAtom_23 (by decide) ?_
        refine lv_iadd hx hb dX12_newAtom_24 ?_
        refine np_95 hx hb hts in_x_newAtom hown hK hP hD hS (hts _ (List.mem_cons_of_mem _ (List.mem_append_left _ (List.mem_append_left _ (List.mem_of_getElem? (i := 0) rfl))))) dX12_newAtom_25 (fun H locs hP hD hS => ?_)
        exact ih.2.2.1 L (upd σ.1 95 ((((σ.1 95)) + 1)), σ.2.1, σ.2.2) r h H locs ls hP hD hS (lv_sub hl [0] rfl)
      · intro L σ r h H locs ls hP hD hS hl
        rw [x_newAtom] at h
        refine lv_aload_n hx hb dX12_newAtom_28 rfl (lv_at hl 0 rfl) ?_
        refine lv_iconst (v := 3) hx hb dX12_newAtom_29 (by decide) ?_
        refine lv_iconst (v := 1) hx hb dX12_newAtom_30 (by decide) ?_
        obtain ⟨r1, hc1, h⟩ := ob_ex h
        refine nc_Vi (As := [.int 3, .int 1]) (rest := []) ⟨hx, hb, hml, hown, hts⟩ (c_x_make l dC dI cy a k (upd (upd (fun _ => 0) 1 3) 2 1) σ r1 hc1 H.size) (cwV 2 hts g_x_newAtom_make_429 rfl rfl rfl hd_x_make ⟨Nat.le_of_ble_eq_true rfl, Nat.le_of_ble_eq_true rfl⟩) hK hG hA hP hD hS rfl hl.1 rfl (Nat.le_of_ble_eq_true rfl) dX12_newAtom_31 ⟨Nat.le_refl _, Nat.le_refl _⟩ (fun H locs hP hD hS => ?_)
        refine lv_istore_n (lv' := [(1, .int r1.1), (0, .ref (a 0))]) hx hb dX12_newAtom_34 rfl hl (by decide) rfl (fun ls hl => ?_)
        refine lv_aload_n hx hb dX12_newAtom_35 rfl (lv_at hl 1 rfl) ?_
        refine ng_56 hx hb hts in_x_newAtom hown hK hP (hts _ (List.mem_cons_of_mem _ (List.mem_append_left _ (List.mem_append_left _ (List.mem_of_getElem? (i := 9) rfl))))) dX12_newAtom_36 ?_
        refine lv_if_le (tgt := 44) hx hb dX12_newAtom_39 (by decide) (fun c2 => ?_) (fun c2 => ?_)
        · rw [if_pos c2] at h
          exact ih.2.2.2.1 (upd L 1 r1.1) r1.2 r h H locs ls hP hD hS (lv_sub hl [1, 0] rfl)
        · rw [if_neg c2] at h
          refine lv_iconst (v := 0) hx hb dX12_newAtom_42 (by decide) ?_
          cases h
          exact W.iret (v := 0) hx hb hr (fun t ht hW => ⟨⟨0, (), rfl, rfl, by rw [ht]; exact hP, va_K.moved hW.alike hK, hD⟩, hS.F ht⟩) hS.2.2 dX12_newAtom_43
      · intro L σ r h H locs ls hP hD hS hl
        rw [x_newAtom] at h
        refine lv_aload_n hx hb dX12_newAtom_44 rfl (lv_at hl 0 rfl) ?_
        refine ng_53 hx hb hts in_x_newAtom hown hK hP (hts _ (List.mem_cons_of_mem _ (List.mem_append_left _ (List.mem_append_left _ (List.mem_of_getElem? (i := 10) rfl))))) dX12_newAtom_45 ?_
        refine lv_iload_n hx hb dX12_newAtom_48 rfl (lv_at hl 1 rfl) ?_
        refine lv_iconst (v := 4) hx hb dX12_newAtom_49 (by decide) ?_
        refine lv_iadd hx hb dX12_newAtom_50 ?_
        refine lv_aload_n hx hb dX12_newAtom_51 rfl (lv_at hl 0 rfl) ?_
        refine ng_95 hx hb hts in_x_newAtom hown hK hP (hts _ (List.mem_cons_of_mem _ (List.mem_append_left _ (List.mem_append_left _ (List.mem_of_getElem? (i := 0) rfl))))) dX12_newAtom_52 ?_
        obtain ⟨q1, h⟩ := nb_ite1 h
        refine ns_28 hx hb hK hP hD hS q1 dX12_newAtom_55 (fun H locs hP hD hS => ?_)
        exact ih.2.2.2.2 L (σ.1, σ.2.1, updG σ.2.2 28 (upd (σ.2.2 28) ((((L 1)) + 4)).toNatClampNeg ((σ.1 95)))) r h H locs ls hP hD hS (lv_sub hl [0, 1] rfl)
      · intro L σ r h H locs ls hP hD hS hl
        rw [x_newAtom] at h
        refine lv_iload_n hx hb dX12_newAtom_56 rfl (lv_at hl 1 rfl) ?_
        cases h
        exact W.iret (v := (L 1)) hx hb hr (fun t ht hW => ⟨⟨(L 1), (), rfl, rfl, by rw [ht]; exact hP, va_K.moved hW.alike hK, hD⟩, hS.F ht⟩) hS.2.2 dX12_newAtom_57
  exact (blk k0).1 L0 σ0 r0 h0 s.heap [] ls hP hD hS hl
/-! character -/
def x_character : Nat → Nat → (Nat → Int32) → MS → Option (Int32 × MS)
  | 0, _, _, _ => none
  | k + 1, 0, L, σ => ob (x_kind k 0 (upd (fun _ => 0) 1 ((L 1))) σ) (fun r1 => if r1.1 = 2 then (x_character k 1 L r1.2) else (ob (x_wrongKind k 0 (fun _ => 0) r1.2) (fun r3 => some (r3.1, r3.2))))
  | k + 1, 1, L, σ => ob (x_intOf k 0 (upd (upd (fun _ => 0) 1 ((L 1))) 2 255) (fun _ => 0) σ) (fun r1 => if r1.1 < 0 then (x_character k 2 (upd L 2 r1.1) r1.2) else (if r1.1 ≤ 255 then (x_character k 3 (upd L 2 r1.1) r1.2) else (x_character k 2 (upd L 2 r1.1) r1.2)))
  | k + 1, 2, L, σ => ob (x_fail k 0 (upd (fun _ => 0) 1 4) σ) (fun r1 => some (0, r1.2))
  | k + 1, 3, L, σ => ob (x_byteString k 0 (upd (fun _ => 0) 1 ((L 2))) σ) (fun r1 => some (r1.1, r1.2))
  | _ + 1, _ + 4, _, _ => none
def o_x_character : List Cond := [.methodLink RX12 545 yX12_kind, .instanceMethod yX12_kind, .selects RX12 yX12_kind yX12_kind, .initialized RX12, .methodLink RX12 666 yX12_wrongKind, .instanceMethod yX12_wrongKind, .selects RX12 yX12_wrongKind yX12_wrongKind, .methodLink RX12 515 yX12_intOf, .instanceMethod yX12_intOf, .selects RX12 yX12_intOf yX12_intOf, .methodLink RX12 369 yX12_fail, .instanceMethod yX12_fail, .selects RX12 yX12_fail yX12_fail, .methodLink RX12 691 yX12_byteString, .instanceMethod yX12_byteString, .selects RX12 yX12_byteString yX12_byteString]
theorem o_x_character_good : o_x_character.all goodWord = true := by decide +kernel
def p_x_character : List Cond := o_x_character ++ ((.code yX12_kind cX12_kind 2 (some .int) :: p_x_kind) ++ ((.code yX12_wrongKind cX12_wrongKind 1 (some .int) :: p_x_wrongKind) ++ ((.code yX12_intOf cX12_intOf 7 (some .int) :: p_x_intOf) ++ ((.code yX12_fail cX12_fail 2 none :: p_x_fail) ++ ((.code yX12_byteString cX12_byteString 3 (some .int) :: p_x_byteString) ++ [])))))
theorem p_x_character_good : p_x_character.all goodWord = true := nb_all2 o_x_character_good (nb_all2 (nb_allc (by decide +kernel) p_x_kind_good) (nb_all2 (nb_allc (by decide +kernel) p_x_wrongKind_good) (nb_all2 (nb_allc (by decide +kernel) p_x_intOf_good) (nb_all2 (nb_allc (by decide +kernel) p_x_fail_good) (nb_all2 (nb_allc (by decide +kernel) p_x_byteString_good) rfl)))))
def w_x_character : List Cond := .code yX12_character cX12_character 3 (some .int) :: (p_x_character ++ fM)
theorem w_x_character_good : w_x_character.all goodWord = true := nb_allc (by decide +kernel) (nb_all2 p_x_character_good fM_good)
theorem in_x_character : ∀ w ∈ wsX120, w ∈ w_x_character := fun _ h => List.mem_cons_of_mem _ (List.mem_append_right _ h)
theorem hd_x_character : yX12_character.cls = RX12 ∧ yX12_character.cls ≠ "java/lang/invoke/MethodHandle" ∧ yX12_character.cls ≠ "java/lang/invoke/VarHandle" ∧ (parseMethodDescriptor yX12_character.desc).map (fun d => d.parameters.length) = some 1 := by decide +kernel
theorem gg_x_character_byteString : GoodIn w_x_character w_x_byteString := goodIn_sub (fun w h => (List.mem_cons.mp h).elim (fun e => (List.mem_cons_of_mem _ (List.mem_append_left _ (List.mem_append_right _ (List.mem_append_right _ (List.mem_append_right _ (List.mem_append_right _ (List.mem_append_right _ (List.mem_append_left _ (List.mem_cons.mpr (Or.inl e))))))))))) (fun h => (List.mem_append.mp h).elim (fun h => (List.mem_cons_of_mem _ (List.mem_append_left _ (List.mem_append_right _ (List.mem_append_right _ (List.mem_append_right _ (List.mem_append_right _ (List.mem_append_right _ (List.mem_append_left _ (List.mem_cons_of_mem _ h)))))))))) (fun h => List.mem_cons_of_mem _ (List.mem_append_right _ h)))) w_x_byteString_good
theorem g_x_character_byteString_691 : GoodIn w_x_character (wsV RX12 691 RX12 yX12_byteString w_x_byteString) := goodIn_app (nb_g4 (List.mem_cons_of_mem _ (List.mem_append_left _ (List.mem_append_left _ (List.mem_of_getElem? (i := 13) rfl)))) (List.mem_cons_of_mem _ (List.mem_append_left _ (List.mem_append_left _ (List.mem_of_getElem? (i := 14) rfl)))) (List.mem_cons_of_mem _ (List.mem_append_left _ (List.mem_append_left _ (List.mem_of_getElem? (i := 15) rfl)))) (List.mem_cons_of_mem _ (List.mem_append_left _ (List.mem_append_left _ (List.mem_of_getElem? (i := 3) rfl)))) (by decide +kernel)) gg_x_character_byteString
theorem gg_x_character_fail : GoodIn w_x_character w_x_fail := goodIn_sub (fun w h => (List.mem_cons.mp h).elim (fun e => (List.mem_cons_of_mem _ (List.mem_append_left _ (List.mem_append_right _ (List.mem_append_right _ (List.mem_append_right _ (List.mem_append_right _ (List.mem_append_left _ (List.mem_cons.mpr (Or.inl e)))))))))) (fun h => (List.mem_append.mp h).elim (fun h => (List.mem_cons_of_mem _ (List.mem_append_left _ (List.mem_append_right _ (List.mem_append_right _ (List.mem_append_right _ (List.mem_append_right _ (List.mem_append_left _ (List.mem_cons_of_mem _ h))))))))) (fun h => List.mem_cons_of_mem _ (List.mem_append_right _ h)))) w_x_fail_good
theorem g_x_character_fail_369 : GoodIn w_x_character (wsV RX12 369 RX12 yX12_fail w_x_fail) := goodIn_app (nb_g4 (List.mem_cons_of_mem _ (List.mem_append_left _ (List.mem_append_left _ (List.mem_of_getElem? (i := 10) rfl)))) (List.mem_cons_of_mem _ (List.mem_append_left _ (List.mem_append_left _ (List.mem_of_getElem? (i := 11) rfl)))) (List.mem_cons_of_mem _ (List.mem_append_left _ (List.mem_append_left _ (List.mem_of_getElem? (i := 12) rfl)))) (List.mem_cons_of_mem _ (List.mem_append_left _ (List.mem_append_left _ (List.mem_of_getElem? (i := 3) rfl)))) (by decide +kernel)) gg_x_character_fail
theorem gg_x_character_intOf : GoodIn w_x_character w_x_intOf := goodIn_sub (fun w h => (List.mem_cons.mp h).elim (fun e => (List.mem_cons_of_mem _ (List.mem_append_left _ (List.mem_append_right _ (List.mem_append_right _ (List.mem_append_right _ (List.mem_append_left _ (List.mem_cons.mpr (Or.inl e))))))))) (fun h => (List.mem_append.mp h).elim (fun h => (List.mem_cons_of_mem _ (List.mem_append_left _ (List.mem_append_right _ (List.mem_append_right _ (List.mem_append_right _ (List.mem_append_left _ (List.mem_cons_of_mem _ h)))))))) (fun h => List.mem_cons_of_mem _ (List.mem_append_right _ h)))) w_x_intOf_good
theorem g_x_character_intOf_515 : GoodIn w_x_character (wsV RX12 515 RX12 yX12_intOf w_x_intOf) := goodIn_app (nb_g4 (List.mem_cons_of_mem _ (List.mem_append_left _ (List.mem_append_left _ (List.mem_of_getElem? (i := 7) rfl)))) (List.mem_cons_of_mem _ (List.mem_append_left _ (List.mem_append_left _ (List.mem_of_getElem? (i := 8) rfl)))) (List.mem_cons_of_mem _ (List.mem_append_left _ (List.mem_append_left _ (List.mem_of_getElem? (i := 9) rfl)))) (List.mem_cons_of_mem _ (List.mem_append_left _ (List.mem_append_left _ (List.mem_of_getElem? (i := 3) rfl)))) (by decide +kernel)) gg_x_character_intOf
theorem gg_x_character_kind : GoodIn w_x_character w_x_kind := goodIn_sub (fun w h => (List.mem_cons.mp h).elim (fun e => (List.mem_cons_of_mem _ (List.mem_append_left _ (List.mem_append_right _ (List.mem_append_left _ (List.mem_cons.mpr (Or.inl e))))))) (fun h => (List.mem_append.mp h).elim (fun h => (List.mem_cons_of_mem _ (List.mem_append_left _ (List.mem_append_right _ (List.mem_append_left _ (List.mem_cons_of_mem _ h)))))) (fun h => List.mem_cons_of_mem _ (List.mem_append_right _ h)))) w_x_kind_good
theorem g_x_character_kind_545 : GoodIn w_x_character (wsV RX12 545 RX12 yX12_kind w_x_kind) := goodIn_app (nb_g4 (List.mem_cons_of_mem _ (List.mem_append_left _ (List.mem_append_left _ (List.mem_of_getElem? (i := 0) rfl)))) (List.mem_cons_of_mem _ (List.mem_append_left _ (List.mem_append_left _ (List.mem_of_getElem? (i := 1) rfl)))) (List.mem_cons_of_mem _ (List.mem_append_left _ (List.mem_append_left _ (List.mem_of_getElem? (i := 2) rfl)))) (List.mem_cons_of_mem _ (List.mem_append_left _ (List.mem_append_left _ (List.mem_of_getElem? (i := 3) rfl)))) (by decide +kernel)) gg_x_character_kind
theorem gg_x_character_wrongKind : GoodIn w_x_character w_x_wrongKind := goodIn_sub (fun w h => (List.mem_cons.mp h).elim (fun e => (List.mem_cons_of_mem _ (List.mem_append_left _ (List.mem_append_right _ (List.mem_append_right _ (List.mem_append_left _ (List.mem_cons.mpr (Or.inl e)))))))) (fun h => (List.mem_append.mp h).elim (fun h => (List.mem_cons_of_mem _ (List.mem_append_left _ (List.mem_append_right _ (List.mem_append_right _ (List.mem_append_left _ (List.mem_cons_of_mem _ h))))))) (fun h => List.mem_cons_of_mem _ (List.mem_append_right _ h)))) w_x_wrongKind_good
theorem g_x_character_wrongKind_666 : GoodIn w_x_character (wsV RX12 666 RX12 yX12_wrongKind w_x_wrongKind) := goodIn_app (nb_g4 (List.mem_cons_of_mem _ (List.mem_append_left _ (List.mem_append_left _ (List.mem_of_getElem? (i := 4) rfl)))) (List.mem_cons_of_mem _ (List.mem_append_left _ (List.mem_append_left _ (List.mem_of_getElem? (i := 5) rfl)))) (List.mem_cons_of_mem _ (List.mem_append_left _ (List.mem_append_left _ (List.mem_of_getElem? (i := 6) rfl)))) (List.mem_cons_of_mem _ (List.mem_append_left _ (List.mem_append_left _ (List.mem_of_getElem? (i := 3) rfl)))) (by decide +kernel)) gg_x_character_wrongKind
set_option maxHeartbeats 40000000 in
set_option maxRecDepth 100000 in
theorem c_x_character (l : Launch) (dC : Nat → ClassId) (dI : Nat → Nat → Nat) (cy : Nat → ClassId) (a : Nat → Nat) (k0 : Nat) (L0 : Nat → Int32) (σ0 : MS) (r0 : Int32 × MS) (h0 : x_character k0 0 L0 σ0 = some r0) (sz : Nat) : Met l yX12_character w_x_character ({ frames := 3, cells := 0, slots := 0, locals := 66 }) (va_Pc [.ref (a 0), .int (L0 1)] (nIn (dC, dI) cy sz (vM cy a σ0))) (va_Qi (fun (z : Int32) (_ : Unit) => z = r0.1) (fun _ t => nOut (dC, dI) cy (va_A (vM cy a σ0) sz) (vM cy a r0.2) t) (va_A (vM cy a σ0) sz)) 0 0 (va_A (vM cy a σ0) sz) := by
  refine Met.ofW (cc := cX12_character) (maxL := 3) (ret := (some .int)) (by decide) rfl ?_
  intro p e s m args below meth c s₁ B hml hv
  obtain ⟨rfl, hsz, hP, hK, hD0, hG⟩ := hv
  have hx := B.exec
  have hb := B.bytes
  have hr := B.returns
  have hts := atoms_spec (ws := w_x_character) B.pre
  have hown : s.vm.findClass RX12 = some m.cls := findClass_of_methodNamed B.named
  have hlocks := B.notSynchronized
  subst hsz
  have hD := hD0.self (sz := s.heap.size)
  generalize hAe : va_A (vM cy a σ0) s.heap.size = A at hD ⊢
  have hA : ∀ q : Nat, s.heap.size ≤ q → A q := fun q h => by rw [← hAe]; exact Or.inr h
  have hS : va_S A s.heap s.heap [] := va_S.rf
  have hl := lv_entry ([.ref (a 0), .int (L0 1)]) (n := 3) (Nat.le_of_ble_eq_true rfl)
  rw [lg_entry_eq]
  generalize (lg_sl ([.ref (a 0), .int (L0 1)]) ++ List.replicate (3 - (lg_sl ([.ref (a 0), .int (L0 1)])).length) Slot.unset).toArray = ls at hl ⊢
  have hl : lv_has ls 3 [(0, .ref (a 0)), (1, .int (L0 1))] := hl
  have blk : ∀ k : Nat, (bT p l e (headSpec w_x_character ({ frames := 3, cells := 0, slots := 0, locals := 66 })).room s m #[.ref (a 0), .int (L0 1)] below meth c dC dI cy a A (qI dC dI cy a A below #[.ref (a 0), .int (L0 1)] s) 3 (x_character k 0) (fun L => [(0, .ref (a 0)), (1, .int (L 1))]) 0 (fun L => [])) ∧ (bT p l e (headSpec w_x_character ({ frames := 3, cells := 0, slots := 0, locals := 66 })).room s m #[.ref (a 0), .int (L0 1)] below meth c dC dI cy a A (qI dC dI cy a A below #[.ref (a 0), .int (L0 1)] s) 3 (x_character k 1) (fun L => [(0, .ref (a 0)), (1, .int (L 1))]) 14 (fun L => [])) ∧ (bT p l e (headSpec w_x_character ({ frames := 3, cells := 0, slots := 0, locals := 66 })).room s m #[.ref (a 0), .int (L0 1)] below meth c dC dI cy a A (qI dC dI cy a A below #[.ref (a 0), .int (L0 1)] s) 3 (x_character k 2) (fun L => [(0, .ref (a 0)), (1, .int (L 1)), (2, .int (L 2))]) 34 (fun L => [])) ∧ (bT p l e (headSpec w_x_character ({ frames := 3, cells := 0, slots := 0, locals := 66 })).room s m #[.ref (a 0), .int (L0 1)] below meth c dC dI cy a A (qI dC dI cy a A below #[.ref (a 0), .int (L0 1)] s) 3 (x_character k 3) (fun L => [(0, .ref (a 0)), (1, .int (L 1)), (2, .int (L 2))]) 41 (fun L => [])) := by
    intro k
    induction k with
    | zero => exact ⟨fun L σ r h => (by cases h), fun L σ r h => (by cases h), fun L σ r h => (by cases h), fun L σ r h => (by cases h)⟩
    | succ k ih =>
      refine ⟨?_, ?_, ?_, ?_⟩
      · intro L σ r h H locs ls hP hD hS hl
        rw [x_character] at h
        refine lv_aload_n hx hb dX12_character_0 rfl (lv_at hl 0 rfl) ?_
        refine lv_iload_n hx hb dX12_character_1 rfl (lv_at hl 1 rfl) ?_
        obtain ⟨r1, hc1, h⟩ := ob_ex h
        refine nc_Vi (As := [.int (L 1)]) (rest := []) ⟨hx, hb, hml, hown, hts⟩ (c_x_kind l dC dI cy a k (upd (fun _ => 0) 1 ((L 1))) σ r1 hc1 H.size) (cwV 1 hts g_x_character_kind_545 rfl rfl rfl hd_x_kind ⟨Nat.le_of_ble_eq_true rfl, Nat.le_of_ble_eq_true rfl⟩) hK hG hA hP hD hS rfl hl.1 rfl (Nat.le_of_ble_eq_true rfl) dX12_character_2 ⟨Nat.le_refl _, Nat.le_refl _⟩ (fun H locs hP hD hS => ?_)
        refine lv_iconst (v := 2) hx hb dX12_character_5 (by decide) ?_
        refine lv_icmp_eq (tgt := 14) hx hb dX12_character_6 (by decide) (fun c2 => ?_) (fun c2 => ?_)
        · rw [if_pos c2] at h
          exact ih.2.1 L r1.2 r h H locs ls hP hD hS (lv_sub hl [0, 1] rfl)
        · rw [if_neg c2] at h
          refine lv_aload_n hx hb dX12_character_9 rfl (lv_at hl 0 rfl) ?_
          obtain ⟨r3, hc3, h⟩ := ob_ex h
          refine nc_Vi (As := []) (rest := []) ⟨hx, hb, hml, hown, hts⟩ (c_x_wrongKind l dC dI cy a k (fun _ => 0) r1.2 r3 hc3 H.size) (cwV 0 hts g_x_character_wrongKind_666 rfl rfl rfl hd_x_wrongKind ⟨Nat.le_of_ble_eq_true rfl, Nat.le_of_ble_eq_true rfl⟩) hK hG hA hP hD hS rfl hl.1 rfl (Nat.le_of_ble_eq_true rfl) dX12_character_10 ⟨Nat.le_refl _, Nat.le_refl _⟩ (fun H locs hP hD hS => ?_)
          cases h
          exact W.iret (v := r3.1) hx hb hr (fun t ht hW => ⟨⟨r3.1, (), rfl, rfl, by rw [ht]; exact hP, va_K.moved hW.alike hK, hD⟩, hS.F ht⟩) hS.2.2 dX12_character_13
      · intro L σ r h H locs ls hP hD hS hl
        rw [x_character] at h
        refine lv_aload_n hx hb dX12_character_14 rfl (lv_at hl 0 rfl) ?_
        refine lv_iload_n hx hb dX12_character_15 rfl (lv_at hl 1 rfl) ?_
        refine lv_sipush (v := 255) hx hb dX12_character_16 (by decide) ?_
        obtain ⟨r1, hc1, h⟩ := ob_ex h
        refine nc_Vi (As := [.int (L 1), .int 255]) (rest := []) ⟨hx, hb, hml, hown, hts⟩ (c_x_intOf l dC dI cy a k (upd (upd (fun _ => 0) 1 ((L 1))) 2 255) (fun _ => 0) σ r1 hc1 H.size) (cwV 2 hts g_x_character_intOf_515 rfl rfl rfl hd_x_intOf ⟨Nat.le_of_ble_eq_true rfl, Nat.le_of_ble_eq_true rfl⟩) hK hG hA hP hD hS rfl hl.1 rfl (Nat.le_of_ble_eq_true rfl) dX12_character_19 ⟨Nat.le_refl _, Nat.le_refl _⟩ (fun H locs hP hD hS => ?_)
        refine lv_istore_n (lv' := [(2, .int r1.1), (0, .ref (a 0)), (1, .int (L 1))]) hx hb dX12_character_22 rfl hl (by decide) rfl (fun ls hl => ?_)
        refine lv_iload_n hx hb dX12_character_23 rfl (lv_at hl 0 rfl) ?_
        refine lv_if_lt (tgt := 34) hx hb dX12_character_24 (by decide) (fun c2 => ?_) (fun c2 => ?_)
        · rw [if_pos c2] at h
          exact ih.2.2.1 (upd L 2 r1.1) r1.2 r h H locs ls hP hD hS (lv_sub hl [1, 2, 0] rfl)
        · rw [if_neg c2] at h
          refine lv_iload_n hx hb dX12_character_27 rfl (lv_at hl 0 rfl) ?_
          refine lv_sipush (v := 255) hx hb dX12_character_28 (by decide) ?_
          refine lv_icmp_le (tgt := 41) hx hb dX12_character_31 (by decide) (fun c3 => ?_) (fun c3 => ?_)
          · rw [if_pos c3] at h
            exact ih.2.2.2 (upd L 2 r1.1) r1.2 r h H locs ls hP hD hS (lv_sub hl [1, 2, 0] rfl)
          · rw [if_neg c3] at h
            exact ih.2.2.1 (upd L 2 r1.1) r1.2 r h H locs ls hP hD hS (lv_sub hl [1, 2, 0] rfl)
      · intro L σ r h H locs ls hP hD hS hl
        rw [x_character] at h
        refine lv_aload_n hx hb dX12_character_34 rfl (lv_at hl 0 rfl) ?_
        refine lv_iconst (v := 4) hx hb dX12_character_35 (by decide) ?_
        obtain ⟨r1, hc1, h⟩ := ob_ex h
        refine nc_Vv (As := [.int 4]) (rest := []) ⟨hx, hb, hml, hown, hts⟩ (c_x_fail l dC dI cy a k (upd (fun _ => 0) 1 4) σ r1 hc1 H.size) (cwV 1 hts g_x_character_fail_369 rfl rfl rfl hd_x_fail ⟨Nat.le_of_ble_eq_true rfl, Nat.le_of_ble_eq_true rfl⟩) hK hG hA hP hD hS rfl hl.1 rfl (Nat.le_of_ble_eq_true rfl) dX12_character_36 ⟨Nat.le_refl _, Nat.le_refl _⟩ (fun H locs hP hD hS => ?_)
        refine lv_iconst (v := 0) hx hb dX12_character_39 (by decide) ?_
        cases h
        exact W.iret (v := 0) hx hb hr (fun t ht hW => ⟨⟨0, (), rfl, rfl, by rw [ht]; exact hP, va_K.moved hW.alike hK, hD⟩, hS.F ht⟩) hS.2.2 dX12_character_40
      · intro L σ r h H locs ls hP hD hS hl
        rw [x_character] at h
        refine lv_aload_n hx hb dX12_character_41 rfl (lv_at hl 0 rfl) ?_
        refine lv_iload_n hx hb dX12_character_42 rfl (lv_at hl 2 rfl) ?_
        obtain ⟨r1, hc1, h⟩ := ob_ex h
        refine nc_Vi (As := [.int (L 2)]) (rest := []) ⟨hx, hb, hml, hown, hts⟩ (c_x_byteString l dC dI cy a k (upd (fun _ => 0) 1 ((L 2))) σ r1 hc1 H.size) (cwV 1 hts g_x_character_byteString_691 rfl rfl rfl hd_x_byteString ⟨Nat.le_of_ble_eq_true rfl, Nat.le_of_ble_eq_true rfl⟩) hK hG hA hP hD hS rfl hl.1 rfl (Nat.le_of_ble_eq_true rfl) dX12_character_43 ⟨Nat.le_refl _, Nat.le_refl _⟩ (fun H locs hP hD hS => ?_)
        cases h
        exact W.iret (v := r1.1) hx hb hr (fun t ht hW => ⟨⟨r1.1, (), rfl, rfl, by rw [ht]; exact hP, va_K.moved hW.alike hK, hD⟩, hS.F ht⟩) hS.2.2 dX12_character_46
  exact (blk k0).1 L0 σ0 r0 h0 s.heap [] ls hP hD hS hl
/-! codeOf -/
def x_codeOf : Nat → Nat → (Nat → Int32) → MS → Option (Int32 × MS)
  | 0, _, _, _ => none
  | k + 1, 0, L, σ => ob (x_kind k 0 (upd (fun _ => 0) 1 ((L 1))) σ) (fun r1 => if r1.1 = 4 then (x_codeOf k 1 L r1.2) else (ob (x_wrongKind k 0 (fun _ => 0) r1.2) (fun r3 => some (r3.1, r3.2))))
  | k + 1, 1, L, σ => if ¬ (((((L 1)) + 1)) < 0 ∨ 1740000 ≤ ((((L 1)) + 1)).toNatClampNeg) then (if ((σ.2.2 28 ((((L 1)) + 1)).toNatClampNeg)) = 1 then (x_codeOf k 2 L σ) else (ob (x_fail k 0 (upd (fun _ => 0) 1 4) σ) (fun r3 => some (0, r3.2)))) else none
  | k + 1, 2, L, σ => if ¬ (((((L 1)) + 4)) < 0 ∨ 1740000 ≤ ((((L 1)) + 4)).toNatClampNeg) then (ob (x_small k 0 (upd (fun _ => 0) 1 ((σ.2.2 28 ((((L 1)) + 4)).toNatClampNeg))) σ) (fun r2 => some (r2.1, r2.2))) else none
  | _ + 1, _ + 3, _, _ => none
def o_x_codeOf : List Cond := [.methodLink RX12 545 yX12_kind, .instanceMethod yX12_kind, .selects RX12 yX12_kind yX12_kind, .initialized RX12, .methodLink RX12 666 yX12_wrongKind, .instanceMethod yX12_wrongKind, .selects RX12 yX12_wrongKind yX12_wrongKind, .fieldLink RX12 372 "SetHouseModel" "heap" "[I", .methodLink RX12 369 yX12_fail, .instanceMethod yX12_fail, .selects RX12 yX12_fail yX12_fail, .methodLink RX12 518 yX12_small, .instanceMethod yX12_small, .selects RX12 yX12_small yX12_small]
theorem o_x_codeOf_good : o_x_codeOf.all goodWord = true := by decide +kernel
def p_x_codeOf : List Cond := o_x_codeOf ++ ((.code yX12_kind cX12_kind 2 (some .int) :: p_x_kind) ++ ((.code yX12_wrongKind cX12_wrongKind 1 (some .int) :: p_x_wrongKind) ++ ((.code yX12_fail cX12_fail 2 none :: p_x_fail) ++ ((.code yX12_small cX12_small 3 (some .int) :: p_x_small) ++ []))))
theorem p_x_codeOf_good : p_x_codeOf.all goodWord = true := nb_all2 o_x_codeOf_good (nb_all2 (nb_allc (by decide +kernel) p_x_kind_good) (nb_all2 (nb_allc (by decide +kernel) p_x_wrongKind_good) (nb_all2 (nb_allc (by decide +kernel) p_x_fail_good) (nb_all2 (nb_allc (by decide +kernel) p_x_small_good) rfl))))
def w_x_codeOf : List Cond := .code yX12_codeOf cX12_codeOf 2 (some .int) :: (p_x_codeOf ++ fM)
theorem w_x_codeOf_good : w_x_codeOf.all goodWord = true := nb_allc (by decide +kernel) (nb_all2 p_x_codeOf_good fM_good)
theorem in_x_codeOf : ∀ w ∈ wsX120, w ∈ w_x_codeOf := fun _ h => List.mem_cons_of_mem _ (List.mem_append_right _ h)
theorem hd_x_codeOf : yX12_codeOf.cls = RX12 ∧ yX12_codeOf.cls ≠ "java/lang/invoke/MethodHandle" ∧ yX12_codeOf.cls ≠ "java/lang/invoke/VarHandle" ∧ (parseMethodDescriptor yX12_codeOf.desc).map (fun d => d.parameters.length) = some 1 := by decide +kernel
theorem gg_x_codeOf_fail : GoodIn w_x_codeOf w_x_fail := goodIn_sub (fun w h => (List.mem_cons.mp h).elim (fun e => (List.mem_cons_of_mem _ (List.mem_append_left _ (List.mem_append_right _ (List.mem_append_right _ (List.mem_append_right _ (List.mem_append_left _ (List.mem_cons.mpr (Or.inl e))))))))) (fun h => (List.mem_append.mp h).elim (fun h => (List.mem_cons_of_mem _ (List.mem_append_left _ (List.mem_append_right _ (List.mem_append_right _ (List.mem_append_right _ (List.mem_append_left _ (List.mem_cons_of_mem _ h)))))))) (fun h => List.mem_cons_of_mem _ (List.mem_append_right _ h)))) w_x_fail_good
theorem g_x_codeOf_fail_369 : GoodIn w_x_codeOf (wsV RX12 369 RX12 yX12_fail w_x_fail) := goodIn_app (nb_g4 (List.mem_cons_of_mem _ (List.mem_append_left _ (List.mem_append_left _ (List.mem_of_getElem? (i := 8) rfl)))) (List.mem_cons_of_mem _ (List.mem_append_left _ (List.mem_append_left _ (List.mem_of_getElem? (i := 9) rfl)))) (List.mem_cons_of_mem _ (List.mem_append_left _ (List.mem_append_left _ (List.mem_of_getElem? (i := 10) rfl)))) (List.mem_cons_of_mem _ (List.mem_append_left _ (List.mem_append_left _ (List.mem_of_getElem? (i := 3) rfl)))) (by decide +kernel)) gg_x_codeOf_fail
theorem gg_x_codeOf_kind : GoodIn w_x_codeOf w_x_kind := goodIn_sub (fun w h => (List.mem_cons.mp h).elim (fun e => (List.mem_cons_of_mem _ (List.mem_append_left _ (List.mem_append_right _ (List.mem_append_left _ (List.mem_cons.mpr (Or.inl e))))))) (fun h => (List.mem_append.mp h).elim (fun h => (List.mem_cons_of_mem _ (List.mem_append_left _ (List.mem_append_right _ (List.mem_append_left _ (List.mem_cons_of_mem _ h)))))) (fun h => List.mem_cons_of_mem _ (List.mem_append_right _ h)))) w_x_kind_good
theorem g_x_codeOf_kind_545 : GoodIn w_x_codeOf (wsV RX12 545 RX12 yX12_kind w_x_kind) := goodIn_app (nb_g4 (List.mem_cons_of_mem _ (List.mem_append_left _ (List.mem_append_left _ (List.mem_of_getElem? (i := 0) rfl)))) (List.mem_cons_of_mem _ (List.mem_append_left _ (List.mem_append_left _ (List.mem_of_getElem? (i := 1) rfl)))) (List.mem_cons_of_mem _ (List.mem_append_left _ (List.mem_append_left _ (List.mem_of_getElem? (i := 2) rfl)))) (List.mem_cons_of_mem _ (List.mem_append_left _ (List.mem_append_left _ (List.mem_of_getElem? (i := 3) rfl)))) (by decide +kernel)) gg_x_codeOf_kind
theorem gg_x_codeOf_small : GoodIn w_x_codeOf w_x_small := goodIn_sub (fun w h => (List.mem_cons.mp h).elim (fun e => (List.mem_cons_of_mem _ (List.mem_append_left _ (List.mem_append_right _ (List.mem_append_right _ (List.mem_append_right _ (List.mem_append_right _ (List.mem_append_left _ (List.mem_cons.mpr (Or.inl e)))))))))) (fun h => (List.mem_append.mp h).elim (fun h => (List.mem_cons_of_mem _ (List.mem_append_left _ (List.mem_append_right _ (List.mem_append_right _ (List.mem_append_right _ (List.mem_append_right _ (List.mem_append_left _ (List.mem_cons_of_mem _ h))))))))) (fun h => List.mem_cons_of_mem _ (List.mem_append_right _ h)))) w_x_small_good
theorem g_x_codeOf_small_518 : GoodIn w_x_codeOf (wsV RX12 518 RX12 yX12_small w_x_small) := goodIn_app (nb_g4 (List.mem_cons_of_mem _ (List.mem_append_left _ (List.mem_append_left _ (List.mem_of_getElem? (i := 11) rfl)))) (List.mem_cons_of_mem _ (List.mem_append_left _ (List.mem_append_left _ (List.mem_of_getElem? (i := 12) rfl)))) (List.mem_cons_of_mem _ (List.mem_append_left _ (List.mem_append_left _ (List.mem_of_getElem? (i := 13) rfl)))) (List.mem_cons_of_mem _ (List.mem_append_left _ (List.mem_append_left _ (List.mem_of_getElem? (i := 3) rfl)))) (by decide +kernel)) gg_x_codeOf_small
theorem gg_x_codeOf_wrongKind : GoodIn w_x_codeOf w_x_wrongKind := goodIn_sub (fun w h => (List.mem_cons.mp h).elim (fun e => (List.mem_cons_of_mem _ (List.mem_append_left _ (List.mem_append_right _ (List.mem_append_right _ (List.mem_append_left _ (List.mem_cons.mpr (Or.inl e)))))))) (fun h => (List.mem_append.mp h).elim (fun h => (List.mem_cons_of_mem _ (List.mem_append_left _ (List.mem_append_right _ (List.mem_append_right _ (List.mem_append_left _ (List.mem_cons_of_mem _ h))))))) (fun h => List.mem_cons_of_mem _ (List.mem_append_right _ h)))) w_x_wrongKind_good
theorem g_x_codeOf_wrongKind_666 : GoodIn w_x_codeOf (wsV RX12 666 RX12 yX12_wrongKind w_x_wrongKind) := goodIn_app (nb_g4 (List.mem_cons_of_mem _ (List.mem_append_left _ (List.mem_append_left _ (List.mem_of_getElem? (i := 4) rfl)))) (List.mem_cons_of_mem _ (List.mem_append_left _ (List.mem_append_left _ (List.mem_of_getElem? (i := 5) rfl)))) (List.mem_cons_of_mem _ (List.mem_append_left _ (List.mem_append_left _ (List.mem_of_getElem? (i := 6) rfl)))) (List.mem_cons_of_mem _ (List.mem_append_left _ (List.mem_append_left _ (List.mem_of_getElem? (i := 3) rfl)))) (by decide +kernel)) gg_x_codeOf_wrongKind
set_option maxHeartbeats 40000000 in
set_option maxRecDepth 100000 in
theorem c_x_codeOf (l : Launch) (dC : Nat → ClassId) (dI : Nat → Nat → Nat) (cy : Nat → ClassId) (a : Nat → Nat) (k0 : Nat) (L0 : Nat → Int32) (σ0 : MS) (r0 : Int32 × MS) (h0 : x_codeOf k0 0 L0 σ0 = some r0) (sz : Nat) : Met l yX12_codeOf w_x_codeOf ({ frames := 4, cells := 0, slots := 0, locals := 89 }) (va_Pc [.ref (a 0), .int (L0 1)] (nIn (dC, dI) cy sz (vM cy a σ0))) (va_Qi (fun (z : Int32) (_ : Unit) => z = r0.1) (fun _ t => nOut (dC, dI) cy (va_A (vM cy a σ0) sz) (vM cy a r0.2) t) (va_A (vM cy a σ0) sz)) 0 0 (va_A (vM cy a σ0) sz) := by
  refine Met.ofW (cc := cX12_codeOf) (maxL := 2) (ret := (some .int)) (by decide) rfl ?_
  intro p e s m args below meth c s₁ B hml hv
  obtain ⟨rfl, hsz, hP, hK, hD0, hG⟩ := hv
  have hx := B.exec
  have hb := B.bytes
  have hr := B.returns
  have hts := atoms_spec (ws := w_x_codeOf) B.pre
  have hown : s.vm.findClass RX12 = some m.cls := findClass_of_methodNamed B.named
  have hlocks := B.notSynchronized
  subst hsz
  have hD := hD0.self (sz := s.heap.size)
  generalize hAe : va_A (vM cy a σ0) s.heap.size = A at hD ⊢
  have hA : ∀ q : Nat, s.heap.size ≤ q → A q := fun q h => by rw [← hAe]; exact Or.inr h
  have hS : va_S A s.heap s.heap [] := va_S.rf
  have hl := lv_entry ([.ref (a 0), .int (L0 1)]) (n := 2) (Nat.le_of_ble_eq_true rfl)
  rw [lg_entry_eq]
  generalize (lg_sl ([.ref (a 0), .int (L0 1)]) ++ List.replicate (2 - (lg_sl ([.ref (a 0), .int (L0 1)])).length) Slot.unset).toArray = ls at hl ⊢
  have hl : lv_has ls 2 [(0, .ref (a 0)), (1, .int (L0 1))] := hl
  have blk : ∀ k : Nat, (bT p l e (headSpec w_x_codeOf ({ frames := 4, cells := 0, slots := 0, locals := 89 })).room s m #[.ref (a 0), .int (L0 1)] below meth c dC dI cy a A (qI dC dI cy a A below #[.ref (a 0), .int (L0 1)] s) 2 (x_codeOf k 0) (fun L => [(0, .ref (a 0)), (1, .int (L 1))]) 0 (fun L => [])) ∧ (bT p l e (headSpec w_x_codeOf ({ frames := 4, cells := 0, slots := 0, locals := 89 })).room s m #[.ref (a 0), .int (L0 1)] below meth c dC dI cy a A (qI dC dI cy a A below #[.ref (a 0), .int (L0 1)] s) 2 (x_codeOf k 1) (fun L => [(0, .ref (a 0)), (1, .int (L 1))]) 14 (fun L => [])) ∧ (bT p l e (headSpec w_x_codeOf ({ frames := 4, cells := 0, slots := 0, locals := 89 })).room s m #[.ref (a 0), .int (L0 1)] below meth c dC dI cy a A (qI dC dI cy a A below #[.ref (a 0), .int (L0 1)] s) 2 (x_codeOf k 2) (fun L => [(0, .ref (a 0)), (1, .int (L 1))]) 33 (fun L => [])) := by
    intro k
    induction k with
    | zero => exact ⟨fun L σ r h => (by cases h), fun L σ r h => (by cases h), fun L σ r h => (by cases h)⟩
    | succ k ih =>
      refine ⟨?_, ?_, ?_⟩
      · intro L σ r h H locs ls hP hD hS hl
        rw [x_codeOf] at h
        refine lv_aload_n hx hb dX12_codeOf_0 rfl (lv_at hl 0 rfl) ?_
        refine lv_iload_n hx hb dX12_codeOf_1 rfl (lv_at hl 1 rfl) ?_
        obtain ⟨r1, hc1, h⟩ := ob_ex h
        refine nc_Vi (As := [.int (L 1)]) (rest := []) ⟨hx, hb, hml, hown, hts⟩ (c_x_kind l dC dI cy a k (upd (fun _ => 0) 1 ((L 1))) σ r1 hc1 H.size) (cwV 1 hts g_x_codeOf_kind_545 rfl rfl rfl hd_x_kind ⟨Nat.le_of_ble_eq_true rfl, Nat.le_of_ble_eq_true rfl⟩) hK hG hA hP hD hS rfl hl.1 rfl (Nat.le_of_ble_eq_true rfl) dX12_codeOf_2 ⟨Nat.le_refl _, Nat.le_refl _⟩ (fun H locs hP hD hS => ?_)
        refine lv_iconst (v := 4) hx hb dX12_codeOf_5 (by decide) ?_
        refine lv_icmp_eq (tgt := 14) hx hb dX12_codeOf_6 (by decide) (fun c2 => ?_) (fun c2 => ?_)
        · rw [if_pos c2] at h
          exact ih.2.1 L r1.2 r h H locs ls hP hD hS (lv_sub hl [0, 1] rfl)
        · rw [if_neg c2] at h
          refine lv_aload_n hx hb dX12_codeOf_9 rfl (lv_at hl 0 rfl) ?_
          obtain ⟨r3, hc3, h⟩ := ob_ex h
          refine nc_Vi (As := []) (rest := []) ⟨hx, hb, hml, hown, hts⟩ (c_x_wrongKind l dC dI cy a k (fun _ => 0) r1.2 r3 hc3 H.size) (cwV 0 hts g_x_codeOf_wrongKind_666 rfl rfl rfl hd_x_wrongKind ⟨Nat.le_of_ble_eq_true rfl, Nat.le_of_ble_eq_true rfl⟩) hK hG hA hP hD hS rfl hl.1 rfl (Nat.le_of_ble_eq_true rfl) dX12_codeOf_10 ⟨Nat.le_refl _, Nat.le_refl _⟩ (fun H locs hP hD hS => ?_)
          cases h
          exact W.iret (v := r3.1) hx hb hr (fun t ht hW => ⟨⟨r3.1, (), rfl, rfl, by rw [ht]; exact hP, va_K.moved hW.alike hK, hD⟩, hS.F ht⟩) hS.2.2 dX12_codeOf_13
      · intro L σ r h H locs ls hP hD hS hl
        rw [x_codeOf] at h
        refine lv_aload_n hx hb dX12_codeOf_14 rfl (lv_at hl 0 rfl) ?_
        refine ng_53 hx hb hts in_x_codeOf hown hK hP (hts _ (List.mem_cons_of_mem _ (List.mem_append_left _ (List.mem_append_left _ (List.mem_of_getElem? (i := 7) rfl))))) dX12_codeOf_15 ?_
        refine lv_iload_n hx hb dX12_codeOf_18 rfl (lv_at hl 1 rfl) ?_
        refine lv_iconst (v := 1) hx hb dX12_codeOf_19 (by decide) ?_
        refine lv_iadd hx hb dX12_codeOf_20 ?_
        obtain ⟨q1, h⟩ := nb_ite1 h
        refine nl_28 hx hb hK hP q1 dX12_codeOf_21 ?_
        refine lv_iconst (v := 1) hx hb dX12_codeOf_22 (by decide) ?_
        refine lv_icmp_eq (tgt := 33) hx hb dX12_codeOf_23 (by decide) (fun c2 => ?_) (fun c2 => ?_)
        · rw [if_pos c2] at h
          exact ih.2.2 L σ r h H locs ls hP hD hS (lv_sub hl [0, 1] rfl)
        · rw [if_neg c2] at h
          refine lv_aload_n hx hb dX12_codeOf_26 rfl (lv_at hl 0 rfl) ?_
          refine lv_iconst (v := 4) hx hb dX12_codeOf_27 (by decide) ?_
          obtain ⟨r3, hc3, h⟩ := ob_ex h
          refine nc_Vv (As := [.int 4]) (rest := []) ⟨hx, hb, hml, hown, hts⟩ (c_x_fail l dC dI cy a k (upd (fun _ => 0) 1 4) σ r3 hc3 H.size) (cwV 1 hts g_x_codeOf_fail_369 rfl rfl rfl hd_x_fail ⟨Nat.le_of_ble_eq_true rfl, Nat.le_of_ble_eq_true rfl⟩) hK hG hA hP hD hS rfl hl.1 rfl (Nat.le_of_ble_eq_true rfl) dX12_codeOf_28 ⟨Nat.le_refl _, Nat.le_refl _⟩ (fun H locs hP hD hS => ?_)
          refine lv_iconst (v := 0) hx hb dX12_codeOf_31 (by decide) ?_
          cases h
          exact W.iret (v := 0) hx hb hr (fun t ht hW => ⟨⟨0, (), rfl, rfl, by rw [ht]; exact hP, va_K.moved hW.alike hK, hD⟩, hS.F ht⟩) hS.2.2 dX12_codeOf_32
      · intro L σ r h H locs ls hP hD hS hl
        rw [x_codeOf] at h
        refine lv_aload_n hx hb dX12_codeOf_33 rfl (lv_at hl 0 rfl) ?_
        refine lv_aload_n hx hb dX12_codeOf_34 rfl (lv_at hl 0 rfl) ?_
        refine ng_53 hx hb hts in_x_codeOf hown hK hP (hts _ (List.mem_cons_of_mem _ (List.mem_append_left _ (List.mem_append_left _ (List.mem_of_getElem? (i := 7) rfl))))) dX12_codeOf_35 ?_
        refine lv_iload_n hx hb dX12_codeOf_38 rfl (lv_at hl 1 rfl) ?_
        refine lv_iconst (v := 4) hx hb dX12_codeOf_39 (by decide) ?_
        refine lv_iadd hx hb dX12_codeOf_40 ?_
        obtain ⟨q1, h⟩ := nb_ite1 h
        refine nl_28 hx hb hK hP q1 dX12_codeOf_41 ?_
        obtain ⟨r2, hc2, h⟩ := ob_ex h
        refine nc_Vi (As := [.int (σ.2.2 28 ((((L 1)) + 4)).toNatClampNeg)]) (rest := []) ⟨hx, hb, hml, hown, hts⟩ (c_x_small l dC dI cy a k (upd (fun _ => 0) 1 ((σ.2.2 28 ((((L 1)) + 4)).toNatClampNeg))) σ r2 hc2 H.size) (cwV 1 hts g_x_codeOf_small_518 rfl rfl rfl hd_x_small ⟨Nat.le_of_ble_eq_true rfl, Nat.le_of_ble_eq_true rfl⟩) hK hG hA hP hD hS rfl hl.1 rfl (Nat.le_of_ble_eq_true rfl) dX12_codeOf_42 ⟨Nat.le_refl _, Nat.le_refl _⟩ (fun H locs hP hD hS => ?_)
        cases h
        exact W.iret (v := r2.1) hx hb hr (fun t ht hW => ⟨⟨r2.1, (), rfl, rfl, by rw [ht]; exact hP, va_K.moved hW.alike hK, hD⟩, hS.F ht⟩) hS.2.2 dX12_codeOf_45
  exact (blk k0).1 L0 σ0 r0 h0 s.heap [] ls hP hD hS hl
/-! draw -/
def x_draw : Nat → Nat → (Nat → Int32) → MS → Option (Int32 × MS)
  | 0, _, _, _ => none
  | k + 1, 0, L, σ => x_draw k 1 L (σ.1, updW σ.2.1 96 ((((((σ.2.1 96)) * 6364136223846793005)) + 1442695040888963407)), σ.2.2)
  | k + 1, 1, L, σ => if ((((L 1)).toInt64)) = 0 then none else (some (((((((((σ.2.1 96)).toUInt64 >>> ((33 : Int32).toInt64.toUInt64 &&& Int64.toUInt64 63)).toInt64)) - (((((σ.2.1 96)).toUInt64 >>> ((33 : Int32).toInt64.toUInt64 &&& Int64.toUInt64 63)).toInt64)) / ((((L 1)).toInt64)) * ((((L 1)).toInt64)))).toInt32), σ))
  | _ + 1, _ + 2, _, _ => none
def o_x_draw : List Cond := [.fieldLink RX12 791 "SetHouseModel" "seed" "J", .constantLong RX12 795 (6364136223846793005), .constantLong RX12 797 (1442695040888963407)]
theorem o_x_draw_good : o_x_draw.all goodWord = true := by decide +kernel
def p_x_draw : List Cond := o_x_draw ++ []
theorem p_x_draw_good : p_x_draw.all goodWord = true := nb_all2 o_x_draw_good rfl
def w_x_draw : List Cond := .code yX12_draw cX12_draw 2 (some .int) :: (p_x_draw ++ fM)
theorem w_x_draw_good : w_x_draw.all goodWord = true := nb_allc (by decide +kernel) (nb_all2 p_x_draw_good fM_good)
theorem in_x_draw : ∀ w ∈ wsX120, w ∈ w_x_draw := fun _ h => List.mem_cons_of_mem _ (List.mem_append_right _ h)
theorem hd_x_draw : yX12_draw.cls = RX12 ∧ yX12_draw.cls ≠ "java/lang/invoke/MethodHandle" ∧ yX12_draw.cls ≠ "java/lang/invoke/VarHandle" ∧ (parseMethodDescriptor yX12_draw.desc).map (fun d => d.parameters.length) = some 1 := by decide +kernel
set_option maxHeartbeats 40000000 in
set_option maxRecDepth 100000 in
theorem c_x_draw (l : Launch) (dC : Nat → ClassId) (dI : Nat → Nat → Nat) (cy : Nat → ClassId) (a : Nat → Nat) (k0 : Nat) (L0 : Nat → Int32) (σ0 : MS) (r0 : Int32 × MS) (h0 : x_draw k0 0 L0 σ0 = some r0) (sz : Nat) : Met l yX12_draw w_x_draw ({ frames := 0, cells := 0, slots := 0, locals := 0 }) (va_Pc [.ref (a 0), .int (L0 1)] (nIn (dC, dI) cy sz (vM cy a σ0))) (va_Qi (fun (z : Int32) (_ : Unit) => z = r0.1) (fun _ t => nOut (dC, dI) cy (va_A (vM cy a σ0) sz) (vM cy a r0.2) t) (va_A (vM cy a σ0) sz)) 0 0 (va_A (vM cy a σ0) sz) := by
  refine Met.ofW (cc := cX12_draw) (maxL := 2) (ret := (some .int)) (by decide) rfl ?_
  intro p e s m args below meth c s₁ B hml hv
  obtain ⟨rfl, hsz, hP, hK, hD0, hG⟩ := hv
  have hx := B.exec
  have hb := B.bytes
  have hr := B.returns
  have hts := atoms_spec (ws := w_x_draw) B.pre
  have hown : s.vm.findClass RX12 = some m.cls := findClass_of_methodNamed B.named
  have hlocks := B.notSynchronized
  subst hsz
  have hD := hD0.self (sz := s.heap.size)
  generalize hAe : va_A (vM cy a σ0) s.heap.size = A at hD ⊢
  have hA : ∀ q : Nat, s.heap.size ≤ q → A q := fun q h => by rw [← hAe]; exact Or.inr h
  have hS : va_S A s.heap s.heap [] := va_S.rf
  have hl := lv_entry ([.ref (a 0), .int (L0 1)]) (n := 2) (Nat.le_of_ble_eq_true rfl)
  rw [lg_entry_eq]
  generalize (lg_sl ([.ref (a 0), .int (L0 1)]) ++ List.replicate (2 - (lg_sl ([.ref (a 0), .int (L0 1)])).length) Slot.unset).toArray = ls at hl ⊢
  have hl : lv_has ls 2 [(0, .ref (a 0)), (1, .int (L0 1))] := hl
  have blk : ∀ k : Nat, (bT p l e (headSpec w_x_draw ({ frames := 0, cells := 0, slots := 0, locals := 0 })).room s m #[.ref (a 0), .int (L0 1)] below meth c dC dI cy a A (qI dC dI cy a A below #[.ref (a 0), .int (L0 1)] s) 2 (x_draw k 0) (fun L => [(0, .ref (a 0)), (1, .int (L 1))]) 0 (fun L => [])) ∧ (bT p l e (headSpec w_x_draw ({ frames := 0, cells := 0, slots := 0, locals := 0 })).room s m #[.ref (a 0), .int (L0 1)] below meth c dC dI cy a A (qI dC dI cy a A below #[.ref (a 0), .int (L0 1)] s) 2 (x_draw k 1) (fun L => [(0, .ref (a 0)), (1, .int (L 1))]) 16 (fun L => [])) := by
    intro k
    induction k with
    | zero => exact ⟨fun L σ r h => (by cases h), fun L σ r h => (by cases h)⟩
    | succ k ih =>
      refine ⟨?_, ?_⟩
      · intro L σ r h H locs ls hP hD hS hl
        rw [x_draw] at h
        refine lv_aload_n hx hb dX12_draw_0 rfl (lv_at hl 0 rfl) ?_
        refine lv_aload_n hx hb dX12_draw_1 rfl (lv_at hl 0 rfl) ?_
        refine ng_96 hx hb hts in_x_draw hown hK hP (hts _ (List.mem_cons_of_mem _ (List.mem_append_left _ (List.mem_append_left _ (List.mem_of_getElem? (i := 0) rfl))))) dX12_draw_2 ?_
        refine lv_ldc2 (v := 6364136223846793005) hx hb hown (hts _ (List.mem_cons_of_mem _ (List.mem_append_left _ (List.mem_append_left _ (List.mem_of_getElem? (i := 1) rfl))))) dX12_draw_5 ?_
        refine lv_lmul hx hb dX12_draw_8 ?_
        refine lv_ldc2 (v := 1442695040888963407) hx hb hown (hts _ (List.mem_cons_of_mem _ (List.mem_append_left _ (List.mem_append_left _ (List.mem_of_getElem? (i := 2) rfl))))) dX12_draw_9 ?_
        refine lv_ladd hx hb dX12_draw_12 ?_
        refine np_96 hx hb hts in_x_draw hown hK hP hD hS (hts _ (List.mem_cons_of_mem _ (List.mem_append_left _ (List.mem_append_left _ (List.mem_of_getElem? (i := 0) rfl))))) dX12_draw_13 (fun H locs hP hD hS => ?_)
        exact ih.2 L (σ.1, updW σ.2.1 96 ((((((σ.2.1 96)) * 6364136223846793005)) + 1442695040888963407)), σ.2.2) r h H locs ls hP hD hS (lv_sub hl [0, 1] rfl)
      · intro L σ r h H locs ls hP hD hS hl
        rw [x_draw] at h
        refine lv_aload_n hx hb dX12_draw_16 rfl (lv_at hl 0 rfl) ?_
        refine ng_96 hx hb hts in_x_draw hown hK hP (hts _ (List.mem_cons_of_mem _ (List.mem_append_left _ (List.mem_append_left _ (List.mem_of_getElem? (i := 0) rfl))))) dX12_draw_17 ?_
        refine lv_bipush (v := 33) hx hb dX12_draw_20 (by decide) ?_
        refine lv_lushr (v := (((σ.2.1 96)).toUInt64 >>> ((33 : Int32).toInt64.toUInt64 &&& Int64.toUInt64 63)).toInt64) hx hb dX12_draw_22 rfl ?_
        refine lv_iload_n hx hb dX12_draw_23 rfl (lv_at hl 1 rfl) ?_
        refine lv_i2l (v := ((L 1)).toInt64) hx hb dX12_draw_24 rfl ?_
        obtain ⟨q1, h⟩ := nb_ite0 h
        refine lv_lrem hx hb dX12_draw_25 q1 ?_
        refine lv_l2i (v := (((((((σ.2.1 96)).toUInt64 >>> ((33 : Int32).toInt64.toUInt64 &&& Int64.toUInt64 63)).toInt64)) - (((((σ.2.1 96)).toUInt64 >>> ((33 : Int32).toInt64.toUInt64 &&& Int64.toUInt64 63)).toInt64)) / ((((L 1)).toInt64)) * ((((L 1)).toInt64)))).toInt32) hx hb dX12_draw_26 rfl ?_
        cases h
        exact W.iret (v := ((((((((σ.2.1 96)).toUInt64 >>> ((33 : Int32).toInt64.toUInt64 &&& Int64.toUInt64 63)).toInt64)) - (((((σ.2.1 96)).toUInt64 >>> ((33 : Int32).toInt64.toUInt64 &&& Int64.toUInt64 63)).toInt64)) / ((((L 1)).toInt64)) * ((((L 1)).toInt64)))).toInt32)) hx hb hr (fun t ht hW => ⟨⟨((((((((σ.2.1 96)).toUInt64 >>> ((33 : Int32).toInt64.toUInt64 &&& Int64.toUInt64 63)).toInt64)) - (((((σ.2.1 96)).toUInt64 >>> ((33 : Int32).toInt64.toUInt64 &&& Int64.toUInt64 63)).toInt64)) / ((((L 1)).toInt64)) * ((((L 1)).toInt64)))).toInt32), (), rfl, rfl, by rw [ht]; exact hP, va_K.moved hW.alike hK, hD⟩, hS.F ht⟩) hS.2.2 dX12_draw_27
  exact (blk k0).1 L0 σ0 r0 h0 s.heap [] ls hP hD hS hl
/-! drawn -/
def x_drawn : Nat → Nat → (Nat → Int32) → MS → Option (Int32 × MS)
  | 0, _, _, _ => none
  | k + 1, 0, L, σ => ob (x_kind k 0 (upd (fun _ => 0) 1 ((L 1))) σ) (fun r1 => if r1.1 = 2 then (if ¬ (((((L 1)) + 1)) < 0 ∨ 1740000 ≤ ((((L 1)) + 1)).toNatClampNeg) then (if ((r1.2.2.2 28 ((((L 1)) + 1)).toNatClampNeg)) ≤ 3 then (x_drawn k 1 (upd L 2 r1.1) r1.2) else (x_drawn k 2 (upd (upd L 2 r1.1) 100 0) r1.2)) else none) else (x_drawn k 9 (upd L 2 r1.1) r1.2))
  | k + 1, 1, L, σ => ob (x_intOf k 0 (upd (upd (fun _ => 0) 1 ((L 1))) 2 2147483646) (fun _ => 0) σ) (fun r1 => x_drawn k 2 (upd L 100 r1.1) r1.2)
  | k + 1, 2, L, σ => if ¬ (((((L 1)) + 1)) < 0 ∨ 1740000 ≤ ((((L 1)) + 1)).toNatClampNeg) then (if ((σ.2.2 28 ((((L 1)) + 1)).toNatClampNeg)) = 3 then (ob (x_signOf k 0 (upd (fun _ => 0) 1 ((L 1))) σ) (fun r3 => if r3.1 ≤ 0 then (x_drawn k 3 (upd L 3 ((L 100))) r3.2) else (if ¬ (((((L 1)) + 5)) < 0 ∨ 1740000 ≤ ((((L 1)) + 5)).toNatClampNeg) then (if ((r3.2.2.2 28 ((((L 1)) + 5)).toNatClampNeg)) = 65535 then (if ¬ (((((L 1)) + 6)) < 0 ∨ 1740000 ≤ ((((L 1)) + 6)).toNatClampNeg) then (if ((r3.2.2.2 28 ((((L 1)) + 6)).toNatClampNeg)) = 32767 then (x_drawn k 4 (upd (upd L 3 ((L 100))) 100 1) r3.2) else (x_drawn k 3 (upd L 3 ((L 100))) r3.2)) else none) else (x_drawn k 3 (upd L 3 ((L 100))) r3.2)) else none))) else (x_drawn k 3 (upd L 3 ((L 100))) σ)) else none
  | k + 1, 3, L, σ => x_drawn k 4 (upd L 100 0) σ
  | k + 1, 4, L, σ => if ((L 3)) < 1 then (x_drawn k 5 (upd L 4 ((L 100))) σ) else (if ((L 100)) = 0 then (if ((L 3)) = 2147483647 then (x_drawn k 5 (upd L 4 ((L 100))) σ) else (x_drawn k 6 (upd L 4 ((L 100))) σ)) else (x_drawn k 6 (upd L 4 ((L 100))) σ))
  | k + 1, 5, L, σ => ob (x_fail k 0 (upd (fun _ => 0) 1 4) σ) (fun r1 => some (0, r1.2))
  | k + 1, 6, L, σ => if ((L 4)) = 0 then (x_drawn k 7 (upd L 101 1) σ) else (x_drawn k 8 (upd (upd L 100 2147483647) 102 1) σ)
  | k + 1, 7, L, σ => x_drawn k 8 (upd (upd L 100 ((L 3))) 102 ((L 101))) σ
  | k + 1, 8, L, σ => ob (x_draw k 0 (upd (fun _ => 0) 1 ((L 100))) σ) (fun r1 => ob (x_small k 0 (upd (fun _ => 0) 1 ((((L 102)) + r1.1))) r1.2) (fun r2 => some (r2.1, r2.2)))
  | k + 1, 9, L, σ => if 4 ≤ ((L 2)) then (x_drawn k 10 L σ) else (ob (x_wrongKind k 0 (fun _ => 0) σ) (fun r2 => some (r2.1, r2.2)))
  | k + 1, 10, L, σ => if ¬ (((((L 1)) + 1)) < 0 ∨ 1740000 ≤ ((((L 1)) + 1)).toNatClampNeg) then (if ((σ.2.2 28 ((((L 1)) + 1)).toNatClampNeg)) = 0 then (x_drawn k 12 (upd L 100 0) σ) else (x_drawn k 11 L σ)) else none
  | k + 1, 11, L, σ => if ¬ (((((L 1)) + 1)) < 0 ∨ 1740000 ≤ ((((L 1)) + 1)).toNatClampNeg) then (ob (x_draw k 0 (upd (fun _ => 0) 1 ((σ.2.2 28 ((((L 1)) + 1)).toNatClampNeg))) σ) (fun r2 => ob (x_memberAt k 0 (upd (upd (fun _ => 0) 1 ((L 1))) 2 r2.1) r2.2) (fun r3 => x_drawn k 12 (upd L 100 r3.1) r3.2))) else none
  | k + 1, 12, L, σ => some ((L 100), σ)
  | _ + 1, _ + 13, _, _ => none
def o_x_drawn : List Cond := [.methodLink RX12 545 yX12_kind, .instanceMethod yX12_kind, .selects RX12 yX12_kind yX12_kind, .initialized RX12, .fieldLink RX12 372 "SetHouseModel" "heap" "[I", .constant RX12 799 (2147483646), .methodLink RX12 515 yX12_intOf, .instanceMethod yX12_intOf, .selects RX12 yX12_intOf yX12_intOf, .methodLink RX12 463 yX12_signOf, .instanceMethod yX12_signOf, .selects RX12 yX12_signOf yX12_signOf, .constant RX12 484 (65535), .constant RX12 800 (2147483647), .methodLink RX12 369 yX12_fail, .instanceMethod yX12_fail, .selects RX12 yX12_fail yX12_fail, .methodLink RX12 801 yX12_draw, .instanceMethod yX12_draw, .selects RX12 yX12_draw yX12_draw, .methodLink RX12 518 yX12_small, .instanceMethod yX12_small, .selects RX12 yX12_small yX12_small, .methodLink RX12 666 yX12_wrongKind, .instanceMethod yX12_wrongKind, .selects RX12 yX12_wrongKind yX12_wrongKind, .methodLink RX12 703 yX12_memberAt, .instanceMethod yX12_memberAt, .selects RX12 yX12_memberAt yX12_memberAt]
theorem o_x_drawn_good : o_x_drawn.all goodWord = true := by decide +kernel
def p_x_drawn : List Cond := o_x_drawn ++ ((.code yX12_kind cX12_kind 2 (some .int) :: p_x_kind) ++ ((.code yX12_intOf cX12_intOf 7 (some .int) :: p_x_intOf) ++ ((.code yX12_signOf cX12_signOf 2 (some .int) :: p_x_signOf) ++ ((.code yX12_fail cX12_fail 2 none :: p_x_fail) ++ ((.code yX12_draw cX12_draw 2 (some .int) :: p_x_draw) ++ ((.code yX12_small cX12_small 3 (some .int) :: p_x_small) ++ ((.code yX12_wrongKind cX12_wrongKind 1 (some .int) :: p_x_wrongKind) ++ ((.code yX12_memberAt cX12_memberAt 3 (some .int) :: p_x_memberAt) ++ []))))))))
theorem p_x_drawn_good : p_x_drawn.all goodWord = true := nb_all2 o_x_drawn_good (nb_all2 (nb_allc (by decide +kernel) p_x_kind_good) (nb_all2 (nb_allc (by decide +kernel) p_x_intOf_good) (nb_all2 (nb_allc (by decide +kernel) p_x_signOf_good) (nb_all2 (nb_allc (by decide +kernel) p_x_fail_good) (nb_all2 (nb_allc (by decide +kernel) p_x_draw_good) (nb_all2 (nb_allc (by decide +kernel) p_x_small_good) (nb_all2 (nb_allc (by decide +kernel) p_x_wrongKind_good) (nb_all2 (nb_allc (by decide +kernel) p_x_memberAt_good) rfl))))))))
def w_x_drawn : List Cond := .code yX12_drawn cX12_drawn 5 (some .int) :: (p_x_drawn ++ fM)
theorem w_x_drawn_good : w_x_drawn.all goodWord = true := nb_allc (by decide +kernel) (nb_all2 p_x_drawn_good fM_good)
theorem in_x_drawn : ∀ w ∈ wsX120, w ∈ w_x_drawn := fun _ h => List.mem_cons_of_mem _ (List.mem_append_right _ h)
theorem hd_x_drawn : yX12_drawn.cls = RX12 ∧ yX12_drawn.cls ≠ "java/lang/invoke/MethodHandle" ∧ yX12_drawn.cls ≠ "java/lang/invoke/VarHandle" ∧ (parseMethodDescriptor yX12_drawn.desc).map (fun d => d.parameters.length) = some 1 := by decide +kernel
theorem gg_x_drawn_draw : GoodIn w_x_drawn w_x_draw := goodIn_sub (fun w h => (List.mem_cons.mp h).elim (fun e => (List.mem_cons_of_mem _ (List.mem_append_left _ (List.mem_append_right _ (List.mem_append_right _ (List.mem_append_right _ (List.mem_append_right _ (List.mem_append_right _ (List.mem_append_left _ (List.mem_cons.mpr (Or.inl e))))))))))) (fun h => (List.mem_append.mp h).elim (fun h => (List.mem_cons_of_mem _ (List.mem_append_left _ (List.mem_append_right _ (List.mem_append_right _ (List.mem_append_right _ (List.mem_append_right _ (List.mem_append_right _ (List.mem_append_left _ (List.mem_cons_of_mem _ h)))))))))) (fun h => List.mem_cons_of_mem _ (List.mem_append_right _ h)))) w_x_draw_good
theorem g_x_drawn_draw_801 : GoodIn w_x_drawn (wsV RX12 801 RX12 yX12_draw w_x_draw) := goodIn_app (nb_g4 (List.mem_cons_of_mem _ (List.mem_append_left _ (List.mem_append_left _ (List.mem_of_getElem? (i := 17) rfl)))) (List.mem_cons_of_mem _ (List.mem_append_left _ (List.mem_append_left _ (List.mem_of_getElem? (i := 18) rfl)))) (List.mem_cons_of_mem _ (List.mem_append_left _ (List.mem_append_left _ (List.mem_of_getElem? (i := 19) rfl)))) (List.mem_cons_of_mem _ (List.mem_append_left _ (List.mem_append_left _ (List.mem_of_getElem? (i := 3) rfl)))) (by decide +kernel)) gg_x_drawn_draw
theorem gg_x_drawn_fail : GoodIn w_x_drawn w_x_fail := goodIn_sub (fun w h => (List.mem_cons.mp h).elim (fun e => (List.mem_cons_of_mem _ (List.mem_append_left _ (List.mem_append_right _ (List.mem_append_right _ (List.mem_append_right _ (List.mem_append_right _ (List.mem_append_left _ (List.mem_cons.mpr (Or.inl e)))))))))) (fun h => (List.mem_append.mp h).elim (fun h => (List.mem_cons_of_mem _ (List.mem_append_left _ (List.mem_append_right _ (List.mem_append_right _ (List.mem_append_right _ (List.mem_append_right _ (List.mem_append_left _ (List.mem_cons_of_mem _ h))))))))) (fun h => List.mem_cons_of_mem _ (List.mem_append_right _ h)))) w_x_fail_good
theorem g_x_drawn_fail_369 : GoodIn w_x_drawn (wsV RX12 369 RX12 yX12_fail w_x_fail) := goodIn_app (nb_g4 (List.mem_cons_of_mem _ (List.mem_append_left _ (List.mem_append_left _ (List.mem_of_getElem? (i := 14) rfl)))) (List.mem_cons_of_mem _ (List.mem_append_left _ (List.mem_append_left _ (List.mem_of_getElem? (i := 15) rfl)))) (List.mem_cons_of_mem _ (List.mem_append_left _ (List.mem_append_left _ (List.mem_of_getElem? (i := 16) rfl)))) (List.mem_cons_of_mem _ (List.mem_append_left _ (List.mem_append_left _ (List.mem_of_getElem? (i := 3) rfl)))) (by decide +kernel)) gg_x_drawn_fail
theorem gg_x_drawn_intOf : GoodIn w_x_drawn w_x_intOf := goodIn_sub (fun w h => (List.mem_cons.mp h).elim (fun e => (List.mem_cons_of_mem _ (List.mem_append_left _ (List.mem_append_right _ (List.mem_append_right _ (List.mem_append_left _ (List.mem_cons.mpr (Or.inl e)))))))) (fun h => (List.mem_append.mp h).elim (fun h => (List.mem_cons_of_mem _ (List.mem_append_left _ (List.mem_append_right _ (List.mem_append_right _ (List.mem_append_left _ (List.mem_cons_of_mem _ h))))))) (fun h => List.mem_cons_of_mem _ (List.mem_append_right _ h)))) w_x_intOf_good
theorem g_x_drawn_intOf_515 : GoodIn w_x_drawn (wsV RX12 515 RX12 yX12_intOf w_x_intOf) := goodIn_app (nb_g4 (List.mem_cons_of_mem _ (List.mem_append_left _ (List.mem_append_left _ (List.mem_of_getElem? (i := 6) rfl)))) (List.mem_cons_of_mem _ (List.mem_append_left _ (List.mem_append_left _ (List.mem_of_getElem? (i := 7) rfl)))) (List.mem_cons_of_mem _ (List.mem_append_left _ (List.mem_append_left _ (List.mem_of_getElem? (i := 8) rfl)))) (List.mem_cons_of_mem _ (List.mem_append_left _ (List.mem_append_left _ (List.mem_of_getElem? (i := 3) rfl)))) (by decide +kernel)) gg_x_drawn_intOf
theorem gg_x_drawn_kind : GoodIn w_x_drawn w_x_kind := goodIn_sub (fun w h => (List.mem_cons.mp h).elim (fun e => (List.mem_cons_of_mem _ (List.mem_append_left _ (List.mem_append_right _ (List.mem_append_left _ (List.mem_cons.mpr (Or.inl e))))))) (fun h => (List.mem_append.mp h).elim (fun h => (List.mem_cons_of_mem _ (List.mem_append_left _ (List.mem_append_right _ (List.mem_append_left _ (List.mem_cons_of_mem _ h)))))) (fun h => List.mem_cons_of_mem _ (List.mem_append_right _ h)))) w_x_kind_good
theorem g_x_drawn_kind_545 : GoodIn w_x_drawn (wsV RX12 545 RX12 yX12_kind w_x_kind) := goodIn_app (nb_g4 (List.mem_cons_of_mem _ (List.mem_append_left _ (List.mem_append_left _ (List.mem_of_getElem? (i := 0) rfl)))) (List.mem_cons_of_mem _ (List.mem_append_left _ (List.mem_append_left _ (List.mem_of_getElem? (i := 1) rfl)))) (List.mem_cons_of_mem _ (List.mem_append_left _ (List.mem_append_left _ (List.mem_of_getElem? (i := 2) rfl)))) (List.mem_cons_of_mem _ (List.mem_append_left _ (List.mem_append_left _ (List.mem_of_getElem? (i := 3) rfl)))) (by decide +kernel)) gg_x_drawn_kind
theorem gg_x_drawn_memberAt : GoodIn w_x_drawn w_x_memberAt := goodIn_sub (fun w h => (List.mem_cons.mp h).elim (fun e => (List.mem_cons_of_mem _ (List.mem_append_left _ (List.mem_append_right _ (List.mem_append_right _ (List.mem_append_right _ (List.mem_append_right _ (List.mem_append_right _ (List.mem_append_right _ (List.mem_append_right _ (List.mem_append_right _ (List.mem_append_left _ (List.mem_cons.mpr (Or.inl e)))))))))))))) (fun h => (List.mem_append.mp h).elim (fun h => (List.mem_cons_of_mem _ (List.mem_append_left _ (List.mem_append_right _ (List.mem_append_right _ (List.mem_append_right _ (List.mem_append_right _ (List.mem_append_right _ (List.mem_append_right _ (List.mem_append_right _ (List.mem_append_right _ (List.mem_append_left _ (List.mem_cons_of_mem _ h))))))))))))) (fun h => List.mem_cons_of_mem _ (List.mem_append_right _ h)))) w_x_memberAt_good
theorem g_x_drawn_memberAt_703 : GoodIn w_x_drawn (wsV RX12 703 RX12 yX12_memberAt w_x_memberAt) := goodIn_app (nb_g4 (List.mem_cons_of_mem _ (List.mem_append_left _ (List.mem_append_left _ (List.mem_of_getElem? (i := 26) rfl)))) (List.mem_cons_of_mem _ (List.mem_append_left _ (List.mem_append_left _ (List.mem_of_getElem? (i := 27) rfl)))) (List.mem_cons_of_mem _ (List.mem_append_left _ (List.mem_append_left _ (List.mem_of_getElem? (i := 28) rfl)))) (List.mem_cons_of_mem _ (List.mem_append_left _ (List.mem_append_left _ (List.mem_of_getElem? (i := 3) rfl)))) (by decide +kernel)) gg_x_drawn_memberAt
theorem gg_x_drawn_signOf : GoodIn w_x_drawn w_x_signOf := goodIn_sub (fun w h => (List.mem_cons.mp h).elim (fun e => (List.mem_cons_of_mem _ (List.mem_append_left _ (List.mem_append_right _ (List.mem_append_right _ (List.mem_append_right _ (List.mem_append_left _ (List.mem_cons.mpr (Or.inl e))))))))) (fun h => (List.mem_append.mp h).elim (fun h => (List.mem_cons_of_mem _ (List.mem_append_left _ (List.mem_append_right _ (List.mem_append_right _ (List.mem_append_right _ (List.mem_append_left _ (List.mem_cons_of_mem _ h)))))))) (fun h => List.mem_cons_of_mem _ (List.mem_append_right _ h)))) w_x_signOf_good
theorem g_x_drawn_signOf_463 : GoodIn w_x_drawn (wsV RX12 463 RX12 yX12_signOf w_x_signOf) := goodIn_app (nb_g4 (List.mem_cons_of_mem _ (List.mem_append_left _ (List.mem_append_left _ (List.mem_of_getElem? (i := 9) rfl)))) (List.mem_cons_of_mem _ (List.mem_append_left _ (List.mem_append_left _ (List.mem_of_getElem? (i := 10) rfl)))) (List.mem_cons_of_mem _ (List.mem_append_left _ (List.mem_append_left _ (List.mem_of_getElem? (i := 11) rfl)))) (List.mem_cons_of_mem _ (List.mem_append_left _ (List.mem_append_left _ (List.mem_of_getElem? (i := 3) rfl)))) (by decide +kernel)) gg_x_drawn_signOf
theorem gg_x_drawn_small : GoodIn w_x_drawn w_x_small := goodIn_sub (fun w h => (List.mem_cons.mp h).elim (fun e => (List.mem_cons_of_mem _ (List.mem_append_left _ (List.mem_append_right _ (List.mem_append_right _ (List.mem_append_right _ (List.mem_append_right _ (List.mem_append_right _ (List.mem_append_right _ (List.mem_append_left _ (List.mem_cons.mpr (Or.inl e)))))))))))) (fun h => (List.mem_append.mp h).elim (fun h => (List.mem_cons_of_mem _ (List.mem_append_left _ (List.mem_append_right _ (List.mem_append_right _ (List.mem_append_right _ (List.mem_append_right _ (List.mem_append_right _ (List.mem_append_right _ (List.mem_append_left _ (List.mem_cons_of_mem _ h))))))))))) (fun h => List.mem_cons_of_mem _ (List.mem_append_right _ h)))) w_x_small_good
theorem g_x_drawn_small_518 : GoodIn w_x_drawn (wsV RX12 518 RX12 yX12_small w_x_small) := goodIn_app (nb_g4 (List.mem_cons_of_mem _ (List.mem_append_left _ (List.mem_append_left _ (List.mem_of_getElem? (i := 20) rfl)))) (List.mem_cons_of_mem _ (List.mem_append_left _ (List.mem_append_left _ (List.mem_of_getElem? (i := 21) rfl)))) (List.mem_cons_of_mem _ (List.mem_append_left _ (List.mem_append_left _ (List.mem_of_getElem? (i := 22) rfl)))) (List.mem_cons_of_mem _ (List.mem_append_left _ (List.mem_append_left _ (List.mem_of_getElem? (i := 3) rfl)))) (by decide +kernel)) gg_x_drawn_small
theorem gg_x_drawn_wrongKind : GoodIn w_x_drawn w_x_wrongKind := goodIn_sub (fun w h => (List.mem_cons.mp h).elim (fun e => (List.mem_cons_of_mem _ (List.mem_append_left _ (List.mem_append_right _ (List.mem_append_right _ (List.mem_append_right _ (List.mem_append_right _ (List.mem_append_right _ (List.mem_append_right _ (List.mem_append_right _ (List.mem_append_left _ (List.mem_cons.mpr (Or.inl e))))))))))))) (fun h => (List.mem_append.mp h).elim (fun h => (List.mem_cons_of_mem _ (List.mem_append_left _ (List.mem_append_right _ (List.mem_append_right _ (List.mem_append_right _ (List.mem_append_right _ (List.mem_append_right _ (List.mem_append_right _ (List.mem_append_right _ (List.mem_append_left _ (List.mem_cons_of_mem _ h)))))))))))) (fun h => List.mem_cons_of_mem _ (List.mem_append_right _ h)))) w_x_wrongKind_good
theorem g_x_drawn_wrongKind_666 : GoodIn w_x_drawn (wsV RX12 666 RX12 yX12_wrongKind w_x_wrongKind) := goodIn_app (nb_g4 (List.mem_cons_of_mem _ (List.mem_append_left _ (List.mem_append_left _ (List.mem_of_getElem? (i := 23) rfl)))) (List.mem_cons_of_mem _ (List.mem_append_left _ (List.mem_append_left _ (List.mem_of_getElem? (i := 24) rfl)))) (List.mem_cons_of_mem _ (List.mem_append_left _ (List.mem_append_left _ (List.mem_of_getElem? (i := 25) rfl)))) (List.mem_cons_of_mem _ (List.mem_append_left _ (List.mem_append_left _ (List.mem_of_getElem? (i := 3) rfl)))) (by decide +kernel)) gg_x_drawn_wrongKind
set_option maxHeartbeats 40000000 in
set_option maxRecDepth 100000 in
theorem c_x_drawn (l : Launch) (dC : Nat → ClassId) (dI : Nat → Nat → Nat) (cy : Nat → ClassId) (a : Nat → Nat) (k0 : Nat) (L0 : Nat → Int32) (σ0 : MS) (r0 : Int32 × MS) (h0 : x_drawn k0 0 L0 σ0 = some r0) (sz : Nat) : Met l yX12_drawn w_x_drawn ({ frames := 4, cells := 0, slots := 0, locals := 89 }) (va_Pc [.ref (a 0), .int (L0 1)] (nIn (dC, dI) cy sz (vM cy a σ0))) (va_Qi (fun (z : Int32) (_ : Unit) => z = r0.1) (fun _ t => nOut (dC, dI) cy (va_A (vM cy a σ0) sz) (vM cy a r0.2) t) (va_A (vM cy a σ0) sz)) 0 0 (va_A (vM cy a σ0) sz) := by
  refine Met.ofW (cc := cX12_drawn) (maxL := 5) (ret := (some .int)) (by decide) rfl ?_
  intro p e s m args below meth c s₁ B hml hv
  obtain ⟨rfl, hsz, hP, hK, hD0, hG⟩ := hv
  have hx := B.exec
  have hb := B.bytes
  have hr := B.returns
  have hts := atoms_spec (ws := w_x_drawn) B.pre
  have hown : s.vm.findClass RX12 = some m.cls := findClass_of_methodNamed B.named
  have hlocks := B.notSynchronized
  subst hsz
  have hD := hD0.self (sz := s.heap.size)
  generalize hAe : va_A (vM cy a σ0) s.heap.size = A at hD ⊢
  have hA : ∀ q : Nat, s.heap.size ≤ q → A q := fun q h => by rw [← hAe]; exact Or.inr h
  have hS : va_S A s.heap s.heap [] := va_S.rf
  have hl := lv_entry ([.ref (a 0), .int (L0 1)]) (n := 5) (Nat.le_of_ble_eq_true rfl)
  rw [lg_entry_eq]
  generalize (lg_sl ([.ref (a 0), .int (L0 1)]) ++ List.replicate (5 - (lg_sl ([.ref (a 0), .int (L0 1)])).length) Slot.unset).toArray = ls at hl ⊢
  have hl : lv_has ls 5 [(0, .ref (a 0)), (1, .int (L0 1))] := hl
  have blk : ∀ k : Nat, (bT p l e (headSpec w_x_drawn ({ frames := 4, cells := 0, slots := 0, locals := 89 })).room s m #[.ref (a 0), .int (L0 1)] below meth c dC dI cy a A (qI dC dI cy a A below #[.ref (a 0), .int (L0 1)] s) 5 (x_drawn k 0) (fun L => [(0, .ref (a 0)), (1, .int (L 1))]) 0 (fun L => [])) ∧ (bT p l e (headSpec w_x_drawn ({ frames := 4, cells := 0, slots := 0, locals := 89 })).room s m #[.ref (a 0), .int (L0 1)] below meth c dC dI cy a A (qI dC dI cy a A below #[.ref (a 0), .int (L0 1)] s) 5 (x_drawn k 1) (fun L => [(0, .ref (a 0)), (1, .int (L 1)), (2, .int (L 2))]) 27 (fun L => [])) ∧ (bT p l e (headSpec w_x_drawn ({ frames := 4, cells := 0, slots := 0, locals := 89 })).room s m #[.ref (a 0), .int (L0 1)] below meth c dC dI cy a A (qI dC dI cy a A below #[.ref (a 0), .int (L0 1)] s) 5 (x_drawn k 2) (fun L => [(0, .ref (a 0)), (1, .int (L 1)), (2, .int (L 2))]) 35 (fun L => [.int (L 100)])) ∧ (bT p l e (headSpec w_x_drawn ({ frames := 4, cells := 0, slots := 0, locals := 89 })).room s m #[.ref (a 0), .int (L0 1)] below meth c dC dI cy a A (qI dC dI cy a A below #[.ref (a 0), .int (L0 1)] s) 5 (x_drawn k 3) (fun L => [(0, .ref (a 0)), (1, .int (L 1)), (2, .int (L 2)), (3, .int (L 3))]) 89 (fun L => [])) ∧ (bT p l e (headSpec w_x_drawn ({ frames := 4, cells := 0, slots := 0, locals := 89 })).room s m #[.ref (a 0), .int (L0 1)] below meth c dC dI cy a A (qI dC dI cy a A below #[.ref (a 0), .int (L0 1)] s) 5 (x_drawn k 4) (fun L => [(0, .ref (a 0)), (1, .int (L 1)), (2, .int (L 2)), (3, .int (L 3))]) 90 (fun L => [.int (L 100)])) ∧ (bT p l e (headSpec w_x_drawn ({ frames := 4, cells := 0, slots := 0, locals := 89 })).room s m #[.ref (a 0), .int (L0 1)] below meth c dC dI cy a A (qI dC dI cy a A below #[.ref (a 0), .int (L0 1)] s) 5 (x_drawn k 5) (fun L => [(0, .ref (a 0)), (1, .int (L 1)), (2, .int (L 2)), (3, .int (L 3)), (4, .int (L 4))]) 109 (fun L => [])) ∧ (bT p l e (headSpec w_x_drawn ({ frames := 4, cells := 0, slots := 0, locals := 89 })).room s m #[.ref (a 0), .int (L0 1)] below meth c dC dI cy a A (qI dC dI cy a A below #[.ref (a 0), .int (L0 1)] s) 5 (x_drawn k 6) (fun L => [(0, .ref (a 0)), (1, .int (L 1)), (2, .int (L 2)), (3, .int (L 3)), (4, .int (L 4))]) 116 (fun L => [])) ∧ (bT p l e (headSpec w_x_drawn ({ frames := 4, cells := 0, slots := 0, locals := 89 })).room s m #[.ref (a 0), .int (L0 1)] below meth c dC dI cy a A (qI dC dI cy a A below #[.ref (a 0), .int (L0 1)] s) 5 (x_drawn k 7) (fun L => [(0, .ref (a 0)), (1, .int (L 1)), (2, .int (L 2)), (3, .int (L 3)), (4, .int (L 4))]) 130 (fun L => [.ref (a 0), .int (L 101), .ref (a 0)])) ∧ (bT p l e (headSpec w_x_drawn ({ frames := 4, cells := 0, slots := 0, locals := 89 })).room s m #[.ref (a 0), .int (L0 1)] below meth c dC dI cy a A (qI dC dI cy a A below #[.ref (a 0), .int (L0 1)] s) 5 (x_drawn k 8) (fun L => [(0, .ref (a 0)), (1, .int (L 1)), (2, .int (L 2)), (3, .int (L 3)), (4, .int (L 4))]) 131 (fun L => [.int (L 100), .ref (a 0), .int (L 102), .ref (a 0)])) ∧ (bT p l e (headSpec w_x_drawn ({ frames := 4, cells := 0, slots := 0, locals := 89 })).room s m #[.ref (a 0), .int (L0 1)] below meth c dC dI cy a A (qI dC dI cy a A below #[.ref (a 0), .int (L0 1)] s) 5 (x_drawn k 9) (fun L => [(0, .ref (a 0)), (1, .int (L 1)), (2, .int (L 2))]) 139 (fun L => [])) ∧ (bT p l e (headSpec w_x_drawn ({ frames := 4, cells := 0, slots := 0, locals := 89 })).room s m #[.ref (a 0), .int (L0 1)] below meth c dC dI cy a A (qI dC dI cy a A below #[.ref (a 0), .int (L0 1)] s) 5 (x_drawn k 10) (fun L => [(0, .ref (a 0)), (1, .int (L 1)), (2, .int (L 2))]) 149 (fun L => [])) ∧ (bT p l e (headSpec w_x_drawn ({ frames := 4, cells := 0, slots := 0, locals := 89 })).room s m #[.ref (a 0), .int (L0 1)] below meth c dC dI cy a A (qI dC dI cy a A below #[.ref (a 0), .int (L0 1)] s) 5 (x_drawn k 11) (fun L => [(0, .ref (a 0)), (1, .int (L 1)), (2, .int (L 2))]) 164 (fun L => [])) ∧ (bT p l e (headSpec w_x_drawn ({ frames := 4, cells := 0, slots := 0, locals := 89 })).room s m #[.ref (a 0), .int (L0 1)] below meth c dC dI cy a A (qI dC dI cy a A below #[.ref (a 0), .int (L0 1)] s) 5 (x_drawn k 12) (fun L => [(0, .ref (a 0)), (1, .int (L 1)), (2, .int (L 2))]) 181 (fun L => [.int (L 100)])) := by
    intro k
    induction k with
    | zero => exact ⟨fun L σ r h => (by cases h), fun L σ r h => (by cases h), fun L σ r h => (by cases h), fun L σ r h => (by cases h), fun L σ r h => (by cases h), fun L σ r h => (by cases h), fun L σ r h => (by cases h), fun L σ r h => (by cases h), fun L σ r h => (by cases h), fun L σ r h => (by cases h), fun L σ r h => (by cases h), fun L σ r h => (by cases h), fun L σ r h => (by cases h)⟩
    | succ k ih =>
      refine ⟨?_, ?_, ?_, ?_, ?_, ?_, ?_, ?_, ?_, ?_, ?_, ?_, ?_⟩
      · intro L σ r h H locs ls hP hD hS hl
        rw [x_drawn] at h
        refine lv_aload_n hx hb dX12_drawn_0 rfl (lv_at hl 0 rfl) ?_
        refine lv_iload_n hx hb dX12_drawn_1 rfl (lv_at hl 1 rfl) ?_
        obtain ⟨r1, hc1, h⟩ := ob_ex h
        refine nc_Vi (As := [.int (L 1)]) (rest := []) ⟨hx, hb, hml, hown, hts⟩ (c_x_kind l dC dI cy a k (upd (fun _ => 0) 1 ((L 1))) σ r1 hc1 H.size) (cwV 1 hts g_x_drawn_kind_545 rfl rfl rfl hd_x_kind ⟨Nat.le_of_ble_eq_true rfl, Nat.le_of_ble_eq_true rfl⟩) hK hG hA hP hD hS rfl hl.1 rfl (Nat.le_of_ble_eq_true rfl) dX12_drawn_2 ⟨Nat.le_refl _, Nat.le_refl _⟩ (fun H locs hP hD hS => ?_)
        refine lv_istore_n (lv' := [(2, .int r1.1), (0, .ref (a 0)), (1, .int (L 1))]) hx hb dX12_drawn_5 rfl hl (by decide) rfl (fun ls hl => ?_)
        refine lv_iload_n hx hb dX12_drawn_6 rfl (lv_at hl 0 rfl) ?_
        refine lv_iconst (v := 2) hx hb dX12_drawn_7 (by decide) ?_
        refine lv_icmp_ne (tgt := 139) hx hb dX12_drawn_8 (by decide) (fun c2 => ?_) (fun c2 => ?_)
        · rw [if_neg c2] at h
          exact ih.2.2.2.2.2.2.2.2.2.1 (upd L 2 r1.1) r1.2 r h H locs ls hP hD hS (lv_sub hl [1, 2, 0] rfl)
        · rw [if_pos c2] at h
          refine lv_aload_n hx hb dX12_drawn_11 rfl (lv_at hl 1 rfl) ?_
          refine ng_53 hx hb hts in_x_drawn hown hK hP (hts _ (List.mem_cons_of_mem _ (List.mem_append_left _ (List.mem_append_left _ (List.mem_of_getElem? (i := 4) rfl))))) dX12_drawn_12 ?_
          refine lv_iload_n hx hb dX12_drawn_15 rfl (lv_at hl 2 rfl) ?_
          refine lv_iconst (v := 1) hx hb dX12_drawn_16 (by decide) ?_
          refine lv_iadd hx hb dX12_drawn_17 ?_
          obtain ⟨q3, h⟩ := nb_ite1 h
          refine nl_28 hx hb hK hP q3 dX12_drawn_18 ?_
          refine lv_iconst (v := 3) hx hb dX12_drawn_19 (by decide) ?_
          refine lv_icmp_le (tgt := 27) hx hb dX12_drawn_20 (by decide) (fun c4 => ?_) (fun c4 => ?_)
          · rw [if_pos c4] at h
            exact ih.2.1 (upd L 2 r1.1) r1.2 r h H locs ls hP hD hS (lv_sub hl [1, 2, 0] rfl)
          · rw [if_neg c4] at h
            refine lv_iconst (v := 0) hx hb dX12_drawn_23 (by decide) ?_
            refine lv_goto (tgt := 35) hx hb dX12_drawn_24 (by decide) ?_
            exact ih.2.2.1 (upd (upd L 2 r1.1) 100 0) r1.2 r h H locs ls hP hD hS (lv_sub hl [1, 2, 0] rfl)
      · intro L σ r h H locs ls hP hD hS hl
        rw [x_drawn] at h
        refine lv_aload_n hx hb dX12_drawn_27 rfl (lv_at hl 0 rfl) ?_
        refine lv_iload_n hx hb dX12_drawn_28 rfl (lv_at hl 1 rfl) ?_
        refine lv_ldcw (v := 2147483646) hx hb hown (hts _ (List.mem_cons_of_mem _ (List.mem_append_left _ (List.mem_append_left _ (List.mem_of_getElem? (i := 5) rfl))))) dX12_drawn_29 ?_
        obtain ⟨r1, hc1, h⟩ := ob_ex h
        refine nc_Vi (As := [.int (L 1), .int 2147483646]) (rest := []) ⟨hx, hb, hml, hown, hts⟩ (c_x_intOf l dC dI cy a k (upd (upd (fun _ => 0) 1 ((L 1))) 2 2147483646) (fun _ => 0) σ r1 hc1 H.size) (cwV 2 hts g_x_drawn_intOf_515 rfl rfl rfl hd_x_intOf ⟨Nat.le_of_ble_eq_true rfl, Nat.le_of_ble_eq_true rfl⟩) hK hG hA hP hD hS rfl hl.1 rfl (Nat.le_of_ble_eq_true rfl) dX12_drawn_32 ⟨Nat.le_refl _, Nat.le_refl _⟩ (fun H locs hP hD hS => ?_)
        exact ih.2.2.1 (upd L 100 r1.1) r1.2 r h H locs ls hP hD hS (lv_sub hl [0, 1, 2] rfl)
      · intro L σ r h H locs ls hP hD hS hl
        rw [x_drawn] at h
        refine lv_istore_n (lv' := [(3, .int (L 100)), (0, .ref (a 0)), (1, .int (L 1)), (2, .int (L 2))]) hx hb dX12_drawn_35 rfl hl (by decide) rfl (fun ls hl => ?_)
        refine lv_aload_n hx hb dX12_drawn_36 rfl (lv_at hl 1 rfl) ?_
        refine ng_53 hx hb hts in_x_drawn hown hK hP (hts _ (List.mem_cons_of_mem _ (List.mem_append_left _ (List.mem_append_left _ (List.mem_of_getElem? (i := 4) rfl))))) dX12_drawn_37 ?_
        refine lv_iload_n hx hb dX12_drawn_40 rfl (lv_at hl 2 rfl) ?_
        refine lv_iconst (v := 1) hx hb dX12_drawn_41 (by decide) ?_
        refine lv_iadd hx hb dX12_drawn_42 ?_
        obtain ⟨q1, h⟩ := nb_ite1 h
        refine nl_28 hx hb hK hP q1 dX12_drawn_43 ?_
        refine lv_iconst (v := 3) hx hb dX12_drawn_44 (by decide) ?_
        refine lv_icmp_ne (tgt := 89) hx hb dX12_drawn_45 (by decide) (fun c2 => ?_) (fun c2 => ?_)
        · rw [if_neg c2] at h
          exact ih.2.2.2.1 (upd L 3 ((L 100))) σ r h H locs ls hP hD hS (lv_sub hl [1, 2, 3, 0] rfl)
        · rw [if_pos c2] at h
          refine lv_aload_n hx hb dX12_drawn_48 rfl (lv_at hl 1 rfl) ?_
          refine lv_iload_n hx hb dX12_drawn_49 rfl (lv_at hl 2 rfl) ?_
          obtain ⟨r3, hc3, h⟩ := ob_ex h
          refine nc_Vi (As := [.int (L 1)]) (rest := []) ⟨hx, hb, hml, hown, hts⟩ (c_x_signOf l dC dI cy a k (upd (fun _ => 0) 1 ((L 1))) σ r3 hc3 H.size) (cwV 1 hts g_x_drawn_signOf_463 rfl rfl rfl hd_x_signOf ⟨Nat.le_of_ble_eq_true rfl, Nat.le_of_ble_eq_true rfl⟩) hK hG hA hP hD hS rfl hl.1 rfl (Nat.le_of_ble_eq_true rfl) dX12_drawn_50 ⟨Nat.le_refl _, Nat.le_refl _⟩ (fun H locs hP hD hS => ?_)
          refine lv_if_le (tgt := 89) hx hb dX12_drawn_53 (by decide) (fun c4 => ?_) (fun c4 => ?_)
          · rw [if_pos c4] at h
            exact ih.2.2.2.1 (upd L 3 ((L 100))) r3.2 r h H locs ls hP hD hS (lv_sub hl [1, 2, 3, 0] rfl)
          · rw [if_neg c4] at h
            refine lv_aload_n hx hb dX12_drawn_56 rfl (lv_at hl 1 rfl) ?_
            refine ng_53 hx hb hts in_x_drawn hown hK hP (hts _ (List.mem_cons_of_mem _ (List.mem_append_left _ (List.mem_append_left _ (List.mem_of_getElem? (i := 4) rfl))))) dX12_drawn_57 ?_
            refine lv_iload_n hx hb dX12_drawn_60 rfl (lv_at hl 2 rfl) ?_
            refine lv_iconst (v := 5) hx hb dX12_drawn_61 (by decide) ?_
            refine lv_iadd hx hb dX12_drawn_62 ?_
            obtain ⟨q5, h⟩ := nb_ite1 h
            refine nl_28 hx hb hK hP q5 dX12_drawn_63 ?_
            refine lv_ldcw (v := 65535) hx hb hown (hts _ (List.mem_cons_of_mem _ (List.mem_append_left _ (List.mem_append_left _ (List.mem_of_getElem? (i := 12) rfl))))) dX12_drawn_64 ?_
            refine lv_icmp_ne (tgt := 89) hx hb dX12_drawn_67 (by decide) (fun c6 => ?_) (fun c6 => ?_)
            · rw [if_neg c6] at h
              exact ih.2.2.2.1 (upd L 3 ((L 100))) r3.2 r h H locs ls hP hD hS (lv_sub hl [1, 2, 3, 0] rfl)
            · rw [if_pos c6] at h
              refine lv_aload_n hx hb dX12_drawn_70 rfl (lv_at hl 1 rfl) ?_
              refine ng_53 hx hb hts in_x_drawn hown hK hP (hts _ (List.mem_cons_of_mem _ (List.mem_append_left _ (List.mem_append_left _ (List.mem_of_getElem? (i := 4) rfl))))) dX12_drawn_71 ?_
              refine lv_iload_n hx hb dX12_drawn_74 rfl (lv_at hl 2 rfl) ?_
              refine lv_bipush (v := 6) hx hb dX12_drawn_75 (by decide) ?_
              refine lv_iadd hx hb dX12_drawn_77 ?_
              obtain ⟨q7, h⟩ := nb_ite1 h
              refine nl_28 hx hb hK hP q7 dX12_drawn_78 ?_
              refine lv_sipush (v := 32767) hx hb dX12_drawn_79 (by decide) ?_
              refine lv_icmp_ne (tgt := 89) hx hb dX12_drawn_82 (by decide) (fun c8 => ?_) (fun c8 => ?_)
              · rw [if_neg c8] at h
                exact ih.2.2.2.1 (upd L 3 ((L 100))) r3.2 r h H locs ls hP hD hS (lv_sub hl [1, 2, 3, 0] rfl)
              · rw [if_pos c8] at h
                refine lv_iconst (v := 1) hx hb dX12_drawn_85 (by decide) ?_
                refine lv_goto (tgt := 90) hx hb dX12_drawn_86 (by decide) ?_
                exact ih.2.2.2.2.1 (upd (upd L 3 ((L 100))) 100 1) r3.2 r h H locs ls hP hD hS (lv_sub hl [1, 2, 3, 0] rfl)
      · intro L σ r h H locs ls hP hD hS hl
        rw [x_drawn] at h
        refine lv_iconst (v := 0) hx hb dX12_drawn_89 (by decide) ?_
        exact ih.2.2.2.2.1 (upd L 100 0) σ r h H locs ls hP hD hS (lv_sub hl [0, 1, 2, 3] rfl)
      · intro L σ r h H locs ls hP hD hS hl
        rw [x_drawn] at h
        refine lv_istore (lv' := [(4, .int (L 100)), (0, .ref (a 0)), (1, .int (L 1)), (2, .int (L 2)), (3, .int (L 3))]) hx hb dX12_drawn_90 hl (by decide) rfl (fun ls hl => ?_)
        refine lv_iload_n hx hb dX12_drawn_92 rfl (lv_at hl 4 rfl) ?_
        refine lv_iconst (v := 1) hx hb dX12_drawn_93 (by decide) ?_
        refine lv_icmp_lt (tgt := 109) hx hb dX12_drawn_94 (by decide) (fun c1 => ?_) (fun c1 => ?_)
        · rw [if_pos c1] at h
          exact ih.2.2.2.2.2.1 (upd L 4 ((L 100))) σ r h H locs ls hP hD hS (lv_sub hl [1, 2, 3, 4, 0] rfl)
        · rw [if_neg c1] at h
          refine lv_iload hx hb dX12_drawn_97 (lv_at hl 0 rfl) ?_
          refine lv_if_ne (tgt := 116) hx hb dX12_drawn_99 (by decide) (fun c2 => ?_) (fun c2 => ?_)
          · rw [if_neg c2] at h
            exact ih.2.2.2.2.2.2.1 (upd L 4 ((L 100))) σ r h H locs ls hP hD hS (lv_sub hl [1, 2, 3, 4, 0] rfl)
          · rw [if_pos c2] at h
            refine lv_iload_n hx hb dX12_drawn_102 rfl (lv_at hl 4 rfl) ?_
            refine lv_ldcw (v := 2147483647) hx hb hown (hts _ (List.mem_cons_of_mem _ (List.mem_append_left _ (List.mem_append_left _ (List.mem_of_getElem? (i := 13) rfl))))) dX12_drawn_103 ?_
            refine lv_icmp_ne (tgt := 116) hx hb dX12_drawn_106 (by decide) (fun c3 => ?_) (fun c3 => ?_)
            · rw [if_neg c3] at h
              exact ih.2.2.2.2.2.2.1 (upd L 4 ((L 100))) σ r h H locs ls hP hD hS (lv_sub hl [1, 2, 3, 4, 0] rfl)
            · rw [if_pos c3] at h
              exact ih.2.2.2.2.2.1 (upd L 4 ((L 100))) σ r h H locs ls hP hD hS (lv_sub hl [1, 2, 3, 4, 0] rfl)
      · intro L σ r h H locs ls hP hD hS hl
        rw [x_drawn] at h
        refine lv_aload_n hx hb dX12_drawn_109 rfl (lv_at hl 0 rfl) ?_
        refine lv_iconst (v := 4) hx hb dX12_drawn_110 (by decide) ?_
        obtain ⟨r1, hc1, h⟩ := ob_ex h
        refine nc_Vv (As := [.int 4]) (rest := []) ⟨hx, hb, hml, hown, hts⟩ (c_x_fail l dC dI cy a k (upd (fun _ => 0) 1 4) σ r1 hc1 H.size) (cwV 1 hts g_x_drawn_fail_369 rfl rfl rfl hd_x_fail ⟨Nat.le_of_ble_eq_true rfl, Nat.le_of_ble_eq_true rfl⟩) hK hG hA hP hD hS rfl hl.1 rfl (Nat.le_of_ble_eq_true rfl) dX12_drawn_111 ⟨Nat.le_refl _, Nat.le_refl _⟩ (fun H locs hP hD hS => ?_)
        refine lv_iconst (v := 0) hx hb dX12_drawn_114 (by decide) ?_
        cases h
        exact W.iret (v := 0) hx hb hr (fun t ht hW => ⟨⟨0, (), rfl, rfl, by rw [ht]; exact hP, va_K.moved hW.alike hK, hD⟩, hS.F ht⟩) hS.2.2 dX12_drawn_115
      · intro L σ r h H locs ls hP hD hS hl
        rw [x_drawn] at h
        refine lv_aload_n hx hb dX12_drawn_116 rfl (lv_at hl 0 rfl) ?_
        refine lv_iconst (v := 1) hx hb dX12_drawn_117 (by decide) ?_
        refine lv_aload_n hx hb dX12_drawn_118 rfl (lv_at hl 0 rfl) ?_
        refine lv_iload hx hb dX12_drawn_119 (lv_at hl 4 rfl) ?_
        refine lv_if_eq (tgt := 130) hx hb dX12_drawn_121 (by decide) (fun c1 => ?_) (fun c1 => ?_)
        · rw [if_pos c1] at h
          exact ih.2.2.2.2.2.2.2.1 (upd L 101 1) σ r h H locs ls hP hD hS (lv_sub hl [0, 1, 2, 3, 4] rfl)
        · rw [if_neg c1] at h
          refine lv_ldcw (v := 2147483647) hx hb hown (hts _ (List.mem_cons_of_mem _ (List.mem_append_left _ (List.mem_append_left _ (List.mem_of_getElem? (i := 13) rfl))))) dX12_drawn_124 ?_
          refine lv_goto (tgt := 131) hx hb dX12_drawn_127 (by decide) ?_
          exact ih.2.2.2.2.2.2.2.2.1 (upd (upd L 100 2147483647) 102 1) σ r h H locs ls hP hD hS (lv_sub hl [0, 1, 2, 3, 4] rfl)
      · intro L σ r h H locs ls hP hD hS hl
        rw [x_drawn] at h
        refine lv_iload_n hx hb dX12_drawn_130 rfl (lv_at hl 3 rfl) ?_
        exact ih.2.2.2.2.2.2.2.2.1 (upd (upd L 100 ((L 3))) 102 ((L 101))) σ r h H locs ls hP hD hS (lv_sub hl [0, 1, 2, 3, 4] rfl)
      · intro L σ r h H locs ls hP hD hS hl
        rw [x_drawn] at h
        obtain ⟨r1, hc1, h⟩ := ob_ex h
        refine nc_Vi (As := [.int (L 100)]) (rest := [.int (L 102), .ref (a 0)]) ⟨hx, hb, hml, hown, hts⟩ (c_x_draw l dC dI cy a k (upd (fun _ => 0) 1 ((L 100))) σ r1 hc1 H.size) (cwV 1 hts g_x_drawn_draw_801 rfl rfl rfl hd_x_draw ⟨Nat.le_of_ble_eq_true rfl, Nat.le_of_ble_eq_true rfl⟩) hK hG hA hP hD hS rfl hl.1 rfl (Nat.le_of_ble_eq_true rfl) dX12_drawn_131 ⟨Nat.le_refl _, Nat.le_refl _⟩ (fun H locs hP hD hS => ?_)
        refine lv_iadd hx hb dX12_drawn_134 ?_
        obtain ⟨r2, hc2, h⟩ := ob_ex h
        refine nc_Vi (As := [.int (((L 102)) + r1.1)]) (rest := []) ⟨hx, hb, hml, hown, hts⟩ (c_x_small l dC dI cy a k (upd (fun _ => 0) 1 ((((L 102)) + r1.1))) r1.2 r2 hc2 H.size) (cwV 1 hts g_x_drawn_small_518 rfl rfl rfl hd_x_small ⟨Nat.le_of_ble_eq_true rfl, Nat.le_of_ble_eq_true rfl⟩) hK hG hA hP hD hS rfl hl.1 rfl (Nat.le_of_ble_eq_true rfl) dX12_drawn_135 ⟨Nat.le_refl _, Nat.le_refl _⟩ (fun H locs hP hD hS => ?_)
        cases h
        exact W.iret (v := r2.1) hx hb hr (fun t ht hW => ⟨⟨r2.1, (), rfl, rfl, by rw [ht]; exact hP, va_K.moved hW.alike hK, hD⟩, hS.F ht⟩) hS.2.2 dX12_drawn_138
      · intro L σ r h H locs ls hP hD hS hl
        rw [x_drawn] at h
        refine lv_iload_n hx hb dX12_drawn_139 rfl (lv_at hl 2 rfl) ?_
        refine lv_iconst (v := 4) hx hb dX12_drawn_140 (by decide) ?_
        refine lv_icmp_ge (tgt := 149) hx hb dX12_drawn_141 (by decide) (fun c1 => ?_) (fun c1 => ?_)
        · rw [if_pos c1] at h
          exact ih.2.2.2.2.2.2.2.2.2.2.1 L σ r h H locs ls hP hD hS (lv_sub hl [0, 1, 2] rfl)
        · rw [if_neg c1] at h
          refine lv_aload_n hx hb dX12_drawn_144 rfl (lv_at hl 0 rfl) ?_
          obtain ⟨r2, hc2, h⟩ := ob_ex h
          refine nc_Vi (As := []) (rest := []) ⟨hx, hb, hml, hown, hts⟩ (c_x_wrongKind l dC dI cy a k (fun _ => 0) σ r2 hc2 H.size) (cwV 0 hts g_x_drawn_wrongKind_666 rfl rfl rfl hd_x_wrongKind ⟨Nat.le_of_ble_eq_true rfl, Nat.le_of_ble_eq_true rfl⟩) hK hG hA hP hD hS rfl hl.1 rfl (Nat.le_of_ble_eq_true rfl) dX12_drawn_145 ⟨Nat.le_refl _, Nat.le_refl _⟩ (fun H locs hP hD hS => ?_)
          cases h
          exact W.iret (v := r2.1) hx hb hr (fun t ht hW => ⟨⟨r2.1, (), rfl, rfl, by rw [ht]; exact hP, va_K.moved hW.alike hK, hD⟩, hS.F ht⟩) hS.2.2 dX12_drawn_148
      · intro L σ r h H locs ls hP hD hS hl
        rw [x_drawn] at h
        refine lv_aload_n hx hb dX12_drawn_149 rfl (lv_at hl 0 rfl) ?_
        refine ng_53 hx hb hts in_x_drawn hown hK hP (hts _ (List.mem_cons_of_mem _ (List.mem_append_left _ (List.mem_append_left _ (List.mem_of_getElem? (i := 4) rfl))))) dX12_drawn_150 ?_
        refine lv_iload_n hx hb dX12_drawn_153 rfl (lv_at hl 1 rfl) ?_
        refine lv_iconst (v := 1) hx hb dX12_drawn_154 (by decide) ?_
        refine lv_iadd hx hb dX12_drawn_155 ?_
        obtain ⟨q1, h⟩ := nb_ite1 h
        refine nl_28 hx hb hK hP q1 dX12_drawn_156 ?_
        refine lv_if_ne (tgt := 164) hx hb dX12_drawn_157 (by decide) (fun c2 => ?_) (fun c2 => ?_)
        · rw [if_neg c2] at h
          exact ih.2.2.2.2.2.2.2.2.2.2.2.1 L σ r h H locs ls hP hD hS (lv_sub hl [0, 1, 2] rfl)
        · rw [if_pos c2] at h
          refine lv_iconst (v := 0) hx hb dX12_drawn_160 (by decide) ?_
          refine lv_goto (tgt := 181) hx hb dX12_drawn_161 (by decide) ?_
          exact ih.2.2.2.2.2.2.2.2.2.2.2.2 (upd L 100 0) σ r h H locs ls hP hD hS (lv_sub hl [0, 1, 2] rfl)
      · intro L σ r h H locs ls hP hD hS hl
        rw [x_drawn] at h
        refine lv_aload_n hx hb dX12_drawn_164 rfl (lv_at hl 0 rfl) ?_
        refine lv_iload_n hx hb dX12_drawn_165 rfl (lv_at hl 1 rfl) ?_
        refine lv_aload_n hx hb dX12_drawn_166 rfl (lv_at hl 0 rfl) ?_
        refine lv_aload_n hx hb dX12_drawn_167 rfl (lv_at hl 0 rfl) ?_
        refine ng_53 hx hb hts in_x_drawn hown hK hP (hts _ (List.mem_cons_of_mem _ (List.mem_append_left _ (List.mem_append_left _ (List.mem_of_getElem? (i := 4) rfl))))) dX12_drawn_168 ?_
        refine lv_iload_n hx hb dX12_drawn_171 rfl (lv_at hl 1 rfl) ?_
        refine lv_iconst (v := 1) hx hb dX12_drawn_172 (by decide) ?_
        refine lv_iadd hx hb dX12_drawn_173 ?_
        obtain ⟨q1, h⟩ := nb_ite1 h
        refine nl_28 hx hb hK hP q1 dX12_drawn_174 ?_
        obtain ⟨r2, hc2, h⟩ := ob_ex h
        refine nc_Vi (As := [.int (σ.2.2 28 ((((L 1)) + 1)).toNatClampNeg)]) (rest := [.int (L 1), .ref (a 0)]) ⟨hx, hb, hml, hown, hts⟩ (c_x_draw l dC dI cy a k (upd (fun _ => 0) 1 ((σ.2.2 28 ((((L 1)) + 1)).toNatClampNeg))) σ r2 hc2 H.size) (cwV 1 hts g_x_drawn_draw_801 rfl rfl rfl hd_x_draw ⟨Nat.le_of_ble_eq_true rfl, Nat.le_of_ble_eq_true rfl⟩) hK hG hA hP hD hS rfl hl.1 rfl (Nat.le_of_ble_eq_true rfl) dX12_drawn_175 ⟨Nat.le_refl _, Nat.le_refl _⟩ (fun H locs hP hD hS => ?_)
        obtain ⟨r3, hc3, h⟩ := ob_ex h
        refine nc_Vi (As := [.int (L 1), .int r2.1]) (rest := []) ⟨hx, hb, hml, hown, hts⟩ (c_x_memberAt l dC dI cy a k (upd (upd (fun _ => 0) 1 ((L 1))) 2 r2.1) r2.2 r3 hc3 H.size) (cwV 2 hts g_x_drawn_memberAt_703 rfl rfl rfl hd_x_memberAt ⟨Nat.le_of_ble_eq_true rfl, Nat.le_of_ble_eq_true rfl⟩) hK hG hA hP hD hS rfl hl.1 rfl (Nat.le_of_ble_eq_true rfl) dX12_drawn_178 ⟨Nat.le_refl _, Nat.le_refl _⟩ (fun H locs hP hD hS => ?_)
        exact ih.2.2.2.2.2.2.2.2.2.2.2.2 (upd L 100 r3.1) r3.2 r h H locs ls hP hD hS (lv_sub hl [0, 1, 2] rfl)
      · intro L σ r h H locs ls hP hD hS hl
        rw [x_drawn] at h
        cases h
        exact W.iret (v := (L 100)) hx hb hr (fun t ht hW => ⟨⟨(L 100), (), rfl, rfl, by rw [ht]; exact hP, va_K.moved hW.alike hK, hD⟩, hS.F ht⟩) hS.2.2 dX12_drawn_181
  exact (blk k0).1 L0 σ0 r0 h0 s.heap [] ls hP hD hS hl
/-! other -/
def x_other : Nat → Nat → (Nat → Int32) → MS → Option (Int32 × MS)
  | 0, _, _, _ => none
  | k + 1, 0, L, σ => ob (x_loadA k 0 (upd (fun _ => 0) 1 ((L 1))) σ) (fun r1 => x_other k 1 L (upd r1.2.1 86 ((r1.2.1 84)), r1.2.2.1, r1.2.2.2))
  | k + 1, 1, L, σ => x_other k 2 (upd L 2 0) σ
  | k + 1, 2, L, σ => if ((σ.1 84)) ≤ ((L 2)) then (x_other k 4 L σ) else (if ¬ (((L 2)) < 0 ∨ 140 ≤ ((L 2)).toNatClampNeg) then (if ¬ (((L 2)) < 0 ∨ 300 ≤ ((L 2)).toNatClampNeg) then (x_other k 3 L (σ.1, σ.2.1, updG σ.2.2 44 (upd (σ.2.2 44) ((L 2)).toNatClampNeg ((σ.2.2 42 ((L 2)).toNatClampNeg))))) else none) else none)
  | k + 1, 3, L, σ => x_other k 2 (upd L 2 (((L 2)) + 1)) σ
  | k + 1, 4, L, σ => ob (x_signOf k 0 (upd (fun _ => 0) 1 ((L 1))) σ) (fun r1 => ob (x_wholeOf k 0 (upd (fun _ => 0) 1 ((- r1.1))) r1.2) (fun r2 => some (r2.1, r2.2)))
  | _ + 1, _ + 5, _, _ => none
def o_x_other : List Cond := [.methodLink RX12 488 yX12_loadA, .instanceMethod yX12_loadA, .selects RX12 yX12_loadA yX12_loadA, .initialized RX12, .fieldLink RX12 466 "SetHouseModel" "na" "I", .fieldLink RX12 478 "SetHouseModel" "nc" "I", .fieldLink RX12 481 "SetHouseModel" "rc" "[I", .fieldLink RX12 469 "SetHouseModel" "ra" "[I", .methodLink RX12 463 yX12_signOf, .instanceMethod yX12_signOf, .selects RX12 yX12_signOf yX12_signOf, .methodLink RX12 485 yX12_wholeOf, .instanceMethod yX12_wholeOf, .selects RX12 yX12_wholeOf yX12_wholeOf]
theorem o_x_other_good : o_x_other.all goodWord = true := by decide +kernel
def p_x_other : List Cond := o_x_other ++ ((.code yX12_loadA cX12_loadA 3 none :: p_x_loadA) ++ ((.code yX12_signOf cX12_signOf 2 (some .int) :: p_x_signOf) ++ ((.code yX12_wholeOf cX12_wholeOf 4 (some .int) :: p_x_wholeOf) ++ [])))
theorem p_x_other_good : p_x_other.all goodWord = true := nb_all2 o_x_other_good (nb_all2 (nb_allc (by decide +kernel) p_x_loadA_good) (nb_all2 (nb_allc (by decide +kernel) p_x_signOf_good) (nb_all2 (nb_allc (by decide +kernel) p_x_wholeOf_good) rfl)))
def w_x_other : List Cond := .code yX12_other cX12_other 3 (some .int) :: (p_x_other ++ fM)
theorem w_x_other_good : w_x_other.all goodWord = true := nb_allc (by decide +kernel) (nb_all2 p_x_other_good fM_good)
theorem in_x_other : ∀ w ∈ wsX120, w ∈ w_x_other := fun _ h => List.mem_cons_of_mem _ (List.mem_append_right _ h)
theorem hd_x_other : yX12_other.cls = RX12 ∧ yX12_other.cls ≠ "java/lang/invoke/MethodHandle" ∧ yX12_other.cls ≠ "java/lang/invoke/VarHandle" ∧ (parseMethodDescriptor yX12_other.desc).map (fun d => d.parameters.length) = some 1 := by decide +kernel
theorem gg_x_other_loadA : GoodIn w_x_other w_x_loadA := goodIn_sub (fun w h => (List.mem_cons.mp h).elim (fun e => (List.mem_cons_of_mem _ (List.mem_append_left _ (List.mem_append_right _ (List.mem_append_left _ (List.mem_cons.mpr (Or.inl e))))))) (fun h => (List.mem_append.mp h).elim (fun h => (List.mem_cons_of_mem _ (List.mem_append_left _ (List.mem_append_right _ (List.mem_append_left _ (List.mem_cons_of_mem _ h)))))) (fun h => List.mem_cons_of_mem _ (List.mem_append_right _ h)))) w_x_loadA_good
theorem g_x_other_loadA_488 : GoodIn w_x_other (wsV RX12 488 RX12 yX12_loadA w_x_loadA) := goodIn_app (nb_g4 (List.mem_cons_of_mem _ (List.mem_append_left _ (List.mem_append_left _ (List.mem_of_getElem? (i := 0) rfl)))) (List.mem_cons_of_mem _ (List.mem_append_left _ (List.mem_append_left _ (List.mem_of_getElem? (i := 1) rfl)))) (List.mem_cons_of_mem _ (List.mem_append_left _ (List.mem_append_left _ (List.mem_of_getElem? (i := 2) rfl)))) (List.mem_cons_of_mem _ (List.mem_append_left _ (List.mem_append_left _ (List.mem_of_getElem? (i := 3) rfl)))) (by decide +kernel)) gg_x_other_loadA
theorem gg_x_other_signOf : GoodIn w_x_other w_x_signOf := goodIn_sub (fun w h => (List.mem_cons.mp h).elim (fun e => (List.mem_cons_of_mem _ (List.mem_append_left _ (List.mem_append_right _ (List.mem_append_right _ (List.mem_append_left _ (List.mem_cons.mpr (Or.inl e)))))))) (fun h => (List.mem_append.mp h).elim (fun h => (List.mem_cons_of_mem _ (List.mem_append_left _ (List.mem_append_right _ (List.mem_append_right _ (List.mem_append_left _ (List.mem_cons_of_mem _ h))))))) (fun h => List.mem_cons_of_mem _ (List.mem_append_right _ h)))) w_x_signOf_good
theorem g_x_other_signOf_463 : GoodIn w_x_other (wsV RX12 463 RX12 yX12_signOf w_x_signOf) := goodIn_app (nb_g4 (List.mem_cons_of_mem _ (List.mem_append_left _ (List.mem_append_left _ (List.mem_of_getElem? (i := 8) rfl)))) (List.mem_cons_of_mem _ (List.mem_append_left _ (List.mem_append_left _ (List.mem_of_getElem? (i := 9) rfl)))) (List.mem_cons_of_mem _ (List.mem_append_left _ (List.mem_append_left _ (List.mem_of_getElem? (i := 10) rfl)))) (List.mem_cons_of_mem _ (List.mem_append_left _ (List.mem_append_left _ (List.mem_of_getElem? (i := 3) rfl)))) (by decide +kernel)) gg_x_other_signOf
theorem gg_x_other_wholeOf : GoodIn w_x_other w_x_wholeOf := goodIn_sub (fun w h => (List.mem_cons.mp h).elim (fun e => (List.mem_cons_of_mem _ (List.mem_append_left _ (List.mem_append_right _ (List.mem_append_right _ (List.mem_append_right _ (List.mem_append_left _ (List.mem_cons.mpr (Or.inl e))))))))) (fun h => (List.mem_append.mp h).elim (fun h => (List.mem_cons_of_mem _ (List.mem_append_left _ (List.mem_append_right _ (List.mem_append_right _ (List.mem_append_right _ (List.mem_append_left _ (List.mem_cons_of_mem _ h)))))))) (fun h => List.mem_cons_of_mem _ (List.mem_append_right _ h)))) w_x_wholeOf_good
theorem g_x_other_wholeOf_485 : GoodIn w_x_other (wsV RX12 485 RX12 yX12_wholeOf w_x_wholeOf) := goodIn_app (nb_g4 (List.mem_cons_of_mem _ (List.mem_append_left _ (List.mem_append_left _ (List.mem_of_getElem? (i := 11) rfl)))) (List.mem_cons_of_mem _ (List.mem_append_left _ (List.mem_append_left _ (List.mem_of_getElem? (i := 12) rfl)))) (List.mem_cons_of_mem _ (List.mem_append_left _ (List.mem_append_left _ (List.mem_of_getElem? (i := 13) rfl)))) (List.mem_cons_of_mem _ (List.mem_append_left _ (List.mem_append_left _ (List.mem_of_getElem? (i := 3) rfl)))) (by decide +kernel)) gg_x_other_wholeOf
set_option maxHeartbeats 40000000 in
set_option maxRecDepth 100000 in
theorem c_x_other (l : Launch) (dC : Nat → ClassId) (dI : Nat → Nat → Nat) (cy : Nat → ClassId) (a : Nat → Nat) (k0 : Nat) (L0 : Nat → Int32) (σ0 : MS) (r0 : Int32 × MS) (h0 : x_other k0 0 L0 σ0 = some r0) (sz : Nat) : Met l yX12_other w_x_other ({ frames := 3, cells := 0, slots := 0, locals := 67 }) (va_Pc [.ref (a 0), .int (L0 1)] (nIn (dC, dI) cy sz (vM cy a σ0))) (va_Qi (fun (z : Int32) (_ : Unit) => z = r0.1) (fun _ t => nOut (dC, dI) cy (va_A (vM cy a σ0) sz) (vM cy a r0.2) t) (va_A (vM cy a σ0) sz)) 0 0 (va_A (vM cy a σ0) sz) := by
  refine Met.ofW (cc := cX12_other) (maxL := 3) (ret := (some .int)) (by decide) rfl ?_
  intro p e s m args below meth c s₁ B hml hv
  obtain ⟨rfl, hsz, hP, hK, hD0, hG⟩ := hv
  have hx := B.exec
  have hb := B.bytes
  have hr := B.returns
  have hts := atoms_spec (ws := w_x_other) B.pre
  have hown : s.vm.findClass RX12 = some m.cls := findClass_of_methodNamed B.named
  have hlocks := B.notSynchronized
  subst hsz
  have hD := hD0.self (sz := s.heap.size)
  generalize hAe : va_A (vM cy a σ0) s.heap.size = A at hD ⊢
  have hA : ∀ q : Nat, s.heap.size ≤ q → A q := fun q h => by rw [← hAe]; exact Or.inr h
  have hS : va_S A s.heap s.heap [] := va_S.rf
  have hl := lv_entry ([.ref (a 0), .int (L0 1)]) (n := 3) (Nat.le_of_ble_eq_true rfl)
  rw [lg_entry_eq]
  generalize (lg_sl ([.ref (a 0), .int (L0 1)]) ++ List.replicate (3 - (lg_sl ([.ref (a 0), .int (L0 1)])).length) Slot.unset).toArray = ls at hl ⊢
  have hl : lv_has ls 3 [(0, .ref (a 0)), (1, .int (L0 1))] := hl
  have blk : ∀ k : Nat, (bT p l e (headSpec w_x_other ({ frames := 3, cells := 0, slots := 0, locals := 67 })).room s m #[.ref (a 0), .int (L0 1)] below meth c dC dI cy a A (qI dC dI cy a A below #[.ref (a 0), .int (L0 1)] s) 3 (x_other k 0) (fun L => [(0, .ref (a 0)), (1, .int (L 1))]) 0 (fun L => [])) ∧ (bT p l e (headSpec w_x_other ({ frames := 3, cells := 0, slots := 0, locals := 67 })).room s m #[.ref (a 0), .int (L0 1)] below meth c dC dI cy a A (qI dC dI cy a A below #[.ref (a 0), .int (L0 1)] s) 3 (x_other k 1) (fun L => [(0, .ref (a 0)), (1, .int (L 1))]) 13 (fun L => [])) ∧ (bT p l e (headSpec w_x_other ({ frames := 3, cells := 0, slots := 0, locals := 67 })).room s m #[.ref (a 0), .int (L0 1)] below meth c dC dI cy a A (qI dC dI cy a A below #[.ref (a 0), .int (L0 1)] s) 3 (x_other k 2) (fun L => [(0, .ref (a 0)), (1, .int (L 1)), (2, .int (L 2))]) 15 (fun L => [])) ∧ (bT p l e (headSpec w_x_other ({ frames := 3, cells := 0, slots := 0, locals := 67 })).room s m #[.ref (a 0), .int (L0 1)] below meth c dC dI cy a A (qI dC dI cy a A below #[.ref (a 0), .int (L0 1)] s) 3 (x_other k 3) (fun L => [(0, .ref (a 0)), (1, .int (L 1)), (2, .int (L 2))]) 35 (fun L => [])) ∧ (bT p l e (headSpec w_x_other ({ frames := 3, cells := 0, slots := 0, locals := 67 })).room s m #[.ref (a 0), .int (L0 1)] below meth c dC dI cy a A (qI dC dI cy a A below #[.ref (a 0), .int (L0 1)] s) 3 (x_other k 4) (fun L => [(0, .ref (a 0)), (1, .int (L 1)), (2, .int (L 2))]) 41 (fun L => [])) := by
    intro k
    induction k with
    | zero => exact ⟨fun L σ r h => (by cases h), fun L σ r h => (by cases h), fun L σ r h => (by cases h), fun L σ r h => (by cases h), fun L σ r h => (by cases h)⟩
    | succ k ih =>
      refine ⟨?_, ?_, ?_, ?_, ?_⟩
      · intro L σ r h H locs ls hP hD hS hl
        rw [x_other] at h
        refine lv_aload_n hx hb dX12_other_0 rfl (lv_at hl 0 rfl) ?_
        refine lv_iload_n hx hb dX12_other_1 rfl (lv_at hl 1 rfl) ?_
        obtain ⟨r1, hc1, h⟩ := ob_ex h
        refine nc_Vv (As := [.int (L 1)]) (rest := []) ⟨hx, hb, hml, hown, hts⟩ (c_x_loadA l dC dI cy a k (upd (fun _ => 0) 1 ((L 1))) σ r1 hc1 H.size) (cwV 1 hts g_x_other_loadA_488 rfl rfl rfl hd_x_loadA ⟨Nat.le_of_ble_eq_true rfl, Nat.le_of_ble_eq_true rfl⟩) hK hG hA hP hD hS rfl hl.1 rfl (Nat.le_of_ble_eq_true rfl) dX12_other_2 ⟨Nat.le_refl _, Nat.le_refl _⟩ (fun H locs hP hD hS => ?_)
        refine lv_aload_n hx hb dX12_other_5 rfl (lv_at hl 0 rfl) ?_
        refine lv_aload_n hx hb dX12_other_6 rfl (lv_at hl 0 rfl) ?_
        refine ng_84 hx hb hts in_x_other hown hK hP (hts _ (List.mem_cons_of_mem _ (List.mem_append_left _ (List.mem_append_left _ (List.mem_of_getElem? (i := 4) rfl))))) dX12_other_7 ?_
        refine np_86 hx hb hts in_x_other hown hK hP hD hS (hts _ (List.mem_cons_of_mem _ (List.mem_append_left _ (List.mem_append_left _ (List.mem_of_getElem? (i := 5) rfl))))) dX12_other_10 (fun H locs hP hD hS => ?_)
        exact ih.2.1 L (upd r1.2.1 86 ((r1.2.1 84)), r1.2.2.1, r1.2.2.2) r h H locs ls hP hD hS (lv_sub hl [0, 1] rfl)
      · intro L σ r h H locs ls hP hD hS hl
        rw [x_other] at h
        refine lv_iconst (v := 0) hx hb dX12_other_13 (by decide) ?_
        refine lv_istore_n (lv' := [(2, .int 0), (0, .ref (a 0)), (1, .int (L 1))]) hx hb dX12_other_14 rfl hl (by decide) rfl (fun ls hl => ?_)
        exact ih.2.2.1 (upd L 2 0) σ r h H locs ls hP hD hS (lv_sub hl [1, 2, 0] rfl)
      · intro L σ r h H locs ls hP hD hS hl
        rw [x_other] at h
        refine lv_iload_n hx hb dX12_other_15 rfl (lv_at hl 2 rfl) ?_
        refine lv_aload_n hx hb dX12_other_16 rfl (lv_at hl 0 rfl) ?_
        refine ng_84 hx hb hts in_x_other hown hK hP (hts _ (List.mem_cons_of_mem _ (List.mem_append_left _ (List.mem_append_left _ (List.mem_of_getElem? (i := 4) rfl))))) dX12_other_17 ?_
        refine lv_icmp_ge (tgt := 41) hx hb dX12_other_20 (by decide) (fun c1 => ?_) (fun c1 => ?_)
        · rw [if_pos c1] at h
          exact ih.2.2.2.2 L σ r h H locs ls hP hD hS (lv_sub hl [0, 1, 2] rfl)
        · rw [if_neg c1] at h
          refine lv_aload_n hx hb dX12_other_23 rfl (lv_at hl 0 rfl) ?_
          refine ng_83 hx hb hts in_x_other hown hK hP (hts _ (List.mem_cons_of_mem _ (List.mem_append_left _ (List.mem_append_left _ (List.mem_of_getElem? (i := 6) rfl))))) dX12_other_24 ?_
          refine lv_iload_n hx hb dX12_other_27 rfl (lv_at hl 2 rfl) ?_
          refine lv_aload_n hx hb dX12_other_28 rfl (lv_at hl 0 rfl) ?_
          refine ng_81 hx hb hts in_x_other hown hK hP (hts _ (List.mem_cons_of_mem _ (List.mem_append_left _ (List.mem_append_left _ (List.mem_of_getElem? (i := 7) rfl))))) dX12_other_29 ?_
          refine lv_iload_n hx hb dX12_other_32 rfl (lv_at hl 2 rfl) ?_
          obtain ⟨q2, h⟩ := nb_ite1 h
          refine nl_42 hx hb hK hP q2 dX12_other_33 ?_
          obtain ⟨q3, h⟩ := nb_ite1 h
          refine ns_44 hx hb hK hP hD hS q3 dX12_other_34 (fun H locs hP hD hS => ?_)
          exact ih.2.2.2.1 L (σ.1, σ.2.1, updG σ.2.2 44 (upd (σ.2.2 44) ((L 2)).toNatClampNeg ((σ.2.2 42 ((L 2)).toNatClampNeg)))) r h H locs ls hP hD hS (lv_sub hl [0, 1, 2] rfl)
      · intro L σ r h H locs ls hP hD hS hl
        rw [x_other] at h
        refine lv_iinc (v := ((L 2)) + 1) (lv' := [(2, .int (((L 2)) + 1)), (0, .ref (a 0)), (1, .int (L 1))]) hx hb dX12_other_35 hl (k := 2) rfl rfl (by decide) rfl (fun ls hl => ?_)
        refine lv_goto (tgt := 15) hx hb dX12_other_38 (by decide) ?_
        exact ih.2.2.1 (upd L 2 (((L 2)) + 1)) σ r h H locs ls hP hD hS (lv_sub hl [1, 2, 0] rfl)
      · intro L σ r h H locs ls hP hD hS hl
        rw [x_other] at h
        refine lv_aload_n hx hb dX12_other_41 rfl (lv_at hl 0 rfl) ?_
        refine lv_aload_n hx hb dX12_other_42 rfl (lv_at hl 0 rfl) ?_
        refine lv_iload_n hx hb dX12_other_43 rfl (lv_at hl 1 rfl) ?_
        obtain ⟨r1, hc1, h⟩ := ob_ex h
        refine nc_Vi (As := [.int (L 1)]) (rest := [.ref (a 0)]) ⟨hx, hb, hml, hown, hts⟩ (c_x_signOf l dC dI cy a k (upd (fun _ => 0) 1 ((L 1))) σ r1 hc1 H.size) (cwV 1 hts g_x_other_signOf_463 rfl rfl rfl hd_x_signOf ⟨Nat.le_of_ble_eq_true rfl, Nat.le_of_ble_eq_true rfl⟩) hK hG hA hP hD hS rfl hl.1 rfl (Nat.le_of_ble_eq_true rfl) dX12_other_44 ⟨Nat.le_refl _, Nat.le_refl _⟩ (fun H locs hP hD hS => ?_)
        refine lv_ineg hx hb dX12_other_47 ?_
        obtain ⟨r2, hc2, h⟩ := ob_ex h
        refine nc_Vi (As := [.int (- r1.1)]) (rest := []) ⟨hx, hb, hml, hown, hts⟩ (c_x_wholeOf l dC dI cy a k (upd (fun _ => 0) 1 ((- r1.1))) r1.2 r2 hc2 H.size) (cwV 1 hts g_x_other_wholeOf_485 rfl rfl rfl hd_x_wholeOf ⟨Nat.le_of_ble_eq_true rfl, Nat.le_of_ble_eq_true rfl⟩) hK hG hA hP hD hS rfl hl.1 rfl (Nat.le_of_ble_eq_true rfl) dX12_other_48 ⟨Nat.le_refl _, Nat.le_refl _⟩ (fun H locs hP hD hS => ?_)
        cases h
        exact W.iret (v := r2.1) hx hb hr (fun t ht hW => ⟨⟨r2.1, (), rfl, rfl, by rw [ht]; exact hP, va_K.moved hW.alike hK, hD⟩, hS.F ht⟩) hS.2.2 dX12_other_51
  exact (blk k0).1 L0 σ0 r0 h0 s.heap [] ls hP hD hS hl
/-! powerSet -/
def x_powerSet : Nat → Nat → (Nat → Int32) → MS → Option (Int32 × MS)
  | 0, _, _, _ => none
  | k + 1, 0, L, σ => ob (x_kind k 0 (upd (fun _ => 0) 1 ((L 1))) σ) (fun r1 => if r1.1 = 6 then (x_powerSet k 1 L r1.2) else (ob (x_wrongKind k 0 (fun _ => 0) r1.2) (fun r3 => some (r3.1, r3.2))))
  | k + 1, 1, L, σ => if ¬ (((((L 1)) + 1)) < 0 ∨ 1740000 ≤ ((((L 1)) + 1)).toNatClampNeg) then (if ((σ.2.2 28 ((((L 1)) + 1)).toNatClampNeg)) ≤ 8 then (x_powerSet k 2 (upd L 2 ((σ.2.2 28 ((((L 1)) + 1)).toNatClampNeg))) σ) else (ob (x_fail k 0 (upd (fun _ => 0) 1 5) σ) (fun r3 => some (0, r3.2)))) else none
  | k + 1, 2, L, σ => x_powerSet k 3 (upd (upd L 3 ((σ.1 59))) 4 0) σ
  | k + 1, 3, L, σ => if (((1 : Int32) <<< (((L 2)) &&& 31))) ≤ ((L 4)) then (x_powerSet k 7 L σ) else (if ((σ.1 56)) = 0 then (x_powerSet k 4 (upd (upd L 5 ((σ.1 59))) 6 0) σ) else (x_powerSet k 7 L σ))
  | k + 1, 4, L, σ => if ((L 2)) ≤ ((L 6)) then (x_powerSet k 6 L σ) else (if ((((((L 4)) >>> (((L 6)) &&& 31))) &&& 1)) = 1 then (if ¬ (((((((L 1)) + 4)) + ((L 6)))) < 0 ∨ 1740000 ≤ ((((((L 1)) + 4)) + ((L 6)))).toNatClampNeg) then (ob (x_push k 0 (upd (fun _ => 0) 1 ((σ.2.2 28 ((((((L 1)) + 4)) + ((L 6)))).toNatClampNeg))) σ) (fun r4 => x_powerSet k 5 L r4.2)) else none) else (x_powerSet k 5 L σ))
  | k + 1, 5, L, σ => x_powerSet k 4 (upd L 6 (((L 6)) + 1)) σ
  | k + 1, 6, L, σ => ob (x_setOf k 0 (upd (fun _ => 0) 1 ((L 5))) σ) (fun r1 => ob (x_push k 0 (upd (fun _ => 0) 1 r1.1) r1.2) (fun r2 => x_powerSet k 3 (upd L 4 (((L 4)) + 1)) r2.2))
  | k + 1, 7, L, σ => if ((σ.1 56)) = 0 then (ob (x_setOf k 0 (upd (fun _ => 0) 1 ((L 3))) σ) (fun r2 => x_powerSet k 9 (upd L 100 r2.1) r2.2)) else (x_powerSet k 8 L σ)
  | k + 1, 8, L, σ => x_powerSet k 9 (upd L 100 0) σ
  | k + 1, 9, L, σ => some ((L 100), σ)
  | _ + 1, _ + 10, _, _ => none
def o_x_powerSet : List Cond := [.methodLink RX12 545 yX12_kind, .instanceMethod yX12_kind, .selects RX12 yX12_kind yX12_kind, .initialized RX12, .methodLink RX12 666 yX12_wrongKind, .instanceMethod yX12_wrongKind, .selects RX12 yX12_wrongKind yX12_wrongKind, .fieldLink RX12 372 "SetHouseModel" "heap" "[I", .methodLink RX12 369 yX12_fail, .instanceMethod yX12_fail, .selects RX12 yX12_fail yX12_fail, .fieldLink RX12 385 "SetHouseModel" "top" "I", .fieldLink RX12 362 "SetHouseModel" "err" "I", .methodLink RX12 594 yX12_push, .instanceMethod yX12_push, .selects RX12 yX12_push yX12_push, .methodLink RX12 678 yX12_setOf, .instanceMethod yX12_setOf, .selects RX12 yX12_setOf yX12_setOf]
theorem o_x_powerSet_good : o_x_powerSet.all goodWord = true := by decide +kernel
def p_x_powerSet : List Cond := o_x_powerSet ++ ((.code yX12_kind cX12_kind 2 (some .int) :: p_x_kind) ++ ((.code yX12_wrongKind cX12_wrongKind 1 (some .int) :: p_x_wrongKind) ++ ((.code yX12_fail cX12_fail 2 none :: p_x_fail) ++ ((.code yX12_push cX12_push 2 none :: p_x_push) ++ ((.code yX12_setOf cX12_setOf 5 (some .int) :: p_x_setOf) ++ [])))))
theorem p_x_powerSet_good : p_x_powerSet.all goodWord = true := nb_all2 o_x_powerSet_good (nb_all2 (nb_allc (by decide +kernel) p_x_kind_good) (nb_all2 (nb_allc (by decide +kernel) p_x_wrongKind_good) (nb_all2 (nb_allc (by decide +kernel) p_x_fail_good) (nb_all2 (nb_allc (by decide +kernel) p_x_push_good) (nb_all2 (nb_allc (by decide +kernel) p_x_setOf_good) rfl)))))
def w_x_powerSet : List Cond := .code yX12_powerSet cX12_powerSet 7 (some .int) :: (p_x_powerSet ++ fM)
theorem w_x_powerSet_good : w_x_powerSet.all goodWord = true := nb_allc (by decide +kernel) (nb_all2 p_x_powerSet_good fM_good)
theorem in_x_powerSet : ∀ w ∈ wsX120, w ∈ w_x_powerSet := fun _ h => List.mem_cons_of_mem _ (List.mem_append_right _ h)
theorem hd_x_powerSet : yX12_powerSet.cls = RX12 ∧ yX12_powerSet.cls ≠ "java/lang/invoke/MethodHandle" ∧ yX12_powerSet.cls ≠ "java/lang/invoke/VarHandle" ∧ (parseMethodDescriptor yX12_powerSet.desc).map (fun d => d.parameters.length) = some 1 := by decide +kernel
theorem gg_x_powerSet_fail : GoodIn w_x_powerSet w_x_fail := goodIn_sub (fun w h => (List.mem_cons.mp h).elim (fun e => (List.mem_cons_of_mem _ (List.mem_append_left _ (List.mem_append_right _ (List.mem_append_right _ (List.mem_append_right _ (List.mem_append_left _ (List.mem_cons.mpr (Or.inl e))))))))) (fun h => (List.mem_append.mp h).elim (fun h => (List.mem_cons_of_mem _ (List.mem_append_left _ (List.mem_append_right _ (List.mem_append_right _ (List.mem_append_right _ (List.mem_append_left _ (List.mem_cons_of_mem _ h)))))))) (fun h => List.mem_cons_of_mem _ (List.mem_append_right _ h)))) w_x_fail_good
theorem g_x_powerSet_fail_369 : GoodIn w_x_powerSet (wsV RX12 369 RX12 yX12_fail w_x_fail) := goodIn_app (nb_g4 (List.mem_cons_of_mem _ (List.mem_append_left _ (List.mem_append_left _ (List.mem_of_getElem? (i := 8) rfl)))) (List.mem_cons_of_mem _ (List.mem_append_left _ (List.mem_append_left _ (List.mem_of_getElem? (i := 9) rfl)))) (List.mem_cons_of_mem _ (List.mem_append_left _ (List.mem_append_left _ (List.mem_of_getElem? (i := 10) rfl)))) (List.mem_cons_of_mem _ (List.mem_append_left _ (List.mem_append_left _ (List.mem_of_getElem? (i := 3) rfl)))) (by decide +kernel)) gg_x_powerSet_fail
theorem gg_x_powerSet_kind : GoodIn w_x_powerSet w_x_kind := goodIn_sub (fun w h => (List.mem_cons.mp h).elim (fun e => (List.mem_cons_of_mem _ (List.mem_append_left _ (List.mem_append_right _ (List.mem_append_left _ (List.mem_cons.mpr (Or.inl e))))))) (fun h => (List.mem_append.mp h).elim (fun h => (List.mem_cons_of_mem _ (List.mem_append_left _ (List.mem_append_right _ (List.mem_append_left _ (List.mem_cons_of_mem _ h)))))) (fun h => List.mem_cons_of_mem _ (List.mem_append_right _ h)))) w_x_kind_good
theorem g_x_powerSet_kind_545 : GoodIn w_x_powerSet (wsV RX12 545 RX12 yX12_kind w_x_kind) := goodIn_app (nb_g4 (List.mem_cons_of_mem _ (List.mem_append_left _ (List.mem_append_left _ (List.mem_of_getElem? (i := 0) rfl)))) (List.mem_cons_of_mem _ (List.mem_append_left _ (List.mem_append_left _ (List.mem_of_getElem? (i := 1) rfl)))) (List.mem_cons_of_mem _ (List.mem_append_left _ (List.mem_append_left _ (List.mem_of_getElem? (i := 2) rfl)))) (List.mem_cons_of_mem _ (List.mem_append_left _ (List.mem_append_left _ (List.mem_of_getElem? (i := 3) rfl)))) (by decide +kernel)) gg_x_powerSet_kind
theorem gg_x_powerSet_push : GoodIn w_x_powerSet w_x_push := goodIn_sub (fun w h => (List.mem_cons.mp h).elim (fun e => (List.mem_cons_of_mem _ (List.mem_append_left _ (List.mem_append_right _ (List.mem_append_right _ (List.mem_append_right _ (List.mem_append_right _ (List.mem_append_left _ (List.mem_cons.mpr (Or.inl e)))))))))) (fun h => (List.mem_append.mp h).elim (fun h => (List.mem_cons_of_mem _ (List.mem_append_left _ (List.mem_append_right _ (List.mem_append_right _ (List.mem_append_right _ (List.mem_append_right _ (List.mem_append_left _ (List.mem_cons_of_mem _ h))))))))) (fun h => List.mem_cons_of_mem _ (List.mem_append_right _ h)))) w_x_push_good
theorem g_x_powerSet_push_594 : GoodIn w_x_powerSet (wsV RX12 594 RX12 yX12_push w_x_push) := goodIn_app (nb_g4 (List.mem_cons_of_mem _ (List.mem_append_left _ (List.mem_append_left _ (List.mem_of_getElem? (i := 13) rfl)))) (List.mem_cons_of_mem _ (List.mem_append_left _ (List.mem_append_left _ (List.mem_of_getElem? (i := 14) rfl)))) (List.mem_cons_of_mem _ (List.mem_append_left _ (List.mem_append_left _ (List.mem_of_getElem? (i := 15) rfl)))) (List.mem_cons_of_mem _ (List.mem_append_left _ (List.mem_append_left _ (List.mem_of_getElem? (i := 3) rfl)))) (by decide +kernel)) gg_x_powerSet_push
theorem gg_x_powerSet_setOf : GoodIn w_x_powerSet w_x_setOf := goodIn_sub (fun w h => (List.mem_cons.mp h).elim (fun e => (List.mem_cons_of_mem _ (List.mem_append_left _ (List.mem_append_right _ (List.mem_append_right _ (List.mem_append_right _ (List.mem_append_right _ (List.mem_append_right _ (List.mem_append_left _ (List.mem_cons.mpr (Or.inl e))))))))))) (fun h => (List.mem_append.mp h).elim (fun h => (List.mem_cons_of_mem _ (List.mem_append_left _ (List.mem_append_right _ (List.mem_append_right _ (List.mem_append_right _ (List.mem_append_right _ (List.mem_append_right _ (List.mem_append_left _ (List.mem_cons_of_mem _ h)))))))))) (fun h => List.mem_cons_of_mem _ (List.mem_append_right _ h)))) w_x_setOf_good
theorem g_x_powerSet_setOf_678 : GoodIn w_x_powerSet (wsV RX12 678 RX12 yX12_setOf w_x_setOf) := goodIn_app (nb_g4 (List.mem_cons_of_mem _ (List.mem_append_left _ (List.mem_append_left _ (List.mem_of_getElem? (i := 16) rfl)))) (List.mem_cons_of_mem _ (List.mem_append_left _ (List.mem_append_left _ (List.mem_of_getElem? (i := 17) rfl)))) (List.mem_cons_of_mem _ (List.mem_append_left _ (List.mem_append_left _ (List.mem_of_getElem? (i := 18) rfl)))) (List.mem_cons_of_mem _ (List.mem_append_left _ (List.mem_append_left _ (List.mem_of_getElem? (i := 3) rfl)))) (by decide +kernel)) gg_x_powerSet_setOf
theorem gg_x_powerSet_wrongKind : GoodIn w_x_powerSet w_x_wrongKind := goodIn_sub (fun w h => (List.mem_cons.mp h).elim (fun e => (List.mem_cons_of_mem _ (List.mem_append_left _ (List.mem_append_right _ (List.mem_append_right _ (List.mem_append_left _ (List.mem_cons.mpr (Or.inl e)))))))) (fun h => (List.mem_append.mp h).elim (fun h => (List.mem_cons_of_mem _ (List.mem_append_left _ (List.mem_append_right _ (List.mem_append_right _ (List.mem_append_left _ (List.mem_cons_of_mem _ h))))))) (fun h => List.mem_cons_of_mem _ (List.mem_append_right _ h)))) w_x_wrongKind_good
theorem g_x_powerSet_wrongKind_666 : GoodIn w_x_powerSet (wsV RX12 666 RX12 yX12_wrongKind w_x_wrongKind) := goodIn_app (nb_g4 (List.mem_cons_of_mem _ (List.mem_append_left _ (List.mem_append_left _ (List.mem_of_getElem? (i := 4) rfl)))) (List.mem_cons_of_mem _ (List.mem_append_left _ (List.mem_append_left _ (List.mem_of_getElem? (i := 5) rfl)))) (List.mem_cons_of_mem _ (List.mem_append_left _ (List.mem_append_left _ (List.mem_of_getElem? (i := 6) rfl)))) (List.mem_cons_of_mem _ (List.mem_append_left _ (List.mem_append_left _ (List.mem_of_getElem? (i := 3) rfl)))) (by decide +kernel)) gg_x_powerSet_wrongKind
set_option maxHeartbeats 40000000 in
set_option maxRecDepth 100000 in
theorem c_x_powerSet (l : Launch) (dC : Nat → ClassId) (dI : Nat → Nat → Nat) (cy : Nat → ClassId) (a : Nat → Nat) (k0 : Nat) (L0 : Nat → Int32) (σ0 : MS) (r0 : Int32 × MS) (h0 : x_powerSet k0 0 L0 σ0 = some r0) (sz : Nat) : Met l yX12_powerSet w_x_powerSet ({ frames := 46, cells := 0, slots := 0, locals := 1271 }) (va_Pc [.ref (a 0), .int (L0 1)] (nIn (dC, dI) cy sz (vM cy a σ0))) (va_Qi (fun (z : Int32) (_ : Unit) => z = r0.1) (fun _ t => nOut (dC, dI) cy (va_A (vM cy a σ0) sz) (vM cy a r0.2) t) (va_A (vM cy a σ0) sz)) 0 0 (va_A (vM cy a σ0) sz) := by
  refine Met.ofW (cc := cX12_powerSet) (maxL := 7) (ret := (some .int)) (by decide) rfl ?_
  intro p e s m args below meth c s₁ B hml hv
  obtain ⟨rfl, hsz, hP, hK, hD0, hG⟩ := hv
  have hx := B.exec
  have hb := B.bytes
  have hr := B.returns
  have hts := atoms_spec (ws := w_x_powerSet) B.pre
  have hown : s.vm.findClass RX12 = some m.cls := findClass_of_methodNamed B.named
  have hlocks := B.notSynchronized
  subst hsz
  have hD := hD0.self (sz := s.heap.size)
  generalize hAe : va_A (vM cy a σ0) s.heap.size = A at hD ⊢
  have hA : ∀ q : Nat, s.heap.size ≤ q → A q := fun q h => by rw [← hAe]; exact Or.inr h
  have hS : va_S A s.heap s.heap [] := va_S.rf
  have hl := lv_entry ([.ref (a 0), .int (L0 1)]) (n := 7) (Nat.le_of_ble_eq_true rfl)
  rw [lg_entry_eq]
  generalize (lg_sl ([.ref (a 0), .int (L0 1)]) ++ List.replicate (7 - (lg_sl ([.ref (a 0), .int (L0 1)])).length) Slot.unset).toArray = ls at hl ⊢
  have hl : lv_has ls 7 [(0, .ref (a 0)), (1, .int (L0 1))] := hl
  have blk : ∀ k : Nat, (bT p l e (headSpec w_x_powerSet ({ frames := 46, cells := 0, slots := 0, locals := 1271 })).room s m #[.ref (a 0), .int (L0 1)] below meth c dC dI cy a A (qI dC dI cy a A below #[.ref (a 0), .int (L0 1)] s) 7 (x_powerSet k 0) (fun L => [(0, .ref (a 0)), (1, .int (L 1))]) 0 (fun L => [])) ∧ (bT p l e (headSpec w_x_powerSet ({ frames := 46, cells := 0, slots := 0, locals := 1271 })).room s m #[.ref (a 0), .int (L0 1)] below meth c dC dI cy a A (qI dC dI cy a A below #[.ref (a 0), .int (L0 1)] s) 7 (x_powerSet k 1) (fun L => [(0, .ref (a 0)), (1, .int (L 1))]) 15 (fun L => [])) ∧ (bT p l e (headSpec w_x_powerSet ({ frames := 46, cells := 0, slots := 0, locals := 1271 })).room s m #[.ref (a 0), .int (L0 1)] below meth c dC dI cy a A (qI dC dI cy a A below #[.ref (a 0), .int (L0 1)] s) 7 (x_powerSet k 2) (fun L => [(0, .ref (a 0)), (1, .int (L 1)), (2, .int (L 2))]) 37 (fun L => [])) ∧ (bT p l e (headSpec w_x_powerSet ({ frames := 46, cells := 0, slots := 0, locals := 1271 })).room s m #[.ref (a 0), .int (L0 1)] below meth c dC dI cy a A (qI dC dI cy a A below #[.ref (a 0), .int (L0 1)] s) 7 (x_powerSet k 3) (fun L => [(0, .ref (a 0)), (1, .int (L 1)), (2, .int (L 2)), (3, .int (L 3)), (4, .int (L 4))]) 45 (fun L => [])) ∧ (bT p l e (headSpec w_x_powerSet ({ frames := 46, cells := 0, slots := 0, locals := 1271 })).room s m #[.ref (a 0), .int (L0 1)] below meth c dC dI cy a A (qI dC dI cy a A below #[.ref (a 0), .int (L0 1)] s) 7 (x_powerSet k 4) (fun L => [(0, .ref (a 0)), (1, .int (L 1)), (2, .int (L 2)), (3, .int (L 3)), (4, .int (L 4)), (5, .int (L 5)), (6, .int (L 6))]) 69 (fun L => [])) ∧ (bT p l e (headSpec w_x_powerSet ({ frames := 46, cells := 0, slots := 0, locals := 1271 })).room s m #[.ref (a 0), .int (L0 1)] below meth c dC dI cy a A (qI dC dI cy a A below #[.ref (a 0), .int (L0 1)] s) 7 (x_powerSet k 5) (fun L => [(0, .ref (a 0)), (1, .int (L 1)), (2, .int (L 2)), (3, .int (L 3)), (4, .int (L 4)), (5, .int (L 5)), (6, .int (L 6))]) 101 (fun L => [])) ∧ (bT p l e (headSpec w_x_powerSet ({ frames := 46, cells := 0, slots := 0, locals := 1271 })).room s m #[.ref (a 0), .int (L0 1)] below meth c dC dI cy a A (qI dC dI cy a A below #[.ref (a 0), .int (L0 1)] s) 7 (x_powerSet k 6) (fun L => [(0, .ref (a 0)), (1, .int (L 1)), (2, .int (L 2)), (3, .int (L 3)), (4, .int (L 4)), (5, .int (L 5)), (6, .int (L 6))]) 107 (fun L => [])) ∧ (bT p l e (headSpec w_x_powerSet ({ frames := 46, cells := 0, slots := 0, locals := 1271 })).room s m #[.ref (a 0), .int (L0 1)] below meth c dC dI cy a A (qI dC dI cy a A below #[.ref (a 0), .int (L0 1)] s) 7 (x_powerSet k 7) (fun L => [(0, .ref (a 0)), (1, .int (L 1)), (2, .int (L 2)), (3, .int (L 3)), (4, .int (L 4))]) 123 (fun L => [])) ∧ (bT p l e (headSpec w_x_powerSet ({ frames := 46, cells := 0, slots := 0, locals := 1271 })).room s m #[.ref (a 0), .int (L0 1)] below meth c dC dI cy a A (qI dC dI cy a A below #[.ref (a 0), .int (L0 1)] s) 7 (x_powerSet k 8) (fun L => [(0, .ref (a 0)), (1, .int (L 1)), (2, .int (L 2)), (3, .int (L 3)), (4, .int (L 4))]) 138 (fun L => [])) ∧ (bT p l e (headSpec w_x_powerSet ({ frames := 46, cells := 0, slots := 0, locals := 1271 })).room s m #[.ref (a 0), .int (L0 1)] below meth c dC dI cy a A (qI dC dI cy a A below #[.ref (a 0), .int (L0 1)] s) 7 (x_powerSet k 9) (fun L => [(0, .ref (a 0)), (1, .int (L 1)), (2, .int (L 2)), (3, .int (L 3)), (4, .int (L 4))]) 139 (fun L => [.int (L 100)])) := by
    intro k
    induction k with
    | zero => exact ⟨fun L σ r h => (by cases h), fun L σ r h => (by cases h), fun L σ r h => (by cases h), fun L σ r h => (by cases h), fun L σ r h => (by cases h), fun L σ r h => (by cases h), fun L σ r h => (by cases h), fun L σ r h => (by cases h), fun L σ r h => (by cases h), fun L σ r h => (by cases h)⟩
    | succ k ih =>
      refine ⟨?_, ?_, ?_, ?_, ?_, ?_, ?_, ?_, ?_, ?_⟩
      · intro L σ r h H locs ls hP hD hS hl
        rw [x_powerSet] at h
        refine lv_aload_n hx hb dX12_powerSet_0 rfl (lv_at hl 0 rfl) ?_
        refine lv_iload_n hx hb dX12_powerSet_1 rfl (lv_at hl 1 rfl) ?_
        obtain ⟨r1, hc1, h⟩ := ob_ex h
        refine nc_Vi (As := [.int (L 1)]) (rest := []) ⟨hx, hb, hml, hown, hts⟩ (c_x_kind l dC dI cy a k (upd (fun _ => 0) 1 ((L 1))) σ r1 hc1 H.size) (cwV 1 hts g_x_powerSet_kind_545 rfl rfl rfl hd_x_kind ⟨Nat.le_of_ble_eq_true rfl, Nat.le_of_ble_eq_true rfl⟩) hK hG hA hP hD hS rfl hl.1 rfl (Nat.le_of_ble_eq_true rfl) dX12_powerSet_2 ⟨Nat.le_refl _, Nat.le_refl _⟩ (fun H locs hP hD hS => ?_)
        refine lv_bipush (v := 6) hx hb dX12_powerSet_5 (by decide) ?_
        refine lv_icmp_eq (tgt := 15) hx hb dX12_powerSet_7 (by decide) (fun c2 => ?_) (fun c2 => ?_)
        · rw [if_pos c2] at h
          exact ih.2.1 L r1.2 r h H locs ls hP hD hS (lv_sub hl [0, 1] rfl)
        · rw [if_neg c2] at h
          refine lv_aload_n hx hb dX12_powerSet_10 rfl (lv_at hl 0 rfl) ?_
          obtain ⟨r3, hc3, h⟩ := ob_ex h
          refine nc_Vi (As := []) (rest := []) ⟨hx, hb, hml, hown, hts⟩ (c_x_wrongKind l dC dI cy a k (fun _ => 0) r1.2 r3 hc3 H.size) (cwV 0 hts g_x_powerSet_wrongKind_666 rfl rfl rfl hd_x_wrongKind ⟨Nat.le_of_ble_eq_true rfl, Nat.le_of_ble_eq_true rfl⟩) hK hG hA hP hD hS rfl hl.1 rfl (Nat.le_of_ble_eq_true rfl) dX12_powerSet_11 ⟨Nat.le_refl _, Nat.le_refl _⟩ (fun H locs hP hD hS => ?_)
          cases h
          exact W.iret (v := r3.1) hx hb hr (fun t ht hW => ⟨⟨r3.1, (), rfl, rfl, by rw [ht]; exact hP, va_K.moved hW.alike hK, hD⟩, hS.F ht⟩) hS.2.2 dX12_powerSet_14
      · intro L σ r h H locs ls hP hD hS hl
        rw [x_powerSet] at h
        refine lv_aload_n hx hb dX12_powerSet_15 rfl (lv_at hl 0 rfl) ?_
        refine ng_53 hx hb hts in_x_powerSet hown hK hP (hts _ (List.mem_cons_of_mem _ (List.mem_append_left _ (List.mem_append_left _ (List.mem_of_getElem? (i := 7) rfl))))) dX12_powerSet_16 ?_
        refine lv_iload_n hx hb dX12_powerSet_19 rfl (lv_at hl 1 rfl) ?_
        refine lv_iconst (v := 1) hx hb dX12_powerSet_20 (by decide) ?_
        refine lv_iadd hx hb dX12_powerSet_21 ?_
        obtain ⟨q1, h⟩ := nb_ite1 h
        refine nl_28 hx hb hK hP q1 dX12_powerSet_22 ?_
        refine lv_istore_n (lv' := [(2, .int (σ.2.2 28 ((((L 1)) + 1)).toNatClampNeg)), (0, .ref (a 0)), (1, .int (L 1))]) hx hb dX12_powerSet_23 rfl hl (by decide) rfl (fun ls hl => ?_)
        refine lv_iload_n hx hb dX12_powerSet_24 rfl (lv_at hl 0 rfl) ?_
        refine lv_bipush (v := 8) hx hb dX12_powerSet_25 (by decide) ?_
        refine lv_icmp_le (tgt := 37) hx hb dX12_powerSet_27 (by decide) (fun c2 => ?_) (fun c2 => ?_)
        · rw [if_pos c2] at h
          exact ih.2.2.1 (upd L 2 ((σ.2.2 28 ((((L 1)) + 1)).toNatClampNeg))) σ r h H locs ls hP hD hS (lv_sub hl [1, 2, 0] rfl)
        · rw [if_neg c2] at h
          refine lv_aload_n hx hb dX12_powerSet_30 rfl (lv_at hl 1 rfl) ?_
          refine lv_iconst (v := 5) hx hb dX12_powerSet_31 (by decide) ?_
          obtain ⟨r3, hc3, h⟩ := ob_ex h
          refine nc_Vv (As := [.int 5]) (rest := []) ⟨hx, hb, hml, hown, hts⟩ (c_x_fail l dC dI cy a k (upd (fun _ => 0) 1 5) σ r3 hc3 H.size) (cwV 1 hts g_x_powerSet_fail_369 rfl rfl rfl hd_x_fail ⟨Nat.le_of_ble_eq_true rfl, Nat.le_of_ble_eq_true rfl⟩) hK hG hA hP hD hS rfl hl.1 rfl (Nat.le_of_ble_eq_true rfl) dX12_powerSet_32 ⟨Nat.le_refl _, Nat.le_refl _⟩ (fun H locs hP hD hS => ?_)
          refine lv_iconst (v := 0) hx hb dX12_powerSet_35 (by decide) ?_
          cases h
          exact W.iret (v := 0) hx hb hr (fun t ht hW => ⟨⟨0, (), rfl, rfl, by rw [ht]; exact hP, va_K.moved hW.alike hK, hD⟩, hS.F ht⟩) hS.2.2 dX12_powerSet_36
      · intro L σ r h H locs ls hP hD hS hl
        rw [x_powerSet] at h
        refine lv_aload_n hx hb dX12_powerSet_37 rfl (lv_at hl 0 rfl) ?_
        refine ng_59 hx hb hts in_x_powerSet hown hK hP (hts _ (List.mem_cons_of_mem _ (List.mem_append_left _ (List.mem_append_left _ (List.mem_of_getElem? (i := 11) rfl))))) dX12_powerSet_38 ?_
        refine lv_istore_n (lv' := [(3, .int (σ.1 59)), (0, .ref (a 0)), (1, .int (L 1)), (2, .int (L 2))]) hx hb dX12_powerSet_41 rfl hl (by decide) rfl (fun ls hl => ?_)
        refine lv_iconst (v := 0) hx hb dX12_powerSet_42 (by decide) ?_
        refine lv_istore (lv' := [(4, .int 0), (3, .int (σ.1 59)), (0, .ref (a 0)), (1, .int (L 1)), (2, .int (L 2))]) hx hb dX12_powerSet_43 hl (by decide) rfl (fun ls hl => ?_)
        exact ih.2.2.2.1 (upd (upd L 3 ((σ.1 59))) 4 0) σ r h H locs ls hP hD hS (lv_sub hl [2, 3, 4, 1, 0] rfl)
      · intro L σ r h H locs ls hP hD hS hl
        rw [x_powerSet] at h
        refine lv_iload hx hb dX12_powerSet_45 (lv_at hl 4 rfl) ?_
        refine lv_iconst (v := 1) hx hb dX12_powerSet_47 (by decide) ?_
        refine lv_iload_n hx hb dX12_powerSet_48 rfl (lv_at hl 2 rfl) ?_
        refine lv_ishl hx hb dX12_powerSet_49 ?_
        refine lv_icmp_ge (tgt := 123) hx hb dX12_powerSet_50 (by decide) (fun c1 => ?_) (fun c1 => ?_)
        · rw [if_pos c1] at h
          exact ih.2.2.2.2.2.2.2.1 L σ r h H locs ls hP hD hS (lv_sub hl [0, 1, 2, 3, 4] rfl)
        · rw [if_neg c1] at h
          refine lv_aload_n hx hb dX12_powerSet_53 rfl (lv_at hl 0 rfl) ?_
          refine ng_56 hx hb hts in_x_powerSet hown hK hP (hts _ (List.mem_cons_of_mem _ (List.mem_append_left _ (List.mem_append_left _ (List.mem_of_getElem? (i := 12) rfl))))) dX12_powerSet_54 ?_
          refine lv_if_ne (tgt := 123) hx hb dX12_powerSet_57 (by decide) (fun c2 => ?_) (fun c2 => ?_)
          · rw [if_neg c2] at h
            exact ih.2.2.2.2.2.2.2.1 L σ r h H locs ls hP hD hS (lv_sub hl [0, 1, 2, 3, 4] rfl)
          · rw [if_pos c2] at h
            refine lv_aload_n hx hb dX12_powerSet_60 rfl (lv_at hl 0 rfl) ?_
            refine ng_59 hx hb hts in_x_powerSet hown hK hP (hts _ (List.mem_cons_of_mem _ (List.mem_append_left _ (List.mem_append_left _ (List.mem_of_getElem? (i := 11) rfl))))) dX12_powerSet_61 ?_
            refine lv_istore (lv' := [(5, .int (σ.1 59)), (0, .ref (a 0)), (1, .int (L 1)), (2, .int (L 2)), (3, .int (L 3)), (4, .int (L 4))]) hx hb dX12_powerSet_64 hl (by decide) rfl (fun ls hl => ?_)
            refine lv_iconst (v := 0) hx hb dX12_powerSet_66 (by decide) ?_
            refine lv_istore (lv' := [(6, .int 0), (5, .int (σ.1 59)), (0, .ref (a 0)), (1, .int (L 1)), (2, .int (L 2)), (3, .int (L 3)), (4, .int (L 4))]) hx hb dX12_powerSet_67 hl (by decide) rfl (fun ls hl => ?_)
            exact ih.2.2.2.2.1 (upd (upd L 5 ((σ.1 59))) 6 0) σ r h H locs ls hP hD hS (lv_sub hl [2, 3, 4, 5, 6, 1, 0] rfl)
      · intro L σ r h H locs ls hP hD hS hl
        rw [x_powerSet] at h
        refine lv_iload hx hb dX12_powerSet_69 (lv_at hl 6 rfl) ?_
        refine lv_iload_n hx hb dX12_powerSet_71 rfl (lv_at hl 2 rfl) ?_
        refine lv_icmp_ge (tgt := 107) hx hb dX12_powerSet_72 (by decide) (fun c1 => ?_) (fun c1 => ?_)
        · rw [if_pos c1] at h
          exact ih.2.2.2.2.2.2.1 L σ r h H locs ls hP hD hS (lv_sub hl [0, 1, 2, 3, 4, 5, 6] rfl)
        · rw [if_neg c1] at h
          refine lv_iload hx hb dX12_powerSet_75 (lv_at hl 4 rfl) ?_
          refine lv_iload hx hb dX12_powerSet_77 (lv_at hl 6 rfl) ?_
          refine lv_ishr hx hb dX12_powerSet_79 ?_
          refine lv_iconst (v := 1) hx hb dX12_powerSet_80 (by decide) ?_
          refine lv_iand hx hb dX12_powerSet_81 ?_
          refine lv_iconst (v := 1) hx hb dX12_powerSet_82 (by decide) ?_
          refine lv_icmp_ne (tgt := 101) hx hb dX12_powerSet_83 (by decide) (fun c2 => ?_) (fun c2 => ?_)
          · rw [if_neg c2] at h
            exact ih.2.2.2.2.2.1 L σ r h H locs ls hP hD hS (lv_sub hl [0, 1, 2, 3, 4, 5, 6] rfl)
          · rw [if_pos c2] at h
            refine lv_aload_n hx hb dX12_powerSet_86 rfl (lv_at hl 0 rfl) ?_
            refine lv_aload_n hx hb dX12_powerSet_87 rfl (lv_at hl 0 rfl) ?_
            refine ng_53 hx hb hts in_x_powerSet hown hK hP (hts _ (List.mem_cons_of_mem _ (List.mem_append_left _ (List.mem_append_left _ (List.mem_of_getElem? (i := 7) rfl))))) dX12_powerSet_88 ?_
            refine lv_iload_n hx hb dX12_powerSet_91 rfl (lv_at hl 1 rfl) ?_
            refine lv_iconst (v := 4) hx hb dX12_powerSet_92 (by decide) ?_
            refine lv_iadd hx hb dX12_powerSet_93 ?_
            refine lv_iload hx hb dX12_powerSet_94 (lv_at hl 6 rfl) ?_
            refine lv_iadd hx hb dX12_powerSet_96 ?_
            obtain ⟨q3, h⟩ := nb_ite1 h
            refine nl_28 hx hb hK hP q3 dX12_powerSet_97 ?_
            obtain ⟨r4, hc4, h⟩ := ob_ex h
            refine nc_Vv (As := [.int (σ.2.2 28 ((((((L 1)) + 4)) + ((L 6)))).toNatClampNeg)]) (rest := []) ⟨hx, hb, hml, hown, hts⟩ (c_x_push l dC dI cy a k (upd (fun _ => 0) 1 ((σ.2.2 28 ((((((L 1)) + 4)) + ((L 6)))).toNatClampNeg))) σ r4 hc4 H.size) (cwV 1 hts g_x_powerSet_push_594 rfl rfl rfl hd_x_push ⟨Nat.le_of_ble_eq_true rfl, Nat.le_of_ble_eq_true rfl⟩) hK hG hA hP hD hS rfl hl.1 rfl (Nat.le_of_ble_eq_true rfl) dX12_powerSet_98 ⟨Nat.le_refl _, Nat.le_refl _⟩ (fun H locs hP hD hS => ?_)
            exact ih.2.2.2.2.2.1 L r4.2 r h H locs ls hP hD hS (lv_sub hl [0, 1, 2, 3, 4, 5, 6] rfl)
      · intro L σ r h H locs ls hP hD hS hl
        rw [x_powerSet] at h
        refine lv_iinc (v := ((L 6)) + 1) (lv' := [(6, .int (((L 6)) + 1)), (0, .ref (a 0)), (1, .int (L 1)), (2, .int (L 2)), (3, .int (L 3)), (4, .int (L 4)), (5, .int (L 5))]) hx hb dX12_powerSet_101 hl (k := 6) rfl rfl (by decide) rfl (fun ls hl => ?_)
        refine lv_goto (tgt := 69) hx hb dX12_powerSet_104 (by decide) ?_
        exact ih.2.2.2.2.1 (upd L 6 (((L 6)) + 1)) σ r h H locs ls hP hD hS (lv_sub hl [1, 2, 3, 4, 5, 6, 0] rfl)
      · intro L σ r h H locs ls hP hD hS hl
        rw [x_powerSet] at h
        refine lv_aload_n hx hb dX12_powerSet_107 rfl (lv_at hl 0 rfl) ?_
        refine lv_aload_n hx hb dX12_powerSet_108 rfl (lv_at hl 0 rfl) ?_
        refine lv_iload hx hb dX12_powerSet_109 (lv_at hl 5 rfl) ?_
        obtain ⟨r1, hc1, h⟩ := ob_ex h
        refine nc_Vi (As := [.int (L 5)]) (rest := [.ref (a 0)]) ⟨hx, hb, hml, hown, hts⟩ (c_x_setOf l dC dI cy a k (upd (fun _ => 0) 1 ((L 5))) σ r1 hc1 H.size) (cwV 1 hts g_x_powerSet_setOf_678 rfl rfl rfl hd_x_setOf ⟨Nat.le_of_ble_eq_true rfl, Nat.le_of_ble_eq_true rfl⟩) hK hG hA hP hD hS rfl hl.1 rfl (Nat.le_of_ble_eq_true rfl) dX12_powerSet_111 ⟨Nat.le_refl _, Nat.le_refl _⟩ (fun H locs hP hD hS => ?_)
        obtain ⟨r2, hc2, h⟩ := ob_ex h
        refine nc_Vv (As := [.int r1.1]) (rest := []) ⟨hx, hb, hml, hown, hts⟩ (c_x_push l dC dI cy a k (upd (fun _ => 0) 1 r1.1) r1.2 r2 hc2 H.size) (cwV 1 hts g_x_powerSet_push_594 rfl rfl rfl hd_x_push ⟨Nat.le_of_ble_eq_true rfl, Nat.le_of_ble_eq_true rfl⟩) hK hG hA hP hD hS rfl hl.1 rfl (Nat.le_of_ble_eq_true rfl) dX12_powerSet_114 ⟨Nat.le_refl _, Nat.le_refl _⟩ (fun H locs hP hD hS => ?_)
        refine lv_iinc (v := ((L 4)) + 1) (lv' := [(4, .int (((L 4)) + 1)), (0, .ref (a 0)), (1, .int (L 1)), (2, .int (L 2)), (3, .int (L 3)), (5, .int (L 5)), (6, .int (L 6))]) hx hb dX12_powerSet_117 hl (k := 4) rfl rfl (by decide) rfl (fun ls hl => ?_)
        refine lv_goto (tgt := 45) hx hb dX12_powerSet_120 (by decide) ?_
        exact ih.2.2.2.1 (upd L 4 (((L 4)) + 1)) r2.2 r h H locs ls hP hD hS (lv_sub hl [1, 2, 3, 4, 0] rfl)
      · intro L σ r h H locs ls hP hD hS hl
        rw [x_powerSet] at h
        refine lv_aload_n hx hb dX12_powerSet_123 rfl (lv_at hl 0 rfl) ?_
        refine ng_56 hx hb hts in_x_powerSet hown hK hP (hts _ (List.mem_cons_of_mem _ (List.mem_append_left _ (List.mem_append_left _ (List.mem_of_getElem? (i := 12) rfl))))) dX12_powerSet_124 ?_
        refine lv_if_ne (tgt := 138) hx hb dX12_powerSet_127 (by decide) (fun c1 => ?_) (fun c1 => ?_)
        · rw [if_neg c1] at h
          exact ih.2.2.2.2.2.2.2.2.1 L σ r h H locs ls hP hD hS (lv_sub hl [0, 1, 2, 3, 4] rfl)
        · rw [if_pos c1] at h
          refine lv_aload_n hx hb dX12_powerSet_130 rfl (lv_at hl 0 rfl) ?_
          refine lv_iload_n hx hb dX12_powerSet_131 rfl (lv_at hl 3 rfl) ?_
          obtain ⟨r2, hc2, h⟩ := ob_ex h
          refine nc_Vi (As := [.int (L 3)]) (rest := []) ⟨hx, hb, hml, hown, hts⟩ (c_x_setOf l dC dI cy a k (upd (fun _ => 0) 1 ((L 3))) σ r2 hc2 H.size) (cwV 1 hts g_x_powerSet_setOf_678 rfl rfl rfl hd_x_setOf ⟨Nat.le_of_ble_eq_true rfl, Nat.le_of_ble_eq_true rfl⟩) hK hG hA hP hD hS rfl hl.1 rfl (Nat.le_of_ble_eq_true rfl) dX12_powerSet_132 ⟨Nat.le_refl _, Nat.le_refl _⟩ (fun H locs hP hD hS => ?_)
          refine lv_goto (tgt := 139) hx hb dX12_powerSet_135 (by decide) ?_
          exact ih.2.2.2.2.2.2.2.2.2 (upd L 100 r2.1) r2.2 r h H locs ls hP hD hS (lv_sub hl [0, 1, 2, 3, 4] rfl)
      · intro L σ r h H locs ls hP hD hS hl
        rw [x_powerSet] at h
        refine lv_iconst (v := 0) hx hb dX12_powerSet_138 (by decide) ?_
        exact ih.2.2.2.2.2.2.2.2.2 (upd L 100 0) σ r h H locs ls hP hD hS (lv_sub hl [0, 1, 2, 3, 4] rfl)
      · intro L σ r h H locs ls hP hD hS hl
        rw [x_powerSet] at h
        cases h
        exact W.iret (v := (L 100)) hx hb hr (fun t ht hW => ⟨⟨(L 100), (), rfl, rfl, by rw [ht]; exact hP, va_K.moved hW.alike hK, hD⟩, hS.F ht⟩) hS.2.2 dX12_powerSet_139
  exact (blk k0).1 L0 σ0 r0 h0 s.heap [] ls hP hD hS hl

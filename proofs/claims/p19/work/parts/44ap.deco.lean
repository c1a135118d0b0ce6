/-! literal -/
def x_literal : Nat → Nat → (Nat → Int32) → MS → Option (Int32 × MS)
  | 0, _, _, _ => none
  | k + 1, 0, L, σ => x_literal k 1 L (upd σ.1 86 0, σ.2.1, σ.2.2)
  | k + 1, 1, L, σ => x_literal k 2 (upd L 3 0) σ
  | k + 1, 2, L, σ => if ((L 2)) ≤ ((L 3)) then (x_literal k 8 L σ) else (if ¬ (((((L 1)) + ((L 3)))) < 0 ∨ 70000 ≤ ((((L 1)) + ((L 3)))).toNatClampNeg) then (x_literal k 3 (upd (upd L 4 ((((σ.2.2 12 ((((L 1)) + ((L 3)))).toNatClampNeg)) - 48))) 5 0) σ) else none)
  | k + 1, 3, L, σ => if ((σ.1 86)) ≤ ((L 5)) then (x_literal k 5 L σ) else (if ¬ (((L 5)) < 0 ∨ 300 ≤ ((L 5)).toNatClampNeg) then (if ¬ (((L 5)) < 0 ∨ 300 ≤ ((L 5)).toNatClampNeg) then (x_literal k 4 (upd L 6 ((((10 * ((σ.2.2 44 ((L 5)).toNatClampNeg)))) + ((L 4))))) (σ.1, σ.2.1, updG σ.2.2 44 (upd (σ.2.2 44) ((L 5)).toNatClampNeg ((((((10 * ((σ.2.2 44 ((L 5)).toNatClampNeg)))) + ((L 4)))) &&& 65535))))) else none) else none)
  | k + 1, 4, L, σ => x_literal k 3 (upd (upd L 4 ((((L 6)) >>> ((16 : Int32) &&& 31)))) 5 (((L 5)) + 1)) σ
  | k + 1, 5, L, σ => if ((L 4)) ≤ 0 then (x_literal k 7 L σ) else (if ¬ (((σ.1 86)) < 0 ∨ 300 ≤ ((σ.1 86)).toNatClampNeg) then (x_literal k 6 L (σ.1, σ.2.1, updG σ.2.2 44 (upd (σ.2.2 44) ((σ.1 86)).toNatClampNeg ((L 4))))) else none)
  | k + 1, 6, L, σ => x_literal k 7 L (upd σ.1 86 ((((σ.1 86)) + 1)), σ.2.1, σ.2.2)
  | k + 1, 7, L, σ => x_literal k 2 (upd L 3 (((L 3)) + 1)) σ
  | k + 1, 8, L, σ => ob (x_wholeOf k 0 (upd (fun _ => 0) 1 1) σ) (fun r1 => some (r1.1, r1.2))
  | _ + 1, _ + 9, _, _ => none
def o_x_literal : List Cond := [.fieldLink RX12 478 "SetHouseModel" "nc" "I", .fieldLink RX12 108 "SetHouseModel" "pool" "[I", .fieldLink RX12 481 "SetHouseModel" "rc" "[I", .constant RX12 484 (65535), .methodLink RX12 485 yX12_wholeOf, .instanceMethod yX12_wholeOf, .selects RX12 yX12_wholeOf yX12_wholeOf, .initialized RX12]
theorem o_x_literal_good : o_x_literal.all goodWord = true := by decide +kernel
def p_x_literal : List Cond := o_x_literal ++ ((.code yX12_wholeOf cX12_wholeOf 4 (some .int) :: p_x_wholeOf) ++ [])
theorem p_x_literal_good : p_x_literal.all goodWord = true := nb_all2 o_x_literal_good (nb_all2 (nb_allc (by decide +kernel) p_x_wholeOf_good) rfl)
def w_x_literal : List Cond := .code yX12_literal cX12_literal 7 (some .int) :: (p_x_literal ++ fM)
theorem w_x_literal_good : w_x_literal.all goodWord = true := nb_allc (by decide +kernel) (nb_all2 p_x_literal_good fM_good)
theorem in_x_literal : ∀ w ∈ wsX120, w ∈ w_x_literal := fun _ h => List.mem_cons_of_mem _ (List.mem_append_right _ h)
theorem hd_x_literal : yX12_literal.cls = RX12 ∧ yX12_literal.cls ≠ "java/lang/invoke/MethodHandle" ∧ yX12_literal.cls ≠ "java/lang/invoke/VarHandle" ∧ (parseMethodDescriptor yX12_literal.desc).map (fun d => d.parameters.length) = some 2 := by decide +kernel
theorem gg_x_literal_wholeOf : GoodIn w_x_literal w_x_wholeOf := goodIn_sub (fun w h => (List.mem_cons.mp h).elim (fun e => (List.mem_cons_of_mem _ (List.mem_append_left _ (List.mem_append_right _ (List.mem_append_left _ (List.mem_cons.mpr (Or.inl e))))))) (fun h => (List.mem_append.mp h).elim (fun h => (List.mem_cons_of_mem _ (List.mem_append_left _ (List.mem_append_right _ (List.mem_append_left _ (List.mem_cons_of_mem _ h)))))) (fun h => List.mem_cons_of_mem _ (List.mem_append_right _ h)))) w_x_wholeOf_good
theorem g_x_literal_wholeOf_485 : GoodIn w_x_literal (wsV RX12 485 RX12 yX12_wholeOf w_x_wholeOf) := goodIn_app (nb_g4 (List.mem_cons_of_mem _ (List.mem_append_left _ (List.mem_append_left _ (List.mem_of_getElem? (i := 4) rfl)))) (List.mem_cons_of_mem _ (List.mem_append_left _ (List.mem_append_left _ (List.mem_of_getElem? (i := 5) rfl)))) (List.mem_cons_of_mem _ (List.mem_append_left _ (List.mem_append_left _ (List.mem_of_getElem? (i := 6) rfl)))) (List.mem_cons_of_mem _ (List.mem_append_left _ (List.mem_append_left _ (List.mem_of_getElem? (i := 7) rfl)))) (by decide +kernel)) gg_x_literal_wholeOf
set_option maxHeartbeats 40000000 in
set_option maxRecDepth 100000 in
theorem c_x_literal (l : Launch) (dC : Nat → ClassId) (dI : Nat → Nat → Nat) (cy : Nat → ClassId) (a : Nat → Nat) (k0 : Nat) (L0 : Nat → Int32) (σ0 : MS) (r0 : Int32 × MS) (h0 : x_literal k0 0 L0 σ0 = some r0) (sz : Nat) : Met l yX12_literal w_x_literal ({ frames := 3, cells := 0, slots := 0, locals := 67 }) (va_Pc [.ref (a 0), .int (L0 1), .int (L0 2)] (nIn (dC, dI) cy sz (vM cy a σ0))) (va_Qi (fun (z : Int32) (_ : Unit) => z = r0.1) (fun _ t => nOut (dC, dI) cy (va_A (vM cy a σ0) sz) (vM cy a r0.2) t) (va_A (vM cy a σ0) sz)) 0 0 (va_A (vM cy a σ0) sz) := by
  refine Met.ofW (cc := cX12_literal) (maxL := 7) (ret := (some .int)) (by decide) rfl ?_
  intro p e s m args below meth c s₁ B hml hv
  obtain ⟨rfl, hsz, hP, hK, hD0, hG⟩ := hv
  have hx := B.exec
  have hb := B.bytes
  have hr := B.returns
  have hts := atoms_spec (ws := w_x_literal) B.pre
  have hown : s.vm.findClass RX12 = some m.cls := findClass_of_methodNamed B.named
  have hlocks := B.notSynchronized
  subst hsz
  have hD := hD0.self (sz := s.heap.size)
  generalize hAe : va_A (vM cy a σ0) s.heap.size = A at hD ⊢
  have hA : ∀ q : Nat, s.heap.size ≤ q → A q := fun q h => by rw [← hAe]; exact Or.inr h
  have hS : va_S A s.heap s.heap [] := va_S.rf
  have hl := lv_entry ([.ref (a 0), .int (L0 1), .int (L0 2)]) (n := 7) (Nat.le_of_ble_eq_true rfl)
  rw [lg_entry_eq]
  generalize (lg_sl ([.ref (a 0), .int (L0 1), .int (L0 2)]) ++ List.replicate (7 - (lg_sl ([.ref (a 0), .int (L0 1), .int (L0 2)])).length) Slot.unset).toArray = ls at hl ⊢
  have hl : lv_has ls 7 [(0, .ref (a 0)), (1, .int (L0 1)), (2, .int (L0 2))] := hl
  have blk : ∀ k : Nat, (bT p l e (headSpec w_x_literal ({ frames := 3, cells := 0, slots := 0, locals := 67 })).room s m #[.ref (a 0), .int (L0 1), .int (L0 2)] below meth c dC dI cy a A (qI dC dI cy a A below #[.ref (a 0), .int (L0 1), .int (L0 2)] s) 7 (x_literal k 0) (fun L => [(0, .ref (a 0)), (1, .int (L 1)), (2, .int (L 2))]) 0 (fun L => [])) ∧ (bT p l e (headSpec w_x_literal ({ frames := 3, cells := 0, slots := 0, locals := 67 })).room s m #[.ref (a 0), .int (L0 1), .int (L0 2)] below meth c dC dI cy a A (qI dC dI cy a A below #[.ref (a 0), .int (L0 1), .int (L0 2)] s) 7 (x_literal k 1) (fun L => [(0, .ref (a 0)), (1, .int (L 1)), (2, .int (L 2))]) 5 (fun L => [])) ∧ (bT p l e (headSpec w_x_literal ({ frames := 3, cells := 0, slots := 0, locals := 67 })).room s m #[.ref (a 0), .int (L0 1), .int (L0 2)] below meth c dC dI cy a A (qI dC dI cy a A below #[.ref (a 0), .int (L0 1), .int (L0 2)] s) 7 (x_literal k 2) (fun L => [(0, .ref (a 0)), (1, .int (L 1)), (2, .int (L 2)), (3, .int (L 3))]) 7 (fun L => [])) ∧ (bT p l e (headSpec w_x_literal ({ frames := 3, cells := 0, slots := 0, locals := 67 })).room s m #[.ref (a 0), .int (L0 1), .int (L0 2)] below meth c dC dI cy a A (qI dC dI cy a A below #[.ref (a 0), .int (L0 1), .int (L0 2)] s) 7 (x_literal k 3) (fun L => [(0, .ref (a 0)), (1, .int (L 1)), (2, .int (L 2)), (3, .int (L 3)), (4, .int (L 4)), (5, .int (L 5))]) 28 (fun L => [])) ∧ (bT p l e (headSpec w_x_literal ({ frames := 3, cells := 0, slots := 0, locals := 67 })).room s m #[.ref (a 0), .int (L0 1), .int (L0 2)] below meth c dC dI cy a A (qI dC dI cy a A below #[.ref (a 0), .int (L0 1), .int (L0 2)] s) 7 (x_literal k 4) (fun L => [(0, .ref (a 0)), (1, .int (L 1)), (2, .int (L 2)), (3, .int (L 3)), (4, .int (L 4)), (5, .int (L 5)), (6, .int (L 6))]) 65 (fun L => [])) ∧ (bT p l e (headSpec w_x_literal ({ frames := 3, cells := 0, slots := 0, locals := 67 })).room s m #[.ref (a 0), .int (L0 1), .int (L0 2)] below meth c dC dI cy a A (qI dC dI cy a A below #[.ref (a 0), .int (L0 1), .int (L0 2)] s) 7 (x_literal k 5) (fun L => [(0, .ref (a 0)), (1, .int (L 1)), (2, .int (L 2)), (3, .int (L 3)), (4, .int (L 4)), (5, .int (L 5))]) 78 (fun L => [])) ∧ (bT p l e (headSpec w_x_literal ({ frames := 3, cells := 0, slots := 0, locals := 67 })).room s m #[.ref (a 0), .int (L0 1), .int (L0 2)] below meth c dC dI cy a A (qI dC dI cy a A below #[.ref (a 0), .int (L0 1), .int (L0 2)] s) 7 (x_literal k 6) (fun L => [(0, .ref (a 0)), (1, .int (L 1)), (2, .int (L 2)), (3, .int (L 3)), (4, .int (L 4)), (5, .int (L 5))]) 94 (fun L => [])) ∧ (bT p l e (headSpec w_x_literal ({ frames := 3, cells := 0, slots := 0, locals := 67 })).room s m #[.ref (a 0), .int (L0 1), .int (L0 2)] below meth c dC dI cy a A (qI dC dI cy a A below #[.ref (a 0), .int (L0 1), .int (L0 2)] s) 7 (x_literal k 7) (fun L => [(0, .ref (a 0)), (1, .int (L 1)), (2, .int (L 2)), (3, .int (L 3)), (4, .int (L 4)), (5, .int (L 5))]) 104 (fun L => [])) ∧ (bT p l e (headSpec w_x_literal ({ frames := 3, cells := 0, slots := 0, locals := 67 })).room s m #[.ref (a 0), .int (L0 1), .int (L0 2)] below meth c dC dI cy a A (qI dC dI cy a A below #[.ref (a 0), .int (L0 1), .int (L0 2)] s) 7 (x_literal k 8) (fun L => [(0, .ref (a 0)), (1, .int (L 1)), (2, .int (L 2)), (3, .int (L 3))]) 110 (fun L => [])) := by
    intro k
    induction k with
    | zero => exact ⟨fun L σ r h => (by cases h), fun L σ r h => (by cases h), fun L σ r h => (by cases h), fun L σ r h => (by cases h), fun L σ r h => (by cases h), fun L σ r h => (by cases h), fun L σ r h => (by cases h), fun L σ r h => (by cases h), fun L σ r h => (by cases h)⟩
    | succ k ih =>
      refine ⟨?_, ?_, ?_, ?_, ?_, ?_, ?_, ?_, ?_⟩
      · intro L σ r h H locs ls hP hD hS hl
        rw [x_literal] at h
        refine lv_aload_n hx hb dX12_literal_0 rfl (lv_at hl 0 rfl) ?_
        refine lv_iconst (v := 0) hx hb dX12_literal_1 (by decide) ?_
        refine np_86 hx hb hts in_x_literal hown hK hP hD hS (hts _ (List.mem_cons_of_mem _ (List.mem_append_left _ (List.mem_append_left _ (List.mem_of_getElem? (i := 0) rfl))))) dX12_literal_2 (fun H locs hP hD hS => ?_)
        exact ih.2.1 L (upd σ.1 86 0, σ.2.1, σ.2.2) r h H locs ls hP hD hS (lv_sub hl [0, 1, 2] rfl)
      · intro L σ r h H locs ls hP hD hS hl
        rw [x_literal] at h
        refine lv_iconst (v := 0) hx hb dX12_literal_5 (by decide) ?_
        refine lv_istore_n (lv' := [(3, .int 0), (0, .ref (a 0)), (1, .int (L 1)), (2, .int (L 2))]) hx hb dX12_literal_6 rfl hl (by decide) rfl (fun ls hl => ?_)
        exact ih.2.2.1 (upd L 3 0) σ r h H locs ls hP hD hS (lv_sub hl [1, 2, 3, 0] rfl)
      · intro L σ r h H locs ls hP hD hS hl
        rw [x_literal] at h
        refine lv_iload_n hx hb dX12_literal_7 rfl (lv_at hl 3 rfl) ?_
        refine lv_iload_n hx hb dX12_literal_8 rfl (lv_at hl 2 rfl) ?_
        refine lv_icmp_ge (tgt := 110) hx hb dX12_literal_9 (by decide) (fun c1 => ?_) (fun c1 => ?_)
        · rw [if_pos c1] at h
          exact ih.2.2.2.2.2.2.2.2 L σ r h H locs ls hP hD hS (lv_sub hl [0, 1, 2, 3] rfl)
        · rw [if_neg c1] at h
          refine lv_aload_n hx hb dX12_literal_12 rfl (lv_at hl 0 rfl) ?_
          refine ng_23 hx hb hts in_x_literal hown hK hP (hts _ (List.mem_cons_of_mem _ (List.mem_append_left _ (List.mem_append_left _ (List.mem_of_getElem? (i := 1) rfl))))) dX12_literal_13 ?_
          refine lv_iload_n hx hb dX12_literal_16 rfl (lv_at hl 1 rfl) ?_
          refine lv_iload_n hx hb dX12_literal_17 rfl (lv_at hl 3 rfl) ?_
          refine lv_iadd hx hb dX12_literal_18 ?_
          obtain ⟨q2, h⟩ := nb_ite1 h
          refine nl_12 hx hb hK hP q2 dX12_literal_19 ?_
          refine lv_bipush (v := 48) hx hb dX12_literal_20 (by decide) ?_
          refine lv_isub hx hb dX12_literal_22 ?_
          refine lv_istore (lv' := [(4, .int (((σ.2.2 12 ((((L 1)) + ((L 3)))).toNatClampNeg)) - 48)), (0, .ref (a 0)), (1, .int (L 1)), (2, .int (L 2)), (3, .int (L 3))]) hx hb dX12_literal_23 hl (by decide) rfl (fun ls hl => ?_)
          refine lv_iconst (v := 0) hx hb dX12_literal_25 (by decide) ?_
          refine lv_istore (lv' := [(5, .int 0), (4, .int (((σ.2.2 12 ((((L 1)) + ((L 3)))).toNatClampNeg)) - 48)), (0, .ref (a 0)), (1, .int (L 1)), (2, .int (L 2)), (3, .int (L 3))]) hx hb dX12_literal_26 hl (by decide) rfl (fun ls hl => ?_)
          exact ih.2.2.2.1 (upd (upd L 4 ((((σ.2.2 12 ((((L 1)) + ((L 3)))).toNatClampNeg)) - 48))) 5 0) σ r h H locs ls hP hD hS (lv_sub hl [2, 3, 4, 5, 1, 0] rfl)
      · intro L σ r h H locs ls hP hD hS hl
        rw [x_literal] at h
        refine lv_iload hx hb dX12_literal_28 (lv_at hl 5 rfl) ?_
        refine lv_aload_n hx hb dX12_literal_30 rfl (lv_at hl 0 rfl) ?_
        refine ng_86 hx hb hts in_x_literal hown hK hP (hts _ (List.mem_cons_of_mem _ (List.mem_append_left _ (List.mem_append_left _ (List.mem_of_getElem? (i := 0) rfl))))) dX12_literal_31 ?_
        refine lv_icmp_ge (tgt := 78) hx hb dX12_literal_34 (by decide) (fun c1 => ?_) (fun c1 => ?_)
        · rw [if_pos c1] at h
          exact ih.2.2.2.2.2.1 L σ r h H locs ls hP hD hS (lv_sub hl [0, 1, 2, 3, 4, 5] rfl)
        · rw [if_neg c1] at h
          refine lv_bipush (v := 10) hx hb dX12_literal_37 (by decide) ?_
          refine lv_aload_n hx hb dX12_literal_39 rfl (lv_at hl 0 rfl) ?_
          refine ng_83 hx hb hts in_x_literal hown hK hP (hts _ (List.mem_cons_of_mem _ (List.mem_append_left _ (List.mem_append_left _ (List.mem_of_getElem? (i := 2) rfl))))) dX12_literal_40 ?_
          refine lv_iload hx hb dX12_literal_43 (lv_at hl 5 rfl) ?_
          obtain ⟨q2, h⟩ := nb_ite1 h
          refine nl_44 hx hb hK hP q2 dX12_literal_45 ?_
          refine lv_imul hx hb dX12_literal_46 ?_
          refine lv_iload hx hb dX12_literal_47 (lv_at hl 4 rfl) ?_
          refine lv_iadd hx hb dX12_literal_49 ?_
          refine lv_istore (lv' := [(6, .int (((10 * ((σ.2.2 44 ((L 5)).toNatClampNeg)))) + ((L 4)))), (0, .ref (a 0)), (1, .int (L 1)), (2, .int (L 2)), (3, .int (L 3)), (4, .int (L 4)), (5, .int (L 5))]) hx hb dX12_literal_50 hl (by decide) rfl (fun ls hl => ?_)
          refine lv_aload_n hx hb dX12_literal_52 rfl (lv_at hl 1 rfl) ?_
          refine ng_83 hx hb hts in_x_literal hown hK hP (hts _ (List.mem_cons_of_mem _ (List.mem_append_left _ (List.mem_append_left _ (List.mem_of_getElem? (i := 2) rfl))))) dX12_literal_53 ?_
          refine lv_iload hx hb dX12_literal_56 (lv_at hl 6 rfl) ?_
          refine lv_iload hx hb dX12_literal_58 (lv_at hl 0 rfl) ?_
          refine lv_ldcw (v := 65535) hx hb hown (hts _ (List.mem_cons_of_mem _ (List.mem_append_left _ (List.mem_append_left _ (List.mem_of_getElem? (i := 3) rfl))))) dX12_literal_60 ?_
          refine lv_iand hx hb dX12_literal_63 ?_
          obtain ⟨q3, h⟩ := nb_ite1 h
          refine ns_44 hx hb hK hP hD hS q3 dX12_literal_64 (fun H locs hP hD hS => ?_)
          exact ih.2.2.2.2.1 (upd L 6 ((((10 * ((σ.2.2 44 ((L 5)).toNatClampNeg)))) + ((L 4))))) (σ.1, σ.2.1, updG σ.2.2 44 (upd (σ.2.2 44) ((L 5)).toNatClampNeg ((((((10 * ((σ.2.2 44 ((L 5)).toNatClampNeg)))) + ((L 4)))) &&& 65535)))) r h H locs ls hP hD hS (lv_sub hl [1, 2, 3, 4, 5, 6, 0] rfl)
      · intro L σ r h H locs ls hP hD hS hl
        rw [x_literal] at h
        refine lv_iload hx hb dX12_literal_65 (lv_at hl 6 rfl) ?_
        refine lv_bipush (v := 16) hx hb dX12_literal_67 (by decide) ?_
        refine lv_ishr hx hb dX12_literal_69 ?_
        refine lv_istore (lv' := [(4, .int (((L 6)) >>> ((16 : Int32) &&& 31))), (0, .ref (a 0)), (1, .int (L 1)), (2, .int (L 2)), (3, .int (L 3)), (5, .int (L 5)), (6, .int (L 6))]) hx hb dX12_literal_70 hl (by decide) rfl (fun ls hl => ?_)
        refine lv_iinc (v := ((L 5)) + 1) (lv' := [(5, .int (((L 5)) + 1)), (4, .int (((L 6)) >>> ((16 : Int32) &&& 31))), (0, .ref (a 0)), (1, .int (L 1)), (2, .int (L 2)), (3, .int (L 3)), (6, .int (L 6))]) hx hb dX12_literal_72 hl (k := 5) rfl rfl (by decide) rfl (fun ls hl => ?_)
        refine lv_goto (tgt := 28) hx hb dX12_literal_75 (by decide) ?_
        exact ih.2.2.2.1 (upd (upd L 4 ((((L 6)) >>> ((16 : Int32) &&& 31)))) 5 (((L 5)) + 1)) σ r h H locs ls hP hD hS (lv_sub hl [2, 3, 4, 5, 1, 0] rfl)
      · intro L σ r h H locs ls hP hD hS hl
        rw [x_literal] at h
        refine lv_iload hx hb dX12_literal_78 (lv_at hl 4 rfl) ?_
        refine lv_if_le (tgt := 104) hx hb dX12_literal_80 (by decide) (fun c1 => ?_) (fun c1 => ?_)
        · rw [if_pos c1] at h
          exact ih.2.2.2.2.2.2.2.1 L σ r h H locs ls hP hD hS (lv_sub hl [0, 1, 2, 3, 4, 5] rfl)
        · rw [if_neg c1] at h
          refine lv_aload_n hx hb dX12_literal_83 rfl (lv_at hl 0 rfl) ?_
          refine ng_83 hx hb hts in_x_literal hown hK hP (hts _ (List.mem_cons_of_mem _ (List.mem_append_left _ (List.mem_append_left _ (List.mem_of_getElem? (i := 2) rfl))))) dX12_literal_84 ?_
          refine lv_aload_n hx hb dX12_literal_87 rfl (lv_at hl 0 rfl) ?_
          refine ng_86 hx hb hts in_x_literal hown hK hP (hts _ (List.mem_cons_of_mem _ (List.mem_append_left _ (List.mem_append_left _ (List.mem_of_getElem? (i := 0) rfl))))) dX12_literal_88 ?_
          refine lv_iload hx hb dX12_literal_91 (lv_at hl 4 rfl) ?_
          obtain ⟨q2, h⟩ := nb_ite1 h
          refine ns_44 hx hb hK hP hD hS q2 dX12_literal_93 (fun H locs hP hD hS => ?_)
          exact ih.2.2.2.2.2.2.1 L (σ.1, σ.2.1, updG σ.2.2 44 (upd (σ.2.2 44) ((σ.1 86)).toNatClampNeg ((L 4)))) r h H locs ls hP hD hS (lv_sub hl [0, 1, 2, 3, 4, 5] rfl)
      · intro L σ r h H locs ls hP hD hS hl
        rw [x_literal] at h
        refine lv_aload_n hx hb dX12_literal_94 rfl (lv_at hl 0 rfl) ?_
        refine lv_dup hx hb dX12_literal_95 rfl ?_
        refine ng_86 hx hb hts in_x_literal hown hK hP (hts _ (List.mem_cons_of_mem _ (List.mem_append_left _ (List.mem_append_left _ (List.mem_of_getElem? (i := 0) rfl))))) dX12_literal_96 ?_
        refine lv_iconst (v := 1) hx hb dX12_literal_99 (by decide) ?_
        refine lv_iadd hx hb dX12_literal_100 ?_
        refine np_86 hx hb hts in_x_literal hown hK hP hD hS (hts _ (List.mem_cons_of_mem _ (List.mem_append_left _ (List.mem_append_left _ (List.mem_of_getElem? (i := 0) rfl))))) dX12_literal_101 (fun H locs hP hD hS => ?_)
        exact ih.2.2.2.2.2.2.2.1 L (upd σ.1 86 ((((σ.1 86)) + 1)), σ.2.1, σ.2.2) r h H locs ls hP hD hS (lv_sub hl [0, 1, 2, 3, 4, 5] rfl)
      · intro L σ r h H locs ls hP hD hS hl
        rw [x_literal] at h
        refine lv_iinc (v := ((L 3)) + 1) (lv' := [(3, .int (((L 3)) + 1)), (0, .ref (a 0)), (1, .int (L 1)), (2, .int (L 2)), (4, .int (L 4)), (5, .int (L 5))]) hx hb dX12_literal_104 hl (k := 3) rfl rfl (by decide) rfl (fun ls hl => ?_)
        refine lv_goto (tgt := 7) hx hb dX12_literal_107 (by decide) ?_
        exact ih.2.2.1 (upd L 3 (((L 3)) + 1)) σ r h H locs ls hP hD hS (lv_sub hl [1, 2, 3, 0] rfl)
      · intro L σ r h H locs ls hP hD hS hl
        rw [x_literal] at h
        refine lv_aload_n hx hb dX12_literal_110 rfl (lv_at hl 0 rfl) ?_
        refine lv_iconst (v := 1) hx hb dX12_literal_111 (by decide) ?_
        obtain ⟨r1, hc1, h⟩ := ob_ex h
        refine nc_Vi (As := [.int 1]) (rest := []) ⟨hx, hb, hml, hown, hts⟩ (c_x_wholeOf l dC dI cy a k (upd (fun _ => 0) 1 1) σ r1 hc1 H.size) (cwV 1 hts g_x_literal_wholeOf_485 rfl rfl rfl hd_x_wholeOf ⟨Nat.le_of_ble_eq_true rfl, Nat.le_of_ble_eq_true rfl⟩) hK hG hA hP hD hS rfl hl.1 rfl (Nat.le_of_ble_eq_true rfl) dX12_literal_112 ⟨Nat.le_refl _, Nat.le_refl _⟩ (fun H locs hP hD hS => ?_)
        cases h
        exact W.iret (v := r1.1) hx hb hr (fun t ht hW => ⟨⟨r1.1, (), rfl, rfl, by rw [ht]; exact hP, va_K.moved hW.alike hK, hD⟩, hS.F ht⟩) hS.2.2 dX12_literal_115
  exact (blk k0).1 L0 σ0 r0 h0 s.heap [] ls hP hD hS hl
/-! put -/
def x_put : Nat → Nat → (Nat → Int32) → MS → Option (Int32 × MS)
  | 0, _, _, _ => none
  | k + 1, 0, L, σ => if ¬ (((σ.1 93)) < 0 ∨ 12000 ≤ ((σ.1 93)).toNatClampNeg) then (x_put k 1 L (σ.1, σ.2.1, updG σ.2.2 48 (upd (σ.2.2 48) ((σ.1 93)).toNatClampNeg ((L 1))))) else none
  | k + 1, 1, L, σ => some (0, (upd σ.1 93 ((((σ.1 93)) + 1)), σ.2.1, σ.2.2))
  | _ + 1, _ + 2, _, _ => none
def o_x_put : List Cond := [.fieldLink RX12 527 "SetHouseModel" "text" "[I", .fieldLink RX12 530 "SetHouseModel" "printed" "I"]
theorem o_x_put_good : o_x_put.all goodWord = true := by decide +kernel
def p_x_put : List Cond := o_x_put ++ []
theorem p_x_put_good : p_x_put.all goodWord = true := nb_all2 o_x_put_good rfl
def w_x_put : List Cond := .code yX12_put cX12_put 2 none :: (p_x_put ++ fM)
theorem w_x_put_good : w_x_put.all goodWord = true := nb_allc (by decide +kernel) (nb_all2 p_x_put_good fM_good)
theorem in_x_put : ∀ w ∈ wsX120, w ∈ w_x_put := fun _ h => List.mem_cons_of_mem _ (List.mem_append_right _ h)
theorem hd_x_put : yX12_put.cls = RX12 ∧ yX12_put.cls ≠ "java/lang/invoke/MethodHandle" ∧ yX12_put.cls ≠ "java/lang/invoke/VarHandle" ∧ (parseMethodDescriptor yX12_put.desc).map (fun d => d.parameters.length) = some 1 := by decide +kernel
set_option maxHeartbeats 40000000 in
set_option maxRecDepth 100000 in
theorem c_x_put (l : Launch) (dC : Nat → ClassId) (dI : Nat → Nat → Nat) (cy : Nat → ClassId) (a : Nat → Nat) (k0 : Nat) (L0 : Nat → Int32) (σ0 : MS) (r0 : Int32 × MS) (h0 : x_put k0 0 L0 σ0 = some r0) (sz : Nat) : Met l yX12_put w_x_put ({ frames := 0, cells := 0, slots := 0, locals := 0 }) (va_Pc [.ref (a 0), .int (L0 1)] (nIn (dC, dI) cy sz (vM cy a σ0))) (va_Qv (fun _ : Unit => True) (fun _ t => nOut (dC, dI) cy (va_A (vM cy a σ0) sz) (vM cy a r0.2) t) (va_A (vM cy a σ0) sz)) 0 0 (va_A (vM cy a σ0) sz) := by
  refine Met.ofW (cc := cX12_put) (maxL := 2) (ret := none) (by decide) rfl ?_
  intro p e s m args below meth c s₁ B hml hv
  obtain ⟨rfl, hsz, hP, hK, hD0, hG⟩ := hv
  have hx := B.exec
  have hb := B.bytes
  have hr := B.returns
  have hts := atoms_spec (ws := w_x_put) B.pre
  have hown : s.vm.findClass RX12 = some m.cls := findClass_of_methodNamed B.named
  have hlocks := B.notSynchronized
  subst hsz
  have hD := hD0.self (sz := s.heap.size)
  generalize hAe : va_A (vM cy a σ0) s.heap.size = A at hD ⊢
  have hA : ∀ q : Nat, s.heap.size ≤ q → A q := fun q h => by rw [← hAe]; exact Or.inr h
  have hS : va_S A s.heap s.heap [] := va_S.rf
  have hl := lv_entry ([.ref (a 0), .int (L0 1)]) (n := 2) (Nat.le_of_ble_eq_true rfl)
  rw [lg_entry_eq]
  generalize (lg_sl ([.ref (a 0), .int (L0 1)]) ++ List.replicate (2 - (lg_sl ([.ref (a 0), .int (L0 1)])).length) Slot.unset).toArray = ls at hl ⊢
  have hl : lv_has ls 2 [(0, .ref (a 0)), (1, .int (L0 1))] := hl
  have blk : ∀ k : Nat, (bT p l e (headSpec w_x_put ({ frames := 0, cells := 0, slots := 0, locals := 0 })).room s m #[.ref (a 0), .int (L0 1)] below meth c dC dI cy a A (qV dC dI cy a A below #[.ref (a 0), .int (L0 1)] s) 2 (x_put k 0) (fun L => [(0, .ref (a 0)), (1, .int (L 1))]) 0 (fun L => [])) ∧ (bT p l e (headSpec w_x_put ({ frames := 0, cells := 0, slots := 0, locals := 0 })).room s m #[.ref (a 0), .int (L0 1)] below meth c dC dI cy a A (qV dC dI cy a A below #[.ref (a 0), .int (L0 1)] s) 2 (x_put k 1) (fun L => [(0, .ref (a 0)), (1, .int (L 1))]) 10 (fun L => [])) := by
    intro k
    induction k with
    | zero => exact ⟨fun L σ r h => (by cases h), fun L σ r h => (by cases h)⟩
    | succ k ih =>
      refine ⟨?_, ?_⟩
      · intro L σ r h H locs ls hP hD hS hl
        rw [x_put] at h
        refine lv_aload_n hx hb dX12_put_0 rfl (lv_at hl 0 rfl) ?_
        refine ng_92 hx hb hts in_x_put hown hK hP (hts _ (List.mem_cons_of_mem _ (List.mem_append_left _ (List.mem_append_left _ (List.mem_of_getElem? (i := 0) rfl))))) dX12_put_1 ?_
        refine lv_aload_n hx hb dX12_put_4 rfl (lv_at hl 0 rfl) ?_
        refine ng_93 hx hb hts in_x_put hown hK hP (hts _ (List.mem_cons_of_mem _ (List.mem_append_left _ (List.mem_append_left _ (List.mem_of_getElem? (i := 1) rfl))))) dX12_put_5 ?_
        refine lv_iload_n hx hb dX12_put_8 rfl (lv_at hl 1 rfl) ?_
        obtain ⟨q1, h⟩ := nb_ite1 h
        refine ns_48 hx hb hK hP hD hS q1 dX12_put_9 (fun H locs hP hD hS => ?_)
        exact ih.2 L (σ.1, σ.2.1, updG σ.2.2 48 (upd (σ.2.2 48) ((σ.1 93)).toNatClampNeg ((L 1)))) r h H locs ls hP hD hS (lv_sub hl [0, 1] rfl)
      · intro L σ r h H locs ls hP hD hS hl
        rw [x_put] at h
        refine lv_aload_n hx hb dX12_put_10 rfl (lv_at hl 0 rfl) ?_
        refine lv_dup hx hb dX12_put_11 rfl ?_
        refine ng_93 hx hb hts in_x_put hown hK hP (hts _ (List.mem_cons_of_mem _ (List.mem_append_left _ (List.mem_append_left _ (List.mem_of_getElem? (i := 1) rfl))))) dX12_put_12 ?_
        refine lv_iconst (v := 1) hx hb dX12_put_15 (by decide) ?_
        refine lv_iadd hx hb dX12_put_16 ?_
        refine np_93 hx hb hts in_x_put hown hK hP hD hS (hts _ (List.mem_cons_of_mem _ (List.mem_append_left _ (List.mem_append_left _ (List.mem_of_getElem? (i := 1) rfl))))) dX12_put_17 (fun H locs hP hD hS => ?_)
        cases h
        exact W.vret hx hb hr (fun t ht hW => ⟨⟨(), rfl, trivial, by rw [ht]; exact hP, va_K.moved hW.alike hK, hD⟩, hS.F ht⟩) hS.2.2 dX12_put_20
  exact (blk k0).1 L0 σ0 r0 h0 s.heap [] ls hP hD hS hl
/-! putWord -/
def x_putWord : Nat → Nat → (Nat → Int32) → MS → Option (Int32 × MS)
  | 0, _, _, _ => none
  | k + 1, 0, L, σ => x_putWord k 1 (upd (upd L 2 0) 3 0) σ
  | k + 1, 1, L, σ => if ((L 1)) ≤ ((L 3)) then (x_putWord k 4 L σ) else (if ¬ (((L 2)) < 0 ∨ 37 ≤ ((L 2)).toNatClampNeg) then (if ((σ.2.2 2 ((L 2)).toNatClampNeg)) = 32 then (x_putWord k 3 (upd (upd L 100 1) 101 ((L 3))) σ) else (x_putWord k 2 (upd L 100 ((L 3))) σ)) else none)
  | k + 1, 2, L, σ => x_putWord k 3 (upd (upd L 100 0) 101 ((L 100))) σ
  | k + 1, 3, L, σ => x_putWord k 1 (upd (upd L 3 ((((L 101)) + ((L 100))))) 2 (((L 2)) + 1)) σ
  | k + 1, 4, L, σ => if ¬ (((L 2)) < 0 ∨ 37 ≤ ((L 2)).toNatClampNeg) then (if ((σ.2.2 2 ((L 2)).toNatClampNeg)) = 32 then (x_putWord k 5 L σ) else (if ¬ (((L 2)) < 0 ∨ 37 ≤ ((L 2)).toNatClampNeg) then (ob (x_put k 0 (upd (fun _ => 0) 1 ((σ.2.2 2 ((L 2)).toNatClampNeg))) σ) (fun r4 => x_putWord k 4 (upd L 2 (((L 2)) + 1)) r4.2)) else none)) else none
  | k + 1, 5, L, σ => some (0, σ)
  | _ + 1, _ + 6, _, _ => none
def o_x_putWord : List Cond := [.fieldLink RX12 533 "SetHouseModel" "types" "[I", .methodLink RX12 536 yX12_put, .instanceMethod yX12_put, .selects RX12 yX12_put yX12_put, .initialized RX12]
theorem o_x_putWord_good : o_x_putWord.all goodWord = true := by decide +kernel
def p_x_putWord : List Cond := o_x_putWord ++ ((.code yX12_put cX12_put 2 none :: p_x_put) ++ [])
theorem p_x_putWord_good : p_x_putWord.all goodWord = true := nb_all2 o_x_putWord_good (nb_all2 (nb_allc (by decide +kernel) p_x_put_good) rfl)
def w_x_putWord : List Cond := .code yX12_putWord cX12_putWord 4 none :: (p_x_putWord ++ fM)
theorem w_x_putWord_good : w_x_putWord.all goodWord = true := nb_allc (by decide +kernel) (nb_all2 p_x_putWord_good fM_good)
theorem in_x_putWord : ∀ w ∈ wsX120, w ∈ w_x_putWord := fun _ h => List.mem_cons_of_mem _ (List.mem_append_right _ h)
theorem hd_x_putWord : yX12_putWord.cls = RX12 ∧ yX12_putWord.cls ≠ "java/lang/invoke/MethodHandle" ∧ yX12_putWord.cls ≠ "java/lang/invoke/VarHandle" ∧ (parseMethodDescriptor yX12_putWord.desc).map (fun d => d.parameters.length) = some 1 := by decide +kernel
theorem gg_x_putWord_put : GoodIn w_x_putWord w_x_put := goodIn_sub (fun w h => (List.mem_cons.mp h).elim (fun e => (List.mem_cons_of_mem _ (List.mem_append_left _ (List.mem_append_right _ (List.mem_append_left _ (List.mem_cons.mpr (Or.inl e))))))) (fun h => (List.mem_append.mp h).elim (fun h => (List.mem_cons_of_mem _ (List.mem_append_left _ (List.mem_append_right _ (List.mem_append_left _ (List.mem_cons_of_mem _ h)))))) (fun h => List.mem_cons_of_mem _ (List.mem_append_right _ h)))) w_x_put_good
theorem g_x_putWord_put_536 : GoodIn w_x_putWord (wsV RX12 536 RX12 yX12_put w_x_put) := goodIn_app (nb_g4 (List.mem_cons_of_mem _ (List.mem_append_left _ (List.mem_append_left _ (List.mem_of_getElem? (i := 1) rfl)))) (List.mem_cons_of_mem _ (List.mem_append_left _ (List.mem_append_left _ (List.mem_of_getElem? (i := 2) rfl)))) (List.mem_cons_of_mem _ (List.mem_append_left _ (List.mem_append_left _ (List.mem_of_getElem? (i := 3) rfl)))) (List.mem_cons_of_mem _ (List.mem_append_left _ (List.mem_append_left _ (List.mem_of_getElem? (i := 4) rfl)))) (by decide +kernel)) gg_x_putWord_put
set_option maxHeartbeats 40000000 in
set_option maxRecDepth 100000 in
theorem c_x_putWord (l : Launch) (dC : Nat → ClassId) (dI : Nat → Nat → Nat) (cy : Nat → ClassId) (a : Nat → Nat) (k0 : Nat) (L0 : Nat → Int32) (σ0 : MS) (r0 : Int32 × MS) (h0 : x_putWord k0 0 L0 σ0 = some r0) (sz : Nat) : Met l yX12_putWord w_x_putWord ({ frames := 1, cells := 0, slots := 0, locals := 21 }) (va_Pc [.ref (a 0), .int (L0 1)] (nIn (dC, dI) cy sz (vM cy a σ0))) (va_Qv (fun _ : Unit => True) (fun _ t => nOut (dC, dI) cy (va_A (vM cy a σ0) sz) (vM cy a r0.2) t) (va_A (vM cy a σ0) sz)) 0 0 (va_A (vM cy a σ0) sz) := by
  refine Met.ofW (cc := cX12_putWord) (maxL := 4) (ret := none) (by decide) rfl ?_
  intro p e s m args below meth c s₁ B hml hv
  obtain ⟨rfl, hsz, hP, hK, hD0, hG⟩ := hv
  have hx := B.exec
  have hb := B.bytes
  have hr := B.returns
  have hts := atoms_spec (ws := w_x_putWord) B.pre
  have hown : s.vm.findClass RX12 = some m.cls := findClass_of_methodNamed B.named
  have hlocks := B.notSynchronized
  subst hsz
  have hD := hD0.self (sz := s.heap.size)
  generalize hAe : va_A (vM cy a σ0) s.heap.size = A at hD ⊢
  have hA : ∀ q : Nat, s.heap.size ≤ q → A q := fun q h => by rw [← hAe]; exact Or.inr h
  have hS : va_S A s.heap s.heap [] := va_S.rf
  have hl := lv_entry ([.ref (a 0), .int (L0 1)]) (n := 4) (Nat.le_of_ble_eq_true rfl)
  rw [lg_entry_eq]
  generalize (lg_sl ([.ref (a 0), .int (L0 1)]) ++ List.replicate (4 - (lg_sl ([.ref (a 0), .int (L0 1)])).length) Slot.unset).toArray = ls at hl ⊢
  have hl : lv_has ls 4 [(0, .ref (a 0)), (1, .int (L0 1))] := hl
  have blk : ∀ k : Nat, (bT p l e (headSpec w_x_putWord ({ frames := 1, cells := 0, slots := 0, locals := 21 })).room s m #[.ref (a 0), .int (L0 1)] below meth c dC dI cy a A (qV dC dI cy a A below #[.ref (a 0), .int (L0 1)] s) 4 (x_putWord k 0) (fun L => [(0, .ref (a 0)), (1, .int (L 1))]) 0 (fun L => [])) ∧ (bT p l e (headSpec w_x_putWord ({ frames := 1, cells := 0, slots := 0, locals := 21 })).room s m #[.ref (a 0), .int (L0 1)] below meth c dC dI cy a A (qV dC dI cy a A below #[.ref (a 0), .int (L0 1)] s) 4 (x_putWord k 1) (fun L => [(0, .ref (a 0)), (1, .int (L 1)), (2, .int (L 2)), (3, .int (L 3))]) 4 (fun L => [])) ∧ (bT p l e (headSpec w_x_putWord ({ frames := 1, cells := 0, slots := 0, locals := 21 })).room s m #[.ref (a 0), .int (L0 1)] below meth c dC dI cy a A (qV dC dI cy a A below #[.ref (a 0), .int (L0 1)] s) 4 (x_putWord k 2) (fun L => [(0, .ref (a 0)), (1, .int (L 1)), (2, .int (L 2)), (3, .int (L 3))]) 25 (fun L => [.int (L 100)])) ∧ (bT p l e (headSpec w_x_putWord ({ frames := 1, cells := 0, slots := 0, locals := 21 })).room s m #[.ref (a 0), .int (L0 1)] below meth c dC dI cy a A (qV dC dI cy a A below #[.ref (a 0), .int (L0 1)] s) 4 (x_putWord k 3) (fun L => [(0, .ref (a 0)), (1, .int (L 1)), (2, .int (L 2)), (3, .int (L 3))]) 26 (fun L => [.int (L 100), .int (L 101)])) ∧ (bT p l e (headSpec w_x_putWord ({ frames := 1, cells := 0, slots := 0, locals := 21 })).room s m #[.ref (a 0), .int (L0 1)] below meth c dC dI cy a A (qV dC dI cy a A below #[.ref (a 0), .int (L0 1)] s) 4 (x_putWord k 4) (fun L => [(0, .ref (a 0)), (1, .int (L 1)), (2, .int (L 2)), (3, .int (L 3))]) 34 (fun L => [])) ∧ (bT p l e (headSpec w_x_putWord ({ frames := 1, cells := 0, slots := 0, locals := 21 })).room s m #[.ref (a 0), .int (L0 1)] below meth c dC dI cy a A (qV dC dI cy a A below #[.ref (a 0), .int (L0 1)] s) 4 (x_putWord k 5) (fun L => [(0, .ref (a 0)), (1, .int (L 1)), (2, .int (L 2)), (3, .int (L 3))]) 61 (fun L => [])) := by
    intro k
    induction k with
    | zero => exact ⟨fun L σ r h => (by cases h), fun L σ r h => (by cases h), fun L σ r h => (by cases h), fun L σ r h => (by cases h), fun L σ r h => (by cases h), fun L σ r h => (by cases h)⟩
    | succ k ih =>
      refine ⟨?_, ?_, ?_, ?_, ?_, ?_⟩
      · intro L σ r h H locs ls hP hD hS hl
        rw [x_putWord] at h
        refine lv_iconst (v := 0) hx hb dX12_putWord_0 (by decide) ?_
        refine lv_istore_n (lv' := [(2, .int 0), (0, .ref (a 0)), (1, .int (L 1))]) hx hb dX12_putWord_1 rfl hl (by decide) rfl (fun ls hl => ?_)
        refine lv_iconst (v := 0) hx hb dX12_putWord_2 (by decide) ?_
        refine lv_istore_n (lv' := [(3, .int 0), (2, .int 0), (0, .ref (a 0)), (1, .int (L 1))]) hx hb dX12_putWord_3 rfl hl (by decide) rfl (fun ls hl => ?_)
        exact ih.2.1 (upd (upd L 2 0) 3 0) σ r h H locs ls hP hD hS (lv_sub hl [2, 3, 1, 0] rfl)
      · intro L σ r h H locs ls hP hD hS hl
        rw [x_putWord] at h
        refine lv_iload_n hx hb dX12_putWord_4 rfl (lv_at hl 3 rfl) ?_
        refine lv_iload_n hx hb dX12_putWord_5 rfl (lv_at hl 1 rfl) ?_
        refine lv_icmp_ge (tgt := 34) hx hb dX12_putWord_6 (by decide) (fun c1 => ?_) (fun c1 => ?_)
        · rw [if_pos c1] at h
          exact ih.2.2.2.2.1 L σ r h H locs ls hP hD hS (lv_sub hl [0, 1, 2, 3] rfl)
        · rw [if_neg c1] at h
          refine lv_iload_n hx hb dX12_putWord_9 rfl (lv_at hl 3 rfl) ?_
          refine lv_aload_n hx hb dX12_putWord_10 rfl (lv_at hl 0 rfl) ?_
          refine ng_1 hx hb hts in_x_putWord hown hK hP (hts _ (List.mem_cons_of_mem _ (List.mem_append_left _ (List.mem_append_left _ (List.mem_of_getElem? (i := 0) rfl))))) dX12_putWord_11 ?_
          refine lv_iload_n hx hb dX12_putWord_14 rfl (lv_at hl 2 rfl) ?_
          obtain ⟨q2, h⟩ := nb_ite1 h
          refine nl_2 hx hb hK hP q2 dX12_putWord_15 ?_
          refine lv_bipush (v := 32) hx hb dX12_putWord_16 (by decide) ?_
          refine lv_icmp_ne (tgt := 25) hx hb dX12_putWord_18 (by decide) (fun c3 => ?_) (fun c3 => ?_)
          · rw [if_neg c3] at h
            exact ih.2.2.1 (upd L 100 ((L 3))) σ r h H locs ls hP hD hS (lv_sub hl [0, 1, 2, 3] rfl)
          · rw [if_pos c3] at h
            refine lv_iconst (v := 1) hx hb dX12_putWord_21 (by decide) ?_
            refine lv_goto (tgt := 26) hx hb dX12_putWord_22 (by decide) ?_
            exact ih.2.2.2.1 (upd (upd L 100 1) 101 ((L 3))) σ r h H locs ls hP hD hS (lv_sub hl [0, 1, 2, 3] rfl)
      · intro L σ r h H locs ls hP hD hS hl
        rw [x_putWord] at h
        refine lv_iconst (v := 0) hx hb dX12_putWord_25 (by decide) ?_
        exact ih.2.2.2.1 (upd (upd L 100 0) 101 ((L 100))) σ r h H locs ls hP hD hS (lv_sub hl [0, 1, 2, 3] rfl)
      · intro L σ r h H locs ls hP hD hS hl
        rw [x_putWord] at h
        refine lv_iadd hx hb dX12_putWord_26 ?_
        refine lv_istore_n (lv' := [(3, .int (((L 101)) + ((L 100)))), (0, .ref (a 0)), (1, .int (L 1)), (2, .int (L 2))]) hx hb dX12_putWord_27 rfl hl (by decide) rfl (fun ls hl => ?_)
        refine lv_iinc (v := ((L 2)) + 1) (lv' := [(2, .int (((L 2)) + 1)), (3, .int (((L 101)) + ((L 100)))), (0, .ref (a 0)), (1, .int (L 1))]) hx hb dX12_putWord_28 hl (k := 3) rfl rfl (by decide) rfl (fun ls hl => ?_)
        refine lv_goto (tgt := 4) hx hb dX12_putWord_31 (by decide) ?_
        exact ih.2.1 (upd (upd L 3 ((((L 101)) + ((L 100))))) 2 (((L 2)) + 1)) σ r h H locs ls hP hD hS (lv_sub hl [2, 3, 0, 1] rfl)
      · intro L σ r h H locs ls hP hD hS hl
        rw [x_putWord] at h
        refine lv_aload_n hx hb dX12_putWord_34 rfl (lv_at hl 0 rfl) ?_
        refine ng_1 hx hb hts in_x_putWord hown hK hP (hts _ (List.mem_cons_of_mem _ (List.mem_append_left _ (List.mem_append_left _ (List.mem_of_getElem? (i := 0) rfl))))) dX12_putWord_35 ?_
        refine lv_iload_n hx hb dX12_putWord_38 rfl (lv_at hl 2 rfl) ?_
        obtain ⟨q1, h⟩ := nb_ite1 h
        refine nl_2 hx hb hK hP q1 dX12_putWord_39 ?_
        refine lv_bipush (v := 32) hx hb dX12_putWord_40 (by decide) ?_
        refine lv_icmp_eq (tgt := 61) hx hb dX12_putWord_42 (by decide) (fun c2 => ?_) (fun c2 => ?_)
        · rw [if_pos c2] at h
          exact ih.2.2.2.2.2 L σ r h H locs ls hP hD hS (lv_sub hl [0, 1, 2, 3] rfl)
        · rw [if_neg c2] at h
          refine lv_aload_n hx hb dX12_putWord_45 rfl (lv_at hl 0 rfl) ?_
          refine lv_aload_n hx hb dX12_putWord_46 rfl (lv_at hl 0 rfl) ?_
          refine ng_1 hx hb hts in_x_putWord hown hK hP (hts _ (List.mem_cons_of_mem _ (List.mem_append_left _ (List.mem_append_left _ (List.mem_of_getElem? (i := 0) rfl))))) dX12_putWord_47 ?_
          refine lv_iload_n hx hb dX12_putWord_50 rfl (lv_at hl 2 rfl) ?_
          obtain ⟨q3, h⟩ := nb_ite1 h
          refine nl_2 hx hb hK hP q3 dX12_putWord_51 ?_
          obtain ⟨r4, hc4, h⟩ := ob_ex h
          refine nc_Vv (As := [.int (σ.2.2 2 ((L 2)).toNatClampNeg)]) (rest := []) ⟨hx, hb, hml, hown, hts⟩ (c_x_put l dC dI cy a k (upd (fun _ => 0) 1 ((σ.2.2 2 ((L 2)).toNatClampNeg))) σ r4 hc4 H.size) (cwV 1 hts g_x_putWord_put_536 rfl rfl rfl hd_x_put ⟨Nat.le_of_ble_eq_true rfl, Nat.le_of_ble_eq_true rfl⟩) hK hG hA hP hD hS rfl hl.1 rfl (Nat.le_of_ble_eq_true rfl) dX12_putWord_52 ⟨Nat.le_refl _, Nat.le_refl _⟩ (fun H locs hP hD hS => ?_)
          refine lv_iinc (v := ((L 2)) + 1) (lv' := [(2, .int (((L 2)) + 1)), (0, .ref (a 0)), (1, .int (L 1)), (3, .int (L 3))]) hx hb dX12_putWord_55 hl (k := 2) rfl rfl (by decide) rfl (fun ls hl => ?_)
          refine lv_goto (tgt := 34) hx hb dX12_putWord_58 (by decide) ?_
          exact ih.2.2.2.2.1 (upd L 2 (((L 2)) + 1)) r4.2 r h H locs ls hP hD hS (lv_sub hl [1, 2, 0, 3] rfl)
      · intro L σ r h H locs ls hP hD hS hl
        rw [x_putWord] at h
        cases h
        exact W.vret hx hb hr (fun t ht hW => ⟨⟨(), rfl, trivial, by rw [ht]; exact hP, va_K.moved hW.alike hK, hD⟩, hS.F ht⟩) hS.2.2 dX12_putWord_61
  exact (blk k0).1 L0 σ0 r0 h0 s.heap [] ls hP hD hS hl
/-! putWhole -/
def x_putWhole : Nat → Nat → (Nat → Int32) → MS → Option (Int32 × MS)
  | 0, _, _, _ => none
  | k + 1, 0, L, σ => ob (x_loadA k 0 (upd (fun _ => 0) 1 ((L 1))) σ) (fun r1 => if ((r1.2.1 84)) = 0 then (if ¬ ((0 : Int32) < 0 ∨ 400 ≤ (0 : Int32).toNatClampNeg) then (x_putWhole k 1 (upd L 2 0) (r1.2.1, r1.2.2.1, updG r1.2.2.2 49 (upd (r1.2.2.2 49) (0 : Int32).toNatClampNeg 0))) else none) else (x_putWhole k 2 (upd L 2 0) r1.2))
  | k + 1, 1, L, σ => x_putWhole k 2 (upd L 2 1) σ
  | k + 1, 2, L, σ => if ((σ.1 84)) ≤ 0 then (x_putWhole k 9 L σ) else (x_putWhole k 3 (upd (upd L 3 0) 4 ((((σ.1 84)) - 1))) σ)
  | k + 1, 3, L, σ => if ((L 4)) < 0 then (x_putWhole k 5 L σ) else (if ¬ (((L 4)) < 0 ∨ 140 ≤ ((L 4)).toNatClampNeg) then (if (10 : Int32) = 0 then none else (if ¬ (((L 4)) < 0 ∨ 140 ≤ ((L 4)).toNatClampNeg) then (x_putWhole k 4 (upd L 5 ((((((L 3)) <<< ((16 : Int32) &&& 31))) ||| ((σ.2.2 42 ((L 4)).toNatClampNeg))))) (σ.1, σ.2.1, updG σ.2.2 42 (upd (σ.2.2 42) ((L 4)).toNatClampNeg ((((((((L 3)) <<< ((16 : Int32) &&& 31))) ||| ((σ.2.2 42 ((L 4)).toNatClampNeg)))) / 10))))) else none)) else none)
  | k + 1, 4, L, σ => if (10 : Int32) = 0 then none else (x_putWhole k 3 (upd (upd L 3 ((((L 5)) - ((L 5)) / 10 * 10))) 4 (((L 4)) + (-1))) σ)
  | k + 1, 5, L, σ => if ¬ (((L 2)) < 0 ∨ 400 ≤ ((L 2)).toNatClampNeg) then (x_putWhole k 6 L (σ.1, σ.2.1, updG σ.2.2 49 (upd (σ.2.2 49) ((L 2)).toNatClampNeg ((L 3))))) else none
  | k + 1, 6, L, σ => x_putWhole k 7 (upd L 2 (((L 2)) + 1)) σ
  | k + 1, 7, L, σ => if ((σ.1 84)) ≤ 0 then (x_putWhole k 8 L σ) else (if ¬ (((((σ.1 84)) - 1)) < 0 ∨ 140 ≤ ((((σ.1 84)) - 1)).toNatClampNeg) then (if ((σ.2.2 42 ((((σ.1 84)) - 1)).toNatClampNeg)) = 0 then (x_putWhole k 7 L (upd σ.1 84 ((((σ.1 84)) - 1)), σ.2.1, σ.2.2)) else (x_putWhole k 8 L σ)) else none)
  | k + 1, 8, L, σ => x_putWhole k 2 L σ
  | k + 1, 9, L, σ => ob (x_signOf k 0 (upd (fun _ => 0) 1 ((L 1))) σ) (fun r1 => if 0 ≤ r1.1 then (x_putWhole k 10 L r1.2) else (ob (x_put k 0 (upd (fun _ => 0) 1 45) r1.2) (fun r3 => x_putWhole k 10 L r3.2)))
  | k + 1, 10, L, σ => x_putWhole k 11 (upd L 3 ((((L 2)) - 1))) σ
  | k + 1, 11, L, σ => if ((L 3)) < 0 then (x_putWhole k 12 L σ) else (if ¬ (((L 3)) < 0 ∨ 400 ≤ ((L 3)).toNatClampNeg) then (ob (x_put k 0 (upd (fun _ => 0) 1 ((48 + ((σ.2.2 49 ((L 3)).toNatClampNeg))))) σ) (fun r3 => x_putWhole k 11 (upd L 3 (((L 3)) + (-1))) r3.2)) else none)
  | k + 1, 12, L, σ => some (0, σ)
  | _ + 1, _ + 13, _, _ => none
def o_x_putWhole : List Cond := [.methodLink RX12 488 yX12_loadA, .instanceMethod yX12_loadA, .selects RX12 yX12_loadA yX12_loadA, .initialized RX12, .fieldLink RX12 466 "SetHouseModel" "na" "I", .fieldLink RX12 539 "SetHouseModel" "digits" "[I", .fieldLink RX12 469 "SetHouseModel" "ra" "[I", .methodLink RX12 463 yX12_signOf, .instanceMethod yX12_signOf, .selects RX12 yX12_signOf yX12_signOf, .methodLink RX12 536 yX12_put, .instanceMethod yX12_put, .selects RX12 yX12_put yX12_put]
theorem o_x_putWhole_good : o_x_putWhole.all goodWord = true := by decide +kernel
def p_x_putWhole : List Cond := o_x_putWhole ++ ((.code yX12_loadA cX12_loadA 3 none :: p_x_loadA) ++ ((.code yX12_signOf cX12_signOf 2 (some .int) :: p_x_signOf) ++ ((.code yX12_put cX12_put 2 none :: p_x_put) ++ [])))
theorem p_x_putWhole_good : p_x_putWhole.all goodWord = true := nb_all2 o_x_putWhole_good (nb_all2 (nb_allc (by decide +kernel) p_x_loadA_good) (nb_all2 (nb_allc (by decide +kernel) p_x_signOf_good) (nb_all2 (nb_allc (by decide +kernel) p_x_put_good) rfl)))
def w_x_putWhole : List Cond := .code yX12_putWhole cX12_putWhole 6 none :: (p_x_putWhole ++ fM)
theorem w_x_putWhole_good : w_x_putWhole.all goodWord = true := nb_allc (by decide +kernel) (nb_all2 p_x_putWhole_good fM_good)
theorem in_x_putWhole : ∀ w ∈ wsX120, w ∈ w_x_putWhole := fun _ h => List.mem_cons_of_mem _ (List.mem_append_right _ h)
theorem hd_x_putWhole : yX12_putWhole.cls = RX12 ∧ yX12_putWhole.cls ≠ "java/lang/invoke/MethodHandle" ∧ yX12_putWhole.cls ≠ "java/lang/invoke/VarHandle" ∧ (parseMethodDescriptor yX12_putWhole.desc).map (fun d => d.parameters.length) = some 1 := by decide +kernel
theorem gg_x_putWhole_loadA : GoodIn w_x_putWhole w_x_loadA := goodIn_sub (fun w h => (List.mem_cons.mp h).elim (fun e => (List.mem_cons_of_mem _ (List.mem_append_left _ (List.mem_append_right _ (List.mem_append_left _ (List.mem_cons.mpr (Or.inl e))))))) (fun h => (List.mem_append.mp h).elim (fun h => (List.mem_cons_of_mem _ (List.mem_append_left _ (List.mem_append_right _ (List.mem_append_left _ (List.mem_cons_of_mem _ h)))))) (fun h => List.mem_cons_of_mem _ (List.mem_append_right _ h)))) w_x_loadA_good
theorem g_x_putWhole_loadA_488 : GoodIn w_x_putWhole (wsV RX12 488 RX12 yX12_loadA w_x_loadA) := goodIn_app (nb_g4 (List.mem_cons_of_mem _ (List.mem_append_left _ (List.mem_append_left _ (List.mem_of_getElem? (i := 0) rfl)))) (List.mem_cons_of_mem _ (List.mem_append_left _ (List.mem_append_left _ (List.mem_of_getElem? (i := 1) rfl)))) (List.mem_cons_of_mem _ (List.mem_append_left _ (List.mem_append_left _ (List.mem_of_getElem? (i := 2) rfl)))) (List.mem_cons_of_mem _ (List.mem_append_left _ (List.mem_append_left _ (List.mem_of_getElem? (i := 3) rfl)))) (by decide +kernel)) gg_x_putWhole_loadA
theorem gg_x_putWhole_put : GoodIn w_x_putWhole w_x_put := goodIn_sub (fun w h => (List.mem_cons.mp h).elim (fun e => (List.mem_cons_of_mem _ (List.mem_append_left _ (List.mem_append_right _ (List.mem_append_right _ (List.mem_append_right _ (List.mem_append_left _ (List.mem_cons.mpr (Or.inl e))))))))) (fun h => (List.mem_append.mp h).elim (fun h => (List.mem_cons_of_mem _ (List.mem_append_left _ (List.mem_append_right _ (List.mem_append_right _ (List.mem_append_right _ (List.mem_append_left _ (List.mem_cons_of_mem _ h)))))))) (fun h => List.mem_cons_of_mem _ (List.mem_append_right _ h)))) w_x_put_good
theorem g_x_putWhole_put_536 : GoodIn w_x_putWhole (wsV RX12 536 RX12 yX12_put w_x_put) := goodIn_app (nb_g4 (List.mem_cons_of_mem _ (List.mem_append_left _ (List.mem_append_left _ (List.mem_of_getElem? (i := 10) rfl)))) (List.mem_cons_of_mem _ (List.mem_append_left _ (List.mem_append_left _ (List.mem_of_getElem? (i := 11) rfl)))) (List.mem_cons_of_mem _ (List.mem_append_left _ (List.mem_append_left _ (List.mem_of_getElem? (i := 12) rfl)))) (List.mem_cons_of_mem _ (List.mem_append_left _ (List.mem_append_left _ (List.mem_of_getElem? (i := 3) rfl)))) (by decide +kernel)) gg_x_putWhole_put
theorem gg_x_putWhole_signOf : GoodIn w_x_putWhole w_x_signOf := goodIn_sub (fun w h => (List.mem_cons.mp h).elim (fun e => (List.mem_cons_of_mem _ (List.mem_append_left _ (List.mem_append_right _ (List.mem_append_right _ (List.mem_append_left _ (List.mem_cons.mpr (Or.inl e)))))))) (fun h => (List.mem_append.mp h).elim (fun h => (List.mem_cons_of_mem _ (List.mem_append_left _ (List.mem_append_right _ (List.mem_append_right _ (List.mem_append_left _ (List.mem_cons_of_mem _ h))))))) (fun h => List.mem_cons_of_mem _ (List.mem_append_right _ h)))) w_x_signOf_good
theorem g_x_putWhole_signOf_463 : GoodIn w_x_putWhole (wsV RX12 463 RX12 yX12_signOf w_x_signOf) := goodIn_app (nb_g4 (List.mem_cons_of_mem _ (List.mem_append_left _ (List.mem_append_left _ (List.mem_of_getElem? (i := 7) rfl)))) (List.mem_cons_of_mem _ (List.mem_append_left _ (List.mem_append_left _ (List.mem_of_getElem? (i := 8) rfl)))) (List.mem_cons_of_mem _ (List.mem_append_left _ (List.mem_append_left _ (List.mem_of_getElem? (i := 9) rfl)))) (List.mem_cons_of_mem _ (List.mem_append_left _ (List.mem_append_left _ (List.mem_of_getElem? (i := 3) rfl)))) (by decide +kernel)) gg_x_putWhole_signOf
set_option maxHeartbeats 40000000 in
set_option maxRecDepth 100000 in
theorem c_x_putWhole (l : Launch) (dC : Nat → ClassId) (dI : Nat → Nat → Nat) (cy : Nat → ClassId) (a : Nat → Nat) (k0 : Nat) (L0 : Nat → Int32) (σ0 : MS) (r0 : Int32 × MS) (h0 : x_putWhole k0 0 L0 σ0 = some r0) (sz : Nat) : Met l yX12_putWhole w_x_putWhole ({ frames := 1, cells := 0, slots := 0, locals := 22 }) (va_Pc [.ref (a 0), .int (L0 1)] (nIn (dC, dI) cy sz (vM cy a σ0))) (va_Qv (fun _ : Unit => True) (fun _ t => nOut (dC, dI) cy (va_A (vM cy a σ0) sz) (vM cy a r0.2) t) (va_A (vM cy a σ0) sz)) 0 0 (va_A (vM cy a σ0) sz) := by
  refine Met.ofW (cc := cX12_putWhole) (maxL := 6) (ret := none) (by decide) rfl ?_
  intro p e s m args below meth c s₁ B hml hv
  obtain ⟨rfl, hsz, hP, hK, hD0, hG⟩ := hv
  have hx := B.exec
  have hb := B.bytes
  have hr := B.returns
  have hts := atoms_spec (ws := w_x_putWhole) B.pre
  have hown : s.vm.findClass RX12 = some m.cls := findClass_of_methodNamed B.named
  have hlocks := B.notSynchronized
  subst hsz
  have hD := hD0.self (sz := s.heap.size)
  generalize hAe : va_A (vM cy a σ0) s.heap.size = A at hD ⊢
  have hA : ∀ q : Nat, s.heap.size ≤ q → A q := fun q h => by rw [← hAe]; exact Or.inr h
  have hS : va_S A s.heap s.heap [] := va_S.rf
  have hl := lv_entry ([.ref (a 0), .int (L0 1)]) (n := 6) (Nat.le_of_ble_eq_true rfl)
  rw [lg_entry_eq]
  generalize (lg_sl ([.ref (a 0), .int (L0 1)]) ++ List.replicate (6 - (lg_sl ([.ref (a 0), .int (L0 1)])).length) Slot.unset).toArray = ls at hl ⊢
  have hl : lv_has ls 6 [(0, .ref (a 0)), (1, .int (L0 1))] := hl
  have blk : ∀ k : Nat, (bT p l e (headSpec w_x_putWhole ({ frames := 1, cells := 0, slots := 0, locals := 22 })).room s m #[.ref (a 0), .int (L0 1)] below meth c dC dI cy a A (qV dC dI cy a A below #[.ref (a 0), .int (L0 1)] s) 6 (x_putWhole k 0) (fun L => [(0, .ref (a 0)), (1, .int (L 1))]) 0 (fun L => [])) ∧ (bT p l e (headSpec w_x_putWhole ({ frames := 1, cells := 0, slots := 0, locals := 22 })).room s m #[.ref (a 0), .int (L0 1)] below meth c dC dI cy a A (qV dC dI cy a A below #[.ref (a 0), .int (L0 1)] s) 6 (x_putWhole k 1) (fun L => [(0, .ref (a 0)), (1, .int (L 1)), (2, .int (L 2))]) 21 (fun L => [])) ∧ (bT p l e (headSpec w_x_putWhole ({ frames := 1, cells := 0, slots := 0, locals := 22 })).room s m #[.ref (a 0), .int (L0 1)] below meth c dC dI cy a A (qV dC dI cy a A below #[.ref (a 0), .int (L0 1)] s) 6 (x_putWhole k 2) (fun L => [(0, .ref (a 0)), (1, .int (L 1)), (2, .int (L 2))]) 23 (fun L => [])) ∧ (bT p l e (headSpec w_x_putWhole ({ frames := 1, cells := 0, slots := 0, locals := 22 })).room s m #[.ref (a 0), .int (L0 1)] below meth c dC dI cy a A (qV dC dI cy a A below #[.ref (a 0), .int (L0 1)] s) 6 (x_putWhole k 3) (fun L => [(0, .ref (a 0)), (1, .int (L 1)), (2, .int (L 2)), (3, .int (L 3)), (4, .int (L 4))]) 40 (fun L => [])) ∧ (bT p l e (headSpec w_x_putWhole ({ frames := 1, cells := 0, slots := 0, locals := 22 })).room s m #[.ref (a 0), .int (L0 1)] below meth c dC dI cy a A (qV dC dI cy a A below #[.ref (a 0), .int (L0 1)] s) 6 (x_putWhole k 4) (fun L => [(0, .ref (a 0)), (1, .int (L 1)), (2, .int (L 2)), (3, .int (L 3)), (4, .int (L 4)), (5, .int (L 5))]) 71 (fun L => [])) ∧ (bT p l e (headSpec w_x_putWhole ({ frames := 1, cells := 0, slots := 0, locals := 22 })).room s m #[.ref (a 0), .int (L0 1)] below meth c dC dI cy a A (qV dC dI cy a A below #[.ref (a 0), .int (L0 1)] s) 6 (x_putWhole k 5) (fun L => [(0, .ref (a 0)), (1, .int (L 1)), (2, .int (L 2)), (3, .int (L 3)), (4, .int (L 4))]) 83 (fun L => [])) ∧ (bT p l e (headSpec w_x_putWhole ({ frames := 1, cells := 0, slots := 0, locals := 22 })).room s m #[.ref (a 0), .int (L0 1)] below meth c dC dI cy a A (qV dC dI cy a A below #[.ref (a 0), .int (L0 1)] s) 6 (x_putWhole k 6) (fun L => [(0, .ref (a 0)), (1, .int (L 1)), (2, .int (L 2)), (3, .int (L 3)), (4, .int (L 4))]) 90 (fun L => [])) ∧ (bT p l e (headSpec w_x_putWhole ({ frames := 1, cells := 0, slots := 0, locals := 22 })).room s m #[.ref (a 0), .int (L0 1)] below meth c dC dI cy a A (qV dC dI cy a A below #[.ref (a 0), .int (L0 1)] s) 6 (x_putWhole k 7) (fun L => [(0, .ref (a 0)), (1, .int (L 1)), (2, .int (L 2)), (3, .int (L 3)), (4, .int (L 4))]) 93 (fun L => [])) ∧ (bT p l e (headSpec w_x_putWhole ({ frames := 1, cells := 0, slots := 0, locals := 22 })).room s m #[.ref (a 0), .int (L0 1)] below meth c dC dI cy a A (qV dC dI cy a A below #[.ref (a 0), .int (L0 1)] s) 6 (x_putWhole k 8) (fun L => [(0, .ref (a 0)), (1, .int (L 1)), (2, .int (L 2)), (3, .int (L 3)), (4, .int (L 4))]) 127 (fun L => [])) ∧ (bT p l e (headSpec w_x_putWhole ({ frames := 1, cells := 0, slots := 0, locals := 22 })).room s m #[.ref (a 0), .int (L0 1)] below meth c dC dI cy a A (qV dC dI cy a A below #[.ref (a 0), .int (L0 1)] s) 6 (x_putWhole k 9) (fun L => [(0, .ref (a 0)), (1, .int (L 1)), (2, .int (L 2))]) 130 (fun L => [])) ∧ (bT p l e (headSpec w_x_putWhole ({ frames := 1, cells := 0, slots := 0, locals := 22 })).room s m #[.ref (a 0), .int (L0 1)] below meth c dC dI cy a A (qV dC dI cy a A below #[.ref (a 0), .int (L0 1)] s) 6 (x_putWhole k 10) (fun L => [(0, .ref (a 0)), (1, .int (L 1)), (2, .int (L 2))]) 144 (fun L => [])) ∧ (bT p l e (headSpec w_x_putWhole ({ frames := 1, cells := 0, slots := 0, locals := 22 })).room s m #[.ref (a 0), .int (L0 1)] below meth c dC dI cy a A (qV dC dI cy a A below #[.ref (a 0), .int (L0 1)] s) 6 (x_putWhole k 11) (fun L => [(0, .ref (a 0)), (1, .int (L 1)), (2, .int (L 2)), (3, .int (L 3))]) 148 (fun L => [])) ∧ (bT p l e (headSpec w_x_putWhole ({ frames := 1, cells := 0, slots := 0, locals := 22 })).room s m #[.ref (a 0), .int (L0 1)] below meth c dC dI cy a A (qV dC dI cy a A below #[.ref (a 0), .int (L0 1)] s) 6 (x_putWhole k 12) (fun L => [(0, .ref (a 0)), (1, .int (L 1)), (2, .int (L 2)), (3, .int (L 3))]) 171 (fun L => [])) := by
    intro k
    induction k with
    | zero => exact ⟨fun L σ r h => (by cases h), fun L σ r h => (by cases h), fun L σ r h => (by cases h), fun L σ r h => (by cases h), fun L σ r h => (by cases h), fun L σ r h => (by cases h), fun L σ r h => (by cases h), fun L σ r h => (by cases h), fun L σ r h => (by cases h), fun L σ r h => (by cases h), fun L σ r h => (by cases h), fun L σ r h => (by cases h), fun L σ r h => (by cases h)⟩
    | succ k ih =>
      refine ⟨?_, ?_, ?_, ?_, ?_, ?_, ?_, ?_, ?_, ?_, ?_, ?_, ?_⟩
      · intro L σ r h H locs ls hP hD hS hl
        rw [x_putWhole] at h
        refine lv_aload_n hx hb dX12_putWhole_0 rfl (lv_at hl 0 rfl) ?_
        refine lv_iload_n hx hb dX12_putWhole_1 rfl (lv_at hl 1 rfl) ?_
        obtain ⟨r1, hc1, h⟩ := ob_ex h
        refine nc_Vv (As := [.int (L 1)]) (rest := []) ⟨hx, hb, hml, hown, hts⟩ (c_x_loadA l dC dI cy a k (upd (fun _ => 0) 1 ((L 1))) σ r1 hc1 H.size) (cwV 1 hts g_x_putWhole_loadA_488 rfl rfl rfl hd_x_loadA ⟨Nat.le_of_ble_eq_true rfl, Nat.le_of_ble_eq_true rfl⟩) hK hG hA hP hD hS rfl hl.1 rfl (Nat.le_of_ble_eq_true rfl) dX12_putWhole_2 ⟨Nat.le_refl _, Nat.le_refl _⟩ (fun H locs hP hD hS => ?_)
        refine lv_iconst (v := 0) hx hb dX12_putWhole_5 (by decide) ?_
        refine lv_istore_n (lv' := [(2, .int 0), (0, .ref (a 0)), (1, .int (L 1))]) hx hb dX12_putWhole_6 rfl hl (by decide) rfl (fun ls hl => ?_)
        refine lv_aload_n hx hb dX12_putWhole_7 rfl (lv_at hl 1 rfl) ?_
        refine ng_84 hx hb hts in_x_putWhole hown hK hP (hts _ (List.mem_cons_of_mem _ (List.mem_append_left _ (List.mem_append_left _ (List.mem_of_getElem? (i := 4) rfl))))) dX12_putWhole_8 ?_
        refine lv_if_ne (tgt := 23) hx hb dX12_putWhole_11 (by decide) (fun c2 => ?_) (fun c2 => ?_)
        · rw [if_neg c2] at h
          exact ih.2.2.1 (upd L 2 0) r1.2 r h H locs ls hP hD hS (lv_sub hl [1, 2, 0] rfl)
        · rw [if_pos c2] at h
          refine lv_aload_n hx hb dX12_putWhole_14 rfl (lv_at hl 1 rfl) ?_
          refine ng_94 hx hb hts in_x_putWhole hown hK hP (hts _ (List.mem_cons_of_mem _ (List.mem_append_left _ (List.mem_append_left _ (List.mem_of_getElem? (i := 5) rfl))))) dX12_putWhole_15 ?_
          refine lv_iconst (v := 0) hx hb dX12_putWhole_18 (by decide) ?_
          refine lv_iconst (v := 0) hx hb dX12_putWhole_19 (by decide) ?_
          obtain ⟨q3, h⟩ := nb_ite1 h
          refine ns_49 hx hb hK hP hD hS q3 dX12_putWhole_20 (fun H locs hP hD hS => ?_)
          exact ih.2.1 (upd L 2 0) (r1.2.1, r1.2.2.1, updG r1.2.2.2 49 (upd (r1.2.2.2 49) (0 : Int32).toNatClampNeg 0)) r h H locs ls hP hD hS (lv_sub hl [1, 2, 0] rfl)
      · intro L σ r h H locs ls hP hD hS hl
        rw [x_putWhole] at h
        refine lv_iconst (v := 1) hx hb dX12_putWhole_21 (by decide) ?_
        refine lv_istore_n (lv' := [(2, .int 1), (0, .ref (a 0)), (1, .int (L 1))]) hx hb dX12_putWhole_22 rfl hl (by decide) rfl (fun ls hl => ?_)
        exact ih.2.2.1 (upd L 2 1) σ r h H locs ls hP hD hS (lv_sub hl [1, 2, 0] rfl)
      · intro L σ r h H locs ls hP hD hS hl
        rw [x_putWhole] at h
        refine lv_aload_n hx hb dX12_putWhole_23 rfl (lv_at hl 0 rfl) ?_
        refine ng_84 hx hb hts in_x_putWhole hown hK hP (hts _ (List.mem_cons_of_mem _ (List.mem_append_left _ (List.mem_append_left _ (List.mem_of_getElem? (i := 4) rfl))))) dX12_putWhole_24 ?_
        refine lv_if_le (tgt := 130) hx hb dX12_putWhole_27 (by decide) (fun c1 => ?_) (fun c1 => ?_)
        · rw [if_pos c1] at h
          exact ih.2.2.2.2.2.2.2.2.2.1 L σ r h H locs ls hP hD hS (lv_sub hl [0, 1, 2] rfl)
        · rw [if_neg c1] at h
          refine lv_iconst (v := 0) hx hb dX12_putWhole_30 (by decide) ?_
          refine lv_istore_n (lv' := [(3, .int 0), (0, .ref (a 0)), (1, .int (L 1)), (2, .int (L 2))]) hx hb dX12_putWhole_31 rfl hl (by decide) rfl (fun ls hl => ?_)
          refine lv_aload_n hx hb dX12_putWhole_32 rfl (lv_at hl 1 rfl) ?_
          refine ng_84 hx hb hts in_x_putWhole hown hK hP (hts _ (List.mem_cons_of_mem _ (List.mem_append_left _ (List.mem_append_left _ (List.mem_of_getElem? (i := 4) rfl))))) dX12_putWhole_33 ?_
          refine lv_iconst (v := 1) hx hb dX12_putWhole_36 (by decide) ?_
          refine lv_isub hx hb dX12_putWhole_37 ?_
          refine lv_istore (lv' := [(4, .int (((σ.1 84)) - 1)), (3, .int 0), (0, .ref (a 0)), (1, .int (L 1)), (2, .int (L 2))]) hx hb dX12_putWhole_38 hl (by decide) rfl (fun ls hl => ?_)
          exact ih.2.2.2.1 (upd (upd L 3 0) 4 ((((σ.1 84)) - 1))) σ r h H locs ls hP hD hS (lv_sub hl [2, 3, 4, 1, 0] rfl)
      · intro L σ r h H locs ls hP hD hS hl
        rw [x_putWhole] at h
        refine lv_iload hx hb dX12_putWhole_40 (lv_at hl 4 rfl) ?_
        refine lv_if_lt (tgt := 83) hx hb dX12_putWhole_42 (by decide) (fun c1 => ?_) (fun c1 => ?_)
        · rw [if_pos c1] at h
          exact ih.2.2.2.2.2.1 L σ r h H locs ls hP hD hS (lv_sub hl [0, 1, 2, 3, 4] rfl)
        · rw [if_neg c1] at h
          refine lv_iload_n hx hb dX12_putWhole_45 rfl (lv_at hl 3 rfl) ?_
          refine lv_bipush (v := 16) hx hb dX12_putWhole_46 (by decide) ?_
          refine lv_ishl hx hb dX12_putWhole_48 ?_
          refine lv_aload_n hx hb dX12_putWhole_49 rfl (lv_at hl 0 rfl) ?_
          refine ng_81 hx hb hts in_x_putWhole hown hK hP (hts _ (List.mem_cons_of_mem _ (List.mem_append_left _ (List.mem_append_left _ (List.mem_of_getElem? (i := 6) rfl))))) dX12_putWhole_50 ?_
          refine lv_iload hx hb dX12_putWhole_53 (lv_at hl 4 rfl) ?_
          obtain ⟨q2, h⟩ := nb_ite1 h
          refine nl_42 hx hb hK hP q2 dX12_putWhole_55 ?_
          refine lv_ior hx hb dX12_putWhole_56 ?_
          refine lv_istore (lv' := [(5, .int (((((L 3)) <<< ((16 : Int32) &&& 31))) ||| ((σ.2.2 42 ((L 4)).toNatClampNeg)))), (0, .ref (a 0)), (1, .int (L 1)), (2, .int (L 2)), (3, .int (L 3)), (4, .int (L 4))]) hx hb dX12_putWhole_57 hl (by decide) rfl (fun ls hl => ?_)
          refine lv_aload_n hx hb dX12_putWhole_59 rfl (lv_at hl 1 rfl) ?_
          refine ng_81 hx hb hts in_x_putWhole hown hK hP (hts _ (List.mem_cons_of_mem _ (List.mem_append_left _ (List.mem_append_left _ (List.mem_of_getElem? (i := 6) rfl))))) dX12_putWhole_60 ?_
          refine lv_iload hx hb dX12_putWhole_63 (lv_at hl 5 rfl) ?_
          refine lv_iload hx hb dX12_putWhole_65 (lv_at hl 0 rfl) ?_
          refine lv_bipush (v := 10) hx hb dX12_putWhole_67 (by decide) ?_
          obtain ⟨q3, h⟩ := nb_ite0 h
          refine lv_idiv hx hb dX12_putWhole_69 q3 ?_
          obtain ⟨q4, h⟩ := nb_ite1 h
          refine ns_42 hx hb hK hP hD hS q4 dX12_putWhole_70 (fun H locs hP hD hS => ?_)
          exact ih.2.2.2.2.1 (upd L 5 ((((((L 3)) <<< ((16 : Int32) &&& 31))) ||| ((σ.2.2 42 ((L 4)).toNatClampNeg))))) (σ.1, σ.2.1, updG σ.2.2 42 (upd (σ.2.2 42) ((L 4)).toNatClampNeg ((((((((L 3)) <<< ((16 : Int32) &&& 31))) ||| ((σ.2.2 42 ((L 4)).toNatClampNeg)))) / 10)))) r h H locs ls hP hD hS (lv_sub hl [1, 2, 3, 4, 5, 0] rfl)
      · intro L σ r h H locs ls hP hD hS hl
        rw [x_putWhole] at h
        refine lv_iload hx hb dX12_putWhole_71 (lv_at hl 5 rfl) ?_
        refine lv_bipush (v := 10) hx hb dX12_putWhole_73 (by decide) ?_
        obtain ⟨q1, h⟩ := nb_ite0 h
        refine lv_irem hx hb dX12_putWhole_75 q1 ?_
        refine lv_istore_n (lv' := [(3, .int (((L 5)) - ((L 5)) / 10 * 10)), (0, .ref (a 0)), (1, .int (L 1)), (2, .int (L 2)), (4, .int (L 4)), (5, .int (L 5))]) hx hb dX12_putWhole_76 rfl hl (by decide) rfl (fun ls hl => ?_)
        refine lv_iinc (v := ((L 4)) + (-1)) (lv' := [(4, .int (((L 4)) + (-1))), (3, .int (((L 5)) - ((L 5)) / 10 * 10)), (0, .ref (a 0)), (1, .int (L 1)), (2, .int (L 2)), (5, .int (L 5))]) hx hb dX12_putWhole_77 hl (k := 4) rfl rfl (by decide) rfl (fun ls hl => ?_)
        refine lv_goto (tgt := 40) hx hb dX12_putWhole_80 (by decide) ?_
        exact ih.2.2.2.1 (upd (upd L 3 ((((L 5)) - ((L 5)) / 10 * 10))) 4 (((L 4)) + (-1))) σ r h H locs ls hP hD hS (lv_sub hl [2, 3, 4, 1, 0] rfl)
      · intro L σ r h H locs ls hP hD hS hl
        rw [x_putWhole] at h
        refine lv_aload_n hx hb dX12_putWhole_83 rfl (lv_at hl 0 rfl) ?_
        refine ng_94 hx hb hts in_x_putWhole hown hK hP (hts _ (List.mem_cons_of_mem _ (List.mem_append_left _ (List.mem_append_left _ (List.mem_of_getElem? (i := 5) rfl))))) dX12_putWhole_84 ?_
        refine lv_iload_n hx hb dX12_putWhole_87 rfl (lv_at hl 2 rfl) ?_
        refine lv_iload_n hx hb dX12_putWhole_88 rfl (lv_at hl 3 rfl) ?_
        obtain ⟨q1, h⟩ := nb_ite1 h
        refine ns_49 hx hb hK hP hD hS q1 dX12_putWhole_89 (fun H locs hP hD hS => ?_)
        exact ih.2.2.2.2.2.2.1 L (σ.1, σ.2.1, updG σ.2.2 49 (upd (σ.2.2 49) ((L 2)).toNatClampNeg ((L 3)))) r h H locs ls hP hD hS (lv_sub hl [0, 1, 2, 3, 4] rfl)
      · intro L σ r h H locs ls hP hD hS hl
        rw [x_putWhole] at h
        refine lv_iinc (v := ((L 2)) + 1) (lv' := [(2, .int (((L 2)) + 1)), (0, .ref (a 0)), (1, .int (L 1)), (3, .int (L 3)), (4, .int (L 4))]) hx hb dX12_putWhole_90 hl (k := 2) rfl rfl (by decide) rfl (fun ls hl => ?_)
        exact ih.2.2.2.2.2.2.2.1 (upd L 2 (((L 2)) + 1)) σ r h H locs ls hP hD hS (lv_sub hl [1, 2, 0, 3, 4] rfl)
      · intro L σ r h H locs ls hP hD hS hl
        rw [x_putWhole] at h
        refine lv_aload_n hx hb dX12_putWhole_93 rfl (lv_at hl 0 rfl) ?_
        refine ng_84 hx hb hts in_x_putWhole hown hK hP (hts _ (List.mem_cons_of_mem _ (List.mem_append_left _ (List.mem_append_left _ (List.mem_of_getElem? (i := 4) rfl))))) dX12_putWhole_94 ?_
        refine lv_if_le (tgt := 127) hx hb dX12_putWhole_97 (by decide) (fun c1 => ?_) (fun c1 => ?_)
        · rw [if_pos c1] at h
          exact ih.2.2.2.2.2.2.2.2.1 L σ r h H locs ls hP hD hS (lv_sub hl [0, 1, 2, 3, 4] rfl)
        · rw [if_neg c1] at h
          refine lv_aload_n hx hb dX12_putWhole_100 rfl (lv_at hl 0 rfl) ?_
          refine ng_81 hx hb hts in_x_putWhole hown hK hP (hts _ (List.mem_cons_of_mem _ (List.mem_append_left _ (List.mem_append_left _ (List.mem_of_getElem? (i := 6) rfl))))) dX12_putWhole_101 ?_
          refine lv_aload_n hx hb dX12_putWhole_104 rfl (lv_at hl 0 rfl) ?_
          refine ng_84 hx hb hts in_x_putWhole hown hK hP (hts _ (List.mem_cons_of_mem _ (List.mem_append_left _ (List.mem_append_left _ (List.mem_of_getElem? (i := 4) rfl))))) dX12_putWhole_105 ?_
          refine lv_iconst (v := 1) hx hb dX12_putWhole_108 (by decide) ?_
          refine lv_isub hx hb dX12_putWhole_109 ?_
          obtain ⟨q2, h⟩ := nb_ite1 h
          refine nl_42 hx hb hK hP q2 dX12_putWhole_110 ?_
          refine lv_if_ne (tgt := 127) hx hb dX12_putWhole_111 (by decide) (fun c3 => ?_) (fun c3 => ?_)
          · rw [if_neg c3] at h
            exact ih.2.2.2.2.2.2.2.2.1 L σ r h H locs ls hP hD hS (lv_sub hl [0, 1, 2, 3, 4] rfl)
          · rw [if_pos c3] at h
            refine lv_aload_n hx hb dX12_putWhole_114 rfl (lv_at hl 0 rfl) ?_
            refine lv_dup hx hb dX12_putWhole_115 rfl ?_
            refine ng_84 hx hb hts in_x_putWhole hown hK hP (hts _ (List.mem_cons_of_mem _ (List.mem_append_left _ (List.mem_append_left _ (List.mem_of_getElem? (i := 4) rfl))))) dX12_putWhole_116 ?_
            refine lv_iconst (v := 1) hx hb dX12_putWhole_119 (by decide) ?_
            refine lv_isub hx hb dX12_putWhole_120 ?_
            refine np_84 hx hb hts in_x_putWhole hown hK hP hD hS (hts _ (List.mem_cons_of_mem _ (List.mem_append_left _ (List.mem_append_left _ (List.mem_of_getElem? (i := 4) rfl))))) dX12_putWhole_121 (fun H locs hP hD hS => ?_)
            refine lv_goto (tgt := 93) hx hb dX12_putWhole_124 (by decide) ?_
            exact ih.2.2.2.2.2.2.2.1 L (upd σ.1 84 ((((σ.1 84)) - 1)), σ.2.1, σ.2.2) r h H locs ls hP hD hS (lv_sub hl [0, 1, 2, 3, 4] rfl)
      · intro L σ r h H locs ls hP hD hS hl
        rw [x_putWhole] at h
        refine lv_goto (tgt := 23) hx hb dX12_putWhole_127 (by decide) ?_
        exact ih.2.2.1 L σ r h H locs ls hP hD hS (lv_sub hl [0, 1, 2] rfl)
      · intro L σ r h H locs ls hP hD hS hl
        rw [x_putWhole] at h
        refine lv_aload_n hx hb dX12_putWhole_130 rfl (lv_at hl 0 rfl) ?_
        refine lv_iload_n hx hb dX12_putWhole_131 rfl (lv_at hl 1 rfl) ?_
        obtain ⟨r1, hc1, h⟩ := ob_ex h
        refine nc_Vi (As := [.int (L 1)]) (rest := []) ⟨hx, hb, hml, hown, hts⟩ (c_x_signOf l dC dI cy a k (upd (fun _ => 0) 1 ((L 1))) σ r1 hc1 H.size) (cwV 1 hts g_x_putWhole_signOf_463 rfl rfl rfl hd_x_signOf ⟨Nat.le_of_ble_eq_true rfl, Nat.le_of_ble_eq_true rfl⟩) hK hG hA hP hD hS rfl hl.1 rfl (Nat.le_of_ble_eq_true rfl) dX12_putWhole_132 ⟨Nat.le_refl _, Nat.le_refl _⟩ (fun H locs hP hD hS => ?_)
        refine lv_if_ge (tgt := 144) hx hb dX12_putWhole_135 (by decide) (fun c2 => ?_) (fun c2 => ?_)
        · rw [if_pos c2] at h
          exact ih.2.2.2.2.2.2.2.2.2.2.1 L r1.2 r h H locs ls hP hD hS (lv_sub hl [0, 1, 2] rfl)
        · rw [if_neg c2] at h
          refine lv_aload_n hx hb dX12_putWhole_138 rfl (lv_at hl 0 rfl) ?_
          refine lv_bipush (v := 45) hx hb dX12_putWhole_139 (by decide) ?_
          obtain ⟨r3, hc3, h⟩ := ob_ex h
          refine nc_Vv (As := [.int 45]) (rest := []) ⟨hx, hb, hml, hown, hts⟩ (c_x_put l dC dI cy a k (upd (fun _ => 0) 1 45) r1.2 r3 hc3 H.size) (cwV 1 hts g_x_putWhole_put_536 rfl rfl rfl hd_x_put ⟨Nat.le_of_ble_eq_true rfl, Nat.le_of_ble_eq_true rfl⟩) hK hG hA hP hD hS rfl hl.1 rfl (Nat.le_of_ble_eq_true rfl) dX12_putWhole_141 ⟨Nat.le_refl _, Nat.le_refl _⟩ (fun H locs hP hD hS => ?_)
          exact ih.2.2.2.2.2.2.2.2.2.2.1 L r3.2 r h H locs ls hP hD hS (lv_sub hl [0, 1, 2] rfl)
      · intro L σ r h H locs ls hP hD hS hl
        rw [x_putWhole] at h
        refine lv_iload_n hx hb dX12_putWhole_144 rfl (lv_at hl 2 rfl) ?_
        refine lv_iconst (v := 1) hx hb dX12_putWhole_145 (by decide) ?_
        refine lv_isub hx hb dX12_putWhole_146 ?_
        refine lv_istore_n (lv' := [(3, .int (((L 2)) - 1)), (0, .ref (a 0)), (1, .int (L 1)), (2, .int (L 2))]) hx hb dX12_putWhole_147 rfl hl (by decide) rfl (fun ls hl => ?_)
        exact ih.2.2.2.2.2.2.2.2.2.2.2.1 (upd L 3 ((((L 2)) - 1))) σ r h H locs ls hP hD hS (lv_sub hl [1, 2, 3, 0] rfl)
      · intro L σ r h H locs ls hP hD hS hl
        rw [x_putWhole] at h
        refine lv_iload_n hx hb dX12_putWhole_148 rfl (lv_at hl 3 rfl) ?_
        refine lv_if_lt (tgt := 171) hx hb dX12_putWhole_149 (by decide) (fun c1 => ?_) (fun c1 => ?_)
        · rw [if_pos c1] at h
          exact ih.2.2.2.2.2.2.2.2.2.2.2.2 L σ r h H locs ls hP hD hS (lv_sub hl [0, 1, 2, 3] rfl)
        · rw [if_neg c1] at h
          refine lv_aload_n hx hb dX12_putWhole_152 rfl (lv_at hl 0 rfl) ?_
          refine lv_bipush (v := 48) hx hb dX12_putWhole_153 (by decide) ?_
          refine lv_aload_n hx hb dX12_putWhole_155 rfl (lv_at hl 0 rfl) ?_
          refine ng_94 hx hb hts in_x_putWhole hown hK hP (hts _ (List.mem_cons_of_mem _ (List.mem_append_left _ (List.mem_append_left _ (List.mem_of_getElem? (i := 5) rfl))))) dX12_putWhole_156 ?_
          refine lv_iload_n hx hb dX12_putWhole_159 rfl (lv_at hl 3 rfl) ?_
          obtain ⟨q2, h⟩ := nb_ite1 h
          refine nl_49 hx hb hK hP q2 dX12_putWhole_160 ?_
          refine lv_iadd hx hb dX12_putWhole_161 ?_
          obtain ⟨r3, hc3, h⟩ := ob_ex h
          refine nc_Vv (As := [.int (48 + ((σ.2.2 49 ((L 3)).toNatClampNeg)))]) (rest := []) ⟨hx, hb, hml, hown, hts⟩ (c_x_put l dC dI cy a k (upd (fun _ => 0) 1 ((48 + ((σ.2.2 49 ((L 3)).toNatClampNeg))))) σ r3 hc3 H.size) (cwV 1 hts g_x_putWhole_put_536 rfl rfl rfl hd_x_put ⟨Nat.le_of_ble_eq_true rfl, Nat.le_of_ble_eq_true rfl⟩) hK hG hA hP hD hS rfl hl.1 rfl (Nat.le_of_ble_eq_true rfl) dX12_putWhole_162 ⟨Nat.le_refl _, Nat.le_refl _⟩ (fun H locs hP hD hS => ?_)
          refine lv_iinc (v := ((L 3)) + (-1)) (lv' := [(3, .int (((L 3)) + (-1))), (0, .ref (a 0)), (1, .int (L 1)), (2, .int (L 2))]) hx hb dX12_putWhole_165 hl (k := 3) rfl rfl (by decide) rfl (fun ls hl => ?_)
          refine lv_goto (tgt := 148) hx hb dX12_putWhole_168 (by decide) ?_
          exact ih.2.2.2.2.2.2.2.2.2.2.2.1 (upd L 3 (((L 3)) + (-1))) r3.2 r h H locs ls hP hD hS (lv_sub hl [1, 2, 3, 0] rfl)
      · intro L σ r h H locs ls hP hD hS hl
        rw [x_putWhole] at h
        cases h
        exact W.vret hx hb hr (fun t ht hW => ⟨⟨(), rfl, trivial, by rw [ht]; exact hP, va_K.moved hW.alike hK, hD⟩, hS.F ht⟩) hS.2.2 dX12_putWhole_171
  exact (blk k0).1 L0 σ0 r0 h0 s.heap [] ls hP hD hS hl
/-! GN: putNumber -/
def s_putNumber (X : Nat → Nat → Nat → (Nat → Int32) → MS → Option (Int32 × MS)) (K d : Nat) (b : Nat) (L : Nat → Int32) (σ : MS) : Option (Int32 × MS) := match b with
  | 0 => if ((L 1)) ≤ 9 then (X d 0 1 L σ) else (if (10 : Int32) = 0 then none else (od d (fun e3 => ob (X e3 0 0 (upd (fun _ => 0) 1 ((((L 1)) / 10))) σ) (fun r3 => X d 0 1 L r3.2))))
  | 1 => if (10 : Int32) = 0 then none else (ob (x_put K 0 (upd (fun _ => 0) 1 ((48 + ((((L 1)) - ((L 1)) / 10 * 10))))) σ) (fun r2 => some (0, r2.2)))
  | _ => none
theorem s_putNumber_0 (X : Nat → Nat → Nat → (Nat → Int32) → MS → Option (Int32 × MS)) (K d : Nat) (L : Nat → Int32) (σ : MS) : s_putNumber X K d 0 L σ = (if ((L 1)) ≤ 9 then (X d 0 1 L σ) else (if (10 : Int32) = 0 then none else (od d (fun e3 => ob (X e3 0 0 (upd (fun _ => 0) 1 ((((L 1)) / 10))) σ) (fun r3 => X d 0 1 L r3.2))))) := rfl
theorem s_putNumber_1 (X : Nat → Nat → Nat → (Nat → Int32) → MS → Option (Int32 × MS)) (K d : Nat) (L : Nat → Int32) (σ : MS) : s_putNumber X K d 1 L σ = (if (10 : Int32) = 0 then none else (ob (x_put K 0 (upd (fun _ => 0) 1 ((48 + ((((L 1)) - ((L 1)) / 10 * 10))))) σ) (fun r2 => some (0, r2.2)))) := rfl
def x_GN : Nat → Nat → Nat → Nat → (Nat → Int32) → MS → Option (Int32 × MS)
  | 0 => fun _ _ _ _ _ => none
  | k + 1 => fun d m b L σ => match m with
    | 0 => s_putNumber (x_GN k) k d b L σ
    | _ => none
theorem x_GN_0 (k d b : Nat) (L : Nat → Int32) (σ : MS) : x_GN (k + 1) d 0 b L σ = s_putNumber (x_GN k) k d b L σ := rfl
def o_x_GN : List Cond := [.code yX12_putNumber cX12_putNumber 2 none, .methodLink RX12 542 yX12_putNumber, .instanceMethod yX12_putNumber, .selects RX12 yX12_putNumber yX12_putNumber, .initialized RX12, .methodLink RX12 536 yX12_put, .instanceMethod yX12_put, .selects RX12 yX12_put yX12_put]
theorem o_x_GN_good : o_x_GN.all goodWord = true := by decide +kernel
def p_x_GN : List Cond := o_x_GN ++ ((.code yX12_put cX12_put 2 none :: p_x_put) ++ [])
theorem p_x_GN_good : p_x_GN.all goodWord = true := nb_all2 o_x_GN_good (nb_all2 (nb_allc (by decide +kernel) p_x_put_good) rfl)
def w_x_putNumber : List Cond := .code yX12_putNumber cX12_putNumber 2 none :: (p_x_GN ++ fM)
theorem w_x_putNumber_good : w_x_putNumber.all goodWord = true := nb_allc (by decide +kernel) (nb_all2 p_x_GN_good fM_good)
theorem in_x_putNumber : ∀ w ∈ wsX120, w ∈ w_x_putNumber := fun _ h => List.mem_cons_of_mem _ (List.mem_append_right _ h)
theorem hd_x_putNumber : yX12_putNumber.cls = RX12 ∧ yX12_putNumber.cls ≠ "java/lang/invoke/MethodHandle" ∧ yX12_putNumber.cls ≠ "java/lang/invoke/VarHandle" ∧ (parseMethodDescriptor yX12_putNumber.desc).map (fun d => d.parameters.length) = some 1 := by decide +kernel
abbrev P_GN (l : Launch) (dC : Nat → ClassId) (dI : Nat → Nat → Nat) (cy : Nat → ClassId) (a : Nat → Nat) (k0 : Nat) : Prop := (∀ (d : Nat) (L0 : Nat → Int32) (σ0 : MS) (r0 : Int32 × MS), x_GN k0 d 0 0 L0 σ0 = some r0 → ∀ (sz : Nat), Met l yX12_putNumber w_x_putNumber ({ frames := 1 + d, cells := 0, slots := 0, locals := 21 + 21 * d }) (va_Pc [.ref (a 0), .int (L0 1)] (nIn (dC, dI) cy sz (vM cy a σ0))) (va_Qv (fun _ : Unit => True) (fun _ t => nOut (dC, dI) cy (va_A (vM cy a σ0) sz) (vM cy a r0.2) t) (va_A (vM cy a σ0) sz)) 0 0 (va_A (vM cy a σ0) sz))
theorem gg_x_putNumber_putNumber : GoodIn w_x_putNumber w_x_putNumber := goodIn_sub (fun w h => (List.mem_cons.mp h).elim (fun e => e ▸ (List.mem_cons_of_mem _ (List.mem_append_left _ (List.mem_append_left _ (List.mem_of_getElem? (i := 0) rfl))))) (fun h => List.mem_cons_of_mem _ h)) w_x_putNumber_good
theorem g_x_putNumber_putNumber_542 : GoodIn w_x_putNumber (wsV RX12 542 RX12 yX12_putNumber w_x_putNumber) := goodIn_app (nb_g4 (List.mem_cons_of_mem _ (List.mem_append_left _ (List.mem_append_left _ (List.mem_of_getElem? (i := 1) rfl)))) (List.mem_cons_of_mem _ (List.mem_append_left _ (List.mem_append_left _ (List.mem_of_getElem? (i := 2) rfl)))) (List.mem_cons_of_mem _ (List.mem_append_left _ (List.mem_append_left _ (List.mem_of_getElem? (i := 3) rfl)))) (List.mem_cons_of_mem _ (List.mem_append_left _ (List.mem_append_left _ (List.mem_of_getElem? (i := 4) rfl)))) (by decide +kernel)) gg_x_putNumber_putNumber
theorem gg_x_putNumber_put : GoodIn w_x_putNumber w_x_put := goodIn_sub (fun w h => (List.mem_cons.mp h).elim (fun e => (List.mem_cons_of_mem _ (List.mem_append_left _ (List.mem_append_right _ (List.mem_append_left _ (List.mem_cons.mpr (Or.inl e))))))) (fun h => (List.mem_append.mp h).elim (fun h => (List.mem_cons_of_mem _ (List.mem_append_left _ (List.mem_append_right _ (List.mem_append_left _ (List.mem_cons_of_mem _ h)))))) (fun h => List.mem_cons_of_mem _ (List.mem_append_right _ h)))) w_x_put_good
theorem g_x_putNumber_put_536 : GoodIn w_x_putNumber (wsV RX12 536 RX12 yX12_put w_x_put) := goodIn_app (nb_g4 (List.mem_cons_of_mem _ (List.mem_append_left _ (List.mem_append_left _ (List.mem_of_getElem? (i := 5) rfl)))) (List.mem_cons_of_mem _ (List.mem_append_left _ (List.mem_append_left _ (List.mem_of_getElem? (i := 6) rfl)))) (List.mem_cons_of_mem _ (List.mem_append_left _ (List.mem_append_left _ (List.mem_of_getElem? (i := 7) rfl)))) (List.mem_cons_of_mem _ (List.mem_append_left _ (List.mem_append_left _ (List.mem_of_getElem? (i := 4) rfl)))) (by decide +kernel)) gg_x_putNumber_put
set_option maxHeartbeats 40000000 in
set_option maxRecDepth 100000 in
theorem c_s_putNumber (l : Launch) (dC : Nat → ClassId) (dI : Nat → Nat → Nat) (cy : Nat → ClassId) (a : Nat → Nat) (k0 : Nat) (IH : ∀ j : Nat, j < k0 → P_GN l dC dI cy a j) (d : Nat) (L0 : Nat → Int32) (σ0 : MS) (r0 : Int32 × MS) (h0 : x_GN k0 d 0 0 L0 σ0 = some r0) (sz : Nat) : Met l yX12_putNumber w_x_putNumber ({ frames := 1 + d, cells := 0, slots := 0, locals := 21 + 21 * d }) (va_Pc [.ref (a 0), .int (L0 1)] (nIn (dC, dI) cy sz (vM cy a σ0))) (va_Qv (fun _ : Unit => True) (fun _ t => nOut (dC, dI) cy (va_A (vM cy a σ0) sz) (vM cy a r0.2) t) (va_A (vM cy a σ0) sz)) 0 0 (va_A (vM cy a σ0) sz) := by
  refine Met.ofW (cc := cX12_putNumber) (maxL := 2) (ret := none) (by decide) rfl ?_
  intro p e s m args below meth c s₁ B hml hv
  obtain ⟨rfl, hsz, hP, hK, hD0, hG⟩ := hv
  have hx := B.exec
  have hb := B.bytes
  have hr := B.returns
  have hts := atoms_spec (ws := w_x_putNumber) B.pre
  have hown : s.vm.findClass RX12 = some m.cls := findClass_of_methodNamed B.named
  have hlocks := B.notSynchronized
  subst hsz
  have hD := hD0.self (sz := s.heap.size)
  generalize hAe : va_A (vM cy a σ0) s.heap.size = A at hD ⊢
  have hA : ∀ q : Nat, s.heap.size ≤ q → A q := fun q h => by rw [← hAe]; exact Or.inr h
  have hS : va_S A s.heap s.heap [] := va_S.rf
  have hl := lv_entry ([.ref (a 0), .int (L0 1)]) (n := 2) (Nat.le_of_ble_eq_true rfl)
  rw [lg_entry_eq]
  generalize (lg_sl ([.ref (a 0), .int (L0 1)]) ++ List.replicate (2 - (lg_sl ([.ref (a 0), .int (L0 1)])).length) Slot.unset).toArray = ls at hl ⊢
  have hl : lv_has ls 2 [(0, .ref (a 0)), (1, .int (L0 1))] := hl
  have blk : ∀ k : Nat, k ≤ k0 → (bT p l e (headSpec w_x_putNumber ({ frames := 1 + d, cells := 0, slots := 0, locals := 21 + 21 * d })).room s m #[.ref (a 0), .int (L0 1)] below meth c dC dI cy a A (qV dC dI cy a A below #[.ref (a 0), .int (L0 1)] s) 2 (x_GN k d 0 0) (fun L => [(0, .ref (a 0)), (1, .int (L 1))]) 0 (fun L => [])) ∧ (bT p l e (headSpec w_x_putNumber ({ frames := 1 + d, cells := 0, slots := 0, locals := 21 + 21 * d })).room s m #[.ref (a 0), .int (L0 1)] below meth c dC dI cy a A (qV dC dI cy a A below #[.ref (a 0), .int (L0 1)] s) 2 (x_GN k d 0 1) (fun L => [(0, .ref (a 0)), (1, .int (L 1))]) 14 (fun L => [])) := by
    intro k
    induction k with
    | zero => exact fun _ => ⟨fun L σ r h => (by cases h), fun L σ r h => (by cases h)⟩
    | succ k ih =>
      intro hk
      replace ih := ih (by omega)
      refine ⟨?_, ?_⟩
      · intro L σ r h H locs ls hP hD hS hl
        rw [x_GN_0, s_putNumber_0] at h
        refine lv_iload_n hx hb dX12_putNumber_0 rfl (lv_at hl 1 rfl) ?_
        refine lv_bipush (v := 9) hx hb dX12_putNumber_1 (by decide) ?_
        refine lv_icmp_le (tgt := 14) hx hb dX12_putNumber_3 (by decide) (fun c1 => ?_) (fun c1 => ?_)
        · rw [if_pos c1] at h
          exact ih.2 L σ r h H locs ls hP hD hS (lv_sub hl [0, 1] rfl)
        · rw [if_neg c1] at h
          refine lv_aload_n hx hb dX12_putNumber_6 rfl (lv_at hl 0 rfl) ?_
          refine lv_iload_n hx hb dX12_putNumber_7 rfl (lv_at hl 1 rfl) ?_
          refine lv_bipush (v := 10) hx hb dX12_putNumber_8 (by decide) ?_
          obtain ⟨q2, h⟩ := nb_ite0 h
          refine lv_idiv hx hb dX12_putNumber_10 q2 ?_
          obtain ⟨e3, he3, h⟩ := od_ex h
          obtain ⟨r3, hc3, h⟩ := ob_ex h
          refine nc_Vv (As := [.int (((L 1)) / 10)]) (rest := []) ⟨hx, hb, hml, hown, hts⟩ ((IH k (by omega)) e3 (upd (fun _ => 0) 1 ((((L 1)) / 10))) σ r3 hc3 H.size) (cwV 1 hts g_x_putNumber_putNumber_542 rfl rfl rfl hd_x_putNumber (by show (1 + e3) + 1 ≤ 1 + d ∧ 8 + (2 + 11) + (21 + 21 * e3) ≤ 21 + 21 * d; omega)) hK hG hA hP hD hS rfl hl.1 rfl (Nat.le_of_ble_eq_true rfl) dX12_putNumber_11 ⟨Nat.le_refl _, Nat.le_refl _⟩ (fun H locs hP hD hS => ?_)
          exact ih.2 L r3.2 r h H locs ls hP hD hS (lv_sub hl [0, 1] rfl)
      · intro L σ r h H locs ls hP hD hS hl
        rw [x_GN_0, s_putNumber_1] at h
        refine lv_aload_n hx hb dX12_putNumber_14 rfl (lv_at hl 0 rfl) ?_
        refine lv_bipush (v := 48) hx hb dX12_putNumber_15 (by decide) ?_
        refine lv_iload_n hx hb dX12_putNumber_17 rfl (lv_at hl 1 rfl) ?_
        refine lv_bipush (v := 10) hx hb dX12_putNumber_18 (by decide) ?_
        obtain ⟨q1, h⟩ := nb_ite0 h
        refine lv_irem hx hb dX12_putNumber_20 q1 ?_
        refine lv_iadd hx hb dX12_putNumber_21 ?_
        obtain ⟨r2, hc2, h⟩ := ob_ex h
        refine nc_Vv (As := [.int (48 + ((((L 1)) - ((L 1)) / 10 * 10)))]) (rest := []) ⟨hx, hb, hml, hown, hts⟩ (c_x_put l dC dI cy a k (upd (fun _ => 0) 1 ((48 + ((((L 1)) - ((L 1)) / 10 * 10))))) σ r2 hc2 H.size) (cwV 1 hts g_x_putNumber_put_536 rfl rfl rfl hd_x_put (by show 0 + 1 ≤ 1 + d ∧ 8 + (2 + 11) + 0 ≤ 21 + 21 * d; omega)) hK hG hA hP hD hS rfl hl.1 rfl (Nat.le_of_ble_eq_true rfl) dX12_putNumber_22 ⟨Nat.le_refl _, Nat.le_refl _⟩ (fun H locs hP hD hS => ?_)
        cases h
        exact W.vret hx hb hr (fun t ht hW => ⟨⟨(), rfl, trivial, by rw [ht]; exact hP, va_K.moved hW.alike hK, hD⟩, hS.F ht⟩) hS.2.2 dX12_putNumber_25
  exact (blk k0 (Nat.le_refl _)).1 L0 σ0 r0 h0 s.heap [] ls hP hD hS hl
theorem c_GN (l : Launch) (dC : Nat → ClassId) (dI : Nat → Nat → Nat) (cy : Nat → ClassId) (a : Nat → Nat) : ∀ k0 : Nat, P_GN l dC dI cy a k0 := by
  intro k0
  induction k0 using Nat.strongRecOn with
  | ind k0 IH => exact c_s_putNumber l dC dI cy a k0 IH
def x_putNumber (k b : Nat) (L : Nat → Int32) (σ : MS) : Option (Int32 × MS) := x_GN k 12 0 b L σ
theorem c_x_putNumber (l : Launch) (dC : Nat → ClassId) (dI : Nat → Nat → Nat) (cy : Nat → ClassId) (a : Nat → Nat) (k0 : Nat) (L0 : Nat → Int32) (σ0 : MS) (r0 : Int32 × MS) (h0 : x_putNumber k0 0 L0 σ0 = some r0) (sz : Nat) : Met l yX12_putNumber w_x_putNumber ({ frames := 13, cells := 0, slots := 0, locals := 273 }) (va_Pc [.ref (a 0), .int (L0 1)] (nIn (dC, dI) cy sz (vM cy a σ0))) (va_Qv (fun _ : Unit => True) (fun _ t => nOut (dC, dI) cy (va_A (vM cy a σ0) sz) (vM cy a r0.2) t) (va_A (vM cy a σ0) sz)) 0 0 (va_A (vM cy a σ0) sz) := (c_GN l dC dI cy a k0) 12 L0 σ0 r0 h0 sz
/-! putTruth -/
def x_putTruth : Nat → Nat → (Nat → Int32) → MS → Option (Int32 × MS)
  | 0, _, _, _ => none
  | k + 1, 0, L, σ => if ((L 1)) = 0 then (x_putTruth k 1 L σ) else (x_putTruth k 2 (upd L 100 116) σ)
  | k + 1, 1, L, σ => x_putTruth k 2 (upd L 100 102) σ
  | k + 1, 2, L, σ => ob (x_put k 0 (upd (fun _ => 0) 1 ((L 100))) σ) (fun r1 => if ((L 1)) = 0 then (x_putTruth k 3 L r1.2) else (x_putTruth k 4 (upd L 100 114) r1.2))
  | k + 1, 3, L, σ => x_putTruth k 4 (upd L 100 97) σ
  | k + 1, 4, L, σ => ob (x_put k 0 (upd (fun _ => 0) 1 ((L 100))) σ) (fun r1 => if ((L 1)) = 0 then (x_putTruth k 5 L r1.2) else (x_putTruth k 6 (upd L 100 117) r1.2))
  | k + 1, 5, L, σ => x_putTruth k 6 (upd L 100 108) σ
  | k + 1, 6, L, σ => ob (x_put k 0 (upd (fun _ => 0) 1 ((L 100))) σ) (fun r1 => if ((L 1)) = 0 then (x_putTruth k 7 L r1.2) else (x_putTruth k 8 (upd L 100 101) r1.2))
  | k + 1, 7, L, σ => x_putTruth k 8 (upd L 100 115) σ
  | k + 1, 8, L, σ => ob (x_put k 0 (upd (fun _ => 0) 1 ((L 100))) σ) (fun r1 => if ((L 1)) = 0 then (ob (x_put k 0 (upd (fun _ => 0) 1 101) r1.2) (fun r3 => x_putTruth k 9 L r3.2)) else (x_putTruth k 9 L r1.2))
  | k + 1, 9, L, σ => some (0, σ)
  | _ + 1, _ + 10, _, _ => none
def o_x_putTruth : List Cond := [.methodLink RX12 536 yX12_put, .instanceMethod yX12_put, .selects RX12 yX12_put yX12_put, .initialized RX12]
theorem o_x_putTruth_good : o_x_putTruth.all goodWord = true := by decide +kernel
def p_x_putTruth : List Cond := o_x_putTruth ++ ((.code yX12_put cX12_put 2 none :: p_x_put) ++ [])
theorem p_x_putTruth_good : p_x_putTruth.all goodWord = true := nb_all2 o_x_putTruth_good (nb_all2 (nb_allc (by decide +kernel) p_x_put_good) rfl)
def w_x_putTruth : List Cond := .code yX12_putTruth cX12_putTruth 2 none :: (p_x_putTruth ++ fM)
theorem w_x_putTruth_good : w_x_putTruth.all goodWord = true := nb_allc (by decide +kernel) (nb_all2 p_x_putTruth_good fM_good)
theorem in_x_putTruth : ∀ w ∈ wsX120, w ∈ w_x_putTruth := fun _ h => List.mem_cons_of_mem _ (List.mem_append_right _ h)
theorem hd_x_putTruth : yX12_putTruth.cls = RX12 ∧ yX12_putTruth.cls ≠ "java/lang/invoke/MethodHandle" ∧ yX12_putTruth.cls ≠ "java/lang/invoke/VarHandle" ∧ (parseMethodDescriptor yX12_putTruth.desc).map (fun d => d.parameters.length) = some 1 := by decide +kernel
theorem gg_x_putTruth_put : GoodIn w_x_putTruth w_x_put := goodIn_sub (fun w h => (List.mem_cons.mp h).elim (fun e => (List.mem_cons_of_mem _ (List.mem_append_left _ (List.mem_append_right _ (List.mem_append_left _ (List.mem_cons.mpr (Or.inl e))))))) (fun h => (List.mem_append.mp h).elim (fun h => (List.mem_cons_of_mem _ (List.mem_append_left _ (List.mem_append_right _ (List.mem_append_left _ (List.mem_cons_of_mem _ h)))))) (fun h => List.mem_cons_of_mem _ (List.mem_append_right _ h)))) w_x_put_good
theorem g_x_putTruth_put_536 : GoodIn w_x_putTruth (wsV RX12 536 RX12 yX12_put w_x_put) := goodIn_app (nb_g4 (List.mem_cons_of_mem _ (List.mem_append_left _ (List.mem_append_left _ (List.mem_of_getElem? (i := 0) rfl)))) (List.mem_cons_of_mem _ (List.mem_append_left _ (List.mem_append_left _ (List.mem_of_getElem? (i := 1) rfl)))) (List.mem_cons_of_mem _ (List.mem_append_left _ (List.mem_append_left _ (List.mem_of_getElem? (i := 2) rfl)))) (List.mem_cons_of_mem _ (List.mem_append_left _ (List.mem_append_left _ (List.mem_of_getElem? (i := 3) rfl)))) (by decide +kernel)) gg_x_putTruth_put
set_option maxHeartbeats 40000000 in
set_option maxRecDepth 100000 in
theorem c_x_putTruth (l : Launch) (dC : Nat → ClassId) (dI : Nat → Nat → Nat) (cy : Nat → ClassId) (a : Nat → Nat) (k0 : Nat) (L0 : Nat → Int32) (σ0 : MS) (r0 : Int32 × MS) (h0 : x_putTruth k0 0 L0 σ0 = some r0) (sz : Nat) : Met l yX12_putTruth w_x_putTruth ({ frames := 1, cells := 0, slots := 0, locals := 21 }) (va_Pc [.ref (a 0), .int (L0 1)] (nIn (dC, dI) cy sz (vM cy a σ0))) (va_Qv (fun _ : Unit => True) (fun _ t => nOut (dC, dI) cy (va_A (vM cy a σ0) sz) (vM cy a r0.2) t) (va_A (vM cy a σ0) sz)) 0 0 (va_A (vM cy a σ0) sz) := by
  refine Met.ofW (cc := cX12_putTruth) (maxL := 2) (ret := none) (by decide) rfl ?_
  intro p e s m args below meth c s₁ B hml hv
  obtain ⟨rfl, hsz, hP, hK, hD0, hG⟩ := hv
  have hx := B.exec
  have hb := B.bytes
  have hr := B.returns
  have hts := atoms_spec (ws := w_x_putTruth) B.pre
  have hown : s.vm.findClass RX12 = some m.cls := findClass_of_methodNamed B.named
  have hlocks := B.notSynchronized
  subst hsz
  have hD := hD0.self (sz := s.heap.size)
  generalize hAe : va_A (vM cy a σ0) s.heap.size = A at hD ⊢
  have hA : ∀ q : Nat, s.heap.size ≤ q → A q := fun q h => by rw [← hAe]; exact Or.inr h
  have hS : va_S A s.heap s.heap [] := va_S.rf
  have hl := lv_entry ([.ref (a 0), .int (L0 1)]) (n := 2) (Nat.le_of_ble_eq_true rfl)
  rw [lg_entry_eq]
  generalize (lg_sl ([.ref (a 0), .int (L0 1)]) ++ List.replicate (2 - (lg_sl ([.ref (a 0), .int (L0 1)])).length) Slot.unset).toArray = ls at hl ⊢
  have hl : lv_has ls 2 [(0, .ref (a 0)), (1, .int (L0 1))] := hl
  have blk : ∀ k : Nat, (bT p l e (headSpec w_x_putTruth ({ frames := 1, cells := 0, slots := 0, locals := 21 })).room s m #[.ref (a 0), .int (L0 1)] below meth c dC dI cy a A (qV dC dI cy a A below #[.ref (a 0), .int (L0 1)] s) 2 (x_putTruth k 0) (fun L => [(0, .ref (a 0)), (1, .int (L 1))]) 0 (fun L => [])) ∧ (bT p l e (headSpec w_x_putTruth ({ frames := 1, cells := 0, slots := 0, locals := 21 })).room s m #[.ref (a 0), .int (L0 1)] below meth c dC dI cy a A (qV dC dI cy a A below #[.ref (a 0), .int (L0 1)] s) 2 (x_putTruth k 1) (fun L => [(0, .ref (a 0)), (1, .int (L 1))]) 10 (fun L => [.ref (a 0)])) ∧ (bT p l e (headSpec w_x_putTruth ({ frames := 1, cells := 0, slots := 0, locals := 21 })).room s m #[.ref (a 0), .int (L0 1)] below meth c dC dI cy a A (qV dC dI cy a A below #[.ref (a 0), .int (L0 1)] s) 2 (x_putTruth k 2) (fun L => [(0, .ref (a 0)), (1, .int (L 1))]) 12 (fun L => [.int (L 100), .ref (a 0)])) ∧ (bT p l e (headSpec w_x_putTruth ({ frames := 1, cells := 0, slots := 0, locals := 21 })).room s m #[.ref (a 0), .int (L0 1)] below meth c dC dI cy a A (qV dC dI cy a A below #[.ref (a 0), .int (L0 1)] s) 2 (x_putTruth k 3) (fun L => [(0, .ref (a 0)), (1, .int (L 1))]) 25 (fun L => [.ref (a 0)])) ∧ (bT p l e (headSpec w_x_putTruth ({ frames := 1, cells := 0, slots := 0, locals := 21 })).room s m #[.ref (a 0), .int (L0 1)] below meth c dC dI cy a A (qV dC dI cy a A below #[.ref (a 0), .int (L0 1)] s) 2 (x_putTruth k 4) (fun L => [(0, .ref (a 0)), (1, .int (L 1))]) 27 (fun L => [.int (L 100), .ref (a 0)])) ∧ (bT p l e (headSpec w_x_putTruth ({ frames := 1, cells := 0, slots := 0, locals := 21 })).room s m #[.ref (a 0), .int (L0 1)] below meth c dC dI cy a A (qV dC dI cy a A below #[.ref (a 0), .int (L0 1)] s) 2 (x_putTruth k 5) (fun L => [(0, .ref (a 0)), (1, .int (L 1))]) 40 (fun L => [.ref (a 0)])) ∧ (bT p l e (headSpec w_x_putTruth ({ frames := 1, cells := 0, slots := 0, locals := 21 })).room s m #[.ref (a 0), .int (L0 1)] below meth c dC dI cy a A (qV dC dI cy a A below #[.ref (a 0), .int (L0 1)] s) 2 (x_putTruth k 6) (fun L => [(0, .ref (a 0)), (1, .int (L 1))]) 42 (fun L => [.int (L 100), .ref (a 0)])) ∧ (bT p l e (headSpec w_x_putTruth ({ frames := 1, cells := 0, slots := 0, locals := 21 })).room s m #[.ref (a 0), .int (L0 1)] below meth c dC dI cy a A (qV dC dI cy a A below #[.ref (a 0), .int (L0 1)] s) 2 (x_putTruth k 7) (fun L => [(0, .ref (a 0)), (1, .int (L 1))]) 55 (fun L => [.ref (a 0)])) ∧ (bT p l e (headSpec w_x_putTruth ({ frames := 1, cells := 0, slots := 0, locals := 21 })).room s m #[.ref (a 0), .int (L0 1)] below meth c dC dI cy a A (qV dC dI cy a A below #[.ref (a 0), .int (L0 1)] s) 2 (x_putTruth k 8) (fun L => [(0, .ref (a 0)), (1, .int (L 1))]) 57 (fun L => [.int (L 100), .ref (a 0)])) ∧ (bT p l e (headSpec w_x_putTruth ({ frames := 1, cells := 0, slots := 0, locals := 21 })).room s m #[.ref (a 0), .int (L0 1)] below meth c dC dI cy a A (qV dC dI cy a A below #[.ref (a 0), .int (L0 1)] s) 2 (x_putTruth k 9) (fun L => [(0, .ref (a 0)), (1, .int (L 1))]) 70 (fun L => [])) := by
    intro k
    induction k with
    | zero => exact ⟨fun L σ r h => (by cases h), fun L σ r h => (by cases h), fun L σ r h => (by cases h), fun L σ r h => (by cases h), fun L σ r h => (by cases h), fun L σ r h => (by cases h), fun L σ r h => (by cases h), fun L σ r h => (by cases h), fun L σ r h => (by cases h), fun L σ r h => (by cases h)⟩
    | succ k ih =>
      refine ⟨?_, ?_, ?_, ?_, ?_, ?_, ?_, ?_, ?_, ?_⟩
      · intro L σ r h H locs ls hP hD hS hl
        rw [x_putTruth] at h
        refine lv_aload_n hx hb dX12_putTruth_0 rfl (lv_at hl 0 rfl) ?_
        refine lv_iload_n hx hb dX12_putTruth_1 rfl (lv_at hl 1 rfl) ?_
        refine lv_if_eq (tgt := 10) hx hb dX12_putTruth_2 (by decide) (fun c1 => ?_) (fun c1 => ?_)
        · rw [if_pos c1] at h
          exact ih.2.1 L σ r h H locs ls hP hD hS (lv_sub hl [0, 1] rfl)
        · rw [if_neg c1] at h
          refine lv_bipush (v := 116) hx hb dX12_putTruth_5 (by decide) ?_
          refine lv_goto (tgt := 12) hx hb dX12_putTruth_7 (by decide) ?_
          exact ih.2.2.1 (upd L 100 116) σ r h H locs ls hP hD hS (lv_sub hl [0, 1] rfl)
      · intro L σ r h H locs ls hP hD hS hl
        rw [x_putTruth] at h
        refine lv_bipush (v := 102) hx hb dX12_putTruth_10 (by decide) ?_
        exact ih.2.2.1 (upd L 100 102) σ r h H locs ls hP hD hS (lv_sub hl [0, 1] rfl)
      · intro L σ r h H locs ls hP hD hS hl
        rw [x_putTruth] at h
        obtain ⟨r1, hc1, h⟩ := ob_ex h
        refine nc_Vv (As := [.int (L 100)]) (rest := []) ⟨hx, hb, hml, hown, hts⟩ (c_x_put l dC dI cy a k (upd (fun _ => 0) 1 ((L 100))) σ r1 hc1 H.size) (cwV 1 hts g_x_putTruth_put_536 rfl rfl rfl hd_x_put ⟨Nat.le_of_ble_eq_true rfl, Nat.le_of_ble_eq_true rfl⟩) hK hG hA hP hD hS rfl hl.1 rfl (Nat.le_of_ble_eq_true rfl) dX12_putTruth_12 ⟨Nat.le_refl _, Nat.le_refl _⟩ (fun H locs hP hD hS => ?_)
        refine lv_aload_n hx hb dX12_putTruth_15 rfl (lv_at hl 0 rfl) ?_
        refine lv_iload_n hx hb dX12_putTruth_16 rfl (lv_at hl 1 rfl) ?_
        refine lv_if_eq (tgt := 25) hx hb dX12_putTruth_17 (by decide) (fun c2 => ?_) (fun c2 => ?_)
        · rw [if_pos c2] at h
          exact ih.2.2.2.1 L r1.2 r h H locs ls hP hD hS (lv_sub hl [0, 1] rfl)
        · rw [if_neg c2] at h
          refine lv_bipush (v := 114) hx hb dX12_putTruth_20 (by decide) ?_
          refine lv_goto (tgt := 27) hx hb dX12_putTruth_22 (by decide) ?_
          exact ih.2.2.2.2.1 (upd L 100 114) r1.2 r h H locs ls hP hD hS (lv_sub hl [0, 1] rfl)
      · intro L σ r h H locs ls hP hD hS hl
        rw [x_putTruth] at h
        refine lv_bipush (v := 97) hx hb dX12_putTruth_25 (by decide) ?_
        exact ih.2.2.2.2.1 (upd L 100 97) σ r h H locs ls hP hD hS (lv_sub hl [0, 1] rfl)
      · intro L σ r h H locs ls hP hD hS hl
        rw [x_putTruth] at h
        obtain ⟨r1, hc1, h⟩ := ob_ex h
        refine nc_Vv (As := [.int (L 100)]) (rest := []) ⟨hx, hb, hml, hown, hts⟩ (c_x_put l dC dI cy a k (upd (fun _ => 0) 1 ((L 100))) σ r1 hc1 H.size) (cwV 1 hts g_x_putTruth_put_536 rfl rfl rfl hd_x_put ⟨Nat.le_of_ble_eq_true rfl, Nat.le_of_ble_eq_true rfl⟩) hK hG hA hP hD hS rfl hl.1 rfl (Nat.le_of_ble_eq_true rfl) dX12_putTruth_27 ⟨Nat.le_refl _, Nat.le_refl _⟩ (fun H locs hP hD hS => ?_)
        refine lv_aload_n hx hb dX12_putTruth_30 rfl (lv_at hl 0 rfl) ?_
        refine lv_iload_n hx hb dX12_putTruth_31 rfl (lv_at hl 1 rfl) ?_
        refine lv_if_eq (tgt := 40) hx hb dX12_putTruth_32 (by decide) (fun c2 => ?_) (fun c2 => ?_)
        · rw [if_pos c2] at h
          exact ih.2.2.2.2.2.1 L r1.2 r h H locs ls hP hD hS (lv_sub hl [0, 1] rfl)
        · rw [if_neg c2] at h
          refine lv_bipush (v := 117) hx hb dX12_putTruth_35 (by decide) ?_
          refine lv_goto (tgt := 42) hx hb dX12_putTruth_37 (by decide) ?_
          exact ih.2.2.2.2.2.2.1 (upd L 100 117) r1.2 r h H locs ls hP hD hS (lv_sub hl [0, 1] rfl)
      · intro L σ r h H locs ls hP hD hS hl
        rw [x_putTruth] at h
        refine lv_bipush (v := 108) hx hb dX12_putTruth_40 (by decide) ?_
        exact ih.2.2.2.2.2.2.1 (upd L 100 108) σ r h H locs ls hP hD hS (lv_sub hl [0, 1] rfl)
      · intro L σ r h H locs ls hP hD hS hl
        rw [x_putTruth] at h
        obtain ⟨r1, hc1, h⟩ := ob_ex h
        refine nc_Vv (As := [.int (L 100)]) (rest := []) ⟨hx, hb, hml, hown, hts⟩ (c_x_put l dC dI cy a k (upd (fun _ => 0) 1 ((L 100))) σ r1 hc1 H.size) (cwV 1 hts g_x_putTruth_put_536 rfl rfl rfl hd_x_put ⟨Nat.le_of_ble_eq_true rfl, Nat.le_of_ble_eq_true rfl⟩) hK hG hA hP hD hS rfl hl.1 rfl (Nat.le_of_ble_eq_true rfl) dX12_putTruth_42 ⟨Nat.le_refl _, Nat.le_refl _⟩ (fun H locs hP hD hS => ?_)
        refine lv_aload_n hx hb dX12_putTruth_45 rfl (lv_at hl 0 rfl) ?_
        refine lv_iload_n hx hb dX12_putTruth_46 rfl (lv_at hl 1 rfl) ?_
        refine lv_if_eq (tgt := 55) hx hb dX12_putTruth_47 (by decide) (fun c2 => ?_) (fun c2 => ?_)
        · rw [if_pos c2] at h
          exact ih.2.2.2.2.2.2.2.1 L r1.2 r h H locs ls hP hD hS (lv_sub hl [0, 1] rfl)
        · rw [if_neg c2] at h
          refine lv_bipush (v := 101) hx hb dX12_putTruth_50 (by decide) ?_
          refine lv_goto (tgt := 57) hx hb dX12_putTruth_52 (by decide) ?_
          exact ih.2.2.2.2.2.2.2.2.1 (upd L 100 101) r1.2 r h H locs ls hP hD hS (lv_sub hl [0, 1] rfl)
      · intro L σ r h H locs ls hP hD hS hl
        rw [x_putTruth] at h
        refine lv_bipush (v := 115) hx hb dX12_putTruth_55 (by decide) ?_
        exact ih.2.2.2.2.2.2.2.2.1 (upd L 100 115) σ r h H locs ls hP hD hS (lv_sub hl [0, 1] rfl)
      · intro L σ r h H locs ls hP hD hS hl
        rw [x_putTruth] at h
        obtain ⟨r1, hc1, h⟩ := ob_ex h
        refine nc_Vv (As := [.int (L 100)]) (rest := []) ⟨hx, hb, hml, hown, hts⟩ (c_x_put l dC dI cy a k (upd (fun _ => 0) 1 ((L 100))) σ r1 hc1 H.size) (cwV 1 hts g_x_putTruth_put_536 rfl rfl rfl hd_x_put ⟨Nat.le_of_ble_eq_true rfl, Nat.le_of_ble_eq_true rfl⟩) hK hG hA hP hD hS rfl hl.1 rfl (Nat.le_of_ble_eq_true rfl) dX12_putTruth_57 ⟨Nat.le_refl _, Nat.le_refl _⟩ (fun H locs hP hD hS => ?_)
        refine lv_iload_n hx hb dX12_putTruth_60 rfl (lv_at hl 1 rfl) ?_
        refine lv_if_ne (tgt := 70) hx hb dX12_putTruth_61 (by decide) (fun c2 => ?_) (fun c2 => ?_)
        · rw [if_neg c2] at h
          exact ih.2.2.2.2.2.2.2.2.2 L r1.2 r h H locs ls hP hD hS (lv_sub hl [0, 1] rfl)
        · rw [if_pos c2] at h
          refine lv_aload_n hx hb dX12_putTruth_64 rfl (lv_at hl 0 rfl) ?_
          refine lv_bipush (v := 101) hx hb dX12_putTruth_65 (by decide) ?_
          obtain ⟨r3, hc3, h⟩ := ob_ex h
          refine nc_Vv (As := [.int 101]) (rest := []) ⟨hx, hb, hml, hown, hts⟩ (c_x_put l dC dI cy a k (upd (fun _ => 0) 1 101) r1.2 r3 hc3 H.size) (cwV 1 hts g_x_putTruth_put_536 rfl rfl rfl hd_x_put ⟨Nat.le_of_ble_eq_true rfl, Nat.le_of_ble_eq_true rfl⟩) hK hG hA hP hD hS rfl hl.1 rfl (Nat.le_of_ble_eq_true rfl) dX12_putTruth_67 ⟨Nat.le_refl _, Nat.le_refl _⟩ (fun H locs hP hD hS => ?_)
          exact ih.2.2.2.2.2.2.2.2.2 L r3.2 r h H locs ls hP hD hS (lv_sub hl [0, 1] rfl)
      · intro L σ r h H locs ls hP hD hS hl
        rw [x_putTruth] at h
        cases h
        exact W.vret hx hb hr (fun t ht hW => ⟨⟨(), rfl, trivial, by rw [ht]; exact hP, va_K.moved hW.alike hK, hD⟩, hS.F ht⟩) hS.2.2 dX12_putTruth_70
  exact (blk k0).1 L0 σ0 r0 h0 s.heap [] ls hP hD hS hl
/-! GP: print -/
def s_print (X : Nat → Nat → Nat → (Nat → Int32) → MS → Option (Int32 × MS)) (K d : Nat) (b : Nat) (L : Nat → Int32) (σ : MS) : Option (Int32 × MS) := match b with
  | 0 => ob (x_kind K 0 (upd (fun _ => 0) 1 ((L 1))) σ) (fun r1 => if r1.1 = 0 then (ob (x_put K 0 (upd (fun _ => 0) 1 111) r1.2) (fun r3 => ob (x_put K 0 (upd (fun _ => 0) 1 109) r3.2) (fun r4 => X d 0 18 (upd L 3 r1.1) r4.2))) else (X d 0 1 (upd L 3 r1.1) r1.2))
  | 1 => if ((L 3)) = 1 then (if ((L 1)) = 2 then (X d 0 3 (upd L 100 1) σ) else (X d 0 2 L σ)) else (X d 0 4 L σ)
  | 2 => X d 0 3 (upd L 100 0) σ
  | 3 => ob (x_putTruth K 0 (upd (fun _ => 0) 1 ((L 100))) σ) (fun r1 => X d 0 18 L r1.2)
  | 4 => if ((L 3)) = 2 then (ob (x_putWhole K 0 (upd (fun _ => 0) 1 ((L 1))) σ) (fun r2 => X d 0 18 L r2.2)) else (X d 0 5 L σ)
  | 5 => if ((L 3)) = 3 then (ob (x_put K 0 (upd (fun _ => 0) 1 35) σ) (fun r2 => if ¬ (((((L 1)) + 4)) < 0 ∨ 1740000 ≤ ((((L 1)) + 4)).toNatClampNeg) then (ob (x_putNumber K 0 (upd (fun _ => 0) 1 ((r2.2.2.2 28 ((((L 1)) + 4)).toNatClampNeg))) r2.2) (fun r4 => X d 0 18 L r4.2)) else none)) else (X d 0 6 L σ)
  | 6 => if ((L 3)) = 4 then (if ((L 2)) = 0 then (ob (x_put K 0 (upd (fun _ => 0) 1 34) σ) (fun r3 => X d 0 7 L r3.2)) else (X d 0 7 L σ)) else (X d 0 10 L σ)
  | 7 => X d 0 8 (upd L 4 0) σ
  | 8 => if ¬ (((((L 1)) + 1)) < 0 ∨ 1740000 ≤ ((((L 1)) + 1)).toNatClampNeg) then (if ((σ.2.2 28 ((((L 1)) + 1)).toNatClampNeg)) ≤ ((L 4)) then (X d 0 9 L σ) else (if ¬ (((((((L 1)) + 4)) + ((L 4)))) < 0 ∨ 1740000 ≤ ((((((L 1)) + 4)) + ((L 4)))).toNatClampNeg) then (ob (x_put K 0 (upd (fun _ => 0) 1 ((σ.2.2 28 ((((((L 1)) + 4)) + ((L 4)))).toNatClampNeg))) σ) (fun r4 => X d 0 8 (upd L 4 (((L 4)) + 1)) r4.2)) else none)) else none
  | 9 => if ((L 2)) = 0 then (ob (x_put K 0 (upd (fun _ => 0) 1 34) σ) (fun r2 => X d 0 18 L r2.2)) else (X d 0 18 L σ)
  | 10 => if ((L 3)) = 6 then (X d 0 12 (upd L 100 123) σ) else (X d 0 11 L σ)
  | 11 => X d 0 12 (upd L 100 91) σ
  | 12 => ob (x_put K 0 (upd (fun _ => 0) 1 ((L 100))) σ) (fun r1 => X d 0 13 (upd L 4 0) r1.2)
  | 13 => if ¬ (((((L 1)) + 1)) < 0 ∨ 1740000 ≤ ((((L 1)) + 1)).toNatClampNeg) then (if ((σ.2.2 28 ((((L 1)) + 1)).toNatClampNeg)) ≤ ((L 4)) then (X d 0 15 L σ) else (if ((L 4)) ≤ 0 then (X d 0 14 L σ) else (ob (x_put K 0 (upd (fun _ => 0) 1 44) σ) (fun r4 => ob (x_put K 0 (upd (fun _ => 0) 1 32) r4.2) (fun r5 => X d 0 14 L r5.2))))) else none
  | 14 => if ¬ (((((((L 1)) + 4)) + ((L 4)))) < 0 ∨ 1740000 ≤ ((((((L 1)) + 4)) + ((L 4)))).toNatClampNeg) then (od d (fun e2 => ob (X e2 0 0 (upd (upd (fun _ => 0) 1 ((σ.2.2 28 ((((((L 1)) + 4)) + ((L 4)))).toNatClampNeg))) 2 0) σ) (fun r2 => X d 0 13 (upd L 4 (((L 4)) + 1)) r2.2))) else none
  | 15 => if ((L 3)) = 6 then (X d 0 17 (upd L 100 125) σ) else (X d 0 16 L σ)
  | 16 => X d 0 17 (upd L 100 93) σ
  | 17 => ob (x_put K 0 (upd (fun _ => 0) 1 ((L 100))) σ) (fun r1 => X d 0 18 L r1.2)
  | 18 => some (0, σ)
  | _ => none
theorem s_print_0 (X : Nat → Nat → Nat → (Nat → Int32) → MS → Option (Int32 × MS)) (K d : Nat) (L : Nat → Int32) (σ : MS) : s_print X K d 0 L σ = (ob (x_kind K 0 (upd (fun _ => 0) 1 ((L 1))) σ) (fun r1 => if r1.1 = 0 then (ob (x_put K 0 (upd (fun _ => 0) 1 111) r1.2) (fun r3 => ob (x_put K 0 (upd (fun _ => 0) 1 109) r3.2) (fun r4 => X d 0 18 (upd L 3 r1.1) r4.2))) else (X d 0 1 (upd L 3 r1.1) r1.2))) := rfl
theorem s_print_1 (X : Nat → Nat → Nat → (Nat → Int32) → MS → Option (Int32 × MS)) (K d : Nat) (L : Nat → Int32) (σ : MS) : s_print X K d 1 L σ = (if ((L 3)) = 1 then (if ((L 1)) = 2 then (X d 0 3 (upd L 100 1) σ) else (X d 0 2 L σ)) else (X d 0 4 L σ)) := rfl
theorem s_print_2 (X : Nat → Nat → Nat → (Nat → Int32) → MS → Option (Int32 × MS)) (K d : Nat) (L : Nat → Int32) (σ : MS) : s_print X K d 2 L σ = (X d 0 3 (upd L 100 0) σ) := rfl
theorem s_print_3 (X : Nat → Nat → Nat → (Nat → Int32) → MS → Option (Int32 × MS)) (K d : Nat) (L : Nat → Int32) (σ : MS) : s_print X K d 3 L σ = (ob (x_putTruth K 0 (upd (fun _ => 0) 1 ((L 100))) σ) (fun r1 => X d 0 18 L r1.2)) := rfl
theorem s_print_4 (X : Nat → Nat → Nat → (Nat → Int32) → MS → Option (Int32 × MS)) (K d : Nat) (L : Nat → Int32) (σ : MS) : s_print X K d 4 L σ = (if ((L 3)) = 2 then (ob (x_putWhole K 0 (upd (fun _ => 0) 1 ((L 1))) σ) (fun r2 => X d 0 18 L r2.2)) else (X d 0 5 L σ)) := rfl
theorem s_print_5 (X : Nat → Nat → Nat → (Nat → Int32) → MS → Option (Int32 × MS)) (K d : Nat) (L : Nat → Int32) (σ : MS) : s_print X K d 5 L σ = (if ((L 3)) = 3 then (ob (x_put K 0 (upd (fun _ => 0) 1 35) σ) (fun r2 => if ¬ (((((L 1)) + 4)) < 0 ∨ 1740000 ≤ ((((L 1)) + 4)).toNatClampNeg) then (ob (x_putNumber K 0 (upd (fun _ => 0) 1 ((r2.2.2.2 28 ((((L 1)) + 4)).toNatClampNeg))) r2.2) (fun r4 => X d 0 18 L r4.2)) else none)) else (X d 0 6 L σ)) := rfl
theorem s_print_6 (X : Nat → Nat → Nat → (Nat → Int32) → MS → Option (Int32 × MS)) (K d : Nat) (L : Nat → Int32) (σ : MS) : s_print X K d 6 L σ = (if ((L 3)) = 4 then (if ((L 2)) = 0 then (ob (x_put K 0 (upd (fun _ => 0) 1 34) σ) (fun r3 => X d 0 7 L r3.2)) else (X d 0 7 L σ)) else (X d 0 10 L σ)) := rfl
theorem s_print_7 (X : Nat → Nat → Nat → (Nat → Int32) → MS → Option (Int32 × MS)) (K d : Nat) (L : Nat → Int32) (σ : MS) : s_print X K d 7 L σ = (X d 0 8 (upd L 4 0) σ) := rfl
theorem s_print_8 (X : Nat → Nat → Nat → (Nat → Int32) → MS → Option (Int32 × MS)) (K d : Nat) (L : Nat → Int32) (σ : MS) : s_print X K d 8 L σ = (if ¬ (((((L 1)) + 1)) < 0 ∨ 1740000 ≤ ((((L 1)) + 1)).toNatClampNeg) then (if ((σ.2.2 28 ((((L 1)) + 1)).toNatClampNeg)) ≤ ((L 4)) then (X d 0 9 L σ) else (if ¬ (((((((L 1)) + 4)) + ((L 4)))) < 0 ∨ 1740000 ≤ ((((((L 1)) + 4)) + ((L 4)))).toNatClampNeg) then (ob (x_put K 0 (upd (fun _ => 0) 1 ((σ.2.2 28 ((((((L 1)) + 4)) + ((L 4)))).toNatClampNeg))) σ) (fun r4 => X d 0 8 (upd L 4 (((L 4)) + 1)) r4.2)) else none)) else none) := rfl
theorem s_print_9 (X : Nat → Nat → Nat → (Nat → Int32) → MS → Option (Int32 × MS)) (K d : Nat) (L : Nat → Int32) (σ : MS) : s_print X K d 9 L σ = (if ((L 2)) = 0 then (ob (x_put K 0 (upd (fun _ => 0) 1 34) σ) (fun r2 => X d 0 18 L r2.2)) else (X d 0 18 L σ)) := rfl
theorem s_print_10 (X : Nat → Nat → Nat → (Nat → Int32) → MS → Option (Int32 × MS)) (K d : Nat) (L : Nat → Int32) (σ : MS) : s_print X K d 10 L σ = (if ((L 3)) = 6 then (X d 0 12 (upd L 100 123) σ) else (X d 0 11 L σ)) := rfl
theorem s_print_11 (X : Nat → Nat → Nat → (Nat → Int32) → MS → Option (Int32 × MS)) (K d : Nat) (L : Nat → Int32) (σ : MS) : s_print X K d 11 L σ = (X d 0 12 (upd L 100 91) σ) := rfl
theorem s_print_12 (X : Nat → Nat → Nat → (Nat → Int32) → MS → Option (Int32 × MS)) (K d : Nat) (L : Nat → Int32) (σ : MS) : s_print X K d 12 L σ = (ob (x_put K 0 (upd (fun _ => 0) 1 ((L 100))) σ) (fun r1 => X d 0 13 (upd L 4 0) r1.2)) := rfl
theorem s_print_13 (X : Nat → Nat → Nat → (Nat → Int32) → MS → Option (Int32 × MS)) (K d : Nat) (L : Nat → Int32) (σ : MS) : s_print X K d 13 L σ = (if ¬ (((((L 1)) + 1)) < 0 ∨ 1740000 ≤ ((((L 1)) + 1)).toNatClampNeg) then (if ((σ.2.2 28 ((((L 1)) + 1)).toNatClampNeg)) ≤ ((L 4)) then (X d 0 15 L σ) else (if ((L 4)) ≤ 0 then (X d 0 14 L σ) else (ob (x_put K 0 (upd (fun _ => 0) 1 44) σ) (fun r4 => ob (x_put K 0 (upd (fun _ => 0) 1 32) r4.2) (fun r5 => X d 0 14 L r5.2))))) else none) := rfl
theorem s_print_14 (X : Nat → Nat → Nat → (Nat → Int32) → MS → Option (Int32 × MS)) (K d : Nat) (L : Nat → Int32) (σ : MS) : s_print X K d 14 L σ = (if ¬ (((((((L 1)) + 4)) + ((L 4)))) < 0 ∨ 1740000 ≤ ((((((L 1)) + 4)) + ((L 4)))).toNatClampNeg) then (od d (fun e2 => ob (X e2 0 0 (upd (upd (fun _ => 0) 1 ((σ.2.2 28 ((((((L 1)) + 4)) + ((L 4)))).toNatClampNeg))) 2 0) σ) (fun r2 => X d 0 13 (upd L 4 (((L 4)) + 1)) r2.2))) else none) := rfl
theorem s_print_15 (X : Nat → Nat → Nat → (Nat → Int32) → MS → Option (Int32 × MS)) (K d : Nat) (L : Nat → Int32) (σ : MS) : s_print X K d 15 L σ = (if ((L 3)) = 6 then (X d 0 17 (upd L 100 125) σ) else (X d 0 16 L σ)) := rfl
theorem s_print_16 (X : Nat → Nat → Nat → (Nat → Int32) → MS → Option (Int32 × MS)) (K d : Nat) (L : Nat → Int32) (σ : MS) : s_print X K d 16 L σ = (X d 0 17 (upd L 100 93) σ) := rfl
theorem s_print_17 (X : Nat → Nat → Nat → (Nat → Int32) → MS → Option (Int32 × MS)) (K d : Nat) (L : Nat → Int32) (σ : MS) : s_print X K d 17 L σ = (ob (x_put K 0 (upd (fun _ => 0) 1 ((L 100))) σ) (fun r1 => X d 0 18 L r1.2)) := rfl
theorem s_print_18 (X : Nat → Nat → Nat → (Nat → Int32) → MS → Option (Int32 × MS)) (K d : Nat) (L : Nat → Int32) (σ : MS) : s_print X K d 18 L σ = (some (0, σ)) := rfl
def x_GP : Nat → Nat → Nat → Nat → (Nat → Int32) → MS → Option (Int32 × MS)
  | 0 => fun _ _ _ _ _ => none
  | k + 1 => fun d m b L σ => match m with
    | 0 => s_print (x_GP k) k d b L σ
    | _ => none
theorem x_GP_0 (k d b : Nat) (L : Nat → Int32) (σ : MS) : x_GP (k + 1) d 0 b L σ = s_print (x_GP k) k d b L σ := rfl
def o_x_GP : List Cond := [.code yX12_print cX12_print 5 none, .methodLink RX12 545 yX12_kind, .instanceMethod yX12_kind, .selects RX12 yX12_kind yX12_kind, .initialized RX12, .methodLink RX12 536 yX12_put, .instanceMethod yX12_put, .selects RX12 yX12_put yX12_put, .methodLink RX12 548 yX12_putTruth, .instanceMethod yX12_putTruth, .selects RX12 yX12_putTruth yX12_putTruth, .methodLink RX12 551 yX12_putWhole, .instanceMethod yX12_putWhole, .selects RX12 yX12_putWhole yX12_putWhole, .fieldLink RX12 372 "SetHouseModel" "heap" "[I", .methodLink RX12 542 yX12_putNumber, .instanceMethod yX12_putNumber, .selects RX12 yX12_putNumber yX12_putNumber, .methodLink RX12 554 yX12_print, .instanceMethod yX12_print, .selects RX12 yX12_print yX12_print]
theorem o_x_GP_good : o_x_GP.all goodWord = true := by decide +kernel
def p_x_GP : List Cond := o_x_GP ++ ((.code yX12_kind cX12_kind 2 (some .int) :: p_x_kind) ++ ((.code yX12_put cX12_put 2 none :: p_x_put) ++ ((.code yX12_putTruth cX12_putTruth 2 none :: p_x_putTruth) ++ ((.code yX12_putWhole cX12_putWhole 6 none :: p_x_putWhole) ++ ((.code yX12_putNumber cX12_putNumber 2 none :: p_x_GN) ++ [])))))
theorem p_x_GP_good : p_x_GP.all goodWord = true := nb_all2 o_x_GP_good (nb_all2 (nb_allc (by decide +kernel) p_x_kind_good) (nb_all2 (nb_allc (by decide +kernel) p_x_put_good) (nb_all2 (nb_allc (by decide +kernel) p_x_putTruth_good) (nb_all2 (nb_allc (by decide +kernel) p_x_putWhole_good) (nb_all2 (nb_allc (by decide +kernel) p_x_GN_good) rfl)))))
def w_x_print : List Cond := .code yX12_print cX12_print 5 none :: (p_x_GP ++ fM)
theorem w_x_print_good : w_x_print.all goodWord = true := nb_allc (by decide +kernel) (nb_all2 p_x_GP_good fM_good)
theorem in_x_print : ∀ w ∈ wsX120, w ∈ w_x_print := fun _ h => List.mem_cons_of_mem _ (List.mem_append_right _ h)
theorem hd_x_print : yX12_print.cls = RX12 ∧ yX12_print.cls ≠ "java/lang/invoke/MethodHandle" ∧ yX12_print.cls ≠ "java/lang/invoke/VarHandle" ∧ (parseMethodDescriptor yX12_print.desc).map (fun d => d.parameters.length) = some 2 := by decide +kernel
abbrev P_GP (l : Launch) (dC : Nat → ClassId) (dI : Nat → Nat → Nat) (cy : Nat → ClassId) (a : Nat → Nat) (k0 : Nat) : Prop := (∀ (d : Nat) (L0 : Nat → Int32) (σ0 : MS) (r0 : Int32 × MS), x_GP k0 d 0 0 L0 σ0 = some r0 → ∀ (sz : Nat), Met l yX12_print w_x_print ({ frames := 14 + d, cells := 0, slots := 0, locals := 294 + 24 * d }) (va_Pc [.ref (a 0), .int (L0 1), .int (L0 2)] (nIn (dC, dI) cy sz (vM cy a σ0))) (va_Qv (fun _ : Unit => True) (fun _ t => nOut (dC, dI) cy (va_A (vM cy a σ0) sz) (vM cy a r0.2) t) (va_A (vM cy a σ0) sz)) 0 0 (va_A (vM cy a σ0) sz))
theorem gg_x_print_kind : GoodIn w_x_print w_x_kind := goodIn_sub (fun w h => (List.mem_cons.mp h).elim (fun e => (List.mem_cons_of_mem _ (List.mem_append_left _ (List.mem_append_right _ (List.mem_append_left _ (List.mem_cons.mpr (Or.inl e))))))) (fun h => (List.mem_append.mp h).elim (fun h => (List.mem_cons_of_mem _ (List.mem_append_left _ (List.mem_append_right _ (List.mem_append_left _ (List.mem_cons_of_mem _ h)))))) (fun h => List.mem_cons_of_mem _ (List.mem_append_right _ h)))) w_x_kind_good
theorem g_x_print_kind_545 : GoodIn w_x_print (wsV RX12 545 RX12 yX12_kind w_x_kind) := goodIn_app (nb_g4 (List.mem_cons_of_mem _ (List.mem_append_left _ (List.mem_append_left _ (List.mem_of_getElem? (i := 1) rfl)))) (List.mem_cons_of_mem _ (List.mem_append_left _ (List.mem_append_left _ (List.mem_of_getElem? (i := 2) rfl)))) (List.mem_cons_of_mem _ (List.mem_append_left _ (List.mem_append_left _ (List.mem_of_getElem? (i := 3) rfl)))) (List.mem_cons_of_mem _ (List.mem_append_left _ (List.mem_append_left _ (List.mem_of_getElem? (i := 4) rfl)))) (by decide +kernel)) gg_x_print_kind
theorem gg_x_print_print : GoodIn w_x_print w_x_print := goodIn_sub (fun w h => (List.mem_cons.mp h).elim (fun e => e ▸ (List.mem_cons_of_mem _ (List.mem_append_left _ (List.mem_append_left _ (List.mem_of_getElem? (i := 0) rfl))))) (fun h => List.mem_cons_of_mem _ h)) w_x_print_good
theorem g_x_print_print_554 : GoodIn w_x_print (wsV RX12 554 RX12 yX12_print w_x_print) := goodIn_app (nb_g4 (List.mem_cons_of_mem _ (List.mem_append_left _ (List.mem_append_left _ (List.mem_of_getElem? (i := 18) rfl)))) (List.mem_cons_of_mem _ (List.mem_append_left _ (List.mem_append_left _ (List.mem_of_getElem? (i := 19) rfl)))) (List.mem_cons_of_mem _ (List.mem_append_left _ (List.mem_append_left _ (List.mem_of_getElem? (i := 20) rfl)))) (List.mem_cons_of_mem _ (List.mem_append_left _ (List.mem_append_left _ (List.mem_of_getElem? (i := 4) rfl)))) (by decide +kernel)) gg_x_print_print
theorem gg_x_print_putNumber : GoodIn w_x_print w_x_putNumber := goodIn_sub (fun w h => (List.mem_cons.mp h).elim (fun e => (List.mem_cons_of_mem _ (List.mem_append_left _ (List.mem_append_right _ (List.mem_append_right _ (List.mem_append_right _ (List.mem_append_right _ (List.mem_append_right _ (List.mem_append_left _ (List.mem_cons.mpr (Or.inl e))))))))))) (fun h => (List.mem_append.mp h).elim (fun h => (List.mem_cons_of_mem _ (List.mem_append_left _ (List.mem_append_right _ (List.mem_append_right _ (List.mem_append_right _ (List.mem_append_right _ (List.mem_append_right _ (List.mem_append_left _ (List.mem_cons_of_mem _ h)))))))))) (fun h => List.mem_cons_of_mem _ (List.mem_append_right _ h)))) w_x_putNumber_good
theorem g_x_print_putNumber_542 : GoodIn w_x_print (wsV RX12 542 RX12 yX12_putNumber w_x_putNumber) := goodIn_app (nb_g4 (List.mem_cons_of_mem _ (List.mem_append_left _ (List.mem_append_left _ (List.mem_of_getElem? (i := 15) rfl)))) (List.mem_cons_of_mem _ (List.mem_append_left _ (List.mem_append_left _ (List.mem_of_getElem? (i := 16) rfl)))) (List.mem_cons_of_mem _ (List.mem_append_left _ (List.mem_append_left _ (List.mem_of_getElem? (i := 17) rfl)))) (List.mem_cons_of_mem _ (List.mem_append_left _ (List.mem_append_left _ (List.mem_of_getElem? (i := 4) rfl)))) (by decide +kernel)) gg_x_print_putNumber
theorem gg_x_print_putTruth : GoodIn w_x_print w_x_putTruth := goodIn_sub (fun w h => (List.mem_cons.mp h).elim (fun e => (List.mem_cons_of_mem _ (List.mem_append_left _ (List.mem_append_right _ (List.mem_append_right _ (List.mem_append_right _ (List.mem_append_left _ (List.mem_cons.mpr (Or.inl e))))))))) (fun h => (List.mem_append.mp h).elim (fun h => (List.mem_cons_of_mem _ (List.mem_append_left _ (List.mem_append_right _ (List.mem_append_right _ (List.mem_append_right _ (List.mem_append_left _ (List.mem_cons_of_mem _ h)))))))) (fun h => List.mem_cons_of_mem _ (List.mem_append_right _ h)))) w_x_putTruth_good
theorem g_x_print_putTruth_548 : GoodIn w_x_print (wsV RX12 548 RX12 yX12_putTruth w_x_putTruth) := goodIn_app (nb_g4 (List.mem_cons_of_mem _ (List.mem_append_left _ (List.mem_append_left _ (List.mem_of_getElem? (i := 8) rfl)))) (List.mem_cons_of_mem _ (List.mem_append_left _ (List.mem_append_left _ (List.mem_of_getElem? (i := 9) rfl)))) (List.mem_cons_of_mem _ (List.mem_append_left _ (List.mem_append_left _ (List.mem_of_getElem? (i := 10) rfl)))) (List.mem_cons_of_mem _ (List.mem_append_left _ (List.mem_append_left _ (List.mem_of_getElem? (i := 4) rfl)))) (by decide +kernel)) gg_x_print_putTruth
theorem gg_x_print_putWhole : GoodIn w_x_print w_x_putWhole := goodIn_sub (fun w h => (List.mem_cons.mp h).elim (fun e => (List.mem_cons_of_mem _ (List.mem_append_left _ (List.mem_append_right _ (List.mem_append_right _ (List.mem_append_right _ (List.mem_append_right _ (List.mem_append_left _ (List.mem_cons.mpr (Or.inl e)))))))))) (fun h => (List.mem_append.mp h).elim (fun h => (List.mem_cons_of_mem _ (List.mem_append_left _ (List.mem_append_right _ (List.mem_append_right _ (List.mem_append_right _ (List.mem_append_right _ (List.mem_append_left _ (List.mem_cons_of_mem _ h))))))))) (fun h => List.mem_cons_of_mem _ (List.mem_append_right _ h)))) w_x_putWhole_good
theorem g_x_print_putWhole_551 : GoodIn w_x_print (wsV RX12 551 RX12 yX12_putWhole w_x_putWhole) := goodIn_app (nb_g4 (List.mem_cons_of_mem _ (List.mem_append_left _ (List.mem_append_left _ (List.mem_of_getElem? (i := 11) rfl)))) (List.mem_cons_of_mem _ (List.mem_append_left _ (List.mem_append_left _ (List.mem_of_getElem? (i := 12) rfl)))) (List.mem_cons_of_mem _ (List.mem_append_left _ (List.mem_append_left _ (List.mem_of_getElem? (i := 13) rfl)))) (List.mem_cons_of_mem _ (List.mem_append_left _ (List.mem_append_left _ (List.mem_of_getElem? (i := 4) rfl)))) (by decide +kernel)) gg_x_print_putWhole
theorem gg_x_print_put : GoodIn w_x_print w_x_put := goodIn_sub (fun w h => (List.mem_cons.mp h).elim (fun e => (List.mem_cons_of_mem _ (List.mem_append_left _ (List.mem_append_right _ (List.mem_append_right _ (List.mem_append_left _ (List.mem_cons.mpr (Or.inl e)))))))) (fun h => (List.mem_append.mp h).elim (fun h => (List.mem_cons_of_mem _ (List.mem_append_left _ (List.mem_append_right _ (List.mem_append_right _ (List.mem_append_left _ (List.mem_cons_of_mem _ h))))))) (fun h => List.mem_cons_of_mem _ (List.mem_append_right _ h)))) w_x_put_good
theorem g_x_print_put_536 : GoodIn w_x_print (wsV RX12 536 RX12 yX12_put w_x_put) := goodIn_app (nb_g4 (List.mem_cons_of_mem _ (List.mem_append_left _ (List.mem_append_left _ (List.mem_of_getElem? (i := 5) rfl)))) (List.mem_cons_of_mem _ (List.mem_append_left _ (List.mem_append_left _ (List.mem_of_getElem? (i := 6) rfl)))) (List.mem_cons_of_mem _ (List.mem_append_left _ (List.mem_append_left _ (List.mem_of_getElem? (i := 7) rfl)))) (List.mem_cons_of_mem _ (List.mem_append_left _ (List.mem_append_left _ (List.mem_of_getElem? (i := 4) rfl)))) (by decide +kernel)) gg_x_print_put
set_option maxHeartbeats 40000000 in
set_option maxRecDepth 100000 in
theorem c_s_print (l : Launch) (dC : Nat → ClassId) (dI : Nat → Nat → Nat) (cy : Nat → ClassId) (a : Nat → Nat) (k0 : Nat) (IH : ∀ j : Nat, j < k0 → P_GP l dC dI cy a j) (d : Nat) (L0 : Nat → Int32) (σ0 : MS) (r0 : Int32 × MS) (h0 : x_GP k0 d 0 0 L0 σ0 = some r0) (sz : Nat) : Met l yX12_print w_x_print ({ frames := 14 + d, cells := 0, slots := 0, locals := 294 + 24 * d }) (va_Pc [.ref (a 0), .int (L0 1), .int (L0 2)] (nIn (dC, dI) cy sz (vM cy a σ0))) (va_Qv (fun _ : Unit => True) (fun _ t => nOut (dC, dI) cy (va_A (vM cy a σ0) sz) (vM cy a r0.2) t) (va_A (vM cy a σ0) sz)) 0 0 (va_A (vM cy a σ0) sz) := by
  refine Met.ofW (cc := cX12_print) (maxL := 5) (ret := none) (by decide) rfl ?_
  intro p e s m args below meth c s₁ B hml hv
  obtain ⟨rfl, hsz, hP, hK, hD0, hG⟩ := hv
  have hx := B.exec
  have hb := B.bytes
  have hr := B.returns
  have hts := atoms_spec (ws := w_x_print) B.pre
  have hown : s.vm.findClass RX12 = some m.cls := findClass_of_methodNamed B.named
  have hlocks := B.notSynchronized
  subst hsz
  have hD := hD0.self (sz := s.heap.size)
  generalize hAe : va_A (vM cy a σ0) s.heap.size = A at hD ⊢
  have hA : ∀ q : Nat, s.heap.size ≤ q → A q := fun q h => by rw [← hAe]; exact Or.inr h
  have hS : va_S A s.heap s.heap [] := va_S.rf
  have hl := lv_entry ([.ref (a 0), .int (L0 1), .int (L0 2)]) (n := 5) (Nat.le_of_ble_eq_true rfl)
  rw [lg_entry_eq]
  generalize (lg_sl ([.ref (a 0), .int (L0 1), .int (L0 2)]) ++ List.replicate (5 - (lg_sl ([.ref (a 0), .int (L0 1), .int (L0 2)])).length) Slot.unset).toArray = ls at hl ⊢
  have hl : lv_has ls 5 [(0, .ref (a 0)), (1, .int (L0 1)), (2, .int (L0 2))] := hl
  have blk : ∀ k : Nat, k ≤ k0 → (bT p l e (headSpec w_x_print ({ frames := 14 + d, cells := 0, slots := 0, locals := 294 + 24 * d })).room s m #[.ref (a 0), .int (L0 1), .int (L0 2)] below meth c dC dI cy a A (qV dC dI cy a A below #[.ref (a 0), .int (L0 1), .int (L0 2)] s) 5 (x_GP k d 0 0) (fun L => [(0, .ref (a 0)), (1, .int (L 1)), (2, .int (L 2))]) 0 (fun L => [])) ∧ (bT p l e (headSpec w_x_print ({ frames := 14 + d, cells := 0, slots := 0, locals := 294 + 24 * d })).room s m #[.ref (a 0), .int (L0 1), .int (L0 2)] below meth c dC dI cy a A (qV dC dI cy a A below #[.ref (a 0), .int (L0 1), .int (L0 2)] s) 5 (x_GP k d 0 1) (fun L => [(0, .ref (a 0)), (1, .int (L 1)), (2, .int (L 2)), (3, .int (L 3))]) 25 (fun L => [])) ∧ (bT p l e (headSpec w_x_print ({ frames := 14 + d, cells := 0, slots := 0, locals := 294 + 24 * d })).room s m #[.ref (a 0), .int (L0 1), .int (L0 2)] below meth c dC dI cy a A (qV dC dI cy a A below #[.ref (a 0), .int (L0 1), .int (L0 2)] s) 5 (x_GP k d 0 2) (fun L => [(0, .ref (a 0)), (1, .int (L 1)), (2, .int (L 2)), (3, .int (L 3))]) 40 (fun L => [.ref (a 0)])) ∧ (bT p l e (headSpec w_x_print ({ frames := 14 + d, cells := 0, slots := 0, locals := 294 + 24 * d })).room s m #[.ref (a 0), .int (L0 1), .int (L0 2)] below meth c dC dI cy a A (qV dC dI cy a A below #[.ref (a 0), .int (L0 1), .int (L0 2)] s) 5 (x_GP k d 0 3) (fun L => [(0, .ref (a 0)), (1, .int (L 1)), (2, .int (L 2)), (3, .int (L 3))]) 41 (fun L => [.int (L 100), .ref (a 0)])) ∧ (bT p l e (headSpec w_x_print ({ frames := 14 + d, cells := 0, slots := 0, locals := 294 + 24 * d })).room s m #[.ref (a 0), .int (L0 1), .int (L0 2)] below meth c dC dI cy a A (qV dC dI cy a A below #[.ref (a 0), .int (L0 1), .int (L0 2)] s) 5 (x_GP k d 0 4) (fun L => [(0, .ref (a 0)), (1, .int (L 1)), (2, .int (L 2)), (3, .int (L 3))]) 47 (fun L => [])) ∧ (bT p l e (headSpec w_x_print ({ frames := 14 + d, cells := 0, slots := 0, locals := 294 + 24 * d })).room s m #[.ref (a 0), .int (L0 1), .int (L0 2)] below meth c dC dI cy a A (qV dC dI cy a A below #[.ref (a 0), .int (L0 1), .int (L0 2)] s) 5 (x_GP k d 0 5) (fun L => [(0, .ref (a 0)), (1, .int (L 1)), (2, .int (L 2)), (3, .int (L 3))]) 60 (fun L => [])) ∧ (bT p l e (headSpec w_x_print ({ frames := 14 + d, cells := 0, slots := 0, locals := 294 + 24 * d })).room s m #[.ref (a 0), .int (L0 1), .int (L0 2)] below meth c dC dI cy a A (qV dC dI cy a A below #[.ref (a 0), .int (L0 1), .int (L0 2)] s) 5 (x_GP k d 0 6) (fun L => [(0, .ref (a 0)), (1, .int (L 1)), (2, .int (L 2)), (3, .int (L 3))]) 86 (fun L => [])) ∧ (bT p l e (headSpec w_x_print ({ frames := 14 + d, cells := 0, slots := 0, locals := 294 + 24 * d })).room s m #[.ref (a 0), .int (L0 1), .int (L0 2)] below meth c dC dI cy a A (qV dC dI cy a A below #[.ref (a 0), .int (L0 1), .int (L0 2)] s) 5 (x_GP k d 0 7) (fun L => [(0, .ref (a 0)), (1, .int (L 1)), (2, .int (L 2)), (3, .int (L 3))]) 101 (fun L => [])) ∧ (bT p l e (headSpec w_x_print ({ frames := 14 + d, cells := 0, slots := 0, locals := 294 + 24 * d })).room s m #[.ref (a 0), .int (L0 1), .int (L0 2)] below meth c dC dI cy a A (qV dC dI cy a A below #[.ref (a 0), .int (L0 1), .int (L0 2)] s) 5 (x_GP k d 0 8) (fun L => [(0, .ref (a 0)), (1, .int (L 1)), (2, .int (L 2)), (3, .int (L 3)), (4, .int (L 4))]) 104 (fun L => [])) ∧ (bT p l e (headSpec w_x_print ({ frames := 14 + d, cells := 0, slots := 0, locals := 294 + 24 * d })).room s m #[.ref (a 0), .int (L0 1), .int (L0 2)] below meth c dC dI cy a A (qV dC dI cy a A below #[.ref (a 0), .int (L0 1), .int (L0 2)] s) 5 (x_GP k d 0 9) (fun L => [(0, .ref (a 0)), (1, .int (L 1)), (2, .int (L 2)), (3, .int (L 3)), (4, .int (L 4))]) 138 (fun L => [])) ∧ (bT p l e (headSpec w_x_print ({ frames := 14 + d, cells := 0, slots := 0, locals := 294 + 24 * d })).room s m #[.ref (a 0), .int (L0 1), .int (L0 2)] below meth c dC dI cy a A (qV dC dI cy a A below #[.ref (a 0), .int (L0 1), .int (L0 2)] s) 5 (x_GP k d 0 10) (fun L => [(0, .ref (a 0)), (1, .int (L 1)), (2, .int (L 2)), (3, .int (L 3))]) 151 (fun L => [])) ∧ (bT p l e (headSpec w_x_print ({ frames := 14 + d, cells := 0, slots := 0, locals := 294 + 24 * d })).room s m #[.ref (a 0), .int (L0 1), .int (L0 2)] below meth c dC dI cy a A (qV dC dI cy a A below #[.ref (a 0), .int (L0 1), .int (L0 2)] s) 5 (x_GP k d 0 11) (fun L => [(0, .ref (a 0)), (1, .int (L 1)), (2, .int (L 2)), (3, .int (L 3))]) 163 (fun L => [.ref (a 0)])) ∧ (bT p l e (headSpec w_x_print ({ frames := 14 + d, cells := 0, slots := 0, locals := 294 + 24 * d })).room s m #[.ref (a 0), .int (L0 1), .int (L0 2)] below meth c dC dI cy a A (qV dC dI cy a A below #[.ref (a 0), .int (L0 1), .int (L0 2)] s) 5 (x_GP k d 0 12) (fun L => [(0, .ref (a 0)), (1, .int (L 1)), (2, .int (L 2)), (3, .int (L 3))]) 165 (fun L => [.int (L 100), .ref (a 0)])) ∧ (bT p l e (headSpec w_x_print ({ frames := 14 + d, cells := 0, slots := 0, locals := 294 + 24 * d })).room s m #[.ref (a 0), .int (L0 1), .int (L0 2)] below meth c dC dI cy a A (qV dC dI cy a A below #[.ref (a 0), .int (L0 1), .int (L0 2)] s) 5 (x_GP k d 0 13) (fun L => [(0, .ref (a 0)), (1, .int (L 1)), (2, .int (L 2)), (3, .int (L 3)), (4, .int (L 4))]) 171 (fun L => [])) ∧ (bT p l e (headSpec w_x_print ({ frames := 14 + d, cells := 0, slots := 0, locals := 294 + 24 * d })).room s m #[.ref (a 0), .int (L0 1), .int (L0 2)] below meth c dC dI cy a A (qV dC dI cy a A below #[.ref (a 0), .int (L0 1), .int (L0 2)] s) 5 (x_GP k d 0 14) (fun L => [(0, .ref (a 0)), (1, .int (L 1)), (2, .int (L 2)), (3, .int (L 3)), (4, .int (L 4))]) 201 (fun L => [])) ∧ (bT p l e (headSpec w_x_print ({ frames := 14 + d, cells := 0, slots := 0, locals := 294 + 24 * d })).room s m #[.ref (a 0), .int (L0 1), .int (L0 2)] below meth c dC dI cy a A (qV dC dI cy a A below #[.ref (a 0), .int (L0 1), .int (L0 2)] s) 5 (x_GP k d 0 15) (fun L => [(0, .ref (a 0)), (1, .int (L 1)), (2, .int (L 2)), (3, .int (L 3)), (4, .int (L 4))]) 223 (fun L => [])) ∧ (bT p l e (headSpec w_x_print ({ frames := 14 + d, cells := 0, slots := 0, locals := 294 + 24 * d })).room s m #[.ref (a 0), .int (L0 1), .int (L0 2)] below meth c dC dI cy a A (qV dC dI cy a A below #[.ref (a 0), .int (L0 1), .int (L0 2)] s) 5 (x_GP k d 0 16) (fun L => [(0, .ref (a 0)), (1, .int (L 1)), (2, .int (L 2)), (3, .int (L 3)), (4, .int (L 4))]) 235 (fun L => [.ref (a 0)])) ∧ (bT p l e (headSpec w_x_print ({ frames := 14 + d, cells := 0, slots := 0, locals := 294 + 24 * d })).room s m #[.ref (a 0), .int (L0 1), .int (L0 2)] below meth c dC dI cy a A (qV dC dI cy a A below #[.ref (a 0), .int (L0 1), .int (L0 2)] s) 5 (x_GP k d 0 17) (fun L => [(0, .ref (a 0)), (1, .int (L 1)), (2, .int (L 2)), (3, .int (L 3)), (4, .int (L 4))]) 237 (fun L => [.int (L 100), .ref (a 0)])) ∧ (bT p l e (headSpec w_x_print ({ frames := 14 + d, cells := 0, slots := 0, locals := 294 + 24 * d })).room s m #[.ref (a 0), .int (L0 1), .int (L0 2)] below meth c dC dI cy a A (qV dC dI cy a A below #[.ref (a 0), .int (L0 1), .int (L0 2)] s) 5 (x_GP k d 0 18) (fun L => [(0, .ref (a 0)), (1, .int (L 1)), (2, .int (L 2)), (3, .int (L 3))]) 240 (fun L => [])) := by
    intro k
    induction k with
    | zero => exact fun _ => ⟨fun L σ r h => (by cases h), fun L σ r h => (by cases h), fun L σ r h => (by cases h), fun L σ r h => (by cases h), fun L σ r h => (by cases h), fun L σ r h => (by cases h), fun L σ r h => (by cases h), fun L σ r h => (by cases h), fun L σ r h => (by cases h), fun L σ r h => (by cases h), fun L σ r h => (by cases h), fun L σ r h => (by cases h), fun L σ r h => (by cases h), fun L σ r h => (by cases h), fun L σ r h => (by cases h), fun L σ r h => (by cases h), fun L σ r h => (by cases h), fun L σ r h => (by cases h), fun L σ r h => (by cases h)⟩
    | succ k ih =>
      intro hk
      replace ih := ih (by omega)
      refine ⟨?_, ?_, ?_, ?_, ?_, ?_, ?_, ?_, ?_, ?_, ?_, ?_, ?_, ?_, ?_, ?_, ?_, ?_, ?_⟩
      · intro L σ r h H locs ls hP hD hS hl
        rw [x_GP_0, s_print_0] at h
        refine lv_aload_n hx hb dX12_print_0 rfl (lv_at hl 0 rfl) ?_
        refine lv_iload_n hx hb dX12_print_1 rfl (lv_at hl 1 rfl) ?_
        obtain ⟨r1, hc1, h⟩ := ob_ex h
        refine nc_Vi (As := [.int (L 1)]) (rest := []) ⟨hx, hb, hml, hown, hts⟩ (c_x_kind l dC dI cy a k (upd (fun _ => 0) 1 ((L 1))) σ r1 hc1 H.size) (cwV 1 hts g_x_print_kind_545 rfl rfl rfl hd_x_kind (by show 0 + 1 ≤ 14 + d ∧ 8 + (2 + 11) + 0 ≤ 294 + 24 * d; omega)) hK hG hA hP hD hS rfl hl.1 rfl (Nat.le_of_ble_eq_true rfl) dX12_print_2 ⟨Nat.le_refl _, Nat.le_refl _⟩ (fun H locs hP hD hS => ?_)
        refine lv_istore_n (lv' := [(3, .int r1.1), (0, .ref (a 0)), (1, .int (L 1)), (2, .int (L 2))]) hx hb dX12_print_5 rfl hl (by decide) rfl (fun ls hl => ?_)
        refine lv_iload_n hx hb dX12_print_6 rfl (lv_at hl 0 rfl) ?_
        refine lv_if_ne (tgt := 25) hx hb dX12_print_7 (by decide) (fun c2 => ?_) (fun c2 => ?_)
        · rw [if_neg c2] at h
          exact ih.2.1 (upd L 3 r1.1) r1.2 r h H locs ls hP hD hS (lv_sub hl [1, 2, 3, 0] rfl)
        · rw [if_pos c2] at h
          refine lv_aload_n hx hb dX12_print_10 rfl (lv_at hl 1 rfl) ?_
          refine lv_bipush (v := 111) hx hb dX12_print_11 (by decide) ?_
          obtain ⟨r3, hc3, h⟩ := ob_ex h
          refine nc_Vv (As := [.int 111]) (rest := []) ⟨hx, hb, hml, hown, hts⟩ (c_x_put l dC dI cy a k (upd (fun _ => 0) 1 111) r1.2 r3 hc3 H.size) (cwV 1 hts g_x_print_put_536 rfl rfl rfl hd_x_put (by show 0 + 1 ≤ 14 + d ∧ 8 + (2 + 11) + 0 ≤ 294 + 24 * d; omega)) hK hG hA hP hD hS rfl hl.1 rfl (Nat.le_of_ble_eq_true rfl) dX12_print_13 ⟨Nat.le_refl _, Nat.le_refl _⟩ (fun H locs hP hD hS => ?_)
          refine lv_aload_n hx hb dX12_print_16 rfl (lv_at hl 1 rfl) ?_
          refine lv_bipush (v := 109) hx hb dX12_print_17 (by decide) ?_
          obtain ⟨r4, hc4, h⟩ := ob_ex h
          refine nc_Vv (As := [.int 109]) (rest := []) ⟨hx, hb, hml, hown, hts⟩ (c_x_put l dC dI cy a k (upd (fun _ => 0) 1 109) r3.2 r4 hc4 H.size) (cwV 1 hts g_x_print_put_536 rfl rfl rfl hd_x_put (by show 0 + 1 ≤ 14 + d ∧ 8 + (2 + 11) + 0 ≤ 294 + 24 * d; omega)) hK hG hA hP hD hS rfl hl.1 rfl (Nat.le_of_ble_eq_true rfl) dX12_print_19 ⟨Nat.le_refl _, Nat.le_refl _⟩ (fun H locs hP hD hS => ?_)
          refine lv_goto (tgt := 240) hx hb dX12_print_22 (by decide) ?_
          exact ih.2.2.2.2.2.2.2.2.2.2.2.2.2.2.2.2.2.2 (upd L 3 r1.1) r4.2 r h H locs ls hP hD hS (lv_sub hl [1, 2, 3, 0] rfl)
      · intro L σ r h H locs ls hP hD hS hl
        rw [x_GP_0, s_print_1] at h
        refine lv_iload_n hx hb dX12_print_25 rfl (lv_at hl 3 rfl) ?_
        refine lv_iconst (v := 1) hx hb dX12_print_26 (by decide) ?_
        refine lv_icmp_ne (tgt := 47) hx hb dX12_print_27 (by decide) (fun c1 => ?_) (fun c1 => ?_)
        · rw [if_neg c1] at h
          exact ih.2.2.2.2.1 L σ r h H locs ls hP hD hS (lv_sub hl [0, 1, 2, 3] rfl)
        · rw [if_pos c1] at h
          refine lv_aload_n hx hb dX12_print_30 rfl (lv_at hl 0 rfl) ?_
          refine lv_iload_n hx hb dX12_print_31 rfl (lv_at hl 1 rfl) ?_
          refine lv_iconst (v := 2) hx hb dX12_print_32 (by decide) ?_
          refine lv_icmp_ne (tgt := 40) hx hb dX12_print_33 (by decide) (fun c2 => ?_) (fun c2 => ?_)
          · rw [if_neg c2] at h
            exact ih.2.2.1 L σ r h H locs ls hP hD hS (lv_sub hl [0, 1, 2, 3] rfl)
          · rw [if_pos c2] at h
            refine lv_iconst (v := 1) hx hb dX12_print_36 (by decide) ?_
            refine lv_goto (tgt := 41) hx hb dX12_print_37 (by decide) ?_
            exact ih.2.2.2.1 (upd L 100 1) σ r h H locs ls hP hD hS (lv_sub hl [0, 1, 2, 3] rfl)
      · intro L σ r h H locs ls hP hD hS hl
        rw [x_GP_0, s_print_2] at h
        refine lv_iconst (v := 0) hx hb dX12_print_40 (by decide) ?_
        exact ih.2.2.2.1 (upd L 100 0) σ r h H locs ls hP hD hS (lv_sub hl [0, 1, 2, 3] rfl)
      · intro L σ r h H locs ls hP hD hS hl
        rw [x_GP_0, s_print_3] at h
        obtain ⟨r1, hc1, h⟩ := ob_ex h
        refine nc_Vv (As := [.int (L 100)]) (rest := []) ⟨hx, hb, hml, hown, hts⟩ (c_x_putTruth l dC dI cy a k (upd (fun _ => 0) 1 ((L 100))) σ r1 hc1 H.size) (cwV 1 hts g_x_print_putTruth_548 rfl rfl rfl hd_x_putTruth (by show 1 + 1 ≤ 14 + d ∧ 8 + (2 + 11) + 21 ≤ 294 + 24 * d; omega)) hK hG hA hP hD hS rfl hl.1 rfl (Nat.le_of_ble_eq_true rfl) dX12_print_41 ⟨Nat.le_refl _, Nat.le_refl _⟩ (fun H locs hP hD hS => ?_)
        refine lv_goto (tgt := 240) hx hb dX12_print_44 (by decide) ?_
        exact ih.2.2.2.2.2.2.2.2.2.2.2.2.2.2.2.2.2.2 L r1.2 r h H locs ls hP hD hS (lv_sub hl [0, 1, 2, 3] rfl)
      · intro L σ r h H locs ls hP hD hS hl
        rw [x_GP_0, s_print_4] at h
        refine lv_iload_n hx hb dX12_print_47 rfl (lv_at hl 3 rfl) ?_
        refine lv_iconst (v := 2) hx hb dX12_print_48 (by decide) ?_
        refine lv_icmp_ne (tgt := 60) hx hb dX12_print_49 (by decide) (fun c1 => ?_) (fun c1 => ?_)
        · rw [if_neg c1] at h
          exact ih.2.2.2.2.2.1 L σ r h H locs ls hP hD hS (lv_sub hl [0, 1, 2, 3] rfl)
        · rw [if_pos c1] at h
          refine lv_aload_n hx hb dX12_print_52 rfl (lv_at hl 0 rfl) ?_
          refine lv_iload_n hx hb dX12_print_53 rfl (lv_at hl 1 rfl) ?_
          obtain ⟨r2, hc2, h⟩ := ob_ex h
          refine nc_Vv (As := [.int (L 1)]) (rest := []) ⟨hx, hb, hml, hown, hts⟩ (c_x_putWhole l dC dI cy a k (upd (fun _ => 0) 1 ((L 1))) σ r2 hc2 H.size) (cwV 1 hts g_x_print_putWhole_551 rfl rfl rfl hd_x_putWhole (by show 1 + 1 ≤ 14 + d ∧ 8 + (6 + 11) + 22 ≤ 294 + 24 * d; omega)) hK hG hA hP hD hS rfl hl.1 rfl (Nat.le_of_ble_eq_true rfl) dX12_print_54 ⟨Nat.le_refl _, Nat.le_refl _⟩ (fun H locs hP hD hS => ?_)
          refine lv_goto (tgt := 240) hx hb dX12_print_57 (by decide) ?_
          exact ih.2.2.2.2.2.2.2.2.2.2.2.2.2.2.2.2.2.2 L r2.2 r h H locs ls hP hD hS (lv_sub hl [0, 1, 2, 3] rfl)
      · intro L σ r h H locs ls hP hD hS hl
        rw [x_GP_0, s_print_5] at h
        refine lv_iload_n hx hb dX12_print_60 rfl (lv_at hl 3 rfl) ?_
        refine lv_iconst (v := 3) hx hb dX12_print_61 (by decide) ?_
        refine lv_icmp_ne (tgt := 86) hx hb dX12_print_62 (by decide) (fun c1 => ?_) (fun c1 => ?_)
        · rw [if_neg c1] at h
          exact ih.2.2.2.2.2.2.1 L σ r h H locs ls hP hD hS (lv_sub hl [0, 1, 2, 3] rfl)
        · rw [if_pos c1] at h
          refine lv_aload_n hx hb dX12_print_65 rfl (lv_at hl 0 rfl) ?_
          refine lv_bipush (v := 35) hx hb dX12_print_66 (by decide) ?_
          obtain ⟨r2, hc2, h⟩ := ob_ex h
          refine nc_Vv (As := [.int 35]) (rest := []) ⟨hx, hb, hml, hown, hts⟩ (c_x_put l dC dI cy a k (upd (fun _ => 0) 1 35) σ r2 hc2 H.size) (cwV 1 hts g_x_print_put_536 rfl rfl rfl hd_x_put (by show 0 + 1 ≤ 14 + d ∧ 8 + (2 + 11) + 0 ≤ 294 + 24 * d; omega)) hK hG hA hP hD hS rfl hl.1 rfl (Nat.le_of_ble_eq_true rfl) dX12_print_68 ⟨Nat.le_refl _, Nat.le_refl _⟩ (fun H locs hP hD hS => ?_)
          refine lv_aload_n hx hb dX12_print_71 rfl (lv_at hl 0 rfl) ?_
          refine lv_aload_n hx hb dX12_print_72 rfl (lv_at hl 0 rfl) ?_
          refine ng_53 hx hb hts in_x_print hown hK hP (hts _ (List.mem_cons_of_mem _ (List.mem_append_left _ (List.mem_append_left _ (List.mem_of_getElem? (i := 14) rfl))))) dX12_print_73 ?_
          refine lv_iload_n hx hb dX12_print_76 rfl (lv_at hl 1 rfl) ?_
          refine lv_iconst (v := 4) hx hb dX12_print_77 (by decide) ?_
          refine lv_iadd hx hb dX12_print_78 ?_
          obtain ⟨q3, h⟩ := nb_ite1 h
          refine nl_28 hx hb hK hP q3 dX12_print_79 ?_
          obtain ⟨r4, hc4, h⟩ := ob_ex h
          refine nc_Vv (As := [.int (r2.2.2.2 28 ((((L 1)) + 4)).toNatClampNeg)]) (rest := []) ⟨hx, hb, hml, hown, hts⟩ (c_x_putNumber l dC dI cy a k (upd (fun _ => 0) 1 ((r2.2.2.2 28 ((((L 1)) + 4)).toNatClampNeg))) r2.2 r4 hc4 H.size) (cwV 1 hts g_x_print_putNumber_542 rfl rfl rfl hd_x_putNumber (by show 13 + 1 ≤ 14 + d ∧ 8 + (2 + 11) + 273 ≤ 294 + 24 * d; omega)) hK hG hA hP hD hS rfl hl.1 rfl (Nat.le_of_ble_eq_true rfl) dX12_print_80 ⟨Nat.le_refl _, Nat.le_refl _⟩ (fun H locs hP hD hS => ?_)
          refine lv_goto (tgt := 240) hx hb dX12_print_83 (by decide) ?_
          exact ih.2.2.2.2.2.2.2.2.2.2.2.2.2.2.2.2.2.2 L r4.2 r h H locs ls hP hD hS (lv_sub hl [0, 1, 2, 3] rfl)
      · intro L σ r h H locs ls hP hD hS hl
        rw [x_GP_0, s_print_6] at h
        refine lv_iload_n hx hb dX12_print_86 rfl (lv_at hl 3 rfl) ?_
        refine lv_iconst (v := 4) hx hb dX12_print_87 (by decide) ?_
        refine lv_icmp_ne (tgt := 151) hx hb dX12_print_88 (by decide) (fun c1 => ?_) (fun c1 => ?_)
        · rw [if_neg c1] at h
          exact ih.2.2.2.2.2.2.2.2.2.2.1 L σ r h H locs ls hP hD hS (lv_sub hl [0, 1, 2, 3] rfl)
        · rw [if_pos c1] at h
          refine lv_iload_n hx hb dX12_print_91 rfl (lv_at hl 2 rfl) ?_
          refine lv_if_ne (tgt := 101) hx hb dX12_print_92 (by decide) (fun c2 => ?_) (fun c2 => ?_)
          · rw [if_neg c2] at h
            exact ih.2.2.2.2.2.2.2.1 L σ r h H locs ls hP hD hS (lv_sub hl [0, 1, 2, 3] rfl)
          · rw [if_pos c2] at h
            refine lv_aload_n hx hb dX12_print_95 rfl (lv_at hl 0 rfl) ?_
            refine lv_bipush (v := 34) hx hb dX12_print_96 (by decide) ?_
            obtain ⟨r3, hc3, h⟩ := ob_ex h
            refine nc_Vv (As := [.int 34]) (rest := []) ⟨hx, hb, hml, hown, hts⟩ (c_x_put l dC dI cy a k (upd (fun _ => 0) 1 34) σ r3 hc3 H.size) (cwV 1 hts g_x_print_put_536 rfl rfl rfl hd_x_put (by show 0 + 1 ≤ 14 + d ∧ 8 + (2 + 11) + 0 ≤ 294 + 24 * d; omega)) hK hG hA hP hD hS rfl hl.1 rfl (Nat.le_of_ble_eq_true rfl) dX12_print_98 ⟨Nat.le_refl _, Nat.le_refl _⟩ (fun H locs hP hD hS => ?_)
            exact ih.2.2.2.2.2.2.2.1 L r3.2 r h H locs ls hP hD hS (lv_sub hl [0, 1, 2, 3] rfl)
      · intro L σ r h H locs ls hP hD hS hl
        rw [x_GP_0, s_print_7] at h
        refine lv_iconst (v := 0) hx hb dX12_print_101 (by decide) ?_
        refine lv_istore (lv' := [(4, .int 0), (0, .ref (a 0)), (1, .int (L 1)), (2, .int (L 2)), (3, .int (L 3))]) hx hb dX12_print_102 hl (by decide) rfl (fun ls hl => ?_)
        exact ih.2.2.2.2.2.2.2.2.1 (upd L 4 0) σ r h H locs ls hP hD hS (lv_sub hl [1, 2, 3, 4, 0] rfl)
      · intro L σ r h H locs ls hP hD hS hl
        rw [x_GP_0, s_print_8] at h
        refine lv_iload hx hb dX12_print_104 (lv_at hl 4 rfl) ?_
        refine lv_aload_n hx hb dX12_print_106 rfl (lv_at hl 0 rfl) ?_
        refine ng_53 hx hb hts in_x_print hown hK hP (hts _ (List.mem_cons_of_mem _ (List.mem_append_left _ (List.mem_append_left _ (List.mem_of_getElem? (i := 14) rfl))))) dX12_print_107 ?_
        refine lv_iload_n hx hb dX12_print_110 rfl (lv_at hl 1 rfl) ?_
        refine lv_iconst (v := 1) hx hb dX12_print_111 (by decide) ?_
        refine lv_iadd hx hb dX12_print_112 ?_
        obtain ⟨q1, h⟩ := nb_ite1 h
        refine nl_28 hx hb hK hP q1 dX12_print_113 ?_
        refine lv_icmp_ge (tgt := 138) hx hb dX12_print_114 (by decide) (fun c2 => ?_) (fun c2 => ?_)
        · rw [if_pos c2] at h
          exact ih.2.2.2.2.2.2.2.2.2.1 L σ r h H locs ls hP hD hS (lv_sub hl [0, 1, 2, 3, 4] rfl)
        · rw [if_neg c2] at h
          refine lv_aload_n hx hb dX12_print_117 rfl (lv_at hl 0 rfl) ?_
          refine lv_aload_n hx hb dX12_print_118 rfl (lv_at hl 0 rfl) ?_
          refine ng_53 hx hb hts in_x_print hown hK hP (hts _ (List.mem_cons_of_mem _ (List.mem_append_left _ (List.mem_append_left _ (List.mem_of_getElem? (i := 14) rfl))))) dX12_print_119 ?_
          refine lv_iload_n hx hb dX12_print_122 rfl (lv_at hl 1 rfl) ?_
          refine lv_iconst (v := 4) hx hb dX12_print_123 (by decide) ?_
          refine lv_iadd hx hb dX12_print_124 ?_
          refine lv_iload hx hb dX12_print_125 (lv_at hl 4 rfl) ?_
          refine lv_iadd hx hb dX12_print_127 ?_
          obtain ⟨q3, h⟩ := nb_ite1 h
          refine nl_28 hx hb hK hP q3 dX12_print_128 ?_
          obtain ⟨r4, hc4, h⟩ := ob_ex h
          refine nc_Vv (As := [.int (σ.2.2 28 ((((((L 1)) + 4)) + ((L 4)))).toNatClampNeg)]) (rest := []) ⟨hx, hb, hml, hown, hts⟩ (c_x_put l dC dI cy a k (upd (fun _ => 0) 1 ((σ.2.2 28 ((((((L 1)) + 4)) + ((L 4)))).toNatClampNeg))) σ r4 hc4 H.size) (cwV 1 hts g_x_print_put_536 rfl rfl rfl hd_x_put (by show 0 + 1 ≤ 14 + d ∧ 8 + (2 + 11) + 0 ≤ 294 + 24 * d; omega)) hK hG hA hP hD hS rfl hl.1 rfl (Nat.le_of_ble_eq_true rfl) dX12_print_129 ⟨Nat.le_refl _, Nat.le_refl _⟩ (fun H locs hP hD hS => ?_)
          refine lv_iinc (v := ((L 4)) + 1) (lv' := [(4, .int (((L 4)) + 1)), (0, .ref (a 0)), (1, .int (L 1)), (2, .int (L 2)), (3, .int (L 3))]) hx hb dX12_print_132 hl (k := 4) rfl rfl (by decide) rfl (fun ls hl => ?_)
          refine lv_goto (tgt := 104) hx hb dX12_print_135 (by decide) ?_
          exact ih.2.2.2.2.2.2.2.2.1 (upd L 4 (((L 4)) + 1)) r4.2 r h H locs ls hP hD hS (lv_sub hl [1, 2, 3, 4, 0] rfl)
      · intro L σ r h H locs ls hP hD hS hl
        rw [x_GP_0, s_print_9] at h
        refine lv_iload_n hx hb dX12_print_138 rfl (lv_at hl 2 rfl) ?_
        refine lv_if_ne (tgt := 240) hx hb dX12_print_139 (by decide) (fun c1 => ?_) (fun c1 => ?_)
        · rw [if_neg c1] at h
          exact ih.2.2.2.2.2.2.2.2.2.2.2.2.2.2.2.2.2.2 L σ r h H locs ls hP hD hS (lv_sub hl [0, 1, 2, 3] rfl)
        · rw [if_pos c1] at h
          refine lv_aload_n hx hb dX12_print_142 rfl (lv_at hl 0 rfl) ?_
          refine lv_bipush (v := 34) hx hb dX12_print_143 (by decide) ?_
          obtain ⟨r2, hc2, h⟩ := ob_ex h
          refine nc_Vv (As := [.int 34]) (rest := []) ⟨hx, hb, hml, hown, hts⟩ (c_x_put l dC dI cy a k (upd (fun _ => 0) 1 34) σ r2 hc2 H.size) (cwV 1 hts g_x_print_put_536 rfl rfl rfl hd_x_put (by show 0 + 1 ≤ 14 + d ∧ 8 + (2 + 11) + 0 ≤ 294 + 24 * d; omega)) hK hG hA hP hD hS rfl hl.1 rfl (Nat.le_of_ble_eq_true rfl) dX12_print_145 ⟨Nat.le_refl _, Nat.le_refl _⟩ (fun H locs hP hD hS => ?_)
          refine lv_goto (tgt := 240) hx hb dX12_print_148 (by decide) ?_
          exact ih.2.2.2.2.2.2.2.2.2.2.2.2.2.2.2.2.2.2 L r2.2 r h H locs ls hP hD hS (lv_sub hl [0, 1, 2, 3] rfl)
      · intro L σ r h H locs ls hP hD hS hl
        rw [x_GP_0, s_print_10] at h
        refine lv_aload_n hx hb dX12_print_151 rfl (lv_at hl 0 rfl) ?_
        refine lv_iload_n hx hb dX12_print_152 rfl (lv_at hl 3 rfl) ?_
        refine lv_bipush (v := 6) hx hb dX12_print_153 (by decide) ?_
        refine lv_icmp_ne (tgt := 163) hx hb dX12_print_155 (by decide) (fun c1 => ?_) (fun c1 => ?_)
        · rw [if_neg c1] at h
          exact ih.2.2.2.2.2.2.2.2.2.2.2.1 L σ r h H locs ls hP hD hS (lv_sub hl [0, 1, 2, 3] rfl)
        · rw [if_pos c1] at h
          refine lv_bipush (v := 123) hx hb dX12_print_158 (by decide) ?_
          refine lv_goto (tgt := 165) hx hb dX12_print_160 (by decide) ?_
          exact ih.2.2.2.2.2.2.2.2.2.2.2.2.1 (upd L 100 123) σ r h H locs ls hP hD hS (lv_sub hl [0, 1, 2, 3] rfl)
      · intro L σ r h H locs ls hP hD hS hl
        rw [x_GP_0, s_print_11] at h
        refine lv_bipush (v := 91) hx hb dX12_print_163 (by decide) ?_
        exact ih.2.2.2.2.2.2.2.2.2.2.2.2.1 (upd L 100 91) σ r h H locs ls hP hD hS (lv_sub hl [0, 1, 2, 3] rfl)
      · intro L σ r h H locs ls hP hD hS hl
        rw [x_GP_0, s_print_12] at h
        obtain ⟨r1, hc1, h⟩ := ob_ex h
        refine nc_Vv (As := [.int (L 100)]) (rest := []) ⟨hx, hb, hml, hown, hts⟩ (c_x_put l dC dI cy a k (upd (fun _ => 0) 1 ((L 100))) σ r1 hc1 H.size) (cwV 1 hts g_x_print_put_536 rfl rfl rfl hd_x_put (by show 0 + 1 ≤ 14 + d ∧ 8 + (2 + 11) + 0 ≤ 294 + 24 * d; omega)) hK hG hA hP hD hS rfl hl.1 rfl (Nat.le_of_ble_eq_true rfl) dX12_print_165 ⟨Nat.le_refl _, Nat.le_refl _⟩ (fun H locs hP hD hS => ?_)
        refine lv_iconst (v := 0) hx hb dX12_print_168 (by decide) ?_
        refine lv_istore (lv' := [(4, .int 0), (0, .ref (a 0)), (1, .int (L 1)), (2, .int (L 2)), (3, .int (L 3))]) hx hb dX12_print_169 hl (by decide) rfl (fun ls hl => ?_)
        exact ih.2.2.2.2.2.2.2.2.2.2.2.2.2.1 (upd L 4 0) r1.2 r h H locs ls hP hD hS (lv_sub hl [1, 2, 3, 4, 0] rfl)
      · intro L σ r h H locs ls hP hD hS hl
        rw [x_GP_0, s_print_13] at h
        refine lv_iload hx hb dX12_print_171 (lv_at hl 4 rfl) ?_
        refine lv_aload_n hx hb dX12_print_173 rfl (lv_at hl 0 rfl) ?_
        refine ng_53 hx hb hts in_x_print hown hK hP (hts _ (List.mem_cons_of_mem _ (List.mem_append_left _ (List.mem_append_left _ (List.mem_of_getElem? (i := 14) rfl))))) dX12_print_174 ?_
        refine lv_iload_n hx hb dX12_print_177 rfl (lv_at hl 1 rfl) ?_
        refine lv_iconst (v := 1) hx hb dX12_print_178 (by decide) ?_
        refine lv_iadd hx hb dX12_print_179 ?_
        obtain ⟨q1, h⟩ := nb_ite1 h
        refine nl_28 hx hb hK hP q1 dX12_print_180 ?_
        refine lv_icmp_ge (tgt := 223) hx hb dX12_print_181 (by decide) (fun c2 => ?_) (fun c2 => ?_)
        · rw [if_pos c2] at h
          exact ih.2.2.2.2.2.2.2.2.2.2.2.2.2.2.2.1 L σ r h H locs ls hP hD hS (lv_sub hl [0, 1, 2, 3, 4] rfl)
        · rw [if_neg c2] at h
          refine lv_iload hx hb dX12_print_184 (lv_at hl 4 rfl) ?_
          refine lv_if_le (tgt := 201) hx hb dX12_print_186 (by decide) (fun c3 => ?_) (fun c3 => ?_)
          · rw [if_pos c3] at h
            exact ih.2.2.2.2.2.2.2.2.2.2.2.2.2.2.1 L σ r h H locs ls hP hD hS (lv_sub hl [0, 1, 2, 3, 4] rfl)
          · rw [if_neg c3] at h
            refine lv_aload_n hx hb dX12_print_189 rfl (lv_at hl 0 rfl) ?_
            refine lv_bipush (v := 44) hx hb dX12_print_190 (by decide) ?_
            obtain ⟨r4, hc4, h⟩ := ob_ex h
            refine nc_Vv (As := [.int 44]) (rest := []) ⟨hx, hb, hml, hown, hts⟩ (c_x_put l dC dI cy a k (upd (fun _ => 0) 1 44) σ r4 hc4 H.size) (cwV 1 hts g_x_print_put_536 rfl rfl rfl hd_x_put (by show 0 + 1 ≤ 14 + d ∧ 8 + (2 + 11) + 0 ≤ 294 + 24 * d; omega)) hK hG hA hP hD hS rfl hl.1 rfl (Nat.le_of_ble_eq_true rfl) dX12_print_192 ⟨Nat.le_refl _, Nat.le_refl _⟩ (fun H locs hP hD hS => ?_)
            refine lv_aload_n hx hb dX12_print_195 rfl (lv_at hl 0 rfl) ?_
            refine lv_bipush (v := 32) hx hb dX12_print_196 (by decide) ?_
            obtain ⟨r5, hc5, h⟩ := ob_ex h
            refine nc_Vv (As := [.int 32]) (rest := []) ⟨hx, hb, hml, hown, hts⟩ (c_x_put l dC dI cy a k (upd (fun _ => 0) 1 32) r4.2 r5 hc5 H.size) (cwV 1 hts g_x_print_put_536 rfl rfl rfl hd_x_put (by show 0 + 1 ≤ 14 + d ∧ 8 + (2 + 11) + 0 ≤ 294 + 24 * d; omega)) hK hG hA hP hD hS rfl hl.1 rfl (Nat.le_of_ble_eq_true rfl) dX12_print_198 ⟨Nat.le_refl _, Nat.le_refl _⟩ (fun H locs hP hD hS => ?_)
            exact ih.2.2.2.2.2.2.2.2.2.2.2.2.2.2.1 L r5.2 r h H locs ls hP hD hS (lv_sub hl [0, 1, 2, 3, 4] rfl)
      · intro L σ r h H locs ls hP hD hS hl
        rw [x_GP_0, s_print_14] at h
        refine lv_aload_n hx hb dX12_print_201 rfl (lv_at hl 0 rfl) ?_
        refine lv_aload_n hx hb dX12_print_202 rfl (lv_at hl 0 rfl) ?_
        refine ng_53 hx hb hts in_x_print hown hK hP (hts _ (List.mem_cons_of_mem _ (List.mem_append_left _ (List.mem_append_left _ (List.mem_of_getElem? (i := 14) rfl))))) dX12_print_203 ?_
        refine lv_iload_n hx hb dX12_print_206 rfl (lv_at hl 1 rfl) ?_
        refine lv_iconst (v := 4) hx hb dX12_print_207 (by decide) ?_
        refine lv_iadd hx hb dX12_print_208 ?_
        refine lv_iload hx hb dX12_print_209 (lv_at hl 4 rfl) ?_
        refine lv_iadd hx hb dX12_print_211 ?_
        obtain ⟨q1, h⟩ := nb_ite1 h
        refine nl_28 hx hb hK hP q1 dX12_print_212 ?_
        refine lv_iconst (v := 0) hx hb dX12_print_213 (by decide) ?_
        obtain ⟨e2, he2, h⟩ := od_ex h
        obtain ⟨r2, hc2, h⟩ := ob_ex h
        refine nc_Vv (As := [.int (σ.2.2 28 ((((((L 1)) + 4)) + ((L 4)))).toNatClampNeg), .int 0]) (rest := []) ⟨hx, hb, hml, hown, hts⟩ ((IH k (by omega)) e2 (upd (upd (fun _ => 0) 1 ((σ.2.2 28 ((((((L 1)) + 4)) + ((L 4)))).toNatClampNeg))) 2 0) σ r2 hc2 H.size) (cwV 2 hts g_x_print_print_554 rfl rfl rfl hd_x_print (by show (14 + e2) + 1 ≤ 14 + d ∧ 8 + (5 + 11) + (294 + 24 * e2) ≤ 294 + 24 * d; omega)) hK hG hA hP hD hS rfl hl.1 rfl (Nat.le_of_ble_eq_true rfl) dX12_print_214 ⟨Nat.le_refl _, Nat.le_refl _⟩ (fun H locs hP hD hS => ?_)
        refine lv_iinc (v := ((L 4)) + 1) (lv' := [(4, .int (((L 4)) + 1)), (0, .ref (a 0)), (1, .int (L 1)), (2, .int (L 2)), (3, .int (L 3))]) hx hb dX12_print_217 hl (k := 4) rfl rfl (by decide) rfl (fun ls hl => ?_)
        refine lv_goto (tgt := 171) hx hb dX12_print_220 (by decide) ?_
        exact ih.2.2.2.2.2.2.2.2.2.2.2.2.2.1 (upd L 4 (((L 4)) + 1)) r2.2 r h H locs ls hP hD hS (lv_sub hl [1, 2, 3, 4, 0] rfl)
      · intro L σ r h H locs ls hP hD hS hl
        rw [x_GP_0, s_print_15] at h
        refine lv_aload_n hx hb dX12_print_223 rfl (lv_at hl 0 rfl) ?_
        refine lv_iload_n hx hb dX12_print_224 rfl (lv_at hl 3 rfl) ?_
        refine lv_bipush (v := 6) hx hb dX12_print_225 (by decide) ?_
        refine lv_icmp_ne (tgt := 235) hx hb dX12_print_227 (by decide) (fun c1 => ?_) (fun c1 => ?_)
        · rw [if_neg c1] at h
          exact ih.2.2.2.2.2.2.2.2.2.2.2.2.2.2.2.2.1 L σ r h H locs ls hP hD hS (lv_sub hl [0, 1, 2, 3, 4] rfl)
        · rw [if_pos c1] at h
          refine lv_bipush (v := 125) hx hb dX12_print_230 (by decide) ?_
          refine lv_goto (tgt := 237) hx hb dX12_print_232 (by decide) ?_
          exact ih.2.2.2.2.2.2.2.2.2.2.2.2.2.2.2.2.2.1 (upd L 100 125) σ r h H locs ls hP hD hS (lv_sub hl [0, 1, 2, 3, 4] rfl)
      · intro L σ r h H locs ls hP hD hS hl
        rw [x_GP_0, s_print_16] at h
        refine lv_bipush (v := 93) hx hb dX12_print_235 (by decide) ?_
        exact ih.2.2.2.2.2.2.2.2.2.2.2.2.2.2.2.2.2.1 (upd L 100 93) σ r h H locs ls hP hD hS (lv_sub hl [0, 1, 2, 3, 4] rfl)
      · intro L σ r h H locs ls hP hD hS hl
        rw [x_GP_0, s_print_17] at h
        obtain ⟨r1, hc1, h⟩ := ob_ex h
        refine nc_Vv (As := [.int (L 100)]) (rest := []) ⟨hx, hb, hml, hown, hts⟩ (c_x_put l dC dI cy a k (upd (fun _ => 0) 1 ((L 100))) σ r1 hc1 H.size) (cwV 1 hts g_x_print_put_536 rfl rfl rfl hd_x_put (by show 0 + 1 ≤ 14 + d ∧ 8 + (2 + 11) + 0 ≤ 294 + 24 * d; omega)) hK hG hA hP hD hS rfl hl.1 rfl (Nat.le_of_ble_eq_true rfl) dX12_print_237 ⟨Nat.le_refl _, Nat.le_refl _⟩ (fun H locs hP hD hS => ?_)
        exact ih.2.2.2.2.2.2.2.2.2.2.2.2.2.2.2.2.2.2 L r1.2 r h H locs ls hP hD hS (lv_sub hl [0, 1, 2, 3] rfl)
      · intro L σ r h H locs ls hP hD hS hl
        rw [x_GP_0, s_print_18] at h
        cases h
        exact W.vret hx hb hr (fun t ht hW => ⟨⟨(), rfl, trivial, by rw [ht]; exact hP, va_K.moved hW.alike hK, hD⟩, hS.F ht⟩) hS.2.2 dX12_print_240
  exact (blk k0 (Nat.le_refl _)).1 L0 σ0 r0 h0 s.heap [] ls hP hD hS hl
theorem c_GP (l : Launch) (dC : Nat → ClassId) (dI : Nat → Nat → Nat) (cy : Nat → ClassId) (a : Nat → Nat) : ∀ k0 : Nat, P_GP l dC dI cy a k0 := by
  intro k0
  induction k0 using Nat.strongRecOn with
  | ind k0 IH => exact c_s_print l dC dI cy a k0 IH
def x_print (k b : Nat) (L : Nat → Int32) (σ : MS) : Option (Int32 × MS) := x_GP k 40 0 b L σ
theorem c_x_print (l : Launch) (dC : Nat → ClassId) (dI : Nat → Nat → Nat) (cy : Nat → ClassId) (a : Nat → Nat) (k0 : Nat) (L0 : Nat → Int32) (σ0 : MS) (r0 : Int32 × MS) (h0 : x_print k0 0 L0 σ0 = some r0) (sz : Nat) : Met l yX12_print w_x_print ({ frames := 54, cells := 0, slots := 0, locals := 1254 }) (va_Pc [.ref (a 0), .int (L0 1), .int (L0 2)] (nIn (dC, dI) cy sz (vM cy a σ0))) (va_Qv (fun _ : Unit => True) (fun _ t => nOut (dC, dI) cy (va_A (vM cy a σ0) sz) (vM cy a r0.2) t) (va_A (vM cy a σ0) sz)) 0 0 (va_A (vM cy a σ0) sz) := (c_GP l dC dI cy a k0) 40 L0 σ0 r0 h0 sz
/-! valueOf -/
def x_valueOf : Nat → Nat → (Nat → Int32) → MS → Option (Int32 × MS)
  | 0, _, _, _ => none
  | k + 1, 0, L, σ => if ¬ (((L 1)) < 0 ∨ 70000 ≤ ((L 1)).toNatClampNeg) then (if ((σ.2.2 5 ((L 1)).toNatClampNeg)) = 0 then (if ¬ (((L 1)) < 0 ∨ 70000 ≤ ((L 1)).toNatClampNeg) then (if ¬ (((4 + ((σ.2.2 6 ((L 1)).toNatClampNeg)))) < 0 ∨ 11514 ≤ ((4 + ((σ.2.2 6 ((L 1)).toNatClampNeg)))).toNatClampNeg) then (some ((σ.2.2 30 ((4 + ((σ.2.2 6 ((L 1)).toNatClampNeg)))).toNatClampNeg), σ)) else none) else none) else (x_valueOf k 1 L σ)) else none
  | k + 1, 1, L, σ => if ((σ.1 69)) = 0 then (x_valueOf k 2 L σ) else (if ¬ (((L 1)) < 0 ∨ 70000 ≤ ((L 1)).toNatClampNeg) then (if ¬ (((((σ.1 68)) + ((σ.2.2 6 ((L 1)).toNatClampNeg)))) < 0 ∨ 1380 ≤ ((((σ.1 68)) + ((σ.2.2 6 ((L 1)).toNatClampNeg)))).toNatClampNeg) then (x_valueOf k 3 (upd L 100 ((σ.2.2 33 ((((σ.1 68)) + ((σ.2.2 6 ((L 1)).toNatClampNeg)))).toNatClampNeg))) σ) else none) else none)
  | k + 1, 2, L, σ => if ¬ ((1 : Int32) < 0 ∨ 11514 ≤ (1 : Int32).toNatClampNeg) then (if ¬ (((L 1)) < 0 ∨ 70000 ≤ ((L 1)).toNatClampNeg) then (if ¬ (((((214 + ((60 * ((((σ.2.2 30 (1 : Int32).toNatClampNeg)) - 1)))))) + ((σ.2.2 6 ((L 1)).toNatClampNeg)))) < 0 ∨ 11514 ≤ ((((214 + ((60 * ((((σ.2.2 30 (1 : Int32).toNatClampNeg)) - 1)))))) + ((σ.2.2 6 ((L 1)).toNatClampNeg)))).toNatClampNeg) then (x_valueOf k 3 (upd L 100 ((σ.2.2 30 ((((214 + ((60 * ((((σ.2.2 30 (1 : Int32).toNatClampNeg)) - 1)))))) + ((σ.2.2 6 ((L 1)).toNatClampNeg)))).toNatClampNeg))) σ) else none) else none) else none
  | k + 1, 3, L, σ => some ((L 100), σ)
  | _ + 1, _ + 4, _, _ => none
def o_x_valueOf : List Cond := [.fieldLink RX12 86 "SetHouseModel" "x1" "[I", .fieldLink RX12 395 "SetHouseModel" "st" "[I", .fieldLink RX12 89 "SetHouseModel" "x2" "[I", .fieldLink RX12 557 "SetHouseModel" "inFrames" "Z", .fieldLink RX12 408 "SetHouseModel" "frames" "[I", .fieldLink RX12 560 "SetHouseModel" "localBase" "I"]
theorem o_x_valueOf_good : o_x_valueOf.all goodWord = true := by decide +kernel
def p_x_valueOf : List Cond := o_x_valueOf ++ []
theorem p_x_valueOf_good : p_x_valueOf.all goodWord = true := nb_all2 o_x_valueOf_good rfl
def w_x_valueOf : List Cond := .code yX12_valueOf cX12_valueOf 2 (some .int) :: (p_x_valueOf ++ fM)
theorem w_x_valueOf_good : w_x_valueOf.all goodWord = true := nb_allc (by decide +kernel) (nb_all2 p_x_valueOf_good fM_good)
theorem in_x_valueOf : ∀ w ∈ wsX120, w ∈ w_x_valueOf := fun _ h => List.mem_cons_of_mem _ (List.mem_append_right _ h)
theorem hd_x_valueOf : yX12_valueOf.cls = RX12 ∧ yX12_valueOf.cls ≠ "java/lang/invoke/MethodHandle" ∧ yX12_valueOf.cls ≠ "java/lang/invoke/VarHandle" ∧ (parseMethodDescriptor yX12_valueOf.desc).map (fun d => d.parameters.length) = some 1 := by decide +kernel
set_option maxHeartbeats 40000000 in
set_option maxRecDepth 100000 in
theorem c_x_valueOf (l : Launch) (dC : Nat → ClassId) (dI : Nat → Nat → Nat) (cy : Nat → ClassId) (a : Nat → Nat) (k0 : Nat) (L0 : Nat → Int32) (σ0 : MS) (r0 : Int32 × MS) (h0 : x_valueOf k0 0 L0 σ0 = some r0) (sz : Nat) : Met l yX12_valueOf w_x_valueOf ({ frames := 0, cells := 0, slots := 0, locals := 0 }) (va_Pc [.ref (a 0), .int (L0 1)] (nIn (dC, dI) cy sz (vM cy a σ0))) (va_Qi (fun (z : Int32) (_ : Unit) => z = r0.1) (fun _ t => nOut (dC, dI) cy (va_A (vM cy a σ0) sz) (vM cy a r0.2) t) (va_A (vM cy a σ0) sz)) 0 0 (va_A (vM cy a σ0) sz) := by
  refine Met.ofW (cc := cX12_valueOf) (maxL := 2) (ret := (some .int)) (by decide) rfl ?_
  intro p e s m args below meth c s₁ B hml hv
  obtain ⟨rfl, hsz, hP, hK, hD0, hG⟩ := hv
  have hx := B.exec
  have hb := B.bytes
  have hr := B.returns
  have hts := atoms_spec (ws := w_x_valueOf) B.pre
  have hown : s.vm.findClass RX12 = some m.cls := findClass_of_methodNamed B.named
  have hlocks := B.notSynchronized
  subst hsz
  have hD := hD0.self (sz := s.heap.size)
  generalize hAe : va_A (vM cy a σ0) s.heap.size = A at hD ⊢
  have hA : ∀ q : Nat, s.heap.size ≤ q → A q := fun q h => by rw [← hAe]; exact Or.inr h
  have hS : va_S A s.heap s.heap [] := va_S.rf
  have hl := lv_entry ([.ref (a 0), .int (L0 1)]) (n := 2) (Nat.le_of_ble_eq_true rfl)
  rw [lg_entry_eq]
  generalize (lg_sl ([.ref (a 0), .int (L0 1)]) ++ List.replicate (2 - (lg_sl ([.ref (a 0), .int (L0 1)])).length) Slot.unset).toArray = ls at hl ⊢
  have hl : lv_has ls 2 [(0, .ref (a 0)), (1, .int (L0 1))] := hl
  have blk : ∀ k : Nat, (bT p l e (headSpec w_x_valueOf ({ frames := 0, cells := 0, slots := 0, locals := 0 })).room s m #[.ref (a 0), .int (L0 1)] below meth c dC dI cy a A (qI dC dI cy a A below #[.ref (a 0), .int (L0 1)] s) 2 (x_valueOf k 0) (fun L => [(0, .ref (a 0)), (1, .int (L 1))]) 0 (fun L => [])) ∧ (bT p l e (headSpec w_x_valueOf ({ frames := 0, cells := 0, slots := 0, locals := 0 })).room s m #[.ref (a 0), .int (L0 1)] below meth c dC dI cy a A (qI dC dI cy a A below #[.ref (a 0), .int (L0 1)] s) 2 (x_valueOf k 1) (fun L => [(0, .ref (a 0)), (1, .int (L 1))]) 23 (fun L => [])) ∧ (bT p l e (headSpec w_x_valueOf ({ frames := 0, cells := 0, slots := 0, locals := 0 })).room s m #[.ref (a 0), .int (L0 1)] below meth c dC dI cy a A (qI dC dI cy a A below #[.ref (a 0), .int (L0 1)] s) 2 (x_valueOf k 2) (fun L => [(0, .ref (a 0)), (1, .int (L 1))]) 49 (fun L => [])) ∧ (bT p l e (headSpec w_x_valueOf ({ frames := 0, cells := 0, slots := 0, locals := 0 })).room s m #[.ref (a 0), .int (L0 1)] below meth c dC dI cy a A (qI dC dI cy a A below #[.ref (a 0), .int (L0 1)] s) 2 (x_valueOf k 3) (fun L => [(0, .ref (a 0)), (1, .int (L 1))]) 76 (fun L => [.int (L 100)])) := by
    intro k
    induction k with
    | zero => exact ⟨fun L σ r h => (by cases h), fun L σ r h => (by cases h), fun L σ r h => (by cases h), fun L σ r h => (by cases h)⟩
    | succ k ih =>
      refine ⟨?_, ?_, ?_, ?_⟩
      · intro L σ r h H locs ls hP hD hS hl
        rw [x_valueOf] at h
        refine lv_aload_n hx hb dX12_valueOf_0 rfl (lv_at hl 0 rfl) ?_
        refine ng_15 hx hb hts in_x_valueOf hown hK hP (hts _ (List.mem_cons_of_mem _ (List.mem_append_left _ (List.mem_append_left _ (List.mem_of_getElem? (i := 0) rfl))))) dX12_valueOf_1 ?_
        refine lv_iload_n hx hb dX12_valueOf_4 rfl (lv_at hl 1 rfl) ?_
        obtain ⟨q1, h⟩ := nb_ite1 h
        refine nl_5 hx hb hK hP q1 dX12_valueOf_5 ?_
        refine lv_if_ne (tgt := 23) hx hb dX12_valueOf_6 (by decide) (fun c2 => ?_) (fun c2 => ?_)
        · rw [if_neg c2] at h
          exact ih.2.1 L σ r h H locs ls hP hD hS (lv_sub hl [0, 1] rfl)
        · rw [if_pos c2] at h
          refine lv_aload_n hx hb dX12_valueOf_9 rfl (lv_at hl 0 rfl) ?_
          refine ng_60 hx hb hts in_x_valueOf hown hK hP (hts _ (List.mem_cons_of_mem _ (List.mem_append_left _ (List.mem_append_left _ (List.mem_of_getElem? (i := 1) rfl))))) dX12_valueOf_10 ?_
          refine lv_iconst (v := 4) hx hb dX12_valueOf_13 (by decide) ?_
          refine lv_aload_n hx hb dX12_valueOf_14 rfl (lv_at hl 0 rfl) ?_
          refine ng_16 hx hb hts in_x_valueOf hown hK hP (hts _ (List.mem_cons_of_mem _ (List.mem_append_left _ (List.mem_append_left _ (List.mem_of_getElem? (i := 2) rfl))))) dX12_valueOf_15 ?_
          refine lv_iload_n hx hb dX12_valueOf_18 rfl (lv_at hl 1 rfl) ?_
          obtain ⟨q3, h⟩ := nb_ite1 h
          refine nl_6 hx hb hK hP q3 dX12_valueOf_19 ?_
          refine lv_iadd hx hb dX12_valueOf_20 ?_
          obtain ⟨q4, h⟩ := nb_ite1 h
          refine nl_30 hx hb hK hP q4 dX12_valueOf_21 ?_
          cases h
          exact W.iret (v := (σ.2.2 30 ((4 + ((σ.2.2 6 ((L 1)).toNatClampNeg)))).toNatClampNeg)) hx hb hr (fun t ht hW => ⟨⟨(σ.2.2 30 ((4 + ((σ.2.2 6 ((L 1)).toNatClampNeg)))).toNatClampNeg), (), rfl, rfl, by rw [ht]; exact hP, va_K.moved hW.alike hK, hD⟩, hS.F ht⟩) hS.2.2 dX12_valueOf_22
      · intro L σ r h H locs ls hP hD hS hl
        rw [x_valueOf] at h
        refine lv_aload_n hx hb dX12_valueOf_23 rfl (lv_at hl 0 rfl) ?_
        refine ng_69 hx hb hts in_x_valueOf hown hK hP (hts _ (List.mem_cons_of_mem _ (List.mem_append_left _ (List.mem_append_left _ (List.mem_of_getElem? (i := 3) rfl))))) dX12_valueOf_24 ?_
        refine lv_if_eq (tgt := 49) hx hb dX12_valueOf_27 (by decide) (fun c1 => ?_) (fun c1 => ?_)
        · rw [if_pos c1] at h
          exact ih.2.2.1 L σ r h H locs ls hP hD hS (lv_sub hl [0, 1] rfl)
        · rw [if_neg c1] at h
          refine lv_aload_n hx hb dX12_valueOf_30 rfl (lv_at hl 0 rfl) ?_
          refine ng_66 hx hb hts in_x_valueOf hown hK hP (hts _ (List.mem_cons_of_mem _ (List.mem_append_left _ (List.mem_append_left _ (List.mem_of_getElem? (i := 4) rfl))))) dX12_valueOf_31 ?_
          refine lv_aload_n hx hb dX12_valueOf_34 rfl (lv_at hl 0 rfl) ?_
          refine ng_68 hx hb hts in_x_valueOf hown hK hP (hts _ (List.mem_cons_of_mem _ (List.mem_append_left _ (List.mem_append_left _ (List.mem_of_getElem? (i := 5) rfl))))) dX12_valueOf_35 ?_
          refine lv_aload_n hx hb dX12_valueOf_38 rfl (lv_at hl 0 rfl) ?_
          refine ng_16 hx hb hts in_x_valueOf hown hK hP (hts _ (List.mem_cons_of_mem _ (List.mem_append_left _ (List.mem_append_left _ (List.mem_of_getElem? (i := 2) rfl))))) dX12_valueOf_39 ?_
          refine lv_iload_n hx hb dX12_valueOf_42 rfl (lv_at hl 1 rfl) ?_
          obtain ⟨q2, h⟩ := nb_ite1 h
          refine nl_6 hx hb hK hP q2 dX12_valueOf_43 ?_
          refine lv_iadd hx hb dX12_valueOf_44 ?_
          obtain ⟨q3, h⟩ := nb_ite1 h
          refine nl_33 hx hb hK hP q3 dX12_valueOf_45 ?_
          refine lv_goto (tgt := 76) hx hb dX12_valueOf_46 (by decide) ?_
          exact ih.2.2.2 (upd L 100 ((σ.2.2 33 ((((σ.1 68)) + ((σ.2.2 6 ((L 1)).toNatClampNeg)))).toNatClampNeg))) σ r h H locs ls hP hD hS (lv_sub hl [0, 1] rfl)
      · intro L σ r h H locs ls hP hD hS hl
        rw [x_valueOf] at h
        refine lv_aload_n hx hb dX12_valueOf_49 rfl (lv_at hl 0 rfl) ?_
        refine ng_60 hx hb hts in_x_valueOf hown hK hP (hts _ (List.mem_cons_of_mem _ (List.mem_append_left _ (List.mem_append_left _ (List.mem_of_getElem? (i := 1) rfl))))) dX12_valueOf_50 ?_
        refine lv_sipush (v := 214) hx hb dX12_valueOf_53 (by decide) ?_
        refine lv_bipush (v := 60) hx hb dX12_valueOf_56 (by decide) ?_
        refine lv_aload_n hx hb dX12_valueOf_58 rfl (lv_at hl 0 rfl) ?_
        refine ng_60 hx hb hts in_x_valueOf hown hK hP (hts _ (List.mem_cons_of_mem _ (List.mem_append_left _ (List.mem_append_left _ (List.mem_of_getElem? (i := 1) rfl))))) dX12_valueOf_59 ?_
        refine lv_iconst (v := 1) hx hb dX12_valueOf_62 (by decide) ?_
        obtain ⟨q1, h⟩ := nb_ite1 h
        refine nl_30 hx hb hK hP q1 dX12_valueOf_63 ?_
        refine lv_iconst (v := 1) hx hb dX12_valueOf_64 (by decide) ?_
        refine lv_isub hx hb dX12_valueOf_65 ?_
        refine lv_imul hx hb dX12_valueOf_66 ?_
        refine lv_iadd hx hb dX12_valueOf_67 ?_
        refine lv_aload_n hx hb dX12_valueOf_68 rfl (lv_at hl 0 rfl) ?_
        refine ng_16 hx hb hts in_x_valueOf hown hK hP (hts _ (List.mem_cons_of_mem _ (List.mem_append_left _ (List.mem_append_left _ (List.mem_of_getElem? (i := 2) rfl))))) dX12_valueOf_69 ?_
        refine lv_iload_n hx hb dX12_valueOf_72 rfl (lv_at hl 1 rfl) ?_
        obtain ⟨q2, h⟩ := nb_ite1 h
        refine nl_6 hx hb hK hP q2 dX12_valueOf_73 ?_
        refine lv_iadd hx hb dX12_valueOf_74 ?_
        obtain ⟨q3, h⟩ := nb_ite1 h
        refine nl_30 hx hb hK hP q3 dX12_valueOf_75 ?_
        exact ih.2.2.2 (upd L 100 ((σ.2.2 30 ((((214 + ((60 * ((((σ.2.2 30 (1 : Int32).toNatClampNeg)) - 1)))))) + ((σ.2.2 6 ((L 1)).toNatClampNeg)))).toNatClampNeg))) σ r h H locs ls hP hD hS (lv_sub hl [0, 1] rfl)
      · intro L σ r h H locs ls hP hD hS hl
        rw [x_valueOf] at h
        cases h
        exact W.iret (v := (L 100)) hx hb hr (fun t ht hW => ⟨⟨(L 100), (), rfl, rfl, by rw [ht]; exact hP, va_K.moved hW.alike hK, hD⟩, hS.F ht⟩) hS.2.2 dX12_valueOf_76
  exact (blk k0).1 L0 σ0 r0 h0 s.heap [] ls hP hD hS hl

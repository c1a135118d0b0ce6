/-! stringOf__51 -/
def x_stringOf__51 : Nat → Nat → (Nat → Int32) → MS → Option (Int32 × MS)
  | 0, _, _, _ => none
  | k + 1, 0, L, σ => if (4 : Int32) = 0 then none else (if ((1 + ((((((L 3)) + 3)) / 4)))) ≤ 1000 then (x_stringOf__51 k 1 L σ) else (ob (x_fail k 0 (upd (fun _ => 0) 1 5) σ) (fun r3 => some (0, r3.2))))
  | k + 1, 1, L, σ => ob (x_make k 0 (upd (upd (fun _ => 0) 1 4) 2 ((L 3))) σ) (fun r1 => x_stringOf__51 k 2 (upd (upd L 4 r1.1) 5 0) r1.2)
  | k + 1, 2, L, σ => if ((L 3)) ≤ ((L 5)) then (x_stringOf__51 k 4 L σ) else (if ((σ.1 56)) = 0 then (if ¬ (((((L 2)) + ((L 5)))) < 0 ∨ 8200 ≤ ((((L 2)) + ((L 5)))).toNatClampNeg) then (if ¬ (((((((L 4)) + 4)) + ((L 5)))) < 0 ∨ 1740000 ≤ ((((((L 4)) + 4)) + ((L 5)))).toNatClampNeg) then (x_stringOf__51 k 3 L (σ.1, σ.2.1, updG σ.2.2 28 (upd (σ.2.2 28) ((((((L 4)) + 4)) + ((L 5)))).toNatClampNeg ((σ.2.2 51 ((((L 2)) + ((L 5)))).toNatClampNeg))))) else none) else none) else (x_stringOf__51 k 4 L σ))
  | k + 1, 3, L, σ => x_stringOf__51 k 2 (upd L 5 (((L 5)) + 1)) σ
  | k + 1, 4, L, σ => if (4 : Int32) = 0 then none else (if ¬ (((((L 4)) + 2)) < 0 ∨ 1740000 ≤ ((((L 4)) + 2)).toNatClampNeg) then (x_stringOf__51 k 5 L (σ.1, σ.2.1, updG σ.2.2 28 (upd (σ.2.2 28) ((((L 4)) + 2)).toNatClampNeg ((1 + ((((((L 3)) + 3)) / 4))))))) else none)
  | k + 1, 5, L, σ => some ((L 4), σ)
  | _ + 1, _ + 6, _, _ => none
def o_x_stringOf__51 : List Cond := [.methodLink RX12 369 yX12_fail, .instanceMethod yX12_fail, .selects RX12 yX12_fail yX12_fail, .initialized RX12, .methodLink RX12 429 yX12_make, .instanceMethod yX12_make, .selects RX12 yX12_make yX12_make, .fieldLink RX12 362 "SetHouseModel" "err" "I", .fieldLink RX12 372 "SetHouseModel" "heap" "[I"]
theorem o_x_stringOf__51_good : o_x_stringOf__51.all goodWord = true := by decide +kernel
def p_x_stringOf__51 : List Cond := o_x_stringOf__51 ++ ((.code yX12_fail cX12_fail 2 none :: p_x_fail) ++ ((.code yX12_make cX12_make 4 (some .int) :: p_x_make) ++ []))
theorem p_x_stringOf__51_good : p_x_stringOf__51.all goodWord = true := nb_all2 o_x_stringOf__51_good (nb_all2 (nb_allc (by decide +kernel) p_x_fail_good) (nb_all2 (nb_allc (by decide +kernel) p_x_make_good) rfl))
def w_x_stringOf__51 : List Cond := .code yX12_stringOf cX12_stringOf 6 (some .int) :: (p_x_stringOf__51 ++ fM)
theorem w_x_stringOf__51_good : w_x_stringOf__51.all goodWord = true := nb_allc (by decide +kernel) (nb_all2 p_x_stringOf__51_good fM_good)
theorem in_x_stringOf__51 : ∀ w ∈ wsX120, w ∈ w_x_stringOf__51 := fun _ h => List.mem_cons_of_mem _ (List.mem_append_right _ h)
theorem hd_x_stringOf__51 : yX12_stringOf.cls = RX12 ∧ yX12_stringOf.cls ≠ "java/lang/invoke/MethodHandle" ∧ yX12_stringOf.cls ≠ "java/lang/invoke/VarHandle" ∧ (parseMethodDescriptor yX12_stringOf.desc).map (fun d => d.parameters.length) = some 3 := by decide +kernel
theorem gg_x_stringOf__51_fail : GoodIn w_x_stringOf__51 w_x_fail := goodIn_sub (fun w h => (List.mem_cons.mp h).elim (fun e => (List.mem_cons_of_mem _ (List.mem_append_left _ (List.mem_append_right _ (List.mem_append_left _ (List.mem_cons.mpr (Or.inl e))))))) (fun h => (List.mem_append.mp h).elim (fun h => (List.mem_cons_of_mem _ (List.mem_append_left _ (List.mem_append_right _ (List.mem_append_left _ (List.mem_cons_of_mem _ h)))))) (fun h => List.mem_cons_of_mem _ (List.mem_append_right _ h)))) w_x_fail_good
theorem g_x_stringOf__51_fail_369 : GoodIn w_x_stringOf__51 (wsV RX12 369 RX12 yX12_fail w_x_fail) := goodIn_app (nb_g4 (List.mem_cons_of_mem _ (List.mem_append_left _ (List.mem_append_left _ (List.mem_of_getElem? (i := 0) rfl)))) (List.mem_cons_of_mem _ (List.mem_append_left _ (List.mem_append_left _ (List.mem_of_getElem? (i := 1) rfl)))) (List.mem_cons_of_mem _ (List.mem_append_left _ (List.mem_append_left _ (List.mem_of_getElem? (i := 2) rfl)))) (List.mem_cons_of_mem _ (List.mem_append_left _ (List.mem_append_left _ (List.mem_of_getElem? (i := 3) rfl)))) (by decide +kernel)) gg_x_stringOf__51_fail
theorem gg_x_stringOf__51_make : GoodIn w_x_stringOf__51 w_x_make := goodIn_sub (fun w h => (List.mem_cons.mp h).elim (fun e => (List.mem_cons_of_mem _ (List.mem_append_left _ (List.mem_append_right _ (List.mem_append_right _ (List.mem_append_left _ (List.mem_cons.mpr (Or.inl e)))))))) (fun h => (List.mem_append.mp h).elim (fun h => (List.mem_cons_of_mem _ (List.mem_append_left _ (List.mem_append_right _ (List.mem_append_right _ (List.mem_append_left _ (List.mem_cons_of_mem _ h))))))) (fun h => List.mem_cons_of_mem _ (List.mem_append_right _ h)))) w_x_make_good
theorem g_x_stringOf__51_make_429 : GoodIn w_x_stringOf__51 (wsV RX12 429 RX12 yX12_make w_x_make) := goodIn_app (nb_g4 (List.mem_cons_of_mem _ (List.mem_append_left _ (List.mem_append_left _ (List.mem_of_getElem? (i := 4) rfl)))) (List.mem_cons_of_mem _ (List.mem_append_left _ (List.mem_append_left _ (List.mem_of_getElem? (i := 5) rfl)))) (List.mem_cons_of_mem _ (List.mem_append_left _ (List.mem_append_left _ (List.mem_of_getElem? (i := 6) rfl)))) (List.mem_cons_of_mem _ (List.mem_append_left _ (List.mem_append_left _ (List.mem_of_getElem? (i := 3) rfl)))) (by decide +kernel)) gg_x_stringOf__51_make
set_option maxHeartbeats 40000000 in
set_option maxRecDepth 100000 in
theorem c_x_stringOf__51 (l : Launch) (dC : Nat → ClassId) (dI : Nat → Nat → Nat) (cy : Nat → ClassId) (a : Nat → Nat) (k0 : Nat) (L0 : Nat → Int32) (σ0 : MS) (r0 : Int32 × MS) (h0 : x_stringOf__51 k0 0 L0 σ0 = some r0) (sz : Nat) : Met l yX12_stringOf w_x_stringOf__51 ({ frames := 2, cells := 0, slots := 0, locals := 44 }) (va_Pc [.ref (a 0), .ref (a 51), .int (L0 2), .int (L0 3)] (nIn (dC, dI) cy sz (vM cy a σ0))) (va_Qi (fun (z : Int32) (_ : Unit) => z = r0.1) (fun _ t => nOut (dC, dI) cy (va_A (vM cy a σ0) sz) (vM cy a r0.2) t) (va_A (vM cy a σ0) sz)) 0 0 (va_A (vM cy a σ0) sz) := by
  refine Met.ofW (cc := cX12_stringOf) (maxL := 6) (ret := (some .int)) (by decide) rfl ?_
  intro p e s m args below meth c s₁ B hml hv
  obtain ⟨rfl, hsz, hP, hK, hD0, hG⟩ := hv
  have hx := B.exec
  have hb := B.bytes
  have hr := B.returns
  have hts := atoms_spec (ws := w_x_stringOf__51) B.pre
  have hown : s.vm.findClass RX12 = some m.cls := findClass_of_methodNamed B.named
  have hlocks := B.notSynchronized
  subst hsz
  have hD := hD0.self (sz := s.heap.size)
  generalize hAe : va_A (vM cy a σ0) s.heap.size = A at hD ⊢
  have hA : ∀ q : Nat, s.heap.size ≤ q → A q := fun q h => by rw [← hAe]; exact Or.inr h
  have hS : va_S A s.heap s.heap [] := va_S.rf
  have hl := lv_entry ([.ref (a 0), .ref (a 51), .int (L0 2), .int (L0 3)]) (n := 6) (Nat.le_of_ble_eq_true rfl)
  rw [lg_entry_eq]
  generalize (lg_sl ([.ref (a 0), .ref (a 51), .int (L0 2), .int (L0 3)]) ++ List.replicate (6 - (lg_sl ([.ref (a 0), .ref (a 51), .int (L0 2), .int (L0 3)])).length) Slot.unset).toArray = ls at hl ⊢
  have hl : lv_has ls 6 [(0, .ref (a 0)), (1, .ref (a 51)), (2, .int (L0 2)), (3, .int (L0 3))] := hl
  have blk : ∀ k : Nat, (bT p l e (headSpec w_x_stringOf__51 ({ frames := 2, cells := 0, slots := 0, locals := 44 })).room s m #[.ref (a 0), .ref (a 51), .int (L0 2), .int (L0 3)] below meth c dC dI cy a A (qI dC dI cy a A below #[.ref (a 0), .ref (a 51), .int (L0 2), .int (L0 3)] s) 6 (x_stringOf__51 k 0) (fun L => [(0, .ref (a 0)), (1, .ref (a 51)), (2, .int (L 2)), (3, .int (L 3))]) 0 (fun L => [])) ∧ (bT p l e (headSpec w_x_stringOf__51 ({ frames := 2, cells := 0, slots := 0, locals := 44 })).room s m #[.ref (a 0), .ref (a 51), .int (L0 2), .int (L0 3)] below meth c dC dI cy a A (qI dC dI cy a A below #[.ref (a 0), .ref (a 51), .int (L0 2), .int (L0 3)] s) 6 (x_stringOf__51 k 1) (fun L => [(0, .ref (a 0)), (1, .ref (a 51)), (2, .int (L 2)), (3, .int (L 3))]) 20 (fun L => [])) ∧ (bT p l e (headSpec w_x_stringOf__51 ({ frames := 2, cells := 0, slots := 0, locals := 44 })).room s m #[.ref (a 0), .ref (a 51), .int (L0 2), .int (L0 3)] below meth c dC dI cy a A (qI dC dI cy a A below #[.ref (a 0), .ref (a 51), .int (L0 2), .int (L0 3)] s) 6 (x_stringOf__51 k 2) (fun L => [(0, .ref (a 0)), (1, .ref (a 51)), (2, .int (L 2)), (3, .int (L 3)), (4, .int (L 4)), (5, .int (L 5))]) 31 (fun L => [])) ∧ (bT p l e (headSpec w_x_stringOf__51 ({ frames := 2, cells := 0, slots := 0, locals := 44 })).room s m #[.ref (a 0), .ref (a 51), .int (L0 2), .int (L0 3)] below meth c dC dI cy a A (qI dC dI cy a A below #[.ref (a 0), .ref (a 51), .int (L0 2), .int (L0 3)] s) 6 (x_stringOf__51 k 3) (fun L => [(0, .ref (a 0)), (1, .ref (a 51)), (2, .int (L 2)), (3, .int (L 3)), (4, .int (L 4)), (5, .int (L 5))]) 62 (fun L => [])) ∧ (bT p l e (headSpec w_x_stringOf__51 ({ frames := 2, cells := 0, slots := 0, locals := 44 })).room s m #[.ref (a 0), .ref (a 51), .int (L0 2), .int (L0 3)] below meth c dC dI cy a A (qI dC dI cy a A below #[.ref (a 0), .ref (a 51), .int (L0 2), .int (L0 3)] s) 6 (x_stringOf__51 k 4) (fun L => [(0, .ref (a 0)), (1, .ref (a 51)), (2, .int (L 2)), (3, .int (L 3)), (4, .int (L 4)), (5, .int (L 5))]) 68 (fun L => [])) ∧ (bT p l e (headSpec w_x_stringOf__51 ({ frames := 2, cells := 0, slots := 0, locals := 44 })).room s m #[.ref (a 0), .ref (a 51), .int (L0 2), .int (L0 3)] below meth c dC dI cy a A (qI dC dI cy a A below #[.ref (a 0), .ref (a 51), .int (L0 2), .int (L0 3)] s) 6 (x_stringOf__51 k 5) (fun L => [(0, .ref (a 0)), (1, .ref (a 51)), (2, .int (L 2)), (3, .int (L 3)), (4, .int (L 4)), (5, .int (L 5))]) 84 (fun L => [])) := by
    intro k
    induction k with
    | zero => exact ⟨fun L σ r h => (by cases h), fun L σ r h => (by cases h), fun L σ r h => (by cases h), fun L σ r h => (by cases h), fun L σ r h => (by cases h), fun L σ r h => (by cases h)⟩
    | succ k ih =>
      refine ⟨?_, ?_, ?_, ?_, ?_, ?_⟩
      · intro L σ r h H locs ls hP hD hS hl
        rw [x_stringOf__51] at h
        refine lv_iconst (v := 1) hx hb dX12_stringOf_0 (by decide) ?_
        refine lv_iload_n hx hb dX12_stringOf_1 rfl (lv_at hl 3 rfl) ?_
        refine lv_iconst (v := 3) hx hb dX12_stringOf_2 (by decide) ?_
        refine lv_iadd hx hb dX12_stringOf_3 ?_
        refine lv_iconst (v := 4) hx hb dX12_stringOf_4 (by decide) ?_
        obtain ⟨q1, h⟩ := nb_ite0 h
        refine lv_idiv hx hb dX12_stringOf_5 q1 ?_
        refine lv_iadd hx hb dX12_stringOf_6 ?_
        refine lv_sipush (v := 1000) hx hb dX12_stringOf_7 (by decide) ?_
        refine lv_icmp_le (tgt := 20) hx hb dX12_stringOf_10 (by decide) (fun c2 => ?_) (fun c2 => ?_)
        · rw [if_pos c2] at h
          exact ih.2.1 L σ r h H locs ls hP hD hS (lv_sub hl [0, 1, 2, 3] rfl)
        · rw [if_neg c2] at h
          refine lv_aload_n hx hb dX12_stringOf_13 rfl (lv_at hl 0 rfl) ?_
          refine lv_iconst (v := 5) hx hb dX12_stringOf_14 (by decide) ?_
          obtain ⟨r3, hc3, h⟩ := ob_ex h
          refine nc_Vv (As := [.int 5]) (rest := []) ⟨hx, hb, hml, hown, hts⟩ (c_x_fail l dC dI cy a k (upd (fun _ => 0) 1 5) σ r3 hc3 H.size) (cwV 1 hts g_x_stringOf__51_fail_369 rfl rfl rfl hd_x_fail ⟨Nat.le_of_ble_eq_true rfl, Nat.le_of_ble_eq_true rfl⟩) hK hG hA hP hD hS rfl hl.1 rfl (Nat.le_of_ble_eq_true rfl) dX12_stringOf_15 ⟨Nat.le_refl _, Nat.le_refl _⟩ (fun H locs hP hD hS => ?_)
          refine lv_iconst (v := 0) hx hb dX12_stringOf_18 (by decide) ?_
          cases h
          exact W.iret (v := 0) hx hb hr (fun t ht hW => ⟨⟨0, (), rfl, rfl, by rw [ht]; exact hP, va_K.moved hW.alike hK, hD⟩, hS.F ht⟩) hS.2.2 dX12_stringOf_19
      · intro L σ r h H locs ls hP hD hS hl
        rw [x_stringOf__51] at h
        refine lv_aload_n hx hb dX12_stringOf_20 rfl (lv_at hl 0 rfl) ?_
        refine lv_iconst (v := 4) hx hb dX12_stringOf_21 (by decide) ?_
        refine lv_iload_n hx hb dX12_stringOf_22 rfl (lv_at hl 3 rfl) ?_
        obtain ⟨r1, hc1, h⟩ := ob_ex h
        refine nc_Vi (As := [.int 4, .int (L 3)]) (rest := []) ⟨hx, hb, hml, hown, hts⟩ (c_x_make l dC dI cy a k (upd (upd (fun _ => 0) 1 4) 2 ((L 3))) σ r1 hc1 H.size) (cwV 2 hts g_x_stringOf__51_make_429 rfl rfl rfl hd_x_make ⟨Nat.le_of_ble_eq_true rfl, Nat.le_of_ble_eq_true rfl⟩) hK hG hA hP hD hS rfl hl.1 rfl (Nat.le_of_ble_eq_true rfl) dX12_stringOf_23 ⟨Nat.le_refl _, Nat.le_refl _⟩ (fun H locs hP hD hS => ?_)
        refine lv_istore (lv' := [(4, .int r1.1), (0, .ref (a 0)), (1, .ref (a 51)), (2, .int (L 2)), (3, .int (L 3))]) hx hb dX12_stringOf_26 hl (by decide) rfl (fun ls hl => ?_)
        refine lv_iconst (v := 0) hx hb dX12_stringOf_28 (by decide) ?_
        refine lv_istore (lv' := [(5, .int 0), (4, .int r1.1), (0, .ref (a 0)), (1, .ref (a 51)), (2, .int (L 2)), (3, .int (L 3))]) hx hb dX12_stringOf_29 hl (by decide) rfl (fun ls hl => ?_)
        exact ih.2.2.1 (upd (upd L 4 r1.1) 5 0) r1.2 r h H locs ls hP hD hS (lv_sub hl [2, 3, 4, 5, 1, 0] rfl)
      · intro L σ r h H locs ls hP hD hS hl
        rw [x_stringOf__51] at h
        refine lv_iload hx hb dX12_stringOf_31 (lv_at hl 5 rfl) ?_
        refine lv_iload_n hx hb dX12_stringOf_33 rfl (lv_at hl 3 rfl) ?_
        refine lv_icmp_ge (tgt := 68) hx hb dX12_stringOf_34 (by decide) (fun c1 => ?_) (fun c1 => ?_)
        · rw [if_pos c1] at h
          exact ih.2.2.2.2.1 L σ r h H locs ls hP hD hS (lv_sub hl [0, 1, 2, 3, 4, 5] rfl)
        · rw [if_neg c1] at h
          refine lv_aload_n hx hb dX12_stringOf_37 rfl (lv_at hl 0 rfl) ?_
          refine ng_56 hx hb hts in_x_stringOf__51 hown hK hP (hts _ (List.mem_cons_of_mem _ (List.mem_append_left _ (List.mem_append_left _ (List.mem_of_getElem? (i := 7) rfl))))) dX12_stringOf_38 ?_
          refine lv_if_ne (tgt := 68) hx hb dX12_stringOf_41 (by decide) (fun c2 => ?_) (fun c2 => ?_)
          · rw [if_neg c2] at h
            exact ih.2.2.2.2.1 L σ r h H locs ls hP hD hS (lv_sub hl [0, 1, 2, 3, 4, 5] rfl)
          · rw [if_pos c2] at h
            refine lv_aload_n hx hb dX12_stringOf_44 rfl (lv_at hl 0 rfl) ?_
            refine ng_53 hx hb hts in_x_stringOf__51 hown hK hP (hts _ (List.mem_cons_of_mem _ (List.mem_append_left _ (List.mem_append_left _ (List.mem_of_getElem? (i := 8) rfl))))) dX12_stringOf_45 ?_
            refine lv_iload hx hb dX12_stringOf_48 (lv_at hl 4 rfl) ?_
            refine lv_iconst (v := 4) hx hb dX12_stringOf_50 (by decide) ?_
            refine lv_iadd hx hb dX12_stringOf_51 ?_
            refine lv_iload hx hb dX12_stringOf_52 (lv_at hl 5 rfl) ?_
            refine lv_iadd hx hb dX12_stringOf_54 ?_
            refine lv_aload_n hx hb dX12_stringOf_55 rfl (lv_at hl 1 rfl) ?_
            refine lv_iload_n hx hb dX12_stringOf_56 rfl (lv_at hl 2 rfl) ?_
            refine lv_iload hx hb dX12_stringOf_57 (lv_at hl 5 rfl) ?_
            refine lv_iadd hx hb dX12_stringOf_59 ?_
            obtain ⟨q3, h⟩ := nb_ite1 h
            refine nl_51 hx hb hK hP q3 dX12_stringOf_60 ?_
            obtain ⟨q4, h⟩ := nb_ite1 h
            refine ns_28 hx hb hK hP hD hS q4 dX12_stringOf_61 (fun H locs hP hD hS => ?_)
            exact ih.2.2.2.1 L (σ.1, σ.2.1, updG σ.2.2 28 (upd (σ.2.2 28) ((((((L 4)) + 4)) + ((L 5)))).toNatClampNeg ((σ.2.2 51 ((((L 2)) + ((L 5)))).toNatClampNeg)))) r h H locs ls hP hD hS (lv_sub hl [0, 1, 2, 3, 4, 5] rfl)
      · intro L σ r h H locs ls hP hD hS hl
        rw [x_stringOf__51] at h
        refine lv_iinc (v := ((L 5)) + 1) (lv' := [(5, .int (((L 5)) + 1)), (0, .ref (a 0)), (1, .ref (a 51)), (2, .int (L 2)), (3, .int (L 3)), (4, .int (L 4))]) hx hb dX12_stringOf_62 hl (k := 5) rfl rfl (by decide) rfl (fun ls hl => ?_)
        refine lv_goto (tgt := 31) hx hb dX12_stringOf_65 (by decide) ?_
        exact ih.2.2.1 (upd L 5 (((L 5)) + 1)) σ r h H locs ls hP hD hS (lv_sub hl [1, 2, 3, 4, 5, 0] rfl)
      · intro L σ r h H locs ls hP hD hS hl
        rw [x_stringOf__51] at h
        refine lv_aload_n hx hb dX12_stringOf_68 rfl (lv_at hl 0 rfl) ?_
        refine ng_53 hx hb hts in_x_stringOf__51 hown hK hP (hts _ (List.mem_cons_of_mem _ (List.mem_append_left _ (List.mem_append_left _ (List.mem_of_getElem? (i := 8) rfl))))) dX12_stringOf_69 ?_
        refine lv_iload hx hb dX12_stringOf_72 (lv_at hl 4 rfl) ?_
        refine lv_iconst (v := 2) hx hb dX12_stringOf_74 (by decide) ?_
        refine lv_iadd hx hb dX12_stringOf_75 ?_
        refine lv_iconst (v := 1) hx hb dX12_stringOf_76 (by decide) ?_
        refine lv_iload_n hx hb dX12_stringOf_77 rfl (lv_at hl 3 rfl) ?_
        refine lv_iconst (v := 3) hx hb dX12_stringOf_78 (by decide) ?_
        refine lv_iadd hx hb dX12_stringOf_79 ?_
        refine lv_iconst (v := 4) hx hb dX12_stringOf_80 (by decide) ?_
        obtain ⟨q1, h⟩ := nb_ite0 h
        refine lv_idiv hx hb dX12_stringOf_81 q1 ?_
        refine lv_iadd hx hb dX12_stringOf_82 ?_
        obtain ⟨q2, h⟩ := nb_ite1 h
        refine ns_28 hx hb hK hP hD hS q2 dX12_stringOf_83 (fun H locs hP hD hS => ?_)
        exact ih.2.2.2.2.2 L (σ.1, σ.2.1, updG σ.2.2 28 (upd (σ.2.2 28) ((((L 4)) + 2)).toNatClampNeg ((1 + ((((((L 3)) + 3)) / 4)))))) r h H locs ls hP hD hS (lv_sub hl [0, 1, 2, 3, 4, 5] rfl)
      · intro L σ r h H locs ls hP hD hS hl
        rw [x_stringOf__51] at h
        refine lv_iload hx hb dX12_stringOf_84 (lv_at hl 4 rfl) ?_
        cases h
        exact W.iret (v := (L 4)) hx hb hr (fun t ht hW => ⟨⟨(L 4), (), rfl, rfl, by rw [ht]; exact hP, va_K.moved hW.alike hK, hD⟩, hS.F ht⟩) hS.2.2 dX12_stringOf_86
  exact (blk k0).1 L0 σ0 r0 h0 s.heap [] ls hP hD hS hl
/-! reversed -/
def x_reversed : Nat → Nat → (Nat → Int32) → MS → Option (Int32 × MS)
  | 0, _, _, _ => none
  | k + 1, 0, L, σ => ob (x_kind k 0 (upd (fun _ => 0) 1 ((L 1))) σ) (fun r1 => if r1.1 = 4 then (x_reversed k 1 (upd L 2 r1.1) r1.2) else (if r1.1 = 5 then (x_reversed k 1 (upd L 2 r1.1) r1.2) else (ob (x_wrongKind k 0 (fun _ => 0) r1.2) (fun r4 => some (r4.1, r4.2)))))
  | k + 1, 1, L, σ => if ¬ (((((L 1)) + 1)) < 0 ∨ 1740000 ≤ ((((L 1)) + 1)).toNatClampNeg) then (if ((L 2)) = 4 then (x_reversed k 2 (upd (upd L 3 ((σ.2.2 28 ((((L 1)) + 1)).toNatClampNeg))) 4 0) σ) else (x_reversed k 5 (upd L 3 ((σ.2.2 28 ((((L 1)) + 1)).toNatClampNeg))) σ)) else none
  | k + 1, 2, L, σ => if ((L 3)) ≤ ((L 4)) then (x_reversed k 4 L σ) else (if ¬ (((((((((((L 1)) + 4)) + ((L 3)))) - 1)) - ((L 4)))) < 0 ∨ 1740000 ≤ ((((((((((L 1)) + 4)) + ((L 3)))) - 1)) - ((L 4)))).toNatClampNeg) then (if ¬ (((L 4)) < 0 ∨ 8200 ≤ ((L 4)).toNatClampNeg) then (x_reversed k 3 L (σ.1, σ.2.1, updG σ.2.2 51 (upd (σ.2.2 51) ((L 4)).toNatClampNeg ((σ.2.2 28 ((((((((((L 1)) + 4)) + ((L 3)))) - 1)) - ((L 4)))).toNatClampNeg))))) else none) else none)
  | k + 1, 3, L, σ => x_reversed k 2 (upd L 4 (((L 4)) + 1)) σ
  | k + 1, 4, L, σ => ob (x_stringOf__51 k 0 (upd (upd (fun _ => 0) 2 0) 3 ((L 3))) σ) (fun r1 => some (r1.1, r1.2))
  | k + 1, 5, L, σ => x_reversed k 6 (upd (upd L 4 ((σ.1 59))) 5 ((((L 3)) - 1))) σ
  | k + 1, 6, L, σ => if ((L 5)) < 0 then (x_reversed k 7 L σ) else (if ¬ (((((((L 1)) + 4)) + ((L 5)))) < 0 ∨ 1740000 ≤ ((((((L 1)) + 4)) + ((L 5)))).toNatClampNeg) then (ob (x_push k 0 (upd (fun _ => 0) 1 ((σ.2.2 28 ((((((L 1)) + 4)) + ((L 5)))).toNatClampNeg))) σ) (fun r3 => x_reversed k 6 (upd L 5 (((L 5)) + (-1))) r3.2)) else none)
  | k + 1, 7, L, σ => ob (x_tupleOf k 0 (upd (fun _ => 0) 1 ((L 4))) σ) (fun r1 => some (r1.1, r1.2))
  | _ + 1, _ + 8, _, _ => none
def o_x_reversed : List Cond := [.methodLink RX12 545 yX12_kind, .instanceMethod yX12_kind, .selects RX12 yX12_kind yX12_kind, .initialized RX12, .methodLink RX12 666 yX12_wrongKind, .instanceMethod yX12_wrongKind, .selects RX12 yX12_wrongKind yX12_wrongKind, .fieldLink RX12 372 "SetHouseModel" "heap" "[I", .fieldLink RX12 756 "SetHouseModel" "bytes" "[I", .methodLink RX12 597 yX12_stringOf, .instanceMethod yX12_stringOf, .selects RX12 yX12_stringOf yX12_stringOf, .fieldLink RX12 385 "SetHouseModel" "top" "I", .methodLink RX12 594 yX12_push, .instanceMethod yX12_push, .selects RX12 yX12_push yX12_push, .methodLink RX12 675 yX12_tupleOf, .instanceMethod yX12_tupleOf, .selects RX12 yX12_tupleOf yX12_tupleOf]
theorem o_x_reversed_good : o_x_reversed.all goodWord = true := by decide +kernel
def p_x_reversed : List Cond := o_x_reversed ++ ((.code yX12_kind cX12_kind 2 (some .int) :: p_x_kind) ++ ((.code yX12_wrongKind cX12_wrongKind 1 (some .int) :: p_x_wrongKind) ++ ((.code yX12_stringOf cX12_stringOf 6 (some .int) :: p_x_stringOf__51) ++ ((.code yX12_push cX12_push 2 none :: p_x_push) ++ ((.code yX12_tupleOf cX12_tupleOf 5 (some .int) :: p_x_tupleOf) ++ [])))))
theorem p_x_reversed_good : p_x_reversed.all goodWord = true := nb_all2 o_x_reversed_good (nb_all2 (nb_allc (by decide +kernel) p_x_kind_good) (nb_all2 (nb_allc (by decide +kernel) p_x_wrongKind_good) (nb_all2 (nb_allc (by decide +kernel) p_x_stringOf__51_good) (nb_all2 (nb_allc (by decide +kernel) p_x_push_good) (nb_all2 (nb_allc (by decide +kernel) p_x_tupleOf_good) rfl)))))
def w_x_reversed : List Cond := .code yX12_reversed cX12_reversed 6 (some .int) :: (p_x_reversed ++ fM)
theorem w_x_reversed_good : w_x_reversed.all goodWord = true := nb_allc (by decide +kernel) (nb_all2 p_x_reversed_good fM_good)
theorem in_x_reversed : ∀ w ∈ wsX120, w ∈ w_x_reversed := fun _ h => List.mem_cons_of_mem _ (List.mem_append_right _ h)
theorem hd_x_reversed : yX12_reversed.cls = RX12 ∧ yX12_reversed.cls ≠ "java/lang/invoke/MethodHandle" ∧ yX12_reversed.cls ≠ "java/lang/invoke/VarHandle" ∧ (parseMethodDescriptor yX12_reversed.desc).map (fun d => d.parameters.length) = some 1 := by decide +kernel
theorem gg_x_reversed_kind : GoodIn w_x_reversed w_x_kind := goodIn_sub (fun w h => (List.mem_cons.mp h).elim (fun e => (List.mem_cons_of_mem _ (List.mem_append_left _ (List.mem_append_right _ (List.mem_append_left _ (List.mem_cons.mpr (Or.inl e))))))) (fun h => (List.mem_append.mp h).elim (fun h => (List.mem_cons_of_mem _ (List.mem_append_left _ (List.mem_append_right _ (List.mem_append_left _ (List.mem_cons_of_mem _ h)))))) (fun h => List.mem_cons_of_mem _ (List.mem_append_right _ h)))) w_x_kind_good
theorem g_x_reversed_kind_545 : GoodIn w_x_reversed (wsV RX12 545 RX12 yX12_kind w_x_kind) := goodIn_app (nb_g4 (List.mem_cons_of_mem _ (List.mem_append_left _ (List.mem_append_left _ (List.mem_of_getElem? (i := 0) rfl)))) (List.mem_cons_of_mem _ (List.mem_append_left _ (List.mem_append_left _ (List.mem_of_getElem? (i := 1) rfl)))) (List.mem_cons_of_mem _ (List.mem_append_left _ (List.mem_append_left _ (List.mem_of_getElem? (i := 2) rfl)))) (List.mem_cons_of_mem _ (List.mem_append_left _ (List.mem_append_left _ (List.mem_of_getElem? (i := 3) rfl)))) (by decide +kernel)) gg_x_reversed_kind
theorem gg_x_reversed_push : GoodIn w_x_reversed w_x_push := goodIn_sub (fun w h => (List.mem_cons.mp h).elim (fun e => (List.mem_cons_of_mem _ (List.mem_append_left _ (List.mem_append_right _ (List.mem_append_right _ (List.mem_append_right _ (List.mem_append_right _ (List.mem_append_left _ (List.mem_cons.mpr (Or.inl e)))))))))) (fun h => (List.mem_append.mp h).elim (fun h => (List.mem_cons_of_mem _ (List.mem_append_left _ (List.mem_append_right _ (List.mem_append_right _ (List.mem_append_right _ (List.mem_append_right _ (List.mem_append_left _ (List.mem_cons_of_mem _ h))))))))) (fun h => List.mem_cons_of_mem _ (List.mem_append_right _ h)))) w_x_push_good
theorem g_x_reversed_push_594 : GoodIn w_x_reversed (wsV RX12 594 RX12 yX12_push w_x_push) := goodIn_app (nb_g4 (List.mem_cons_of_mem _ (List.mem_append_left _ (List.mem_append_left _ (List.mem_of_getElem? (i := 13) rfl)))) (List.mem_cons_of_mem _ (List.mem_append_left _ (List.mem_append_left _ (List.mem_of_getElem? (i := 14) rfl)))) (List.mem_cons_of_mem _ (List.mem_append_left _ (List.mem_append_left _ (List.mem_of_getElem? (i := 15) rfl)))) (List.mem_cons_of_mem _ (List.mem_append_left _ (List.mem_append_left _ (List.mem_of_getElem? (i := 3) rfl)))) (by decide +kernel)) gg_x_reversed_push
theorem gg_x_reversed_stringOf__51 : GoodIn w_x_reversed w_x_stringOf__51 := goodIn_sub (fun w h => (List.mem_cons.mp h).elim (fun e => (List.mem_cons_of_mem _ (List.mem_append_left _ (List.mem_append_right _ (List.mem_append_right _ (List.mem_append_right _ (List.mem_append_left _ (List.mem_cons.mpr (Or.inl e))))))))) (fun h => (List.mem_append.mp h).elim (fun h => (List.mem_cons_of_mem _ (List.mem_append_left _ (List.mem_append_right _ (List.mem_append_right _ (List.mem_append_right _ (List.mem_append_left _ (List.mem_cons_of_mem _ h)))))))) (fun h => List.mem_cons_of_mem _ (List.mem_append_right _ h)))) w_x_stringOf__51_good
theorem g_x_reversed_stringOf__51_597 : GoodIn w_x_reversed (wsV RX12 597 RX12 yX12_stringOf w_x_stringOf__51) := goodIn_app (nb_g4 (List.mem_cons_of_mem _ (List.mem_append_left _ (List.mem_append_left _ (List.mem_of_getElem? (i := 9) rfl)))) (List.mem_cons_of_mem _ (List.mem_append_left _ (List.mem_append_left _ (List.mem_of_getElem? (i := 10) rfl)))) (List.mem_cons_of_mem _ (List.mem_append_left _ (List.mem_append_left _ (List.mem_of_getElem? (i := 11) rfl)))) (List.mem_cons_of_mem _ (List.mem_append_left _ (List.mem_append_left _ (List.mem_of_getElem? (i := 3) rfl)))) (by decide +kernel)) gg_x_reversed_stringOf__51
theorem gg_x_reversed_tupleOf : GoodIn w_x_reversed w_x_tupleOf := goodIn_sub (fun w h => (List.mem_cons.mp h).elim (fun e => (List.mem_cons_of_mem _ (List.mem_append_left _ (List.mem_append_right _ (List.mem_append_right _ (List.mem_append_right _ (List.mem_append_right _ (List.mem_append_right _ (List.mem_append_left _ (List.mem_cons.mpr (Or.inl e))))))))))) (fun h => (List.mem_append.mp h).elim (fun h => (List.mem_cons_of_mem _ (List.mem_append_left _ (List.mem_append_right _ (List.mem_append_right _ (List.mem_append_right _ (List.mem_append_right _ (List.mem_append_right _ (List.mem_append_left _ (List.mem_cons_of_mem _ h)))))))))) (fun h => List.mem_cons_of_mem _ (List.mem_append_right _ h)))) w_x_tupleOf_good
theorem g_x_reversed_tupleOf_675 : GoodIn w_x_reversed (wsV RX12 675 RX12 yX12_tupleOf w_x_tupleOf) := goodIn_app (nb_g4 (List.mem_cons_of_mem _ (List.mem_append_left _ (List.mem_append_left _ (List.mem_of_getElem? (i := 16) rfl)))) (List.mem_cons_of_mem _ (List.mem_append_left _ (List.mem_append_left _ (List.mem_of_getElem? (i := 17) rfl)))) (List.mem_cons_of_mem _ (List.mem_append_left _ (List.mem_append_left _ (List.mem_of_getElem? (i := 18) rfl)))) (List.mem_cons_of_mem _ (List.mem_append_left _ (List.mem_append_left _ (List.mem_of_getElem? (i := 3) rfl)))) (by decide +kernel)) gg_x_reversed_tupleOf
theorem gg_x_reversed_wrongKind : GoodIn w_x_reversed w_x_wrongKind := goodIn_sub (fun w h => (List.mem_cons.mp h).elim (fun e => (List.mem_cons_of_mem _ (List.mem_append_left _ (List.mem_append_right _ (List.mem_append_right _ (List.mem_append_left _ (List.mem_cons.mpr (Or.inl e)))))))) (fun h => (List.mem_append.mp h).elim (fun h => (List.mem_cons_of_mem _ (List.mem_append_left _ (List.mem_append_right _ (List.mem_append_right _ (List.mem_append_left _ (List.mem_cons_of_mem _ h))))))) (fun h => List.mem_cons_of_mem _ (List.mem_append_right _ h)))) w_x_wrongKind_good
theorem g_x_reversed_wrongKind_666 : GoodIn w_x_reversed (wsV RX12 666 RX12 yX12_wrongKind w_x_wrongKind) := goodIn_app (nb_g4 (List.mem_cons_of_mem _ (List.mem_append_left _ (List.mem_append_left _ (List.mem_of_getElem? (i := 4) rfl)))) (List.mem_cons_of_mem _ (List.mem_append_left _ (List.mem_append_left _ (List.mem_of_getElem? (i := 5) rfl)))) (List.mem_cons_of_mem _ (List.mem_append_left _ (List.mem_append_left _ (List.mem_of_getElem? (i := 6) rfl)))) (List.mem_cons_of_mem _ (List.mem_append_left _ (List.mem_append_left _ (List.mem_of_getElem? (i := 3) rfl)))) (by decide +kernel)) gg_x_reversed_wrongKind
set_option maxHeartbeats 40000000 in
set_option maxRecDepth 100000 in
theorem c_x_reversed (l : Launch) (dC : Nat → ClassId) (dI : Nat → Nat → Nat) (cy : Nat → ClassId) (a : Nat → Nat) (k0 : Nat) (L0 : Nat → Int32) (σ0 : MS) (r0 : Int32 × MS) (h0 : x_reversed k0 0 L0 σ0 = some r0) (sz : Nat) : Met l yX12_reversed w_x_reversed ({ frames := 4, cells := 0, slots := 0, locals := 92 }) (va_Pc [.ref (a 0), .int (L0 1)] (nIn (dC, dI) cy sz (vM cy a σ0))) (va_Qi (fun (z : Int32) (_ : Unit) => z = r0.1) (fun _ t => nOut (dC, dI) cy (va_A (vM cy a σ0) sz) (vM cy a r0.2) t) (va_A (vM cy a σ0) sz)) 0 0 (va_A (vM cy a σ0) sz) := by
  refine Met.ofW (cc := cX12_reversed) (maxL := 6) (ret := (some .int)) (by decide) rfl ?_
  intro p e s m args below meth c s₁ B hml hv
  obtain ⟨rfl, hsz, hP, hK, hD0, hG⟩ := hv
  have hx := B.exec
  have hb := B.bytes
  have hr := B.returns
  have hts := atoms_spec (ws := w_x_reversed) B.pre
  have hown : s.vm.findClass RX12 = some m.cls := findClass_of_methodNamed B.named
  have hlocks := B.notSynchronized
  subst hsz
  have hD := hD0.self (sz := s.heap.size)
  generalize hAe : va_A (vM cy a σ0) s.heap.size = A at hD ⊢
  have hA : ∀ q : Nat, s.heap.size ≤ q → A q := fun q h => by rw [← hAe]; exact Or.inr h
  have hS : va_S A s.heap s.heap [] := va_S.rf
  have hl := lv_entry ([.ref (a 0), .int (L0 1)]) (n := 6) (Nat.le_of_ble_eq_true rfl)
  rw [lg_entry_eq]
  generalize (lg_sl ([.ref (a 0), .int (L0 1)]) ++ List.replicate (6 - (lg_sl ([.ref (a 0), .int (L0 1)])).length) Slot.unset).toArray = ls at hl ⊢
  have hl : lv_has ls 6 [(0, .ref (a 0)), (1, .int (L0 1))] := hl
  have blk : ∀ k : Nat, (bT p l e (headSpec w_x_reversed ({ frames := 4, cells := 0, slots := 0, locals := 92 })).room s m #[.ref (a 0), .int (L0 1)] below meth c dC dI cy a A (qI dC dI cy a A below #[.ref (a 0), .int (L0 1)] s) 6 (x_reversed k 0) (fun L => [(0, .ref (a 0)), (1, .int (L 1))]) 0 (fun L => [])) ∧ (bT p l e (headSpec w_x_reversed ({ frames := 4, cells := 0, slots := 0, locals := 92 })).room s m #[.ref (a 0), .int (L0 1)] below meth c dC dI cy a A (qI dC dI cy a A below #[.ref (a 0), .int (L0 1)] s) 6 (x_reversed k 1) (fun L => [(0, .ref (a 0)), (1, .int (L 1)), (2, .int (L 2))]) 21 (fun L => [])) ∧ (bT p l e (headSpec w_x_reversed ({ frames := 4, cells := 0, slots := 0, locals := 92 })).room s m #[.ref (a 0), .int (L0 1)] below meth c dC dI cy a A (qI dC dI cy a A below #[.ref (a 0), .int (L0 1)] s) 6 (x_reversed k 2) (fun L => [(0, .ref (a 0)), (1, .int (L 1)), (2, .int (L 2)), (3, .int (L 3)), (4, .int (L 4))]) 38 (fun L => [])) ∧ (bT p l e (headSpec w_x_reversed ({ frames := 4, cells := 0, slots := 0, locals := 92 })).room s m #[.ref (a 0), .int (L0 1)] below meth c dC dI cy a A (qI dC dI cy a A below #[.ref (a 0), .int (L0 1)] s) 6 (x_reversed k 3) (fun L => [(0, .ref (a 0)), (1, .int (L 1)), (2, .int (L 2)), (3, .int (L 3)), (4, .int (L 4))]) 66 (fun L => [])) ∧ (bT p l e (headSpec w_x_reversed ({ frames := 4, cells := 0, slots := 0, locals := 92 })).room s m #[.ref (a 0), .int (L0 1)] below meth c dC dI cy a A (qI dC dI cy a A below #[.ref (a 0), .int (L0 1)] s) 6 (x_reversed k 4) (fun L => [(0, .ref (a 0)), (1, .int (L 1)), (2, .int (L 2)), (3, .int (L 3)), (4, .int (L 4))]) 72 (fun L => [])) ∧ (bT p l e (headSpec w_x_reversed ({ frames := 4, cells := 0, slots := 0, locals := 92 })).room s m #[.ref (a 0), .int (L0 1)] below meth c dC dI cy a A (qI dC dI cy a A below #[.ref (a 0), .int (L0 1)] s) 6 (x_reversed k 5) (fun L => [(0, .ref (a 0)), (1, .int (L 1)), (2, .int (L 2)), (3, .int (L 3))]) 83 (fun L => [])) ∧ (bT p l e (headSpec w_x_reversed ({ frames := 4, cells := 0, slots := 0, locals := 92 })).room s m #[.ref (a 0), .int (L0 1)] below meth c dC dI cy a A (qI dC dI cy a A below #[.ref (a 0), .int (L0 1)] s) 6 (x_reversed k 6) (fun L => [(0, .ref (a 0)), (1, .int (L 1)), (2, .int (L 2)), (3, .int (L 3)), (4, .int (L 4)), (5, .int (L 5))]) 94 (fun L => [])) ∧ (bT p l e (headSpec w_x_reversed ({ frames := 4, cells := 0, slots := 0, locals := 92 })).room s m #[.ref (a 0), .int (L0 1)] below meth c dC dI cy a A (qI dC dI cy a A below #[.ref (a 0), .int (L0 1)] s) 6 (x_reversed k 7) (fun L => [(0, .ref (a 0)), (1, .int (L 1)), (2, .int (L 2)), (3, .int (L 3)), (4, .int (L 4)), (5, .int (L 5))]) 120 (fun L => [])) := by
    intro k
    induction k with
    | zero => exact ⟨fun L σ r h => (by cases h), fun L σ r h => (by cases h), fun L σ r h => (by cases h), fun L σ r h => (by cases h), fun L σ r h => (by cases h), fun L σ r h => (by cases h), fun L σ r h => (by cases h), fun L σ r h => (by cases h)⟩
    | succ k ih =>
      refine ⟨?_, ?_, ?_, ?_, ?_, ?_, ?_, ?_⟩
      · intro L σ r h H locs ls hP hD hS hl
        rw [x_reversed] at h
        refine lv_aload_n hx hb dX12_reversed_0 rfl (lv_at hl 0 rfl) ?_
        refine lv_iload_n hx hb dX12_reversed_1 rfl (lv_at hl 1 rfl) ?_
        obtain ⟨r1, hc1, h⟩ := ob_ex h
        refine nc_Vi (As := [.int (L 1)]) (rest := []) ⟨hx, hb, hml, hown, hts⟩ (c_x_kind l dC dI cy a k (upd (fun _ => 0) 1 ((L 1))) σ r1 hc1 H.size) (cwV 1 hts g_x_reversed_kind_545 rfl rfl rfl hd_x_kind ⟨Nat.le_of_ble_eq_true rfl, Nat.le_of_ble_eq_true rfl⟩) hK hG hA hP hD hS rfl hl.1 rfl (Nat.le_of_ble_eq_true rfl) dX12_reversed_2 ⟨Nat.le_refl _, Nat.le_refl _⟩ (fun H locs hP hD hS => ?_)
        refine lv_istore_n (lv' := [(2, .int r1.1), (0, .ref (a 0)), (1, .int (L 1))]) hx hb dX12_reversed_5 rfl hl (by decide) rfl (fun ls hl => ?_)
        refine lv_iload_n hx hb dX12_reversed_6 rfl (lv_at hl 0 rfl) ?_
        refine lv_iconst (v := 4) hx hb dX12_reversed_7 (by decide) ?_
        refine lv_icmp_eq (tgt := 21) hx hb dX12_reversed_8 (by decide) (fun c2 => ?_) (fun c2 => ?_)
        · rw [if_pos c2] at h
          exact ih.2.1 (upd L 2 r1.1) r1.2 r h H locs ls hP hD hS (lv_sub hl [1, 2, 0] rfl)
        · rw [if_neg c2] at h
          refine lv_iload_n hx hb dX12_reversed_11 rfl (lv_at hl 0 rfl) ?_
          refine lv_iconst (v := 5) hx hb dX12_reversed_12 (by decide) ?_
          refine lv_icmp_eq (tgt := 21) hx hb dX12_reversed_13 (by decide) (fun c3 => ?_) (fun c3 => ?_)
          · rw [if_pos c3] at h
            exact ih.2.1 (upd L 2 r1.1) r1.2 r h H locs ls hP hD hS (lv_sub hl [1, 2, 0] rfl)
          · rw [if_neg c3] at h
            refine lv_aload_n hx hb dX12_reversed_16 rfl (lv_at hl 1 rfl) ?_
            obtain ⟨r4, hc4, h⟩ := ob_ex h
            refine nc_Vi (As := []) (rest := []) ⟨hx, hb, hml, hown, hts⟩ (c_x_wrongKind l dC dI cy a k (fun _ => 0) r1.2 r4 hc4 H.size) (cwV 0 hts g_x_reversed_wrongKind_666 rfl rfl rfl hd_x_wrongKind ⟨Nat.le_of_ble_eq_true rfl, Nat.le_of_ble_eq_true rfl⟩) hK hG hA hP hD hS rfl hl.1 rfl (Nat.le_of_ble_eq_true rfl) dX12_reversed_17 ⟨Nat.le_refl _, Nat.le_refl _⟩ (fun H locs hP hD hS => ?_)
            cases h
            exact W.iret (v := r4.1) hx hb hr (fun t ht hW => ⟨⟨r4.1, (), rfl, rfl, by rw [ht]; exact hP, va_K.moved hW.alike hK, hD⟩, hS.F ht⟩) hS.2.2 dX12_reversed_20
      · intro L σ r h H locs ls hP hD hS hl
        rw [x_reversed] at h
        refine lv_aload_n hx hb dX12_reversed_21 rfl (lv_at hl 0 rfl) ?_
        refine ng_53 hx hb hts in_x_reversed hown hK hP (hts _ (List.mem_cons_of_mem _ (List.mem_append_left _ (List.mem_append_left _ (List.mem_of_getElem? (i := 7) rfl))))) dX12_reversed_22 ?_
        refine lv_iload_n hx hb dX12_reversed_25 rfl (lv_at hl 1 rfl) ?_
        refine lv_iconst (v := 1) hx hb dX12_reversed_26 (by decide) ?_
        refine lv_iadd hx hb dX12_reversed_27 ?_
        obtain ⟨q1, h⟩ := nb_ite1 h
        refine nl_28 hx hb hK hP q1 dX12_reversed_28 ?_
        refine lv_istore_n (lv' := [(3, .int (σ.2.2 28 ((((L 1)) + 1)).toNatClampNeg)), (0, .ref (a 0)), (1, .int (L 1)), (2, .int (L 2))]) hx hb dX12_reversed_29 rfl hl (by decide) rfl (fun ls hl => ?_)
        refine lv_iload_n hx hb dX12_reversed_30 rfl (lv_at hl 3 rfl) ?_
        refine lv_iconst (v := 4) hx hb dX12_reversed_31 (by decide) ?_
        refine lv_icmp_ne (tgt := 83) hx hb dX12_reversed_32 (by decide) (fun c2 => ?_) (fun c2 => ?_)
        · rw [if_neg c2] at h
          exact ih.2.2.2.2.2.1 (upd L 3 ((σ.2.2 28 ((((L 1)) + 1)).toNatClampNeg))) σ r h H locs ls hP hD hS (lv_sub hl [1, 2, 3, 0] rfl)
        · rw [if_pos c2] at h
          refine lv_iconst (v := 0) hx hb dX12_reversed_35 (by decide) ?_
          refine lv_istore (lv' := [(4, .int 0), (3, .int (σ.2.2 28 ((((L 1)) + 1)).toNatClampNeg)), (0, .ref (a 0)), (1, .int (L 1)), (2, .int (L 2))]) hx hb dX12_reversed_36 hl (by decide) rfl (fun ls hl => ?_)
          exact ih.2.2.1 (upd (upd L 3 ((σ.2.2 28 ((((L 1)) + 1)).toNatClampNeg))) 4 0) σ r h H locs ls hP hD hS (lv_sub hl [2, 3, 4, 1, 0] rfl)
      · intro L σ r h H locs ls hP hD hS hl
        rw [x_reversed] at h
        refine lv_iload hx hb dX12_reversed_38 (lv_at hl 4 rfl) ?_
        refine lv_iload_n hx hb dX12_reversed_40 rfl (lv_at hl 3 rfl) ?_
        refine lv_icmp_ge (tgt := 72) hx hb dX12_reversed_41 (by decide) (fun c1 => ?_) (fun c1 => ?_)
        · rw [if_pos c1] at h
          exact ih.2.2.2.2.1 L σ r h H locs ls hP hD hS (lv_sub hl [0, 1, 2, 3, 4] rfl)
        · rw [if_neg c1] at h
          refine lv_aload_n hx hb dX12_reversed_44 rfl (lv_at hl 0 rfl) ?_
          refine ng_99 hx hb hts in_x_reversed hown hK hP (hts _ (List.mem_cons_of_mem _ (List.mem_append_left _ (List.mem_append_left _ (List.mem_of_getElem? (i := 8) rfl))))) dX12_reversed_45 ?_
          refine lv_iload hx hb dX12_reversed_48 (lv_at hl 4 rfl) ?_
          refine lv_aload_n hx hb dX12_reversed_50 rfl (lv_at hl 0 rfl) ?_
          refine ng_53 hx hb hts in_x_reversed hown hK hP (hts _ (List.mem_cons_of_mem _ (List.mem_append_left _ (List.mem_append_left _ (List.mem_of_getElem? (i := 7) rfl))))) dX12_reversed_51 ?_
          refine lv_iload_n hx hb dX12_reversed_54 rfl (lv_at hl 1 rfl) ?_
          refine lv_iconst (v := 4) hx hb dX12_reversed_55 (by decide) ?_
          refine lv_iadd hx hb dX12_reversed_56 ?_
          refine lv_iload_n hx hb dX12_reversed_57 rfl (lv_at hl 3 rfl) ?_
          refine lv_iadd hx hb dX12_reversed_58 ?_
          refine lv_iconst (v := 1) hx hb dX12_reversed_59 (by decide) ?_
          refine lv_isub hx hb dX12_reversed_60 ?_
          refine lv_iload hx hb dX12_reversed_61 (lv_at hl 4 rfl) ?_
          refine lv_isub hx hb dX12_reversed_63 ?_
          obtain ⟨q2, h⟩ := nb_ite1 h
          refine nl_28 hx hb hK hP q2 dX12_reversed_64 ?_
          obtain ⟨q3, h⟩ := nb_ite1 h
          refine ns_51 hx hb hK hP hD hS q3 dX12_reversed_65 (fun H locs hP hD hS => ?_)
          exact ih.2.2.2.1 L (σ.1, σ.2.1, updG σ.2.2 51 (upd (σ.2.2 51) ((L 4)).toNatClampNeg ((σ.2.2 28 ((((((((((L 1)) + 4)) + ((L 3)))) - 1)) - ((L 4)))).toNatClampNeg)))) r h H locs ls hP hD hS (lv_sub hl [0, 1, 2, 3, 4] rfl)
      · intro L σ r h H locs ls hP hD hS hl
        rw [x_reversed] at h
        refine lv_iinc (v := ((L 4)) + 1) (lv' := [(4, .int (((L 4)) + 1)), (0, .ref (a 0)), (1, .int (L 1)), (2, .int (L 2)), (3, .int (L 3))]) hx hb dX12_reversed_66 hl (k := 4) rfl rfl (by decide) rfl (fun ls hl => ?_)
        refine lv_goto (tgt := 38) hx hb dX12_reversed_69 (by decide) ?_
        exact ih.2.2.1 (upd L 4 (((L 4)) + 1)) σ r h H locs ls hP hD hS (lv_sub hl [1, 2, 3, 4, 0] rfl)
      · intro L σ r h H locs ls hP hD hS hl
        rw [x_reversed] at h
        refine lv_aload_n hx hb dX12_reversed_72 rfl (lv_at hl 0 rfl) ?_
        refine lv_aload_n hx hb dX12_reversed_73 rfl (lv_at hl 0 rfl) ?_
        refine ng_99 hx hb hts in_x_reversed hown hK hP (hts _ (List.mem_cons_of_mem _ (List.mem_append_left _ (List.mem_append_left _ (List.mem_of_getElem? (i := 8) rfl))))) dX12_reversed_74 ?_
        refine lv_iconst (v := 0) hx hb dX12_reversed_77 (by decide) ?_
        refine lv_iload_n hx hb dX12_reversed_78 rfl (lv_at hl 3 rfl) ?_
        obtain ⟨r1, hc1, h⟩ := ob_ex h
        refine nc_Vi (As := [.ref (a 51), .int 0, .int (L 3)]) (rest := []) ⟨hx, hb, hml, hown, hts⟩ (c_x_stringOf__51 l dC dI cy a k (upd (upd (fun _ => 0) 2 0) 3 ((L 3))) σ r1 hc1 H.size) (cwV 3 hts g_x_reversed_stringOf__51_597 rfl rfl rfl hd_x_stringOf__51 ⟨Nat.le_of_ble_eq_true rfl, Nat.le_of_ble_eq_true rfl⟩) hK hG hA hP hD hS rfl hl.1 rfl (Nat.le_of_ble_eq_true rfl) dX12_reversed_79 ⟨Nat.le_refl _, Nat.le_refl _⟩ (fun H locs hP hD hS => ?_)
        cases h
        exact W.iret (v := r1.1) hx hb hr (fun t ht hW => ⟨⟨r1.1, (), rfl, rfl, by rw [ht]; exact hP, va_K.moved hW.alike hK, hD⟩, hS.F ht⟩) hS.2.2 dX12_reversed_82
      · intro L σ r h H locs ls hP hD hS hl
        rw [x_reversed] at h
        refine lv_aload_n hx hb dX12_reversed_83 rfl (lv_at hl 0 rfl) ?_
        refine ng_59 hx hb hts in_x_reversed hown hK hP (hts _ (List.mem_cons_of_mem _ (List.mem_append_left _ (List.mem_append_left _ (List.mem_of_getElem? (i := 12) rfl))))) dX12_reversed_84 ?_
        refine lv_istore (lv' := [(4, .int (σ.1 59)), (0, .ref (a 0)), (1, .int (L 1)), (2, .int (L 2)), (3, .int (L 3))]) hx hb dX12_reversed_87 hl (by decide) rfl (fun ls hl => ?_)
        refine lv_iload_n hx hb dX12_reversed_89 rfl (lv_at hl 4 rfl) ?_
        refine lv_iconst (v := 1) hx hb dX12_reversed_90 (by decide) ?_
        refine lv_isub hx hb dX12_reversed_91 ?_
        refine lv_istore (lv' := [(5, .int (((L 3)) - 1)), (4, .int (σ.1 59)), (0, .ref (a 0)), (1, .int (L 1)), (2, .int (L 2)), (3, .int (L 3))]) hx hb dX12_reversed_92 hl (by decide) rfl (fun ls hl => ?_)
        exact ih.2.2.2.2.2.2.1 (upd (upd L 4 ((σ.1 59))) 5 ((((L 3)) - 1))) σ r h H locs ls hP hD hS (lv_sub hl [2, 3, 4, 5, 1, 0] rfl)
      · intro L σ r h H locs ls hP hD hS hl
        rw [x_reversed] at h
        refine lv_iload hx hb dX12_reversed_94 (lv_at hl 5 rfl) ?_
        refine lv_if_lt (tgt := 120) hx hb dX12_reversed_96 (by decide) (fun c1 => ?_) (fun c1 => ?_)
        · rw [if_pos c1] at h
          exact ih.2.2.2.2.2.2.2 L σ r h H locs ls hP hD hS (lv_sub hl [0, 1, 2, 3, 4, 5] rfl)
        · rw [if_neg c1] at h
          refine lv_aload_n hx hb dX12_reversed_99 rfl (lv_at hl 0 rfl) ?_
          refine lv_aload_n hx hb dX12_reversed_100 rfl (lv_at hl 0 rfl) ?_
          refine ng_53 hx hb hts in_x_reversed hown hK hP (hts _ (List.mem_cons_of_mem _ (List.mem_append_left _ (List.mem_append_left _ (List.mem_of_getElem? (i := 7) rfl))))) dX12_reversed_101 ?_
          refine lv_iload_n hx hb dX12_reversed_104 rfl (lv_at hl 1 rfl) ?_
          refine lv_iconst (v := 4) hx hb dX12_reversed_105 (by decide) ?_
          refine lv_iadd hx hb dX12_reversed_106 ?_
          refine lv_iload hx hb dX12_reversed_107 (lv_at hl 5 rfl) ?_
          refine lv_iadd hx hb dX12_reversed_109 ?_
          obtain ⟨q2, h⟩ := nb_ite1 h
          refine nl_28 hx hb hK hP q2 dX12_reversed_110 ?_
          obtain ⟨r3, hc3, h⟩ := ob_ex h
          refine nc_Vv (As := [.int (σ.2.2 28 ((((((L 1)) + 4)) + ((L 5)))).toNatClampNeg)]) (rest := []) ⟨hx, hb, hml, hown, hts⟩ (c_x_push l dC dI cy a k (upd (fun _ => 0) 1 ((σ.2.2 28 ((((((L 1)) + 4)) + ((L 5)))).toNatClampNeg))) σ r3 hc3 H.size) (cwV 1 hts g_x_reversed_push_594 rfl rfl rfl hd_x_push ⟨Nat.le_of_ble_eq_true rfl, Nat.le_of_ble_eq_true rfl⟩) hK hG hA hP hD hS rfl hl.1 rfl (Nat.le_of_ble_eq_true rfl) dX12_reversed_111 ⟨Nat.le_refl _, Nat.le_refl _⟩ (fun H locs hP hD hS => ?_)
          refine lv_iinc (v := ((L 5)) + (-1)) (lv' := [(5, .int (((L 5)) + (-1))), (0, .ref (a 0)), (1, .int (L 1)), (2, .int (L 2)), (3, .int (L 3)), (4, .int (L 4))]) hx hb dX12_reversed_114 hl (k := 5) rfl rfl (by decide) rfl (fun ls hl => ?_)
          refine lv_goto (tgt := 94) hx hb dX12_reversed_117 (by decide) ?_
          exact ih.2.2.2.2.2.2.1 (upd L 5 (((L 5)) + (-1))) r3.2 r h H locs ls hP hD hS (lv_sub hl [1, 2, 3, 4, 5, 0] rfl)
      · intro L σ r h H locs ls hP hD hS hl
        rw [x_reversed] at h
        refine lv_aload_n hx hb dX12_reversed_120 rfl (lv_at hl 0 rfl) ?_
        refine lv_iload hx hb dX12_reversed_121 (lv_at hl 4 rfl) ?_
        obtain ⟨r1, hc1, h⟩ := ob_ex h
        refine nc_Vi (As := [.int (L 4)]) (rest := []) ⟨hx, hb, hml, hown, hts⟩ (c_x_tupleOf l dC dI cy a k (upd (fun _ => 0) 1 ((L 4))) σ r1 hc1 H.size) (cwV 1 hts g_x_reversed_tupleOf_675 rfl rfl rfl hd_x_tupleOf ⟨Nat.le_of_ble_eq_true rfl, Nat.le_of_ble_eq_true rfl⟩) hK hG hA hP hD hS rfl hl.1 rfl (Nat.le_of_ble_eq_true rfl) dX12_reversed_123 ⟨Nat.le_refl _, Nat.le_refl _⟩ (fun H locs hP hD hS => ?_)
        cases h
        exact W.iret (v := r1.1) hx hb hr (fun t ht hW => ⟨⟨r1.1, (), rfl, rfl, by rw [ht]; exact hP, va_K.moved hW.alike hK, hD⟩, hS.F ht⟩) hS.2.2 dX12_reversed_126
  exact (blk k0).1 L0 σ0 r0 h0 s.heap [] ls hP hD hS hl
/-! isMap -/
def x_isMap : Nat → Nat → (Nat → Int32) → MS → Option (Int32 × MS)
  | 0, _, _, _ => none
  | k + 1, 0, L, σ => ob (x_kind k 0 (upd (fun _ => 0) 1 ((L 1))) σ) (fun r1 => if r1.1 = 6 then (x_isMap k 2 (upd L 100 1) r1.2) else (x_isMap k 1 L r1.2))
  | k + 1, 1, L, σ => x_isMap k 2 (upd L 100 0) σ
  | k + 1, 2, L, σ => x_isMap k 3 (upd (upd L 2 ((L 100))) 3 0) σ
  | k + 1, 3, L, σ => if ((L 2)) = 0 then (x_isMap k 6 L σ) else (if ¬ (((((L 1)) + 1)) < 0 ∨ 1740000 ≤ ((((L 1)) + 1)).toNatClampNeg) then (if ((σ.2.2 28 ((((L 1)) + 1)).toNatClampNeg)) ≤ ((L 3)) then (x_isMap k 6 L σ) else (if ¬ (((((((L 1)) + 4)) + ((L 3)))) < 0 ∨ 1740000 ≤ ((((((L 1)) + 4)) + ((L 3)))).toNatClampNeg) then (ob (x_kind k 0 (upd (fun _ => 0) 1 ((σ.2.2 28 ((((((L 1)) + 4)) + ((L 3)))).toNatClampNeg))) σ) (fun r5 => if r5.1 = 5 then (if ¬ (((((σ.2.2 28 ((((((L 1)) + 4)) + ((L 3)))).toNatClampNeg)) + 1)) < 0 ∨ 1740000 ≤ ((((σ.2.2 28 ((((((L 1)) + 4)) + ((L 3)))).toNatClampNeg)) + 1)).toNatClampNeg) then (if ((r5.2.2.2 28 ((((σ.2.2 28 ((((((L 1)) + 4)) + ((L 3)))).toNatClampNeg)) + 1)).toNatClampNeg)) = 2 then (x_isMap k 5 (upd (upd L 4 ((σ.2.2 28 ((((((L 1)) + 4)) + ((L 3)))).toNatClampNeg))) 100 1) r5.2) else (x_isMap k 4 (upd L 4 ((σ.2.2 28 ((((((L 1)) + 4)) + ((L 3)))).toNatClampNeg))) r5.2)) else none) else (x_isMap k 4 (upd L 4 ((σ.2.2 28 ((((((L 1)) + 4)) + ((L 3)))).toNatClampNeg))) r5.2))) else none)) else none)
  | k + 1, 4, L, σ => x_isMap k 5 (upd L 100 0) σ
  | k + 1, 5, L, σ => x_isMap k 3 (upd (upd L 2 ((L 100))) 3 (((L 3)) + 1)) σ
  | k + 1, 6, L, σ => if ((L 2)) = 0 ∨ ((L 2)) = 1 then some ((L 2), σ) else none
  | _ + 1, _ + 7, _, _ => none
def o_x_isMap : List Cond := [.methodLink RX12 545 yX12_kind, .instanceMethod yX12_kind, .selects RX12 yX12_kind yX12_kind, .initialized RX12, .fieldLink RX12 372 "SetHouseModel" "heap" "[I"]
theorem o_x_isMap_good : o_x_isMap.all goodWord = true := by decide +kernel
def p_x_isMap : List Cond := o_x_isMap ++ ((.code yX12_kind cX12_kind 2 (some .int) :: p_x_kind) ++ [])
theorem p_x_isMap_good : p_x_isMap.all goodWord = true := nb_all2 o_x_isMap_good (nb_all2 (nb_allc (by decide +kernel) p_x_kind_good) rfl)
def w_x_isMap : List Cond := .code yX12_isMap cX12_isMap 5 (some .boolean) :: (p_x_isMap ++ fM)
theorem w_x_isMap_good : w_x_isMap.all goodWord = true := nb_allc (by decide +kernel) (nb_all2 p_x_isMap_good fM_good)
theorem in_x_isMap : ∀ w ∈ wsX120, w ∈ w_x_isMap := fun _ h => List.mem_cons_of_mem _ (List.mem_append_right _ h)
theorem hd_x_isMap : yX12_isMap.cls = RX12 ∧ yX12_isMap.cls ≠ "java/lang/invoke/MethodHandle" ∧ yX12_isMap.cls ≠ "java/lang/invoke/VarHandle" ∧ (parseMethodDescriptor yX12_isMap.desc).map (fun d => d.parameters.length) = some 1 := by decide +kernel
theorem gg_x_isMap_kind : GoodIn w_x_isMap w_x_kind := goodIn_sub (fun w h => (List.mem_cons.mp h).elim (fun e => (List.mem_cons_of_mem _ (List.mem_append_left _ (List.mem_append_right _ (List.mem_append_left _ (List.mem_cons.mpr (Or.inl e))))))) (fun h => (List.mem_append.mp h).elim (fun h => (List.mem_cons_of_mem _ (List.mem_append_left _ (List.mem_append_right _ (List.mem_append_left _ (List.mem_cons_of_mem _ h)))))) (fun h => List.mem_cons_of_mem _ (List.mem_append_right _ h)))) w_x_kind_good
theorem g_x_isMap_kind_545 : GoodIn w_x_isMap (wsV RX12 545 RX12 yX12_kind w_x_kind) := goodIn_app (nb_g4 (List.mem_cons_of_mem _ (List.mem_append_left _ (List.mem_append_left _ (List.mem_of_getElem? (i := 0) rfl)))) (List.mem_cons_of_mem _ (List.mem_append_left _ (List.mem_append_left _ (List.mem_of_getElem? (i := 1) rfl)))) (List.mem_cons_of_mem _ (List.mem_append_left _ (List.mem_append_left _ (List.mem_of_getElem? (i := 2) rfl)))) (List.mem_cons_of_mem _ (List.mem_append_left _ (List.mem_append_left _ (List.mem_of_getElem? (i := 3) rfl)))) (by decide +kernel)) gg_x_isMap_kind
set_option maxHeartbeats 40000000 in
set_option maxRecDepth 100000 in
theorem c_x_isMap (l : Launch) (dC : Nat → ClassId) (dI : Nat → Nat → Nat) (cy : Nat → ClassId) (a : Nat → Nat) (k0 : Nat) (L0 : Nat → Int32) (σ0 : MS) (r0 : Int32 × MS) (h0 : x_isMap k0 0 L0 σ0 = some r0) (sz : Nat) : Met l yX12_isMap w_x_isMap ({ frames := 1, cells := 0, slots := 0, locals := 21 }) (va_Pc [.ref (a 0), .int (L0 1)] (nIn (dC, dI) cy sz (vM cy a σ0))) (va_Qi (fun (z : Int32) (_ : Unit) => z = r0.1) (fun _ t => nOut (dC, dI) cy (va_A (vM cy a σ0) sz) (vM cy a r0.2) t) (va_A (vM cy a σ0) sz)) 0 0 (va_A (vM cy a σ0) sz) := by
  refine Met.ofW (cc := cX12_isMap) (maxL := 5) (ret := (some .boolean)) (by decide) rfl ?_
  intro p e s m args below meth c s₁ B hml hv
  obtain ⟨rfl, hsz, hP, hK, hD0, hG⟩ := hv
  have hx := B.exec
  have hb := B.bytes
  have hr := B.returns
  have hts := atoms_spec (ws := w_x_isMap) B.pre
  have hown : s.vm.findClass RX12 = some m.cls := findClass_of_methodNamed B.named
  have hlocks := B.notSynchronized
  subst hsz
  have hD := hD0.self (sz := s.heap.size)
  generalize hAe : va_A (vM cy a σ0) s.heap.size = A at hD ⊢
  have hA : ∀ q : Nat, s.heap.size ≤ q → A q := fun q h => by rw [← hAe]; exact Or.inr h
  have hS : va_S A s.heap s.heap [] := va_S.rf
  have hl := lv_entry ([.ref (a 0), .int (L0 1)]) (n := 5) (Nat.le_of_ble_eq_true rfl)
  rw [lg_entry_eq]
  generalize (lg_sl ([.ref (a 0), .int (L0 1)]) ++ List.replicate (5 - (lg_sl ([.ref (a 0), .int (L0 1)])).length) Slot.unset).toArray = ls at hl ⊢
  have hl : lv_has ls 5 [(0, .ref (a 0)), (1, .int (L0 1))] := hl
  have blk : ∀ k : Nat, (bT p l e (headSpec w_x_isMap ({ frames := 1, cells := 0, slots := 0, locals := 21 })).room s m #[.ref (a 0), .int (L0 1)] below meth c dC dI cy a A (qI dC dI cy a A below #[.ref (a 0), .int (L0 1)] s) 5 (x_isMap k 0) (fun L => [(0, .ref (a 0)), (1, .int (L 1))]) 0 (fun L => [])) ∧ (bT p l e (headSpec w_x_isMap ({ frames := 1, cells := 0, slots := 0, locals := 21 })).room s m #[.ref (a 0), .int (L0 1)] below meth c dC dI cy a A (qI dC dI cy a A below #[.ref (a 0), .int (L0 1)] s) 5 (x_isMap k 1) (fun L => [(0, .ref (a 0)), (1, .int (L 1))]) 14 (fun L => [])) ∧ (bT p l e (headSpec w_x_isMap ({ frames := 1, cells := 0, slots := 0, locals := 21 })).room s m #[.ref (a 0), .int (L0 1)] below meth c dC dI cy a A (qI dC dI cy a A below #[.ref (a 0), .int (L0 1)] s) 5 (x_isMap k 2) (fun L => [(0, .ref (a 0)), (1, .int (L 1))]) 15 (fun L => [.int (L 100)])) ∧ (bT p l e (headSpec w_x_isMap ({ frames := 1, cells := 0, slots := 0, locals := 21 })).room s m #[.ref (a 0), .int (L0 1)] below meth c dC dI cy a A (qI dC dI cy a A below #[.ref (a 0), .int (L0 1)] s) 5 (x_isMap k 3) (fun L => [(0, .ref (a 0)), (1, .int (L 1)), (2, .int (L 2)), (3, .int (L 3))]) 18 (fun L => [])) ∧ (bT p l e (headSpec w_x_isMap ({ frames := 1, cells := 0, slots := 0, locals := 21 })).room s m #[.ref (a 0), .int (L0 1)] below meth c dC dI cy a A (qI dC dI cy a A below #[.ref (a 0), .int (L0 1)] s) 5 (x_isMap k 4) (fun L => [(0, .ref (a 0)), (1, .int (L 1)), (2, .int (L 2)), (3, .int (L 3)), (4, .int (L 4))]) 73 (fun L => [])) ∧ (bT p l e (headSpec w_x_isMap ({ frames := 1, cells := 0, slots := 0, locals := 21 })).room s m #[.ref (a 0), .int (L0 1)] below meth c dC dI cy a A (qI dC dI cy a A below #[.ref (a 0), .int (L0 1)] s) 5 (x_isMap k 5) (fun L => [(0, .ref (a 0)), (1, .int (L 1)), (2, .int (L 2)), (3, .int (L 3)), (4, .int (L 4))]) 74 (fun L => [.int (L 100)])) ∧ (bT p l e (headSpec w_x_isMap ({ frames := 1, cells := 0, slots := 0, locals := 21 })).room s m #[.ref (a 0), .int (L0 1)] below meth c dC dI cy a A (qI dC dI cy a A below #[.ref (a 0), .int (L0 1)] s) 5 (x_isMap k 6) (fun L => [(0, .ref (a 0)), (1, .int (L 1)), (2, .int (L 2)), (3, .int (L 3))]) 81 (fun L => [])) := by
    intro k
    induction k with
    | zero => exact ⟨fun L σ r h => (by cases h), fun L σ r h => (by cases h), fun L σ r h => (by cases h), fun L σ r h => (by cases h), fun L σ r h => (by cases h), fun L σ r h => (by cases h), fun L σ r h => (by cases h)⟩
    | succ k ih =>
      refine ⟨?_, ?_, ?_, ?_, ?_, ?_, ?_⟩
      · intro L σ r h H locs ls hP hD hS hl
        rw [x_isMap] at h
        refine lv_aload_n hx hb dX12_isMap_0 rfl (lv_at hl 0 rfl) ?_
        refine lv_iload_n hx hb dX12_isMap_1 rfl (lv_at hl 1 rfl) ?_
        obtain ⟨r1, hc1, h⟩ := ob_ex h
        refine nc_Vi (As := [.int (L 1)]) (rest := []) ⟨hx, hb, hml, hown, hts⟩ (c_x_kind l dC dI cy a k (upd (fun _ => 0) 1 ((L 1))) σ r1 hc1 H.size) (cwV 1 hts g_x_isMap_kind_545 rfl rfl rfl hd_x_kind ⟨Nat.le_of_ble_eq_true rfl, Nat.le_of_ble_eq_true rfl⟩) hK hG hA hP hD hS rfl hl.1 rfl (Nat.le_of_ble_eq_true rfl) dX12_isMap_2 ⟨Nat.le_refl _, Nat.le_refl _⟩ (fun H locs hP hD hS => ?_)
        refine lv_bipush (v := 6) hx hb dX12_isMap_5 (by decide) ?_
        refine lv_icmp_ne (tgt := 14) hx hb dX12_isMap_7 (by decide) (fun c2 => ?_) (fun c2 => ?_)
        · rw [if_neg c2] at h
          exact ih.2.1 L r1.2 r h H locs ls hP hD hS (lv_sub hl [0, 1] rfl)
        · rw [if_pos c2] at h
          refine lv_iconst (v := 1) hx hb dX12_isMap_10 (by decide) ?_
          refine lv_goto (tgt := 15) hx hb dX12_isMap_11 (by decide) ?_
          exact ih.2.2.1 (upd L 100 1) r1.2 r h H locs ls hP hD hS (lv_sub hl [0, 1] rfl)
      · intro L σ r h H locs ls hP hD hS hl
        rw [x_isMap] at h
        refine lv_iconst (v := 0) hx hb dX12_isMap_14 (by decide) ?_
        exact ih.2.2.1 (upd L 100 0) σ r h H locs ls hP hD hS (lv_sub hl [0, 1] rfl)
      · intro L σ r h H locs ls hP hD hS hl
        rw [x_isMap] at h
        refine lv_istore_n (lv' := [(2, .int (L 100)), (0, .ref (a 0)), (1, .int (L 1))]) hx hb dX12_isMap_15 rfl hl (by decide) rfl (fun ls hl => ?_)
        refine lv_iconst (v := 0) hx hb dX12_isMap_16 (by decide) ?_
        refine lv_istore_n (lv' := [(3, .int 0), (2, .int (L 100)), (0, .ref (a 0)), (1, .int (L 1))]) hx hb dX12_isMap_17 rfl hl (by decide) rfl (fun ls hl => ?_)
        exact ih.2.2.2.1 (upd (upd L 2 ((L 100))) 3 0) σ r h H locs ls hP hD hS (lv_sub hl [2, 3, 1, 0] rfl)
      · intro L σ r h H locs ls hP hD hS hl
        rw [x_isMap] at h
        refine lv_iload_n hx hb dX12_isMap_18 rfl (lv_at hl 2 rfl) ?_
        refine lv_if_eq (tgt := 81) hx hb dX12_isMap_19 (by decide) (fun c1 => ?_) (fun c1 => ?_)
        · rw [if_pos c1] at h
          exact ih.2.2.2.2.2.2 L σ r h H locs ls hP hD hS (lv_sub hl [0, 1, 2, 3] rfl)
        · rw [if_neg c1] at h
          refine lv_iload_n hx hb dX12_isMap_22 rfl (lv_at hl 3 rfl) ?_
          refine lv_aload_n hx hb dX12_isMap_23 rfl (lv_at hl 0 rfl) ?_
          refine ng_53 hx hb hts in_x_isMap hown hK hP (hts _ (List.mem_cons_of_mem _ (List.mem_append_left _ (List.mem_append_left _ (List.mem_of_getElem? (i := 4) rfl))))) dX12_isMap_24 ?_
          refine lv_iload_n hx hb dX12_isMap_27 rfl (lv_at hl 1 rfl) ?_
          refine lv_iconst (v := 1) hx hb dX12_isMap_28 (by decide) ?_
          refine lv_iadd hx hb dX12_isMap_29 ?_
          obtain ⟨q2, h⟩ := nb_ite1 h
          refine nl_28 hx hb hK hP q2 dX12_isMap_30 ?_
          refine lv_icmp_ge (tgt := 81) hx hb dX12_isMap_31 (by decide) (fun c3 => ?_) (fun c3 => ?_)
          · rw [if_pos c3] at h
            exact ih.2.2.2.2.2.2 L σ r h H locs ls hP hD hS (lv_sub hl [0, 1, 2, 3] rfl)
          · rw [if_neg c3] at h
            refine lv_aload_n hx hb dX12_isMap_34 rfl (lv_at hl 0 rfl) ?_
            refine ng_53 hx hb hts in_x_isMap hown hK hP (hts _ (List.mem_cons_of_mem _ (List.mem_append_left _ (List.mem_append_left _ (List.mem_of_getElem? (i := 4) rfl))))) dX12_isMap_35 ?_
            refine lv_iload_n hx hb dX12_isMap_38 rfl (lv_at hl 1 rfl) ?_
            refine lv_iconst (v := 4) hx hb dX12_isMap_39 (by decide) ?_
            refine lv_iadd hx hb dX12_isMap_40 ?_
            refine lv_iload_n hx hb dX12_isMap_41 rfl (lv_at hl 3 rfl) ?_
            refine lv_iadd hx hb dX12_isMap_42 ?_
            obtain ⟨q4, h⟩ := nb_ite1 h
            refine nl_28 hx hb hK hP q4 dX12_isMap_43 ?_
            refine lv_istore (lv' := [(4, .int (σ.2.2 28 ((((((L 1)) + 4)) + ((L 3)))).toNatClampNeg)), (0, .ref (a 0)), (1, .int (L 1)), (2, .int (L 2)), (3, .int (L 3))]) hx hb dX12_isMap_44 hl (by decide) rfl (fun ls hl => ?_)
            refine lv_aload_n hx hb dX12_isMap_46 rfl (lv_at hl 1 rfl) ?_
            refine lv_iload hx hb dX12_isMap_47 (lv_at hl 0 rfl) ?_
            obtain ⟨r5, hc5, h⟩ := ob_ex h
            refine nc_Vi (As := [.int (σ.2.2 28 ((((((L 1)) + 4)) + ((L 3)))).toNatClampNeg)]) (rest := []) ⟨hx, hb, hml, hown, hts⟩ (c_x_kind l dC dI cy a k (upd (fun _ => 0) 1 ((σ.2.2 28 ((((((L 1)) + 4)) + ((L 3)))).toNatClampNeg))) σ r5 hc5 H.size) (cwV 1 hts g_x_isMap_kind_545 rfl rfl rfl hd_x_kind ⟨Nat.le_of_ble_eq_true rfl, Nat.le_of_ble_eq_true rfl⟩) hK hG hA hP hD hS rfl hl.1 rfl (Nat.le_of_ble_eq_true rfl) dX12_isMap_49 ⟨Nat.le_refl _, Nat.le_refl _⟩ (fun H locs hP hD hS => ?_)
            refine lv_iconst (v := 5) hx hb dX12_isMap_52 (by decide) ?_
            refine lv_icmp_ne (tgt := 73) hx hb dX12_isMap_53 (by decide) (fun c6 => ?_) (fun c6 => ?_)
            · rw [if_neg c6] at h
              exact ih.2.2.2.2.1 (upd L 4 ((σ.2.2 28 ((((((L 1)) + 4)) + ((L 3)))).toNatClampNeg))) r5.2 r h H locs ls hP hD hS (lv_sub hl [1, 2, 3, 4, 0] rfl)
            · rw [if_pos c6] at h
              refine lv_aload_n hx hb dX12_isMap_56 rfl (lv_at hl 1 rfl) ?_
              refine ng_53 hx hb hts in_x_isMap hown hK hP (hts _ (List.mem_cons_of_mem _ (List.mem_append_left _ (List.mem_append_left _ (List.mem_of_getElem? (i := 4) rfl))))) dX12_isMap_57 ?_
              refine lv_iload hx hb dX12_isMap_60 (lv_at hl 0 rfl) ?_
              refine lv_iconst (v := 1) hx hb dX12_isMap_62 (by decide) ?_
              refine lv_iadd hx hb dX12_isMap_63 ?_
              obtain ⟨q7, h⟩ := nb_ite1 h
              refine nl_28 hx hb hK hP q7 dX12_isMap_64 ?_
              refine lv_iconst (v := 2) hx hb dX12_isMap_65 (by decide) ?_
              refine lv_icmp_ne (tgt := 73) hx hb dX12_isMap_66 (by decide) (fun c8 => ?_) (fun c8 => ?_)
              · rw [if_neg c8] at h
                exact ih.2.2.2.2.1 (upd L 4 ((σ.2.2 28 ((((((L 1)) + 4)) + ((L 3)))).toNatClampNeg))) r5.2 r h H locs ls hP hD hS (lv_sub hl [1, 2, 3, 4, 0] rfl)
              · rw [if_pos c8] at h
                refine lv_iconst (v := 1) hx hb dX12_isMap_69 (by decide) ?_
                refine lv_goto (tgt := 74) hx hb dX12_isMap_70 (by decide) ?_
                exact ih.2.2.2.2.2.1 (upd (upd L 4 ((σ.2.2 28 ((((((L 1)) + 4)) + ((L 3)))).toNatClampNeg))) 100 1) r5.2 r h H locs ls hP hD hS (lv_sub hl [1, 2, 3, 4, 0] rfl)
      · intro L σ r h H locs ls hP hD hS hl
        rw [x_isMap] at h
        refine lv_iconst (v := 0) hx hb dX12_isMap_73 (by decide) ?_
        exact ih.2.2.2.2.2.1 (upd L 100 0) σ r h H locs ls hP hD hS (lv_sub hl [0, 1, 2, 3, 4] rfl)
      · intro L σ r h H locs ls hP hD hS hl
        rw [x_isMap] at h
        refine lv_istore_n (lv' := [(2, .int (L 100)), (0, .ref (a 0)), (1, .int (L 1)), (3, .int (L 3)), (4, .int (L 4))]) hx hb dX12_isMap_74 rfl hl (by decide) rfl (fun ls hl => ?_)
        refine lv_iinc (v := ((L 3)) + 1) (lv' := [(3, .int (((L 3)) + 1)), (2, .int (L 100)), (0, .ref (a 0)), (1, .int (L 1)), (4, .int (L 4))]) hx hb dX12_isMap_75 hl (k := 3) rfl rfl (by decide) rfl (fun ls hl => ?_)
        refine lv_goto (tgt := 18) hx hb dX12_isMap_78 (by decide) ?_
        exact ih.2.2.2.1 (upd (upd L 2 ((L 100))) 3 (((L 3)) + 1)) σ r h H locs ls hP hD hS (lv_sub hl [2, 3, 1, 0] rfl)
      · intro L σ r h H locs ls hP hD hS hl
        rw [x_isMap] at h
        refine lv_iload_n hx hb dX12_isMap_81 rfl (lv_at hl 2 rfl) ?_
        obtain ⟨q1, h⟩ := nb_ite1 h
        cases h
        exact W.zret (v := (L 2)) hx hb hr (nb_bz q1) (fun t ht hW => ⟨⟨(L 2), (), rfl, rfl, by rw [ht]; exact hP, va_K.moved hW.alike hK, hD⟩, hS.F ht⟩) hS.2.2 dX12_isMap_82
  exact (blk k0).1 L0 σ0 r0 h0 s.heap [] ls hP hD hS hl
/-! side -/
def x_side : Nat → Nat → (Nat → Int32) → MS → Option (Int32 × MS)
  | 0, _, _, _ => none
  | k + 1, 0, L, σ => ob (x_isMap k 0 (upd (fun _ => 0) 1 ((L 1))) σ) (fun r1 => if r1.1 = 0 then (ob (x_wrongKind k 0 (fun _ => 0) r1.2) (fun r3 => some (r3.1, r3.2))) else (x_side k 1 L r1.2))
  | k + 1, 1, L, σ => x_side k 2 (upd (upd L 3 ((σ.1 59))) 4 0) σ
  | k + 1, 2, L, σ => if ¬ (((((L 1)) + 1)) < 0 ∨ 1740000 ≤ ((((L 1)) + 1)).toNatClampNeg) then (if ((σ.2.2 28 ((((L 1)) + 1)).toNatClampNeg)) ≤ ((L 4)) then (x_side k 3 L σ) else (if ¬ (((((((L 1)) + 4)) + ((L 4)))) < 0 ∨ 1740000 ≤ ((((((L 1)) + 4)) + ((L 4)))).toNatClampNeg) then (if ¬ (((((((σ.2.2 28 ((((((L 1)) + 4)) + ((L 4)))).toNatClampNeg)) + 4)) + ((L 2)))) < 0 ∨ 1740000 ≤ ((((((σ.2.2 28 ((((((L 1)) + 4)) + ((L 4)))).toNatClampNeg)) + 4)) + ((L 2)))).toNatClampNeg) then (ob (x_push k 0 (upd (fun _ => 0) 1 ((σ.2.2 28 ((((((σ.2.2 28 ((((((L 1)) + 4)) + ((L 4)))).toNatClampNeg)) + 4)) + ((L 2)))).toNatClampNeg))) σ) (fun r5 => x_side k 2 (upd L 4 (((L 4)) + 1)) r5.2)) else none) else none)) else none
  | k + 1, 3, L, σ => x_side k 4 (upd (upd L 4 0) 5 ((L 3))) σ
  | k + 1, 4, L, σ => if ((σ.1 59)) ≤ ((L 5)) then (x_side k 8 L σ) else (if ((L 4)) = 0 then (if ¬ (((L 5)) < 0 ∨ 185000 ≤ ((L 5)).toNatClampNeg) then (if ((σ.2.2 29 ((L 5)).toNatClampNeg)) = 0 then (x_side k 5 L σ) else (x_side k 6 L σ)) else none) else (x_side k 5 L σ))
  | k + 1, 5, L, σ => x_side k 7 (upd L 100 1) σ
  | k + 1, 6, L, σ => x_side k 7 (upd L 100 0) σ
  | k + 1, 7, L, σ => x_side k 4 (upd (upd L 4 ((L 100))) 5 (((L 5)) + 1)) σ
  | k + 1, 8, L, σ => if ((L 4)) = 0 then (x_side k 10 L σ) else (x_side k 9 L (upd σ.1 59 ((L 3)), σ.2.1, σ.2.2))
  | k + 1, 9, L, σ => ob (x_fail k 0 (upd (fun _ => 0) 1 3) σ) (fun r1 => some (0, r1.2))
  | k + 1, 10, L, σ => ob (x_setOf k 0 (upd (fun _ => 0) 1 ((L 3))) σ) (fun r1 => some (r1.1, r1.2))
  | _ + 1, _ + 11, _, _ => none
def o_x_side : List Cond := [.methodLink RX12 785 yX12_isMap, .instanceMethod yX12_isMap, .selects RX12 yX12_isMap yX12_isMap, .initialized RX12, .methodLink RX12 666 yX12_wrongKind, .instanceMethod yX12_wrongKind, .selects RX12 yX12_wrongKind yX12_wrongKind, .fieldLink RX12 385 "SetHouseModel" "top" "I", .fieldLink RX12 372 "SetHouseModel" "heap" "[I", .methodLink RX12 594 yX12_push, .instanceMethod yX12_push, .selects RX12 yX12_push yX12_push, .fieldLink RX12 382 "SetHouseModel" "pile" "[I", .methodLink RX12 369 yX12_fail, .instanceMethod yX12_fail, .selects RX12 yX12_fail yX12_fail, .methodLink RX12 678 yX12_setOf, .instanceMethod yX12_setOf, .selects RX12 yX12_setOf yX12_setOf]
theorem o_x_side_good : o_x_side.all goodWord = true := by decide +kernel
def p_x_side : List Cond := o_x_side ++ ((.code yX12_isMap cX12_isMap 5 (some .boolean) :: p_x_isMap) ++ ((.code yX12_wrongKind cX12_wrongKind 1 (some .int) :: p_x_wrongKind) ++ ((.code yX12_push cX12_push 2 none :: p_x_push) ++ ((.code yX12_fail cX12_fail 2 none :: p_x_fail) ++ ((.code yX12_setOf cX12_setOf 5 (some .int) :: p_x_setOf) ++ [])))))
theorem p_x_side_good : p_x_side.all goodWord = true := nb_all2 o_x_side_good (nb_all2 (nb_allc (by decide +kernel) p_x_isMap_good) (nb_all2 (nb_allc (by decide +kernel) p_x_wrongKind_good) (nb_all2 (nb_allc (by decide +kernel) p_x_push_good) (nb_all2 (nb_allc (by decide +kernel) p_x_fail_good) (nb_all2 (nb_allc (by decide +kernel) p_x_setOf_good) rfl)))))
def w_x_side : List Cond := .code yX12_side cX12_side 6 (some .int) :: (p_x_side ++ fM)
theorem w_x_side_good : w_x_side.all goodWord = true := nb_allc (by decide +kernel) (nb_all2 p_x_side_good fM_good)
theorem in_x_side : ∀ w ∈ wsX120, w ∈ w_x_side := fun _ h => List.mem_cons_of_mem _ (List.mem_append_right _ h)
theorem hd_x_side : yX12_side.cls = RX12 ∧ yX12_side.cls ≠ "java/lang/invoke/MethodHandle" ∧ yX12_side.cls ≠ "java/lang/invoke/VarHandle" ∧ (parseMethodDescriptor yX12_side.desc).map (fun d => d.parameters.length) = some 2 := by decide +kernel
theorem gg_x_side_fail : GoodIn w_x_side w_x_fail := goodIn_sub (fun w h => (List.mem_cons.mp h).elim (fun e => (List.mem_cons_of_mem _ (List.mem_append_left _ (List.mem_append_right _ (List.mem_append_right _ (List.mem_append_right _ (List.mem_append_right _ (List.mem_append_left _ (List.mem_cons.mpr (Or.inl e)))))))))) (fun h => (List.mem_append.mp h).elim (fun h => (List.mem_cons_of_mem _ (List.mem_append_left _ (List.mem_append_right _ (List.mem_append_right _ (List.mem_append_right _ (List.mem_append_right _ (List.mem_append_left _ (List.mem_cons_of_mem _ h))))))))) (fun h => List.mem_cons_of_mem _ (List.mem_append_right _ h)))) w_x_fail_good
theorem g_x_side_fail_369 : GoodIn w_x_side (wsV RX12 369 RX12 yX12_fail w_x_fail) := goodIn_app (nb_g4 (List.mem_cons_of_mem _ (List.mem_append_left _ (List.mem_append_left _ (List.mem_of_getElem? (i := 13) rfl)))) (List.mem_cons_of_mem _ (List.mem_append_left _ (List.mem_append_left _ (List.mem_of_getElem? (i := 14) rfl)))) (List.mem_cons_of_mem _ (List.mem_append_left _ (List.mem_append_left _ (List.mem_of_getElem? (i := 15) rfl)))) (List.mem_cons_of_mem _ (List.mem_append_left _ (List.mem_append_left _ (List.mem_of_getElem? (i := 3) rfl)))) (by decide +kernel)) gg_x_side_fail
theorem gg_x_side_isMap : GoodIn w_x_side w_x_isMap := goodIn_sub (fun w h => (List.mem_cons.mp h).elim (fun e => (List.mem_cons_of_mem _ (List.mem_append_left _ (List.mem_append_right _ (List.mem_append_left _ (List.mem_cons.mpr (Or.inl e))))))) (fun h => (List.mem_append.mp h).elim (fun h => (List.mem_cons_of_mem _ (List.mem_append_left _ (List.mem_append_right _ (List.mem_append_left _ (List.mem_cons_of_mem _ h)))))) (fun h => List.mem_cons_of_mem _ (List.mem_append_right _ h)))) w_x_isMap_good
theorem g_x_side_isMap_785 : GoodIn w_x_side (wsV RX12 785 RX12 yX12_isMap w_x_isMap) := goodIn_app (nb_g4 (List.mem_cons_of_mem _ (List.mem_append_left _ (List.mem_append_left _ (List.mem_of_getElem? (i := 0) rfl)))) (List.mem_cons_of_mem _ (List.mem_append_left _ (List.mem_append_left _ (List.mem_of_getElem? (i := 1) rfl)))) (List.mem_cons_of_mem _ (List.mem_append_left _ (List.mem_append_left _ (List.mem_of_getElem? (i := 2) rfl)))) (List.mem_cons_of_mem _ (List.mem_append_left _ (List.mem_append_left _ (List.mem_of_getElem? (i := 3) rfl)))) (by decide +kernel)) gg_x_side_isMap
theorem gg_x_side_push : GoodIn w_x_side w_x_push := goodIn_sub (fun w h => (List.mem_cons.mp h).elim (fun e => (List.mem_cons_of_mem _ (List.mem_append_left _ (List.mem_append_right _ (List.mem_append_right _ (List.mem_append_right _ (List.mem_append_left _ (List.mem_cons.mpr (Or.inl e))))))))) (fun h => (List.mem_append.mp h).elim (fun h => (List.mem_cons_of_mem _ (List.mem_append_left _ (List.mem_append_right _ (List.mem_append_right _ (List.mem_append_right _ (List.mem_append_left _ (List.mem_cons_of_mem _ h)))))))) (fun h => List.mem_cons_of_mem _ (List.mem_append_right _ h)))) w_x_push_good
theorem g_x_side_push_594 : GoodIn w_x_side (wsV RX12 594 RX12 yX12_push w_x_push) := goodIn_app (nb_g4 (List.mem_cons_of_mem _ (List.mem_append_left _ (List.mem_append_left _ (List.mem_of_getElem? (i := 9) rfl)))) (List.mem_cons_of_mem _ (List.mem_append_left _ (List.mem_append_left _ (List.mem_of_getElem? (i := 10) rfl)))) (List.mem_cons_of_mem _ (List.mem_append_left _ (List.mem_append_left _ (List.mem_of_getElem? (i := 11) rfl)))) (List.mem_cons_of_mem _ (List.mem_append_left _ (List.mem_append_left _ (List.mem_of_getElem? (i := 3) rfl)))) (by decide +kernel)) gg_x_side_push
theorem gg_x_side_setOf : GoodIn w_x_side w_x_setOf := goodIn_sub (fun w h => (List.mem_cons.mp h).elim (fun e => (List.mem_cons_of_mem _ (List.mem_append_left _ (List.mem_append_right _ (List.mem_append_right _ (List.mem_append_right _ (List.mem_append_right _ (List.mem_append_right _ (List.mem_append_left _ (List.mem_cons.mpr (Or.inl e))))))))))) (fun h => (List.mem_append.mp h).elim (fun h => (List.mem_cons_of_mem _ (List.mem_append_left _ (List.mem_append_right _ (List.mem_append_right _ (List.mem_append_right _ (List.mem_append_right _ (List.mem_append_right _ (List.mem_append_left _ (List.mem_cons_of_mem _ h)))))))))) (fun h => List.mem_cons_of_mem _ (List.mem_append_right _ h)))) w_x_setOf_good
theorem g_x_side_setOf_678 : GoodIn w_x_side (wsV RX12 678 RX12 yX12_setOf w_x_setOf) := goodIn_app (nb_g4 (List.mem_cons_of_mem _ (List.mem_append_left _ (List.mem_append_left _ (List.mem_of_getElem? (i := 16) rfl)))) (List.mem_cons_of_mem _ (List.mem_append_left _ (List.mem_append_left _ (List.mem_of_getElem? (i := 17) rfl)))) (List.mem_cons_of_mem _ (List.mem_append_left _ (List.mem_append_left _ (List.mem_of_getElem? (i := 18) rfl)))) (List.mem_cons_of_mem _ (List.mem_append_left _ (List.mem_append_left _ (List.mem_of_getElem? (i := 3) rfl)))) (by decide +kernel)) gg_x_side_setOf
theorem gg_x_side_wrongKind : GoodIn w_x_side w_x_wrongKind := goodIn_sub (fun w h => (List.mem_cons.mp h).elim (fun e => (List.mem_cons_of_mem _ (List.mem_append_left _ (List.mem_append_right _ (List.mem_append_right _ (List.mem_append_left _ (List.mem_cons.mpr (Or.inl e)))))))) (fun h => (List.mem_append.mp h).elim (fun h => (List.mem_cons_of_mem _ (List.mem_append_left _ (List.mem_append_right _ (List.mem_append_right _ (List.mem_append_left _ (List.mem_cons_of_mem _ h))))))) (fun h => List.mem_cons_of_mem _ (List.mem_append_right _ h)))) w_x_wrongKind_good
theorem g_x_side_wrongKind_666 : GoodIn w_x_side (wsV RX12 666 RX12 yX12_wrongKind w_x_wrongKind) := goodIn_app (nb_g4 (List.mem_cons_of_mem _ (List.mem_append_left _ (List.mem_append_left _ (List.mem_of_getElem? (i := 4) rfl)))) (List.mem_cons_of_mem _ (List.mem_append_left _ (List.mem_append_left _ (List.mem_of_getElem? (i := 5) rfl)))) (List.mem_cons_of_mem _ (List.mem_append_left _ (List.mem_append_left _ (List.mem_of_getElem? (i := 6) rfl)))) (List.mem_cons_of_mem _ (List.mem_append_left _ (List.mem_append_left _ (List.mem_of_getElem? (i := 3) rfl)))) (by decide +kernel)) gg_x_side_wrongKind
set_option maxHeartbeats 40000000 in
set_option maxRecDepth 100000 in
theorem c_x_side (l : Launch) (dC : Nat → ClassId) (dI : Nat → Nat → Nat) (cy : Nat → ClassId) (a : Nat → Nat) (k0 : Nat) (L0 : Nat → Int32) (σ0 : MS) (r0 : Int32 × MS) (h0 : x_side k0 0 L0 σ0 = some r0) (sz : Nat) : Met l yX12_side w_x_side ({ frames := 46, cells := 0, slots := 0, locals := 1271 }) (va_Pc [.ref (a 0), .int (L0 1), .int (L0 2)] (nIn (dC, dI) cy sz (vM cy a σ0))) (va_Qi (fun (z : Int32) (_ : Unit) => z = r0.1) (fun _ t => nOut (dC, dI) cy (va_A (vM cy a σ0) sz) (vM cy a r0.2) t) (va_A (vM cy a σ0) sz)) 0 0 (va_A (vM cy a σ0) sz) := by
  refine Met.ofW (cc := cX12_side) (maxL := 6) (ret := (some .int)) (by decide) rfl ?_
  intro p e s m args below meth c s₁ B hml hv
  obtain ⟨rfl, hsz, hP, hK, hD0, hG⟩ := hv
  have hx := B.exec
  have hb := B.bytes
  have hr := B.returns
  have hts := atoms_spec (ws := w_x_side) B.pre
  have hown : s.vm.findClass RX12 = some m.cls := findClass_of_methodNamed B.named
  have hlocks := B.notSynchronized
  subst hsz
  have hD := hD0.self (sz := s.heap.size)
  generalize hAe : va_A (vM cy a σ0) s.heap.size = A at hD ⊢
  have hA : ∀ q : Nat, s.heap.size ≤ q → A q := fun q h => by rw [← hAe]; exact Or.inr h
  have hS : va_S A s.heap s.heap [] := va_S.rf
  have hl := lv_entry ([.ref (a 0), .int (L0 1), .int (L0 2)]) (n := 6) (Nat.le_of_ble_eq_true rfl)
  rw [lg_entry_eq]
  generalize (lg_sl ([.ref (a 0), .int (L0 1), .int (L0 2)]) ++ List.replicate (6 - (lg_sl ([.ref (a 0), .int (L0 1), .int (L0 2)])).length) Slot.unset).toArray = ls at hl ⊢
  have hl : lv_has ls 6 [(0, .ref (a 0)), (1, .int (L0 1)), (2, .int (L0 2))] := hl
  have blk : ∀ k : Nat, (bT p l e (headSpec w_x_side ({ frames := 46, cells := 0, slots := 0, locals := 1271 })).room s m #[.ref (a 0), .int (L0 1), .int (L0 2)] below meth c dC dI cy a A (qI dC dI cy a A below #[.ref (a 0), .int (L0 1), .int (L0 2)] s) 6 (x_side k 0) (fun L => [(0, .ref (a 0)), (1, .int (L 1)), (2, .int (L 2))]) 0 (fun L => [])) ∧ (bT p l e (headSpec w_x_side ({ frames := 46, cells := 0, slots := 0, locals := 1271 })).room s m #[.ref (a 0), .int (L0 1), .int (L0 2)] below meth c dC dI cy a A (qI dC dI cy a A below #[.ref (a 0), .int (L0 1), .int (L0 2)] s) 6 (x_side k 1) (fun L => [(0, .ref (a 0)), (1, .int (L 1)), (2, .int (L 2))]) 13 (fun L => [])) ∧ (bT p l e (headSpec w_x_side ({ frames := 46, cells := 0, slots := 0, locals := 1271 })).room s m #[.ref (a 0), .int (L0 1), .int (L0 2)] below meth c dC dI cy a A (qI dC dI cy a A below #[.ref (a 0), .int (L0 1), .int (L0 2)] s) 6 (x_side k 2) (fun L => [(0, .ref (a 0)), (1, .int (L 1)), (2, .int (L 2)), (3, .int (L 3)), (4, .int (L 4))]) 21 (fun L => [])) ∧ (bT p l e (headSpec w_x_side ({ frames := 46, cells := 0, slots := 0, locals := 1271 })).room s m #[.ref (a 0), .int (L0 1), .int (L0 2)] below meth c dC dI cy a A (qI dC dI cy a A below #[.ref (a 0), .int (L0 1), .int (L0 2)] s) 6 (x_side k 3) (fun L => [(0, .ref (a 0)), (1, .int (L 1)), (2, .int (L 2)), (3, .int (L 3)), (4, .int (L 4))]) 64 (fun L => [])) ∧ (bT p l e (headSpec w_x_side ({ frames := 46, cells := 0, slots := 0, locals := 1271 })).room s m #[.ref (a 0), .int (L0 1), .int (L0 2)] below meth c dC dI cy a A (qI dC dI cy a A below #[.ref (a 0), .int (L0 1), .int (L0 2)] s) 6 (x_side k 4) (fun L => [(0, .ref (a 0)), (1, .int (L 1)), (2, .int (L 2)), (3, .int (L 3)), (4, .int (L 4)), (5, .int (L 5))]) 70 (fun L => [])) ∧ (bT p l e (headSpec w_x_side ({ frames := 46, cells := 0, slots := 0, locals := 1271 })).room s m #[.ref (a 0), .int (L0 1), .int (L0 2)] below meth c dC dI cy a A (qI dC dI cy a A below #[.ref (a 0), .int (L0 1), .int (L0 2)] s) 6 (x_side k 5) (fun L => [(0, .ref (a 0)), (1, .int (L 1)), (2, .int (L 2)), (3, .int (L 3)), (4, .int (L 4)), (5, .int (L 5))]) 94 (fun L => [])) ∧ (bT p l e (headSpec w_x_side ({ frames := 46, cells := 0, slots := 0, locals := 1271 })).room s m #[.ref (a 0), .int (L0 1), .int (L0 2)] below meth c dC dI cy a A (qI dC dI cy a A below #[.ref (a 0), .int (L0 1), .int (L0 2)] s) 6 (x_side k 6) (fun L => [(0, .ref (a 0)), (1, .int (L 1)), (2, .int (L 2)), (3, .int (L 3)), (4, .int (L 4)), (5, .int (L 5))]) 98 (fun L => [])) ∧ (bT p l e (headSpec w_x_side ({ frames := 46, cells := 0, slots := 0, locals := 1271 })).room s m #[.ref (a 0), .int (L0 1), .int (L0 2)] below meth c dC dI cy a A (qI dC dI cy a A below #[.ref (a 0), .int (L0 1), .int (L0 2)] s) 6 (x_side k 7) (fun L => [(0, .ref (a 0)), (1, .int (L 1)), (2, .int (L 2)), (3, .int (L 3)), (4, .int (L 4)), (5, .int (L 5))]) 99 (fun L => [.int (L 100)])) ∧ (bT p l e (headSpec w_x_side ({ frames := 46, cells := 0, slots := 0, locals := 1271 })).room s m #[.ref (a 0), .int (L0 1), .int (L0 2)] below meth c dC dI cy a A (qI dC dI cy a A below #[.ref (a 0), .int (L0 1), .int (L0 2)] s) 6 (x_side k 8) (fun L => [(0, .ref (a 0)), (1, .int (L 1)), (2, .int (L 2)), (3, .int (L 3)), (4, .int (L 4)), (5, .int (L 5))]) 107 (fun L => [])) ∧ (bT p l e (headSpec w_x_side ({ frames := 46, cells := 0, slots := 0, locals := 1271 })).room s m #[.ref (a 0), .int (L0 1), .int (L0 2)] below meth c dC dI cy a A (qI dC dI cy a A below #[.ref (a 0), .int (L0 1), .int (L0 2)] s) 6 (x_side k 9) (fun L => [(0, .ref (a 0)), (1, .int (L 1)), (2, .int (L 2)), (3, .int (L 3)), (4, .int (L 4)), (5, .int (L 5))]) 117 (fun L => [])) ∧ (bT p l e (headSpec w_x_side ({ frames := 46, cells := 0, slots := 0, locals := 1271 })).room s m #[.ref (a 0), .int (L0 1), .int (L0 2)] below meth c dC dI cy a A (qI dC dI cy a A below #[.ref (a 0), .int (L0 1), .int (L0 2)] s) 6 (x_side k 10) (fun L => [(0, .ref (a 0)), (1, .int (L 1)), (2, .int (L 2)), (3, .int (L 3)), (4, .int (L 4)), (5, .int (L 5))]) 124 (fun L => [])) := by
    intro k
    induction k with
    | zero => exact ⟨fun L σ r h => (by cases h), fun L σ r h => (by cases h), fun L σ r h => (by cases h), fun L σ r h => (by cases h), fun L σ r h => (by cases h), fun L σ r h => (by cases h), fun L σ r h => (by cases h), fun L σ r h => (by cases h), fun L σ r h => (by cases h), fun L σ r h => (by cases h), fun L σ r h => (by cases h)⟩
    | succ k ih =>
      refine ⟨?_, ?_, ?_, ?_, ?_, ?_, ?_, ?_, ?_, ?_, ?_⟩
      · intro L σ r h H locs ls hP hD hS hl
        rw [x_side] at h
        refine lv_aload_n hx hb dX12_side_0 rfl (lv_at hl 0 rfl) ?_
        refine lv_iload_n hx hb dX12_side_1 rfl (lv_at hl 1 rfl) ?_
        obtain ⟨r1, hc1, h⟩ := ob_ex h
        refine nc_Vi (As := [.int (L 1)]) (rest := []) ⟨hx, hb, hml, hown, hts⟩ (c_x_isMap l dC dI cy a k (upd (fun _ => 0) 1 ((L 1))) σ r1 hc1 H.size) (cwV 1 hts g_x_side_isMap_785 rfl rfl rfl hd_x_isMap ⟨Nat.le_of_ble_eq_true rfl, Nat.le_of_ble_eq_true rfl⟩) hK hG hA hP hD hS rfl hl.1 rfl (Nat.le_of_ble_eq_true rfl) dX12_side_2 ⟨Nat.le_refl _, Nat.le_refl _⟩ (fun H locs hP hD hS => ?_)
        refine lv_if_ne (tgt := 13) hx hb dX12_side_5 (by decide) (fun c2 => ?_) (fun c2 => ?_)
        · rw [if_neg c2] at h
          exact ih.2.1 L r1.2 r h H locs ls hP hD hS (lv_sub hl [0, 1, 2] rfl)
        · rw [if_pos c2] at h
          refine lv_aload_n hx hb dX12_side_8 rfl (lv_at hl 0 rfl) ?_
          obtain ⟨r3, hc3, h⟩ := ob_ex h
          refine nc_Vi (As := []) (rest := []) ⟨hx, hb, hml, hown, hts⟩ (c_x_wrongKind l dC dI cy a k (fun _ => 0) r1.2 r3 hc3 H.size) (cwV 0 hts g_x_side_wrongKind_666 rfl rfl rfl hd_x_wrongKind ⟨Nat.le_of_ble_eq_true rfl, Nat.le_of_ble_eq_true rfl⟩) hK hG hA hP hD hS rfl hl.1 rfl (Nat.le_of_ble_eq_true rfl) dX12_side_9 ⟨Nat.le_refl _, Nat.le_refl _⟩ (fun H locs hP hD hS => ?_)
          cases h
          exact W.iret (v := r3.1) hx hb hr (fun t ht hW => ⟨⟨r3.1, (), rfl, rfl, by rw [ht]; exact hP, va_K.moved hW.alike hK, hD⟩, hS.F ht⟩) hS.2.2 dX12_side_12
      · intro L σ r h H locs ls hP hD hS hl
        rw [x_side] at h
        refine lv_aload_n hx hb dX12_side_13 rfl (lv_at hl 0 rfl) ?_
        refine ng_59 hx hb hts in_x_side hown hK hP (hts _ (List.mem_cons_of_mem _ (List.mem_append_left _ (List.mem_append_left _ (List.mem_of_getElem? (i := 7) rfl))))) dX12_side_14 ?_
        refine lv_istore_n (lv' := [(3, .int (σ.1 59)), (0, .ref (a 0)), (1, .int (L 1)), (2, .int (L 2))]) hx hb dX12_side_17 rfl hl (by decide) rfl (fun ls hl => ?_)
        refine lv_iconst (v := 0) hx hb dX12_side_18 (by decide) ?_
        refine lv_istore (lv' := [(4, .int 0), (3, .int (σ.1 59)), (0, .ref (a 0)), (1, .int (L 1)), (2, .int (L 2))]) hx hb dX12_side_19 hl (by decide) rfl (fun ls hl => ?_)
        exact ih.2.2.1 (upd (upd L 3 ((σ.1 59))) 4 0) σ r h H locs ls hP hD hS (lv_sub hl [2, 3, 4, 1, 0] rfl)
      · intro L σ r h H locs ls hP hD hS hl
        rw [x_side] at h
        refine lv_iload hx hb dX12_side_21 (lv_at hl 4 rfl) ?_
        refine lv_aload_n hx hb dX12_side_23 rfl (lv_at hl 0 rfl) ?_
        refine ng_53 hx hb hts in_x_side hown hK hP (hts _ (List.mem_cons_of_mem _ (List.mem_append_left _ (List.mem_append_left _ (List.mem_of_getElem? (i := 8) rfl))))) dX12_side_24 ?_
        refine lv_iload_n hx hb dX12_side_27 rfl (lv_at hl 1 rfl) ?_
        refine lv_iconst (v := 1) hx hb dX12_side_28 (by decide) ?_
        refine lv_iadd hx hb dX12_side_29 ?_
        obtain ⟨q1, h⟩ := nb_ite1 h
        refine nl_28 hx hb hK hP q1 dX12_side_30 ?_
        refine lv_icmp_ge (tgt := 64) hx hb dX12_side_31 (by decide) (fun c2 => ?_) (fun c2 => ?_)
        · rw [if_pos c2] at h
          exact ih.2.2.2.1 L σ r h H locs ls hP hD hS (lv_sub hl [0, 1, 2, 3, 4] rfl)
        · rw [if_neg c2] at h
          refine lv_aload_n hx hb dX12_side_34 rfl (lv_at hl 0 rfl) ?_
          refine lv_aload_n hx hb dX12_side_35 rfl (lv_at hl 0 rfl) ?_
          refine ng_53 hx hb hts in_x_side hown hK hP (hts _ (List.mem_cons_of_mem _ (List.mem_append_left _ (List.mem_append_left _ (List.mem_of_getElem? (i := 8) rfl))))) dX12_side_36 ?_
          refine lv_aload_n hx hb dX12_side_39 rfl (lv_at hl 0 rfl) ?_
          refine ng_53 hx hb hts in_x_side hown hK hP (hts _ (List.mem_cons_of_mem _ (List.mem_append_left _ (List.mem_append_left _ (List.mem_of_getElem? (i := 8) rfl))))) dX12_side_40 ?_
          refine lv_iload_n hx hb dX12_side_43 rfl (lv_at hl 1 rfl) ?_
          refine lv_iconst (v := 4) hx hb dX12_side_44 (by decide) ?_
          refine lv_iadd hx hb dX12_side_45 ?_
          refine lv_iload hx hb dX12_side_46 (lv_at hl 4 rfl) ?_
          refine lv_iadd hx hb dX12_side_48 ?_
          obtain ⟨q3, h⟩ := nb_ite1 h
          refine nl_28 hx hb hK hP q3 dX12_side_49 ?_
          refine lv_iconst (v := 4) hx hb dX12_side_50 (by decide) ?_
          refine lv_iadd hx hb dX12_side_51 ?_
          refine lv_iload_n hx hb dX12_side_52 rfl (lv_at hl 2 rfl) ?_
          refine lv_iadd hx hb dX12_side_53 ?_
          obtain ⟨q4, h⟩ := nb_ite1 h
          refine nl_28 hx hb hK hP q4 dX12_side_54 ?_
          obtain ⟨r5, hc5, h⟩ := ob_ex h
          refine nc_Vv (As := [.int (σ.2.2 28 ((((((σ.2.2 28 ((((((L 1)) + 4)) + ((L 4)))).toNatClampNeg)) + 4)) + ((L 2)))).toNatClampNeg)]) (rest := []) ⟨hx, hb, hml, hown, hts⟩ (c_x_push l dC dI cy a k (upd (fun _ => 0) 1 ((σ.2.2 28 ((((((σ.2.2 28 ((((((L 1)) + 4)) + ((L 4)))).toNatClampNeg)) + 4)) + ((L 2)))).toNatClampNeg))) σ r5 hc5 H.size) (cwV 1 hts g_x_side_push_594 rfl rfl rfl hd_x_push ⟨Nat.le_of_ble_eq_true rfl, Nat.le_of_ble_eq_true rfl⟩) hK hG hA hP hD hS rfl hl.1 rfl (Nat.le_of_ble_eq_true rfl) dX12_side_55 ⟨Nat.le_refl _, Nat.le_refl _⟩ (fun H locs hP hD hS => ?_)
          refine lv_iinc (v := ((L 4)) + 1) (lv' := [(4, .int (((L 4)) + 1)), (0, .ref (a 0)), (1, .int (L 1)), (2, .int (L 2)), (3, .int (L 3))]) hx hb dX12_side_58 hl (k := 4) rfl rfl (by decide) rfl (fun ls hl => ?_)
          refine lv_goto (tgt := 21) hx hb dX12_side_61 (by decide) ?_
          exact ih.2.2.1 (upd L 4 (((L 4)) + 1)) r5.2 r h H locs ls hP hD hS (lv_sub hl [1, 2, 3, 4, 0] rfl)
      · intro L σ r h H locs ls hP hD hS hl
        rw [x_side] at h
        refine lv_iconst (v := 0) hx hb dX12_side_64 (by decide) ?_
        refine lv_istore (lv' := [(4, .int 0), (0, .ref (a 0)), (1, .int (L 1)), (2, .int (L 2)), (3, .int (L 3))]) hx hb dX12_side_65 hl (by decide) rfl (fun ls hl => ?_)
        refine lv_iload_n hx hb dX12_side_67 rfl (lv_at hl 4 rfl) ?_
        refine lv_istore (lv' := [(5, .int (L 3)), (4, .int 0), (0, .ref (a 0)), (1, .int (L 1)), (2, .int (L 2)), (3, .int (L 3))]) hx hb dX12_side_68 hl (by decide) rfl (fun ls hl => ?_)
        exact ih.2.2.2.2.1 (upd (upd L 4 0) 5 ((L 3))) σ r h H locs ls hP hD hS (lv_sub hl [2, 3, 4, 5, 1, 0] rfl)
      · intro L σ r h H locs ls hP hD hS hl
        rw [x_side] at h
        refine lv_iload hx hb dX12_side_70 (lv_at hl 5 rfl) ?_
        refine lv_aload_n hx hb dX12_side_72 rfl (lv_at hl 0 rfl) ?_
        refine ng_59 hx hb hts in_x_side hown hK hP (hts _ (List.mem_cons_of_mem _ (List.mem_append_left _ (List.mem_append_left _ (List.mem_of_getElem? (i := 7) rfl))))) dX12_side_73 ?_
        refine lv_icmp_ge (tgt := 107) hx hb dX12_side_76 (by decide) (fun c1 => ?_) (fun c1 => ?_)
        · rw [if_pos c1] at h
          exact ih.2.2.2.2.2.2.2.2.1 L σ r h H locs ls hP hD hS (lv_sub hl [0, 1, 2, 3, 4, 5] rfl)
        · rw [if_neg c1] at h
          refine lv_iload hx hb dX12_side_79 (lv_at hl 4 rfl) ?_
          refine lv_if_ne (tgt := 94) hx hb dX12_side_81 (by decide) (fun c2 => ?_) (fun c2 => ?_)
          · rw [if_neg c2] at h
            exact ih.2.2.2.2.2.1 L σ r h H locs ls hP hD hS (lv_sub hl [0, 1, 2, 3, 4, 5] rfl)
          · rw [if_pos c2] at h
            refine lv_aload_n hx hb dX12_side_84 rfl (lv_at hl 0 rfl) ?_
            refine ng_58 hx hb hts in_x_side hown hK hP (hts _ (List.mem_cons_of_mem _ (List.mem_append_left _ (List.mem_append_left _ (List.mem_of_getElem? (i := 12) rfl))))) dX12_side_85 ?_
            refine lv_iload hx hb dX12_side_88 (lv_at hl 5 rfl) ?_
            obtain ⟨q3, h⟩ := nb_ite1 h
            refine nl_29 hx hb hK hP q3 dX12_side_90 ?_
            refine lv_if_ne (tgt := 98) hx hb dX12_side_91 (by decide) (fun c4 => ?_) (fun c4 => ?_)
            · rw [if_neg c4] at h
              exact ih.2.2.2.2.2.2.1 L σ r h H locs ls hP hD hS (lv_sub hl [0, 1, 2, 3, 4, 5] rfl)
            · rw [if_pos c4] at h
              exact ih.2.2.2.2.2.1 L σ r h H locs ls hP hD hS (lv_sub hl [0, 1, 2, 3, 4, 5] rfl)
      · intro L σ r h H locs ls hP hD hS hl
        rw [x_side] at h
        refine lv_iconst (v := 1) hx hb dX12_side_94 (by decide) ?_
        refine lv_goto (tgt := 99) hx hb dX12_side_95 (by decide) ?_
        exact ih.2.2.2.2.2.2.2.1 (upd L 100 1) σ r h H locs ls hP hD hS (lv_sub hl [0, 1, 2, 3, 4, 5] rfl)
      · intro L σ r h H locs ls hP hD hS hl
        rw [x_side] at h
        refine lv_iconst (v := 0) hx hb dX12_side_98 (by decide) ?_
        exact ih.2.2.2.2.2.2.2.1 (upd L 100 0) σ r h H locs ls hP hD hS (lv_sub hl [0, 1, 2, 3, 4, 5] rfl)
      · intro L σ r h H locs ls hP hD hS hl
        rw [x_side] at h
        refine lv_istore (lv' := [(4, .int (L 100)), (0, .ref (a 0)), (1, .int (L 1)), (2, .int (L 2)), (3, .int (L 3)), (5, .int (L 5))]) hx hb dX12_side_99 hl (by decide) rfl (fun ls hl => ?_)
        refine lv_iinc (v := ((L 5)) + 1) (lv' := [(5, .int (((L 5)) + 1)), (4, .int (L 100)), (0, .ref (a 0)), (1, .int (L 1)), (2, .int (L 2)), (3, .int (L 3))]) hx hb dX12_side_101 hl (k := 5) rfl rfl (by decide) rfl (fun ls hl => ?_)
        refine lv_goto (tgt := 70) hx hb dX12_side_104 (by decide) ?_
        exact ih.2.2.2.2.1 (upd (upd L 4 ((L 100))) 5 (((L 5)) + 1)) σ r h H locs ls hP hD hS (lv_sub hl [2, 3, 4, 5, 1, 0] rfl)
      · intro L σ r h H locs ls hP hD hS hl
        rw [x_side] at h
        refine lv_iload hx hb dX12_side_107 (lv_at hl 4 rfl) ?_
        refine lv_if_eq (tgt := 124) hx hb dX12_side_109 (by decide) (fun c1 => ?_) (fun c1 => ?_)
        · rw [if_pos c1] at h
          exact ih.2.2.2.2.2.2.2.2.2.2 L σ r h H locs ls hP hD hS (lv_sub hl [0, 1, 2, 3, 4, 5] rfl)
        · rw [if_neg c1] at h
          refine lv_aload_n hx hb dX12_side_112 rfl (lv_at hl 0 rfl) ?_
          refine lv_iload_n hx hb dX12_side_113 rfl (lv_at hl 3 rfl) ?_
          refine np_59 hx hb hts in_x_side hown hK hP hD hS (hts _ (List.mem_cons_of_mem _ (List.mem_append_left _ (List.mem_append_left _ (List.mem_of_getElem? (i := 7) rfl))))) dX12_side_114 (fun H locs hP hD hS => ?_)
          exact ih.2.2.2.2.2.2.2.2.2.1 L (upd σ.1 59 ((L 3)), σ.2.1, σ.2.2) r h H locs ls hP hD hS (lv_sub hl [0, 1, 2, 3, 4, 5] rfl)
      · intro L σ r h H locs ls hP hD hS hl
        rw [x_side] at h
        refine lv_aload_n hx hb dX12_side_117 rfl (lv_at hl 0 rfl) ?_
        refine lv_iconst (v := 3) hx hb dX12_side_118 (by decide) ?_
        obtain ⟨r1, hc1, h⟩ := ob_ex h
        refine nc_Vv (As := [.int 3]) (rest := []) ⟨hx, hb, hml, hown, hts⟩ (c_x_fail l dC dI cy a k (upd (fun _ => 0) 1 3) σ r1 hc1 H.size) (cwV 1 hts g_x_side_fail_369 rfl rfl rfl hd_x_fail ⟨Nat.le_of_ble_eq_true rfl, Nat.le_of_ble_eq_true rfl⟩) hK hG hA hP hD hS rfl hl.1 rfl (Nat.le_of_ble_eq_true rfl) dX12_side_119 ⟨Nat.le_refl _, Nat.le_refl _⟩ (fun H locs hP hD hS => ?_)
        refine lv_iconst (v := 0) hx hb dX12_side_122 (by decide) ?_
        cases h
        exact W.iret (v := 0) hx hb hr (fun t ht hW => ⟨⟨0, (), rfl, rfl, by rw [ht]; exact hP, va_K.moved hW.alike hK, hD⟩, hS.F ht⟩) hS.2.2 dX12_side_123
      · intro L σ r h H locs ls hP hD hS hl
        rw [x_side] at h
        refine lv_aload_n hx hb dX12_side_124 rfl (lv_at hl 0 rfl) ?_
        refine lv_iload_n hx hb dX12_side_125 rfl (lv_at hl 3 rfl) ?_
        obtain ⟨r1, hc1, h⟩ := ob_ex h
        refine nc_Vi (As := [.int (L 3)]) (rest := []) ⟨hx, hb, hml, hown, hts⟩ (c_x_setOf l dC dI cy a k (upd (fun _ => 0) 1 ((L 3))) σ r1 hc1 H.size) (cwV 1 hts g_x_side_setOf_678 rfl rfl rfl hd_x_setOf ⟨Nat.le_of_ble_eq_true rfl, Nat.le_of_ble_eq_true rfl⟩) hK hG hA hP hD hS rfl hl.1 rfl (Nat.le_of_ble_eq_true rfl) dX12_side_126 ⟨Nat.le_refl _, Nat.le_refl _⟩ (fun H locs hP hD hS => ?_)
        cases h
        exact W.iret (v := r1.1) hx hb hr (fun t ht hW => ⟨⟨r1.1, (), rfl, rfl, by rw [ht]; exact hP, va_K.moved hW.alike hK, hD⟩, hS.F ht⟩) hS.2.2 dX12_side_129
  exact (blk k0).1 L0 σ0 r0 h0 s.heap [] ls hP hD hS hl
/-! stringOf__48 -/
def x_stringOf__48 : Nat → Nat → (Nat → Int32) → MS → Option (Int32 × MS)
  | 0, _, _, _ => none
  | k + 1, 0, L, σ => if (4 : Int32) = 0 then none else (if ((1 + ((((((L 3)) + 3)) / 4)))) ≤ 1000 then (x_stringOf__48 k 1 L σ) else (ob (x_fail k 0 (upd (fun _ => 0) 1 5) σ) (fun r3 => some (0, r3.2))))
  | k + 1, 1, L, σ => ob (x_make k 0 (upd (upd (fun _ => 0) 1 4) 2 ((L 3))) σ) (fun r1 => x_stringOf__48 k 2 (upd (upd L 4 r1.1) 5 0) r1.2)
  | k + 1, 2, L, σ => if ((L 3)) ≤ ((L 5)) then (x_stringOf__48 k 4 L σ) else (if ((σ.1 56)) = 0 then (if ¬ (((((L 2)) + ((L 5)))) < 0 ∨ 12000 ≤ ((((L 2)) + ((L 5)))).toNatClampNeg) then (if ¬ (((((((L 4)) + 4)) + ((L 5)))) < 0 ∨ 1740000 ≤ ((((((L 4)) + 4)) + ((L 5)))).toNatClampNeg) then (x_stringOf__48 k 3 L (σ.1, σ.2.1, updG σ.2.2 28 (upd (σ.2.2 28) ((((((L 4)) + 4)) + ((L 5)))).toNatClampNeg ((σ.2.2 48 ((((L 2)) + ((L 5)))).toNatClampNeg))))) else none) else none) else (x_stringOf__48 k 4 L σ))
  | k + 1, 3, L, σ => x_stringOf__48 k 2 (upd L 5 (((L 5)) + 1)) σ
  | k + 1, 4, L, σ => if (4 : Int32) = 0 then none else (if ¬ (((((L 4)) + 2)) < 0 ∨ 1740000 ≤ ((((L 4)) + 2)).toNatClampNeg) then (x_stringOf__48 k 5 L (σ.1, σ.2.1, updG σ.2.2 28 (upd (σ.2.2 28) ((((L 4)) + 2)).toNatClampNeg ((1 + ((((((L 3)) + 3)) / 4))))))) else none)
  | k + 1, 5, L, σ => some ((L 4), σ)
  | _ + 1, _ + 6, _, _ => none
def o_x_stringOf__48 : List Cond := [.methodLink RX12 369 yX12_fail, .instanceMethod yX12_fail, .selects RX12 yX12_fail yX12_fail, .initialized RX12, .methodLink RX12 429 yX12_make, .instanceMethod yX12_make, .selects RX12 yX12_make yX12_make, .fieldLink RX12 362 "SetHouseModel" "err" "I", .fieldLink RX12 372 "SetHouseModel" "heap" "[I"]
theorem o_x_stringOf__48_good : o_x_stringOf__48.all goodWord = true := by decide +kernel
def p_x_stringOf__48 : List Cond := o_x_stringOf__48 ++ ((.code yX12_fail cX12_fail 2 none :: p_x_fail) ++ ((.code yX12_make cX12_make 4 (some .int) :: p_x_make) ++ []))
theorem p_x_stringOf__48_good : p_x_stringOf__48.all goodWord = true := nb_all2 o_x_stringOf__48_good (nb_all2 (nb_allc (by decide +kernel) p_x_fail_good) (nb_all2 (nb_allc (by decide +kernel) p_x_make_good) rfl))
def w_x_stringOf__48 : List Cond := .code yX12_stringOf cX12_stringOf 6 (some .int) :: (p_x_stringOf__48 ++ fM)
theorem w_x_stringOf__48_good : w_x_stringOf__48.all goodWord = true := nb_allc (by decide +kernel) (nb_all2 p_x_stringOf__48_good fM_good)
theorem in_x_stringOf__48 : ∀ w ∈ wsX120, w ∈ w_x_stringOf__48 := fun _ h => List.mem_cons_of_mem _ (List.mem_append_right _ h)
theorem hd_x_stringOf__48 : yX12_stringOf.cls = RX12 ∧ yX12_stringOf.cls ≠ "java/lang/invoke/MethodHandle" ∧ yX12_stringOf.cls ≠ "java/lang/invoke/VarHandle" ∧ (parseMethodDescriptor yX12_stringOf.desc).map (fun d => d.parameters.length) = some 3 := by decide +kernel
theorem gg_x_stringOf__48_fail : GoodIn w_x_stringOf__48 w_x_fail := goodIn_sub (fun w h => (List.mem_cons.mp h).elim (fun e => (List.mem_cons_of_mem _ (List.mem_append_left _ (List.mem_append_right _ (List.mem_append_left _ (List.mem_cons.mpr (Or.inl e))))))) (fun h => (List.mem_append.mp h).elim (fun h => (List.mem_cons_of_mem _ (List.mem_append_left _ (List.mem_append_right _ (List.mem_append_left _ (List.mem_cons_of_mem _ h)))))) (fun h => List.mem_cons_of_mem _ (List.mem_append_right _ h)))) w_x_fail_good
theorem g_x_stringOf__48_fail_369 : GoodIn w_x_stringOf__48 (wsV RX12 369 RX12 yX12_fail w_x_fail) := goodIn_app (nb_g4 (List.mem_cons_of_mem _ (List.mem_append_left _ (List.mem_append_left _ (List.mem_of_getElem? (i := 0) rfl)))) (List.mem_cons_of_mem _ (List.mem_append_left _ (List.mem_append_left _ (List.mem_of_getElem? (i := 1) rfl)))) (List.mem_cons_of_mem _ (List.mem_append_left _ (List.mem_append_left _ (List.mem_of_getElem? (i := 2) rfl)))) (List.mem_cons_of_mem _ (List.mem_append_left _ (List.mem_append_left _ (List.mem_of_getElem? (i := 3) rfl)))) (by decide +kernel)) gg_x_stringOf__48_fail
theorem gg_x_stringOf__48_make : GoodIn w_x_stringOf__48 w_x_make := goodIn_sub (fun w h => (List.mem_cons.mp h).elim (fun e => (List.mem_cons_of_mem _ (List.mem_append_left _ (List.mem_append_right _ (List.mem_append_right _ (List.mem_append_left _ (List.mem_cons.mpr (Or.inl e)))))))) (fun h => (List.mem_append.mp h).elim (fun h => (List.mem_cons_of_mem _ (List.mem_append_left _ (List.mem_append_right _ (List.mem_append_right _ (List.mem_append_left _ (List.mem_cons_of_mem _ h))))))) (fun h => List.mem_cons_of_mem _ (List.mem_append_right _ h)))) w_x_make_good
theorem g_x_stringOf__48_make_429 : GoodIn w_x_stringOf__48 (wsV RX12 429 RX12 yX12_make w_x_make) := goodIn_app (nb_g4 (List.mem_cons_of_mem _ (List.mem_append_left _ (List.mem_append_left _ (List.mem_of_getElem? (i := 4) rfl)))) (List.mem_cons_of_mem _ (List.mem_append_left _ (List.mem_append_left _ (List.mem_of_getElem? (i := 5) rfl)))) (List.mem_cons_of_mem _ (List.mem_append_left _ (List.mem_append_left _ (List.mem_of_getElem? (i := 6) rfl)))) (List.mem_cons_of_mem _ (List.mem_append_left _ (List.mem_append_left _ (List.mem_of_getElem? (i := 3) rfl)))) (by decide +kernel)) gg_x_stringOf__48_make
set_option maxHeartbeats 40000000 in
set_option maxRecDepth 100000 in
theorem c_x_stringOf__48 (l : Launch) (dC : Nat → ClassId) (dI : Nat → Nat → Nat) (cy : Nat → ClassId) (a : Nat → Nat) (k0 : Nat) (L0 : Nat → Int32) (σ0 : MS) (r0 : Int32 × MS) (h0 : x_stringOf__48 k0 0 L0 σ0 = some r0) (sz : Nat) : Met l yX12_stringOf w_x_stringOf__48 ({ frames := 2, cells := 0, slots := 0, locals := 44 }) (va_Pc [.ref (a 0), .ref (a 48), .int (L0 2), .int (L0 3)] (nIn (dC, dI) cy sz (vM cy a σ0))) (va_Qi (fun (z : Int32) (_ : Unit) => z = r0.1) (fun _ t => nOut (dC, dI) cy (va_A (vM cy a σ0) sz) (vM cy a r0.2) t) (va_A (vM cy a σ0) sz)) 0 0 (va_A (vM cy a σ0) sz) := by
  refine Met.ofW (cc := cX12_stringOf) (maxL := 6) (ret := (some .int)) (by decide) rfl ?_
  intro p e s m args below meth c s₁ B hml hv
  obtain ⟨rfl, hsz, hP, hK, hD0, hG⟩ := hv
  have hx := B.exec
  have hb := B.bytes
  have hr := B.returns
  have hts := atoms_spec (ws := w_x_stringOf__48) B.pre
  have hown : s.vm.findClass RX12 = some m.cls := findClass_of_methodNamed B.named
  have hlocks := B.notSynchronized
  subst hsz
  have hD := hD0.self (sz := s.heap.size)
  generalize hAe : va_A (vM cy a σ0) s.heap.size = A at hD ⊢
  have hA : ∀ q : Nat, s.heap.size ≤ q → A q := fun q h => by rw [← hAe]; exact Or.inr h
  have hS : va_S A s.heap s.heap [] := va_S.rf
  have hl := lv_entry ([.ref (a 0), .ref (a 48), .int (L0 2), .int (L0 3)]) (n := 6) (Nat.le_of_ble_eq_true rfl)
  rw [lg_entry_eq]
  generalize (lg_sl ([.ref (a 0), .ref (a 48), .int (L0 2), .int (L0 3)]) ++ List.replicate (6 - (lg_sl ([.ref (a 0), .ref (a 48), .int (L0 2), .int (L0 3)])).length) Slot.unset).toArray = ls at hl ⊢
  have hl : lv_has ls 6 [(0, .ref (a 0)), (1, .ref (a 48)), (2, .int (L0 2)), (3, .int (L0 3))] := hl
  have blk : ∀ k : Nat, (bT p l e (headSpec w_x_stringOf__48 ({ frames := 2, cells := 0, slots := 0, locals := 44 })).room s m #[.ref (a 0), .ref (a 48), .int (L0 2), .int (L0 3)] below meth c dC dI cy a A (qI dC dI cy a A below #[.ref (a 0), .ref (a 48), .int (L0 2), .int (L0 3)] s) 6 (x_stringOf__48 k 0) (fun L => [(0, .ref (a 0)), (1, .ref (a 48)), (2, .int (L 2)), (3, .int (L 3))]) 0 (fun L => [])) ∧ (bT p l e (headSpec w_x_stringOf__48 ({ frames := 2, cells := 0, slots := 0, locals := 44 })).room s m #[.ref (a 0), .ref (a 48), .int (L0 2), .int (L0 3)] below meth c dC dI cy a A (qI dC dI cy a A below #[.ref (a 0), .ref (a 48), .int (L0 2), .int (L0 3)] s) 6 (x_stringOf__48 k 1) (fun L => [(0, .ref (a 0)), (1, .ref (a 48)), (2, .int (L 2)), (3, .int (L 3))]) 20 (fun L => [])) ∧ (bT p l e (headSpec w_x_stringOf__48 ({ frames := 2, cells := 0, slots := 0, locals := 44 })).room s m #[.ref (a 0), .ref (a 48), .int (L0 2), .int (L0 3)] below meth c dC dI cy a A (qI dC dI cy a A below #[.ref (a 0), .ref (a 48), .int (L0 2), .int (L0 3)] s) 6 (x_stringOf__48 k 2) (fun L => [(0, .ref (a 0)), (1, .ref (a 48)), (2, .int (L 2)), (3, .int (L 3)), (4, .int (L 4)), (5, .int (L 5))]) 31 (fun L => [])) ∧ (bT p l e (headSpec w_x_stringOf__48 ({ frames := 2, cells := 0, slots := 0, locals := 44 })).room s m #[.ref (a 0), .ref (a 48), .int (L0 2), .int (L0 3)] below meth c dC dI cy a A (qI dC dI cy a A below #[.ref (a 0), .ref (a 48), .int (L0 2), .int (L0 3)] s) 6 (x_stringOf__48 k 3) (fun L => [(0, .ref (a 0)), (1, .ref (a 48)), (2, .int (L 2)), (3, .int (L 3)), (4, .int (L 4)), (5, .int (L 5))]) 62 (fun L => [])) ∧ (bT p l e (headSpec w_x_stringOf__48 ({ frames := 2, cells := 0, slots := 0, locals := 44 })).room s m #[.ref (a 0), .ref (a 48), .int (L0 2), .int (L0 3)] below meth c dC dI cy a A (qI dC dI cy a A below #[.ref (a 0), .ref (a 48), .int (L0 2), .int (L0 3)] s) 6 (x_stringOf__48 k 4) (fun L => [(0, .ref (a 0)), (1, .ref (a 48)), (2, .int (L 2)), (3, .int (L 3)), (4, .int (L 4)), (5, .int (L 5))]) 68 (fun L => [])) ∧ (bT p l e (headSpec w_x_stringOf__48 ({ frames := 2, cells := 0, slots := 0, locals := 44 })).room s m #[.ref (a 0), .ref (a 48), .int (L0 2), .int (L0 3)] below meth c dC dI cy a A (qI dC dI cy a A below #[.ref (a 0), .ref (a 48), .int (L0 2), .int (L0 3)] s) 6 (x_stringOf__48 k 5) (fun L => [(0, .ref (a 0)), (1, .ref (a 48)), (2, .int (L 2)), (3, .int (L 3)), (4, .int (L 4)), (5, .int (L 5))]) 84 (fun L => [])) := by
    intro k
    induction k with
    | zero => exact ⟨fun L σ r h => (by cases h), fun L σ r h => (by cases h), fun L σ r h => (by cases h), fun L σ r h => (by cases h), fun L σ r h => (by cases h), fun L σ r h => (by cases h)⟩
    | succ k ih =>
      refine ⟨?_, ?_, ?_, ?_, ?_, ?_⟩
      · intro L σ r h H locs ls hP hD hS hl
        rw [x_stringOf__48] at h
        refine lv_iconst (v := 1) hx hb dX12_stringOf_0 (by decide) ?_
        refine lv_iload_n hx hb dX12_stringOf_1 rfl (lv_at hl 3 rfl) ?_
        refine lv_iconst (v := 3) hx hb dX12_stringOf_2 (by decide) ?_
        refine lv_iadd hx hb dX12_stringOf_3 ?_
        refine lv_iconst (v := 4) hx hb dX12_stringOf_4 (by decide) ?_
        obtain ⟨q1, h⟩ := nb_ite0 h
        refine lv_idiv hx hb dX12_stringOf_5 q1 ?_
        refine lv_iadd hx hb dX12_stringOf_6 ?_
        refine lv_sipush (v := 1000) hx hb dX12_stringOf_7 (by decide) ?_
        refine lv_icmp_le (tgt := 20) hx hb dX12_stringOf_10 (by decide) (fun c2 => ?_) (fun c2 => ?_)
        · rw [if_pos c2] at h
          exact ih.2.1 L σ r h H locs ls hP hD hS (lv_sub hl [0, 1, 2, 3] rfl)
        · rw [if_neg c2] at h
          refine lv_aload_n hx hb dX12_stringOf_13 rfl (lv_at hl 0 rfl) ?_
          refine lv_iconst (v := 5) hx hb dX12_stringOf_14 (by decide) ?_
          obtain ⟨r3, hc3, h⟩ := ob_ex h
          refine nc_Vv (As := [.int 5]) (rest := []) ⟨hx, hb, hml, hown, hts⟩ (c_x_fail l dC dI cy a k (upd (fun _ => 0) 1 5) σ r3 hc3 H.size) (cwV 1 hts g_x_stringOf__48_fail_369 rfl rfl rfl hd_x_fail ⟨Nat.le_of_ble_eq_true rfl, Nat.le_of_ble_eq_true rfl⟩) hK hG hA hP hD hS rfl hl.1 rfl (Nat.le_of_ble_eq_true rfl) dX12_stringOf_15 ⟨Nat.le_refl _, Nat.le_refl _⟩ (fun H locs hP hD hS => ?_)
          refine lv_iconst (v := 0) hx hb dX12_stringOf_18 (by decide) ?_
          cases h
          exact W.iret (v := 0) hx hb hr (fun t ht hW => ⟨⟨0, (), rfl, rfl, by rw [ht]; exact hP, va_K.moved hW.alike hK, hD⟩, hS.F ht⟩) hS.2.2 dX12_stringOf_19
      · intro L σ r h H locs ls hP hD hS hl
        rw [x_stringOf__48] at h
        refine lv_aload_n hx hb dX12_stringOf_20 rfl (lv_at hl 0 rfl) ?_
        refine lv_iconst (v := 4) hx hb dX12_stringOf_21 (by decide) ?_
        refine lv_iload_n hx hb dX12_stringOf_22 rfl (lv_at hl 3 rfl) ?_
        obtain ⟨r1, hc1, h⟩ := ob_ex h
        refine nc_Vi (As := [.int 4, .int (L 3)]) (rest := []) ⟨hx, hb, hml, hown, hts⟩ (c_x_make l dC dI cy a k (upd (upd (fun _ => 0) 1 4) 2 ((L 3))) σ r1 hc1 H.size) (cwV 2 hts g_x_stringOf__48_make_429 rfl rfl rfl hd_x_make ⟨Nat.le_of_ble_eq_true rfl, Nat.le_of_ble_eq_true rfl⟩) hK hG hA hP hD hS rfl hl.1 rfl (Nat.le_of_ble_eq_true rfl) dX12_stringOf_23 ⟨Nat.le_refl _, Nat.le_refl _⟩ (fun H locs hP hD hS => ?_)
        refine lv_istore (lv' := [(4, .int r1.1), (0, .ref (a 0)), (1, .ref (a 48)), (2, .int (L 2)), (3, .int (L 3))]) hx hb dX12_stringOf_26 hl (by decide) rfl (fun ls hl => ?_)
        refine lv_iconst (v := 0) hx hb dX12_stringOf_28 (by decide) ?_
        refine lv_istore (lv' := [(5, .int 0), (4, .int r1.1), (0, .ref (a 0)), (1, .ref (a 48)), (2, .int (L 2)), (3, .int (L 3))]) hx hb dX12_stringOf_29 hl (by decide) rfl (fun ls hl => ?_)
        exact ih.2.2.1 (upd (upd L 4 r1.1) 5 0) r1.2 r h H locs ls hP hD hS (lv_sub hl [2, 3, 4, 5, 1, 0] rfl)
      · intro L σ r h H locs ls hP hD hS hl
        rw [x_stringOf__48] at h
        refine lv_iload hx hb dX12_stringOf_31 (lv_at hl 5 rfl) ?_
        refine lv_iload_n hx hb dX12_stringOf_33 rfl (lv_at hl 3 rfl) ?_
        refine lv_icmp_ge (tgt := 68) hx hb dX12_stringOf_34 (by decide) (fun c1 => ?_) (fun c1 => ?_)
        · rw [if_pos c1] at h
          exact ih.2.2.2.2.1 L σ r h H locs ls hP hD hS (lv_sub hl [0, 1, 2, 3, 4, 5] rfl)
        · rw [if_neg c1] at h
          refine lv_aload_n hx hb dX12_stringOf_37 rfl (lv_at hl 0 rfl) ?_
          refine ng_56 hx hb hts in_x_stringOf__48 hown hK hP (hts _ (List.mem_cons_of_mem _ (List.mem_append_left _ (List.mem_append_left _ (List.mem_of_getElem? (i := 7) rfl))))) dX12_stringOf_38 ?_
          refine lv_if_ne (tgt := 68) hx hb dX12_stringOf_41 (by decide) (fun c2 => ?_) (fun c2 => ?_)
          · rw [if_neg c2] at h
            exact ih.2.2.2.2.1 L σ r h H locs ls hP hD hS (lv_sub hl [0, 1, 2, 3, 4, 5] rfl)
          · rw [if_pos c2] at h
            refine lv_aload_n hx hb dX12_stringOf_44 rfl (lv_at hl 0 rfl) ?_
            refine ng_53 hx hb hts in_x_stringOf__48 hown hK hP (hts _ (List.mem_cons_of_mem _ (List.mem_append_left _ (List.mem_append_left _ (List.mem_of_getElem? (i := 8) rfl))))) dX12_stringOf_45 ?_
            refine lv_iload hx hb dX12_stringOf_48 (lv_at hl 4 rfl) ?_
            refine lv_iconst (v := 4) hx hb dX12_stringOf_50 (by decide) ?_
            refine lv_iadd hx hb dX12_stringOf_51 ?_
            refine lv_iload hx hb dX12_stringOf_52 (lv_at hl 5 rfl) ?_
            refine lv_iadd hx hb dX12_stringOf_54 ?_
            refine lv_aload_n hx hb dX12_stringOf_55 rfl (lv_at hl 1 rfl) ?_
            refine lv_iload_n hx hb dX12_stringOf_56 rfl (lv_at hl 2 rfl) ?_
            refine lv_iload hx hb dX12_stringOf_57 (lv_at hl 5 rfl) ?_
            refine lv_iadd hx hb dX12_stringOf_59 ?_
            obtain ⟨q3, h⟩ := nb_ite1 h
            refine nl_48 hx hb hK hP q3 dX12_stringOf_60 ?_
            obtain ⟨q4, h⟩ := nb_ite1 h
            refine ns_28 hx hb hK hP hD hS q4 dX12_stringOf_61 (fun H locs hP hD hS => ?_)
            exact ih.2.2.2.1 L (σ.1, σ.2.1, updG σ.2.2 28 (upd (σ.2.2 28) ((((((L 4)) + 4)) + ((L 5)))).toNatClampNeg ((σ.2.2 48 ((((L 2)) + ((L 5)))).toNatClampNeg)))) r h H locs ls hP hD hS (lv_sub hl [0, 1, 2, 3, 4, 5] rfl)
      · intro L σ r h H locs ls hP hD hS hl
        rw [x_stringOf__48] at h
        refine lv_iinc (v := ((L 5)) + 1) (lv' := [(5, .int (((L 5)) + 1)), (0, .ref (a 0)), (1, .ref (a 48)), (2, .int (L 2)), (3, .int (L 3)), (4, .int (L 4))]) hx hb dX12_stringOf_62 hl (k := 5) rfl rfl (by decide) rfl (fun ls hl => ?_)
        refine lv_goto (tgt := 31) hx hb dX12_stringOf_65 (by decide) ?_
        exact ih.2.2.1 (upd L 5 (((L 5)) + 1)) σ r h H locs ls hP hD hS (lv_sub hl [1, 2, 3, 4, 5, 0] rfl)
      · intro L σ r h H locs ls hP hD hS hl
        rw [x_stringOf__48] at h
        refine lv_aload_n hx hb dX12_stringOf_68 rfl (lv_at hl 0 rfl) ?_
        refine ng_53 hx hb hts in_x_stringOf__48 hown hK hP (hts _ (List.mem_cons_of_mem _ (List.mem_append_left _ (List.mem_append_left _ (List.mem_of_getElem? (i := 8) rfl))))) dX12_stringOf_69 ?_
        refine lv_iload hx hb dX12_stringOf_72 (lv_at hl 4 rfl) ?_
        refine lv_iconst (v := 2) hx hb dX12_stringOf_74 (by decide) ?_
        refine lv_iadd hx hb dX12_stringOf_75 ?_
        refine lv_iconst (v := 1) hx hb dX12_stringOf_76 (by decide) ?_
        refine lv_iload_n hx hb dX12_stringOf_77 rfl (lv_at hl 3 rfl) ?_
        refine lv_iconst (v := 3) hx hb dX12_stringOf_78 (by decide) ?_
        refine lv_iadd hx hb dX12_stringOf_79 ?_
        refine lv_iconst (v := 4) hx hb dX12_stringOf_80 (by decide) ?_
        obtain ⟨q1, h⟩ := nb_ite0 h
        refine lv_idiv hx hb dX12_stringOf_81 q1 ?_
        refine lv_iadd hx hb dX12_stringOf_82 ?_
        obtain ⟨q2, h⟩ := nb_ite1 h
        refine ns_28 hx hb hK hP hD hS q2 dX12_stringOf_83 (fun H locs hP hD hS => ?_)
        exact ih.2.2.2.2.2 L (σ.1, σ.2.1, updG σ.2.2 28 (upd (σ.2.2 28) ((((L 4)) + 2)).toNatClampNeg ((1 + ((((((L 3)) + 3)) / 4)))))) r h H locs ls hP hD hS (lv_sub hl [0, 1, 2, 3, 4, 5] rfl)
      · intro L σ r h H locs ls hP hD hS hl
        rw [x_stringOf__48] at h
        refine lv_iload hx hb dX12_stringOf_84 (lv_at hl 4 rfl) ?_
        cases h
        exact W.iret (v := (L 4)) hx hb hr (fun t ht hW => ⟨⟨(L 4), (), rfl, rfl, by rw [ht]; exact hP, va_K.moved hW.alike hK, hD⟩, hS.F ht⟩) hS.2.2 dX12_stringOf_86
  exact (blk k0).1 L0 σ0 r0 h0 s.heap [] ls hP hD hS hl
/-! typeOf -/
def x_typeOf : Nat → Nat → (Nat → Int32) → MS → Option (Int32 × MS)
  | 0, _, _, _ => none
  | k + 1, 0, L, σ => x_typeOf k 1 L (upd σ.1 93 0, σ.2.1, σ.2.2)
  | k + 1, 1, L, σ => ob (x_kind k 0 (upd (fun _ => 0) 1 ((L 1))) σ) (fun r1 => ob (x_putWord k 0 (upd (fun _ => 0) 1 r1.1) r1.2) (fun r2 => ob (x_stringOf__48 k 0 (upd (upd (fun _ => 0) 2 0) 3 ((r2.2.1 93))) r2.2) (fun r3 => some (r3.1, r3.2))))
  | _ + 1, _ + 2, _, _ => none
def o_x_typeOf : List Cond := [.fieldLink RX12 530 "SetHouseModel" "printed" "I", .methodLink RX12 545 yX12_kind, .instanceMethod yX12_kind, .selects RX12 yX12_kind yX12_kind, .initialized RX12, .methodLink RX12 788 yX12_putWord, .instanceMethod yX12_putWord, .selects RX12 yX12_putWord yX12_putWord, .fieldLink RX12 527 "SetHouseModel" "text" "[I", .methodLink RX12 597 yX12_stringOf, .instanceMethod yX12_stringOf, .selects RX12 yX12_stringOf yX12_stringOf]
theorem o_x_typeOf_good : o_x_typeOf.all goodWord = true := by decide +kernel
def p_x_typeOf : List Cond := o_x_typeOf ++ ((.code yX12_kind cX12_kind 2 (some .int) :: p_x_kind) ++ ((.code yX12_putWord cX12_putWord 4 none :: p_x_putWord) ++ ((.code yX12_stringOf cX12_stringOf 6 (some .int) :: p_x_stringOf__48) ++ [])))
theorem p_x_typeOf_good : p_x_typeOf.all goodWord = true := nb_all2 o_x_typeOf_good (nb_all2 (nb_allc (by decide +kernel) p_x_kind_good) (nb_all2 (nb_allc (by decide +kernel) p_x_putWord_good) (nb_all2 (nb_allc (by decide +kernel) p_x_stringOf__48_good) rfl)))
def w_x_typeOf : List Cond := .code yX12_typeOf cX12_typeOf 2 (some .int) :: (p_x_typeOf ++ fM)
theorem w_x_typeOf_good : w_x_typeOf.all goodWord = true := nb_allc (by decide +kernel) (nb_all2 p_x_typeOf_good fM_good)
theorem in_x_typeOf : ∀ w ∈ wsX120, w ∈ w_x_typeOf := fun _ h => List.mem_cons_of_mem _ (List.mem_append_right _ h)
theorem hd_x_typeOf : yX12_typeOf.cls = RX12 ∧ yX12_typeOf.cls ≠ "java/lang/invoke/MethodHandle" ∧ yX12_typeOf.cls ≠ "java/lang/invoke/VarHandle" ∧ (parseMethodDescriptor yX12_typeOf.desc).map (fun d => d.parameters.length) = some 1 := by decide +kernel
theorem gg_x_typeOf_kind : GoodIn w_x_typeOf w_x_kind := goodIn_sub (fun w h => (List.mem_cons.mp h).elim (fun e => (List.mem_cons_of_mem _ (List.mem_append_left _ (List.mem_append_right _ (List.mem_append_left _ (List.mem_cons.mpr (Or.inl e))))))) (fun h => (List.mem_append.mp h).elim (fun h => (List.mem_cons_of_mem _ (List.mem_append_left _ (List.mem_append_right _ (List.mem_append_left _ (List.mem_cons_of_mem _ h)))))) (fun h => List.mem_cons_of_mem _ (List.mem_append_right _ h)))) w_x_kind_good
theorem g_x_typeOf_kind_545 : GoodIn w_x_typeOf (wsV RX12 545 RX12 yX12_kind w_x_kind) := goodIn_app (nb_g4 (List.mem_cons_of_mem _ (List.mem_append_left _ (List.mem_append_left _ (List.mem_of_getElem? (i := 1) rfl)))) (List.mem_cons_of_mem _ (List.mem_append_left _ (List.mem_append_left _ (List.mem_of_getElem? (i := 2) rfl)))) (List.mem_cons_of_mem _ (List.mem_append_left _ (List.mem_append_left _ (List.mem_of_getElem? (i := 3) rfl)))) (List.mem_cons_of_mem _ (List.mem_append_left _ (List.mem_append_left _ (List.mem_of_getElem? (i := 4) rfl)))) (by decide +kernel)) gg_x_typeOf_kind
theorem gg_x_typeOf_putWord : GoodIn w_x_typeOf w_x_putWord := goodIn_sub (fun w h => (List.mem_cons.mp h).elim (fun e => (List.mem_cons_of_mem _ (List.mem_append_left _ (List.mem_append_right _ (List.mem_append_right _ (List.mem_append_left _ (List.mem_cons.mpr (Or.inl e)))))))) (fun h => (List.mem_append.mp h).elim (fun h => (List.mem_cons_of_mem _ (List.mem_append_left _ (List.mem_append_right _ (List.mem_append_right _ (List.mem_append_left _ (List.mem_cons_of_mem _ h))))))) (fun h => List.mem_cons_of_mem _ (List.mem_append_right _ h)))) w_x_putWord_good
theorem g_x_typeOf_putWord_788 : GoodIn w_x_typeOf (wsV RX12 788 RX12 yX12_putWord w_x_putWord) := goodIn_app (nb_g4 (List.mem_cons_of_mem _ (List.mem_append_left _ (List.mem_append_left _ (List.mem_of_getElem? (i := 5) rfl)))) (List.mem_cons_of_mem _ (List.mem_append_left _ (List.mem_append_left _ (List.mem_of_getElem? (i := 6) rfl)))) (List.mem_cons_of_mem _ (List.mem_append_left _ (List.mem_append_left _ (List.mem_of_getElem? (i := 7) rfl)))) (List.mem_cons_of_mem _ (List.mem_append_left _ (List.mem_append_left _ (List.mem_of_getElem? (i := 4) rfl)))) (by decide +kernel)) gg_x_typeOf_putWord
theorem gg_x_typeOf_stringOf__48 : GoodIn w_x_typeOf w_x_stringOf__48 := goodIn_sub (fun w h => (List.mem_cons.mp h).elim (fun e => (List.mem_cons_of_mem _ (List.mem_append_left _ (List.mem_append_right _ (List.mem_append_right _ (List.mem_append_right _ (List.mem_append_left _ (List.mem_cons.mpr (Or.inl e))))))))) (fun h => (List.mem_append.mp h).elim (fun h => (List.mem_cons_of_mem _ (List.mem_append_left _ (List.mem_append_right _ (List.mem_append_right _ (List.mem_append_right _ (List.mem_append_left _ (List.mem_cons_of_mem _ h)))))))) (fun h => List.mem_cons_of_mem _ (List.mem_append_right _ h)))) w_x_stringOf__48_good
theorem g_x_typeOf_stringOf__48_597 : GoodIn w_x_typeOf (wsV RX12 597 RX12 yX12_stringOf w_x_stringOf__48) := goodIn_app (nb_g4 (List.mem_cons_of_mem _ (List.mem_append_left _ (List.mem_append_left _ (List.mem_of_getElem? (i := 9) rfl)))) (List.mem_cons_of_mem _ (List.mem_append_left _ (List.mem_append_left _ (List.mem_of_getElem? (i := 10) rfl)))) (List.mem_cons_of_mem _ (List.mem_append_left _ (List.mem_append_left _ (List.mem_of_getElem? (i := 11) rfl)))) (List.mem_cons_of_mem _ (List.mem_append_left _ (List.mem_append_left _ (List.mem_of_getElem? (i := 4) rfl)))) (by decide +kernel)) gg_x_typeOf_stringOf__48
set_option maxHeartbeats 40000000 in
set_option maxRecDepth 100000 in
theorem c_x_typeOf (l : Launch) (dC : Nat → ClassId) (dI : Nat → Nat → Nat) (cy : Nat → ClassId) (a : Nat → Nat) (k0 : Nat) (L0 : Nat → Int32) (σ0 : MS) (r0 : Int32 × MS) (h0 : x_typeOf k0 0 L0 σ0 = some r0) (sz : Nat) : Met l yX12_typeOf w_x_typeOf ({ frames := 3, cells := 0, slots := 0, locals := 69 }) (va_Pc [.ref (a 0), .int (L0 1)] (nIn (dC, dI) cy sz (vM cy a σ0))) (va_Qi (fun (z : Int32) (_ : Unit) => z = r0.1) (fun _ t => nOut (dC, dI) cy (va_A (vM cy a σ0) sz) (vM cy a r0.2) t) (va_A (vM cy a σ0) sz)) 0 0 (va_A (vM cy a σ0) sz) := by
  refine Met.ofW (cc := cX12_typeOf) (maxL := 2) (ret := (some .int)) (by decide) rfl ?_
  intro p e s m args below meth c s₁ B hml hv
  obtain ⟨rfl, hsz, hP, hK, hD0, hG⟩ := hv
  have hx := B.exec
  have hb := B.bytes
  have hr := B.returns
  have hts := atoms_spec (ws := w_x_typeOf) B.pre
  have hown : s.vm.findClass RX12 = some m.cls := findClass_of_methodNamed B.named
  have hlocks := B.notSynchronized
  subst hsz
  have hD := hD0.self (sz := s.heap.size)
  generalize hAe : va_A (vM cy a σ0) s.heap.size = A at hD ⊢
  have hA : ∀ q : Nat, s.heap.size ≤ q → A q := fun q h => by rw [← hAe]; exact Or.inr h
  have hS : va_S A s.heap s.heap [] := va_S.rf
  have hl := lv_entry ([.ref (a 0), .int (L0 1)]) (n := 2) (Nat.le_of_ble_eq_true rfl)
  rw [lg_entry_eq]
  generalize (lg_sl ([.ref (a 0), .int (L0 1)]) ++ List.replicate (2 - (lg_sl ([.ref (a 0), .int (L0 1)])).length) Slot.unset).toArray = ls at hl ⊢
  have hl : lv_has ls 2 [(0, .ref (a 0)), (1, .int (L0 1))] := hl
  have blk : ∀ k : Nat, (bT p l e (headSpec w_x_typeOf ({ frames := 3, cells := 0, slots := 0, locals := 69 })).room s m #[.ref (a 0), .int (L0 1)] below meth c dC dI cy a A (qI dC dI cy a A below #[.ref (a 0), .int (L0 1)] s) 2 (x_typeOf k 0) (fun L => [(0, .ref (a 0)), (1, .int (L 1))]) 0 (fun L => [])) ∧ (bT p l e (headSpec w_x_typeOf ({ frames := 3, cells := 0, slots := 0, locals := 69 })).room s m #[.ref (a 0), .int (L0 1)] below meth c dC dI cy a A (qI dC dI cy a A below #[.ref (a 0), .int (L0 1)] s) 2 (x_typeOf k 1) (fun L => [(0, .ref (a 0)), (1, .int (L 1))]) 5 (fun L => [])) := by
    intro k
    induction k with
    | zero => exact ⟨fun L σ r h => (by cases h), fun L σ r h => (by cases h)⟩
    | succ k ih =>
      refine ⟨?_, ?_⟩
      · intro L σ r h H locs ls hP hD hS hl
        rw [x_typeOf] at h
        refine lv_aload_n hx hb dX12_typeOf_0 rfl (lv_at hl 0 rfl) ?_
        refine lv_iconst (v := 0) hx hb dX12_typeOf_1 (by decide) ?_
        refine np_93 hx hb hts in_x_typeOf hown hK hP hD hS (hts _ (List.mem_cons_of_mem _ (List.mem_append_left _ (List.mem_append_left _ (List.mem_of_getElem? (i := 0) rfl))))) dX12_typeOf_2 (fun H locs hP hD hS => ?_)
        exact ih.2 L (upd σ.1 93 0, σ.2.1, σ.2.2) r h H locs ls hP hD hS (lv_sub hl [0, 1] rfl)
      · intro L σ r h H locs ls hP hD hS hl
        rw [x_typeOf] at h
        refine lv_aload_n hx hb dX12_typeOf_5 rfl (lv_at hl 0 rfl) ?_
        refine lv_aload_n hx hb dX12_typeOf_6 rfl (lv_at hl 0 rfl) ?_
        refine lv_iload_n hx hb dX12_typeOf_7 rfl (lv_at hl 1 rfl) ?_
        obtain ⟨r1, hc1, h⟩ := ob_ex h
        refine nc_Vi (As := [.int (L 1)]) (rest := [.ref (a 0)]) ⟨hx, hb, hml, hown, hts⟩ (c_x_kind l dC dI cy a k (upd (fun _ => 0) 1 ((L 1))) σ r1 hc1 H.size) (cwV 1 hts g_x_typeOf_kind_545 rfl rfl rfl hd_x_kind ⟨Nat.le_of_ble_eq_true rfl, Nat.le_of_ble_eq_true rfl⟩) hK hG hA hP hD hS rfl hl.1 rfl (Nat.le_of_ble_eq_true rfl) dX12_typeOf_8 ⟨Nat.le_refl _, Nat.le_refl _⟩ (fun H locs hP hD hS => ?_)
        obtain ⟨r2, hc2, h⟩ := ob_ex h
        refine nc_Vv (As := [.int r1.1]) (rest := []) ⟨hx, hb, hml, hown, hts⟩ (c_x_putWord l dC dI cy a k (upd (fun _ => 0) 1 r1.1) r1.2 r2 hc2 H.size) (cwV 1 hts g_x_typeOf_putWord_788 rfl rfl rfl hd_x_putWord ⟨Nat.le_of_ble_eq_true rfl, Nat.le_of_ble_eq_true rfl⟩) hK hG hA hP hD hS rfl hl.1 rfl (Nat.le_of_ble_eq_true rfl) dX12_typeOf_11 ⟨Nat.le_refl _, Nat.le_refl _⟩ (fun H locs hP hD hS => ?_)
        refine lv_aload_n hx hb dX12_typeOf_14 rfl (lv_at hl 0 rfl) ?_
        refine lv_aload_n hx hb dX12_typeOf_15 rfl (lv_at hl 0 rfl) ?_
        refine ng_92 hx hb hts in_x_typeOf hown hK hP (hts _ (List.mem_cons_of_mem _ (List.mem_append_left _ (List.mem_append_left _ (List.mem_of_getElem? (i := 8) rfl))))) dX12_typeOf_16 ?_
        refine lv_iconst (v := 0) hx hb dX12_typeOf_19 (by decide) ?_
        refine lv_aload_n hx hb dX12_typeOf_20 rfl (lv_at hl 0 rfl) ?_
        refine ng_93 hx hb hts in_x_typeOf hown hK hP (hts _ (List.mem_cons_of_mem _ (List.mem_append_left _ (List.mem_append_left _ (List.mem_of_getElem? (i := 0) rfl))))) dX12_typeOf_21 ?_
        obtain ⟨r3, hc3, h⟩ := ob_ex h
        refine nc_Vi (As := [.ref (a 48), .int 0, .int (r2.2.1 93)]) (rest := []) ⟨hx, hb, hml, hown, hts⟩ (c_x_stringOf__48 l dC dI cy a k (upd (upd (fun _ => 0) 2 0) 3 ((r2.2.1 93))) r2.2 r3 hc3 H.size) (cwV 3 hts g_x_typeOf_stringOf__48_597 rfl rfl rfl hd_x_stringOf__48 ⟨Nat.le_of_ble_eq_true rfl, Nat.le_of_ble_eq_true rfl⟩) hK hG hA hP hD hS rfl hl.1 rfl (Nat.le_of_ble_eq_true rfl) dX12_typeOf_24 ⟨Nat.le_refl _, Nat.le_refl _⟩ (fun H locs hP hD hS => ?_)
        cases h
        exact W.iret (v := r3.1) hx hb hr (fun t ht hW => ⟨⟨r3.1, (), rfl, rfl, by rw [ht]; exact hP, va_K.moved hW.alike hK, hD⟩, hS.F ht⟩) hS.2.2 dX12_typeOf_27
  exact (blk k0).1 L0 σ0 r0 h0 s.heap [] ls hP hD hS hl
/-! function -/
def x_function : Nat → Nat → (Nat → Int32) → MS → Option (Int32 × MS)
  | 0, _, _, _ => none
  | k + 1, 0, L, σ => ob (x_kind k 0 (upd (fun _ => 0) 1 ((L 2))) σ) (fun r1 => if ((L 1)) = (39 : Int32) then (x_function k 1 (upd L 3 r1.1) r1.2) else (if ((L 1)) = (40 : Int32) then (x_function k 5 (upd L 3 r1.1) r1.2) else (if ((L 1)) = (41 : Int32) then (x_function k 9 (upd L 3 r1.1) r1.2) else (if ((L 1)) = (42 : Int32) then (x_function k 10 (upd L 3 r1.1) r1.2) else (if ((L 1)) = (43 : Int32) then (x_function k 11 (upd L 3 r1.1) r1.2) else (if ((L 1)) = (44 : Int32) then (x_function k 12 (upd L 3 r1.1) r1.2) else (if ((L 1)) = (45 : Int32) then (x_function k 13 (upd L 3 r1.1) r1.2) else (if ((L 1)) = (46 : Int32) then (x_function k 15 (upd L 3 r1.1) r1.2) else (if ((L 1)) = (47 : Int32) then (x_function k 16 (upd L 3 r1.1) r1.2) else (if ((L 1)) = (48 : Int32) then (x_function k 18 (upd L 3 r1.1) r1.2) else (if ((L 1)) = (49 : Int32) then (x_function k 18 (upd L 3 r1.1) r1.2) else (if ((L 1)) = (50 : Int32) then (x_function k 17 (upd L 3 r1.1) r1.2) else (x_function k 18 (upd L 3 r1.1) r1.2)))))))))))))
  | k + 1, 1, L, σ => if ((L 3)) = 2 then (x_function k 2 L σ) else (ob (x_wrongKind k 0 (fun _ => 0) σ) (fun r2 => x_function k 4 (upd L 100 r2.1) r2.2))
  | k + 1, 2, L, σ => ob (x_signOf k 0 (upd (fun _ => 0) 1 ((L 2))) σ) (fun r1 => if 0 ≤ r1.1 then (x_function k 3 L r1.2) else (ob (x_other k 0 (upd (fun _ => 0) 1 ((L 2))) r1.2) (fun r3 => x_function k 4 (upd L 100 r3.1) r3.2)))
  | k + 1, 3, L, σ => x_function k 4 (upd L 100 ((L 2))) σ
  | k + 1, 4, L, σ => some ((L 100), σ)
  | k + 1, 5, L, σ => if ((L 3)) = 6 then (x_function k 6 L σ) else (ob (x_wrongKind k 0 (fun _ => 0) σ) (fun r2 => x_function k 8 (upd L 100 r2.1) r2.2))
  | k + 1, 6, L, σ => if ¬ (((((L 2)) + 1)) < 0 ∨ 1740000 ≤ ((((L 2)) + 1)).toNatClampNeg) then (if ((σ.2.2 28 ((((L 2)) + 1)).toNatClampNeg)) = 0 then (x_function k 8 (upd L 100 0) σ) else (x_function k 7 L σ)) else none
  | k + 1, 7, L, σ => if ¬ (((((L 2)) + 4)) < 0 ∨ 1740000 ≤ ((((L 2)) + 4)).toNatClampNeg) then (x_function k 8 (upd L 100 ((σ.2.2 28 ((((L 2)) + 4)).toNatClampNeg))) σ) else none
  | k + 1, 8, L, σ => some ((L 100), σ)
  | k + 1, 9, L, σ => ob (x_side k 0 (upd (upd (fun _ => 0) 1 ((L 2))) 2 0) σ) (fun r1 => some (r1.1, r1.2))
  | k + 1, 10, L, σ => ob (x_side k 0 (upd (upd (fun _ => 0) 1 ((L 2))) 2 1) σ) (fun r1 => some (r1.1, r1.2))
  | k + 1, 11, L, σ => ob (x_powerSet k 0 (upd (fun _ => 0) 1 ((L 2))) σ) (fun r1 => some (r1.1, r1.2))
  | k + 1, 12, L, σ => ob (x_typeOf k 0 (upd (fun _ => 0) 1 ((L 2))) σ) (fun r1 => some (r1.1, r1.2))
  | k + 1, 13, L, σ => x_function k 14 L (upd σ.1 93 0, σ.2.1, σ.2.2)
  | k + 1, 14, L, σ => ob (x_print k 0 (upd (upd (fun _ => 0) 1 ((L 2))) 2 0) σ) (fun r1 => ob (x_stringOf__48 k 0 (upd (upd (fun _ => 0) 2 0) 3 ((r1.2.1 93))) r1.2) (fun r2 => some (r2.1, r2.2)))
  | k + 1, 15, L, σ => ob (x_character k 0 (upd (fun _ => 0) 1 ((L 2))) σ) (fun r1 => some (r1.1, r1.2))
  | k + 1, 16, L, σ => ob (x_codeOf k 0 (upd (fun _ => 0) 1 ((L 2))) σ) (fun r1 => some (r1.1, r1.2))
  | k + 1, 17, L, σ => ob (x_reversed k 0 (upd (fun _ => 0) 1 ((L 2))) σ) (fun r1 => some (r1.1, r1.2))
  | k + 1, 18, L, σ => ob (x_drawn k 0 (upd (fun _ => 0) 1 ((L 2))) σ) (fun r1 => some (r1.1, r1.2))
  | _ + 1, _ + 19, _, _ => none
def o_x_function : List Cond := [.methodLink RX12 545 yX12_kind, .instanceMethod yX12_kind, .selects RX12 yX12_kind yX12_kind, .initialized RX12, .methodLink RX12 666 yX12_wrongKind, .instanceMethod yX12_wrongKind, .selects RX12 yX12_wrongKind yX12_wrongKind, .methodLink RX12 463 yX12_signOf, .instanceMethod yX12_signOf, .selects RX12 yX12_signOf yX12_signOf, .methodLink RX12 669 yX12_other, .instanceMethod yX12_other, .selects RX12 yX12_other yX12_other, .fieldLink RX12 372 "SetHouseModel" "heap" "[I", .methodLink RX12 764 yX12_side, .instanceMethod yX12_side, .selects RX12 yX12_side yX12_side, .methodLink RX12 767 yX12_powerSet, .instanceMethod yX12_powerSet, .selects RX12 yX12_powerSet yX12_powerSet, .methodLink RX12 770 yX12_typeOf, .instanceMethod yX12_typeOf, .selects RX12 yX12_typeOf yX12_typeOf, .fieldLink RX12 530 "SetHouseModel" "printed" "I", .methodLink RX12 554 yX12_print, .instanceMethod yX12_print, .selects RX12 yX12_print yX12_print, .fieldLink RX12 527 "SetHouseModel" "text" "[I", .methodLink RX12 597 yX12_stringOf, .instanceMethod yX12_stringOf, .selects RX12 yX12_stringOf yX12_stringOf, .methodLink RX12 773 yX12_character, .instanceMethod yX12_character, .selects RX12 yX12_character yX12_character, .methodLink RX12 776 yX12_codeOf, .instanceMethod yX12_codeOf, .selects RX12 yX12_codeOf yX12_codeOf, .methodLink RX12 779 yX12_reversed, .instanceMethod yX12_reversed, .selects RX12 yX12_reversed yX12_reversed, .methodLink RX12 782 yX12_drawn, .instanceMethod yX12_drawn, .selects RX12 yX12_drawn yX12_drawn]
theorem o_x_function_good : o_x_function.all goodWord = true := by decide +kernel
def p_x_function : List Cond := o_x_function ++ ((.code yX12_kind cX12_kind 2 (some .int) :: p_x_kind) ++ ((.code yX12_wrongKind cX12_wrongKind 1 (some .int) :: p_x_wrongKind) ++ ((.code yX12_signOf cX12_signOf 2 (some .int) :: p_x_signOf) ++ ((.code yX12_other cX12_other 3 (some .int) :: p_x_other) ++ ((.code yX12_side cX12_side 6 (some .int) :: p_x_side) ++ ((.code yX12_powerSet cX12_powerSet 7 (some .int) :: p_x_powerSet) ++ ((.code yX12_typeOf cX12_typeOf 2 (some .int) :: p_x_typeOf) ++ ((.code yX12_print cX12_print 5 none :: p_x_GP) ++ ((.code yX12_stringOf cX12_stringOf 6 (some .int) :: p_x_stringOf__48) ++ ((.code yX12_character cX12_character 3 (some .int) :: p_x_character) ++ ((.code yX12_codeOf cX12_codeOf 2 (some .int) :: p_x_codeOf) ++ ((.code yX12_reversed cX12_reversed 6 (some .int) :: p_x_reversed) ++ ((.code yX12_drawn cX12_drawn 5 (some .int) :: p_x_drawn) ++ [])))))))))))))
theorem p_x_function_good : p_x_function.all goodWord = true := nb_all2 o_x_function_good (nb_all2 (nb_allc (by decide +kernel) p_x_kind_good) (nb_all2 (nb_allc (by decide +kernel) p_x_wrongKind_good) (nb_all2 (nb_allc (by decide +kernel) p_x_signOf_good) (nb_all2 (nb_allc (by decide +kernel) p_x_other_good) (nb_all2 (nb_allc (by decide +kernel) p_x_side_good) (nb_all2 (nb_allc (by decide +kernel) p_x_powerSet_good) (nb_all2 (nb_allc (by decide +kernel) p_x_typeOf_good) (nb_all2 (nb_allc (by decide +kernel) p_x_GP_good) (nb_all2 (nb_allc (by decide +kernel) p_x_stringOf__48_good) (nb_all2 (nb_allc (by decide +kernel) p_x_character_good) (nb_all2 (nb_allc (by decide +kernel) p_x_codeOf_good) (nb_all2 (nb_allc (by decide +kernel) p_x_reversed_good) (nb_all2 (nb_allc (by decide +kernel) p_x_drawn_good) rfl)))))))))))))
def w_x_function : List Cond := .code yX12_function cX12_function 4 (some .int) :: (p_x_function ++ fM)
theorem w_x_function_good : w_x_function.all goodWord = true := nb_allc (by decide +kernel) (nb_all2 p_x_function_good fM_good)
theorem in_x_function : ∀ w ∈ wsX120, w ∈ w_x_function := fun _ h => List.mem_cons_of_mem _ (List.mem_append_right _ h)
theorem hd_x_function : yX12_function.cls = RX12 ∧ yX12_function.cls ≠ "java/lang/invoke/MethodHandle" ∧ yX12_function.cls ≠ "java/lang/invoke/VarHandle" ∧ (parseMethodDescriptor yX12_function.desc).map (fun d => d.parameters.length) = some 2 := by decide +kernel
theorem gg_x_function_character : GoodIn w_x_function w_x_character := goodIn_sub (fun w h => (List.mem_cons.mp h).elim (fun e => (List.mem_cons_of_mem _ (List.mem_append_left _ (List.mem_append_right _ (List.mem_append_right _ (List.mem_append_right _ (List.mem_append_right _ (List.mem_append_right _ (List.mem_append_right _ (List.mem_append_right _ (List.mem_append_right _ (List.mem_append_right _ (List.mem_append_right _ (List.mem_append_left _ (List.mem_cons.mpr (Or.inl e)))))))))))))))) (fun h => (List.mem_append.mp h).elim (fun h => (List.mem_cons_of_mem _ (List.mem_append_left _ (List.mem_append_right _ (List.mem_append_right _ (List.mem_append_right _ (List.mem_append_right _ (List.mem_append_right _ (List.mem_append_right _ (List.mem_append_right _ (List.mem_append_right _ (List.mem_append_right _ (List.mem_append_right _ (List.mem_append_left _ (List.mem_cons_of_mem _ h))))))))))))))) (fun h => List.mem_cons_of_mem _ (List.mem_append_right _ h)))) w_x_character_good
theorem g_x_function_character_773 : GoodIn w_x_function (wsV RX12 773 RX12 yX12_character w_x_character) := goodIn_app (nb_g4 (List.mem_cons_of_mem _ (List.mem_append_left _ (List.mem_append_left _ (List.mem_of_getElem? (i := 31) rfl)))) (List.mem_cons_of_mem _ (List.mem_append_left _ (List.mem_append_left _ (List.mem_of_getElem? (i := 32) rfl)))) (List.mem_cons_of_mem _ (List.mem_append_left _ (List.mem_append_left _ (List.mem_of_getElem? (i := 33) rfl)))) (List.mem_cons_of_mem _ (List.mem_append_left _ (List.mem_append_left _ (List.mem_of_getElem? (i := 3) rfl)))) (by decide +kernel)) gg_x_function_character
theorem gg_x_function_codeOf : GoodIn w_x_function w_x_codeOf := goodIn_sub (fun w h => (List.mem_cons.mp h).elim (fun e => (List.mem_cons_of_mem _ (List.mem_append_left _ (List.mem_append_right _ (List.mem_append_right _ (List.mem_append_right _ (List.mem_append_right _ (List.mem_append_right _ (List.mem_append_right _ (List.mem_append_right _ (List.mem_append_right _ (List.mem_append_right _ (List.mem_append_right _ (List.mem_append_right _ (List.mem_append_left _ (List.mem_cons.mpr (Or.inl e))))))))))))))))) (fun h => (List.mem_append.mp h).elim (fun h => (List.mem_cons_of_mem _ (List.mem_append_left _ (List.mem_append_right _ (List.mem_append_right _ (List.mem_append_right _ (List.mem_append_right _ (List.mem_append_right _ (List.mem_append_right _ (List.mem_append_right _ (List.mem_append_right _ (List.mem_append_right _ (List.mem_append_right _ (List.mem_append_right _ (List.mem_append_left _ (List.mem_cons_of_mem _ h)))))))))))))))) (fun h => List.mem_cons_of_mem _ (List.mem_append_right _ h)))) w_x_codeOf_good
theorem g_x_function_codeOf_776 : GoodIn w_x_function (wsV RX12 776 RX12 yX12_codeOf w_x_codeOf) := goodIn_app (nb_g4 (List.mem_cons_of_mem _ (List.mem_append_left _ (List.mem_append_left _ (List.mem_of_getElem? (i := 34) rfl)))) (List.mem_cons_of_mem _ (List.mem_append_left _ (List.mem_append_left _ (List.mem_of_getElem? (i := 35) rfl)))) (List.mem_cons_of_mem _ (List.mem_append_left _ (List.mem_append_left _ (List.mem_of_getElem? (i := 36) rfl)))) (List.mem_cons_of_mem _ (List.mem_append_left _ (List.mem_append_left _ (List.mem_of_getElem? (i := 3) rfl)))) (by decide +kernel)) gg_x_function_codeOf
theorem gg_x_function_drawn : GoodIn w_x_function w_x_drawn := goodIn_sub (fun w h => (List.mem_cons.mp h).elim (fun e => (List.mem_cons_of_mem _ (List.mem_append_left _ (List.mem_append_right _ (List.mem_append_right _ (List.mem_append_right _ (List.mem_append_right _ (List.mem_append_right _ (List.mem_append_right _ (List.mem_append_right _ (List.mem_append_right _ (List.mem_append_right _ (List.mem_append_right _ (List.mem_append_right _ (List.mem_append_right _ (List.mem_append_right _ (List.mem_append_left _ (List.mem_cons.mpr (Or.inl e))))))))))))))))))) (fun h => (List.mem_append.mp h).elim (fun h => (List.mem_cons_of_mem _ (List.mem_append_left _ (List.mem_append_right _ (List.mem_append_right _ (List.mem_append_right _ (List.mem_append_right _ (List.mem_append_right _ (List.mem_append_right _ (List.mem_append_right _ (List.mem_append_right _ (List.mem_append_right _ (List.mem_append_right _ (List.mem_append_right _ (List.mem_append_right _ (List.mem_append_right _ (List.mem_append_left _ (List.mem_cons_of_mem _ h)))))))))))))))))) (fun h => List.mem_cons_of_mem _ (List.mem_append_right _ h)))) w_x_drawn_good
theorem g_x_function_drawn_782 : GoodIn w_x_function (wsV RX12 782 RX12 yX12_drawn w_x_drawn) := goodIn_app (nb_g4 (List.mem_cons_of_mem _ (List.mem_append_left _ (List.mem_append_left _ (List.mem_of_getElem? (i := 40) rfl)))) (List.mem_cons_of_mem _ (List.mem_append_left _ (List.mem_append_left _ (List.mem_of_getElem? (i := 41) rfl)))) (List.mem_cons_of_mem _ (List.mem_append_left _ (List.mem_append_left _ (List.mem_of_getElem? (i := 42) rfl)))) (List.mem_cons_of_mem _ (List.mem_append_left _ (List.mem_append_left _ (List.mem_of_getElem? (i := 3) rfl)))) (by decide +kernel)) gg_x_function_drawn
theorem gg_x_function_kind : GoodIn w_x_function w_x_kind := goodIn_sub (fun w h => (List.mem_cons.mp h).elim (fun e => (List.mem_cons_of_mem _ (List.mem_append_left _ (List.mem_append_right _ (List.mem_append_left _ (List.mem_cons.mpr (Or.inl e))))))) (fun h => (List.mem_append.mp h).elim (fun h => (List.mem_cons_of_mem _ (List.mem_append_left _ (List.mem_append_right _ (List.mem_append_left _ (List.mem_cons_of_mem _ h)))))) (fun h => List.mem_cons_of_mem _ (List.mem_append_right _ h)))) w_x_kind_good
theorem g_x_function_kind_545 : GoodIn w_x_function (wsV RX12 545 RX12 yX12_kind w_x_kind) := goodIn_app (nb_g4 (List.mem_cons_of_mem _ (List.mem_append_left _ (List.mem_append_left _ (List.mem_of_getElem? (i := 0) rfl)))) (List.mem_cons_of_mem _ (List.mem_append_left _ (List.mem_append_left _ (List.mem_of_getElem? (i := 1) rfl)))) (List.mem_cons_of_mem _ (List.mem_append_left _ (List.mem_append_left _ (List.mem_of_getElem? (i := 2) rfl)))) (List.mem_cons_of_mem _ (List.mem_append_left _ (List.mem_append_left _ (List.mem_of_getElem? (i := 3) rfl)))) (by decide +kernel)) gg_x_function_kind
theorem gg_x_function_other : GoodIn w_x_function w_x_other := goodIn_sub (fun w h => (List.mem_cons.mp h).elim (fun e => (List.mem_cons_of_mem _ (List.mem_append_left _ (List.mem_append_right _ (List.mem_append_right _ (List.mem_append_right _ (List.mem_append_right _ (List.mem_append_left _ (List.mem_cons.mpr (Or.inl e)))))))))) (fun h => (List.mem_append.mp h).elim (fun h => (List.mem_cons_of_mem _ (List.mem_append_left _ (List.mem_append_right _ (List.mem_append_right _ (List.mem_append_right _ (List.mem_append_right _ (List.mem_append_left _ (List.mem_cons_of_mem _ h))))))))) (fun h => List.mem_cons_of_mem _ (List.mem_append_right _ h)))) w_x_other_good
theorem g_x_function_other_669 : GoodIn w_x_function (wsV RX12 669 RX12 yX12_other w_x_other) := goodIn_app (nb_g4 (List.mem_cons_of_mem _ (List.mem_append_left _ (List.mem_append_left _ (List.mem_of_getElem? (i := 10) rfl)))) (List.mem_cons_of_mem _ (List.mem_append_left _ (List.mem_append_left _ (List.mem_of_getElem? (i := 11) rfl)))) (List.mem_cons_of_mem _ (List.mem_append_left _ (List.mem_append_left _ (List.mem_of_getElem? (i := 12) rfl)))) (List.mem_cons_of_mem _ (List.mem_append_left _ (List.mem_append_left _ (List.mem_of_getElem? (i := 3) rfl)))) (by decide +kernel)) gg_x_function_other
theorem gg_x_function_powerSet : GoodIn w_x_function w_x_powerSet := goodIn_sub (fun w h => (List.mem_cons.mp h).elim (fun e => (List.mem_cons_of_mem _ (List.mem_append_left _ (List.mem_append_right _ (List.mem_append_right _ (List.mem_append_right _ (List.mem_append_right _ (List.mem_append_right _ (List.mem_append_right _ (List.mem_append_left _ (List.mem_cons.mpr (Or.inl e)))))))))))) (fun h => (List.mem_append.mp h).elim (fun h => (List.mem_cons_of_mem _ (List.mem_append_left _ (List.mem_append_right _ (List.mem_append_right _ (List.mem_append_right _ (List.mem_append_right _ (List.mem_append_right _ (List.mem_append_right _ (List.mem_append_left _ (List.mem_cons_of_mem _ h))))))))))) (fun h => List.mem_cons_of_mem _ (List.mem_append_right _ h)))) w_x_powerSet_good
theorem g_x_function_powerSet_767 : GoodIn w_x_function (wsV RX12 767 RX12 yX12_powerSet w_x_powerSet) := goodIn_app (nb_g4 (List.mem_cons_of_mem _ (List.mem_append_left _ (List.mem_append_left _ (List.mem_of_getElem? (i := 17) rfl)))) (List.mem_cons_of_mem _ (List.mem_append_left _ (List.mem_append_left _ (List.mem_of_getElem? (i := 18) rfl)))) (List.mem_cons_of_mem _ (List.mem_append_left _ (List.mem_append_left _ (List.mem_of_getElem? (i := 19) rfl)))) (List.mem_cons_of_mem _ (List.mem_append_left _ (List.mem_append_left _ (List.mem_of_getElem? (i := 3) rfl)))) (by decide +kernel)) gg_x_function_powerSet
theorem gg_x_function_print : GoodIn w_x_function w_x_print := goodIn_sub (fun w h => (List.mem_cons.mp h).elim (fun e => (List.mem_cons_of_mem _ (List.mem_append_left _ (List.mem_append_right _ (List.mem_append_right _ (List.mem_append_right _ (List.mem_append_right _ (List.mem_append_right _ (List.mem_append_right _ (List.mem_append_right _ (List.mem_append_right _ (List.mem_append_left _ (List.mem_cons.mpr (Or.inl e)))))))))))))) (fun h => (List.mem_append.mp h).elim (fun h => (List.mem_cons_of_mem _ (List.mem_append_left _ (List.mem_append_right _ (List.mem_append_right _ (List.mem_append_right _ (List.mem_append_right _ (List.mem_append_right _ (List.mem_append_right _ (List.mem_append_right _ (List.mem_append_right _ (List.mem_append_left _ (List.mem_cons_of_mem _ h))))))))))))) (fun h => List.mem_cons_of_mem _ (List.mem_append_right _ h)))) w_x_print_good
theorem g_x_function_print_554 : GoodIn w_x_function (wsV RX12 554 RX12 yX12_print w_x_print) := goodIn_app (nb_g4 (List.mem_cons_of_mem _ (List.mem_append_left _ (List.mem_append_left _ (List.mem_of_getElem? (i := 24) rfl)))) (List.mem_cons_of_mem _ (List.mem_append_left _ (List.mem_append_left _ (List.mem_of_getElem? (i := 25) rfl)))) (List.mem_cons_of_mem _ (List.mem_append_left _ (List.mem_append_left _ (List.mem_of_getElem? (i := 26) rfl)))) (List.mem_cons_of_mem _ (List.mem_append_left _ (List.mem_append_left _ (List.mem_of_getElem? (i := 3) rfl)))) (by decide +kernel)) gg_x_function_print
theorem gg_x_function_reversed : GoodIn w_x_function w_x_reversed := goodIn_sub (fun w h => (List.mem_cons.mp h).elim (fun e => (List.mem_cons_of_mem _ (List.mem_append_left _ (List.mem_append_right _ (List.mem_append_right _ (List.mem_append_right _ (List.mem_append_right _ (List.mem_append_right _ (List.mem_append_right _ (List.mem_append_right _ (List.mem_append_right _ (List.mem_append_right _ (List.mem_append_right _ (List.mem_append_right _ (List.mem_append_right _ (List.mem_append_left _ (List.mem_cons.mpr (Or.inl e)))))))))))))))))) (fun h => (List.mem_append.mp h).elim (fun h => (List.mem_cons_of_mem _ (List.mem_append_left _ (List.mem_append_right _ (List.mem_append_right _ (List.mem_append_right _ (List.mem_append_right _ (List.mem_append_right _ (List.mem_append_right _ (List.mem_append_right _ (List.mem_append_right _ (List.mem_append_right _ (List.mem_append_right _ (List.mem_append_right _ (List.mem_append_right _ (List.mem_append_left _ (List.mem_cons_of_mem _ h))))))))))))))))) (fun h => List.mem_cons_of_mem _ (List.mem_append_right _ h)))) w_x_reversed_good
theorem g_x_function_reversed_779 : GoodIn w_x_function (wsV RX12 779 RX12 yX12_reversed w_x_reversed) := goodIn_app (nb_g4 (List.mem_cons_of_mem _ (List.mem_append_left _ (List.mem_append_left _ (List.mem_of_getElem? (i := 37) rfl)))) (List.mem_cons_of_mem _ (List.mem_append_left _ (List.mem_append_left _ (List.mem_of_getElem? (i := 38) rfl)))) (List.mem_cons_of_mem _ (List.mem_append_left _ (List.mem_append_left _ (List.mem_of_getElem? (i := 39) rfl)))) (List.mem_cons_of_mem _ (List.mem_append_left _ (List.mem_append_left _ (List.mem_of_getElem? (i := 3) rfl)))) (by decide +kernel)) gg_x_function_reversed
theorem gg_x_function_side : GoodIn w_x_function w_x_side := goodIn_sub (fun w h => (List.mem_cons.mp h).elim (fun e => (List.mem_cons_of_mem _ (List.mem_append_left _ (List.mem_append_right _ (List.mem_append_right _ (List.mem_append_right _ (List.mem_append_right _ (List.mem_append_right _ (List.mem_append_left _ (List.mem_cons.mpr (Or.inl e))))))))))) (fun h => (List.mem_append.mp h).elim (fun h => (List.mem_cons_of_mem _ (List.mem_append_left _ (List.mem_append_right _ (List.mem_append_right _ (List.mem_append_right _ (List.mem_append_right _ (List.mem_append_right _ (List.mem_append_left _ (List.mem_cons_of_mem _ h)))))))))) (fun h => List.mem_cons_of_mem _ (List.mem_append_right _ h)))) w_x_side_good
theorem g_x_function_side_764 : GoodIn w_x_function (wsV RX12 764 RX12 yX12_side w_x_side) := goodIn_app (nb_g4 (List.mem_cons_of_mem _ (List.mem_append_left _ (List.mem_append_left _ (List.mem_of_getElem? (i := 14) rfl)))) (List.mem_cons_of_mem _ (List.mem_append_left _ (List.mem_append_left _ (List.mem_of_getElem? (i := 15) rfl)))) (List.mem_cons_of_mem _ (List.mem_append_left _ (List.mem_append_left _ (List.mem_of_getElem? (i := 16) rfl)))) (List.mem_cons_of_mem _ (List.mem_append_left _ (List.mem_append_left _ (List.mem_of_getElem? (i := 3) rfl)))) (by decide +kernel)) gg_x_function_side
theorem gg_x_function_signOf : GoodIn w_x_function w_x_signOf := goodIn_sub (fun w h => (List.mem_cons.mp h).elim (fun e => (List.mem_cons_of_mem _ (List.mem_append_left _ (List.mem_append_right _ (List.mem_append_right _ (List.mem_append_right _ (List.mem_append_left _ (List.mem_cons.mpr (Or.inl e))))))))) (fun h => (List.mem_append.mp h).elim (fun h => (List.mem_cons_of_mem _ (List.mem_append_left _ (List.mem_append_right _ (List.mem_append_right _ (List.mem_append_right _ (List.mem_append_left _ (List.mem_cons_of_mem _ h)))))))) (fun h => List.mem_cons_of_mem _ (List.mem_append_right _ h)))) w_x_signOf_good
theorem g_x_function_signOf_463 : GoodIn w_x_function (wsV RX12 463 RX12 yX12_signOf w_x_signOf) := goodIn_app (nb_g4 (List.mem_cons_of_mem _ (List.mem_append_left _ (List.mem_append_left _ (List.mem_of_getElem? (i := 7) rfl)))) (List.mem_cons_of_mem _ (List.mem_append_left _ (List.mem_append_left _ (List.mem_of_getElem? (i := 8) rfl)))) (List.mem_cons_of_mem _ (List.mem_append_left _ (List.mem_append_left _ (List.mem_of_getElem? (i := 9) rfl)))) (List.mem_cons_of_mem _ (List.mem_append_left _ (List.mem_append_left _ (List.mem_of_getElem? (i := 3) rfl)))) (by decide +kernel)) gg_x_function_signOf
theorem gg_x_function_stringOf__48 : GoodIn w_x_function w_x_stringOf__48 := goodIn_sub (fun w h => (List.mem_cons.mp h).elim (fun e => (List.mem_cons_of_mem _ (List.mem_append_left _ (List.mem_append_right _ (List.mem_append_right _ (List.mem_append_right _ (List.mem_append_right _ (List.mem_append_right _ (List.mem_append_right _ (List.mem_append_right _ (List.mem_append_right _ (List.mem_append_right _ (List.mem_append_left _ (List.mem_cons.mpr (Or.inl e))))))))))))))) (fun h => (List.mem_append.mp h).elim (fun h => (List.mem_cons_of_mem _ (List.mem_append_left _ (List.mem_append_right _ (List.mem_append_right _ (List.mem_append_right _ (List.mem_append_right _ (List.mem_append_right _ (List.mem_append_right _ (List.mem_append_right _ (List.mem_append_right _ (List.mem_append_right _ (List.mem_append_left _ (List.mem_cons_of_mem _ h)))))))))))))) (fun h => List.mem_cons_of_mem _ (List.mem_append_right _ h)))) w_x_stringOf__48_good
theorem g_x_function_stringOf__48_597 : GoodIn w_x_function (wsV RX12 597 RX12 yX12_stringOf w_x_stringOf__48) := goodIn_app (nb_g4 (List.mem_cons_of_mem _ (List.mem_append_left _ (List.mem_append_left _ (List.mem_of_getElem? (i := 28) rfl)))) (List.mem_cons_of_mem _ (List.mem_append_left _ (List.mem_append_left _ (List.mem_of_getElem? (i := 29) rfl)))) (List.mem_cons_of_mem _ (List.mem_append_left _ (List.mem_append_left _ (List.mem_of_getElem? (i := 30) rfl)))) (List.mem_cons_of_mem _ (List.mem_append_left _ (List.mem_append_left _ (List.mem_of_getElem? (i := 3) rfl)))) (by decide +kernel)) gg_x_function_stringOf__48
theorem gg_x_function_typeOf : GoodIn w_x_function w_x_typeOf := goodIn_sub (fun w h => (List.mem_cons.mp h).elim (fun e => (List.mem_cons_of_mem _ (List.mem_append_left _ (List.mem_append_right _ (List.mem_append_right _ (List.mem_append_right _ (List.mem_append_right _ (List.mem_append_right _ (List.mem_append_right _ (List.mem_append_right _ (List.mem_append_left _ (List.mem_cons.mpr (Or.inl e))))))))))))) (fun h => (List.mem_append.mp h).elim (fun h => (List.mem_cons_of_mem _ (List.mem_append_left _ (List.mem_append_right _ (List.mem_append_right _ (List.mem_append_right _ (List.mem_append_right _ (List.mem_append_right _ (List.mem_append_right _ (List.mem_append_right _ (List.mem_append_left _ (List.mem_cons_of_mem _ h)))))))))))) (fun h => List.mem_cons_of_mem _ (List.mem_append_right _ h)))) w_x_typeOf_good
theorem g_x_function_typeOf_770 : GoodIn w_x_function (wsV RX12 770 RX12 yX12_typeOf w_x_typeOf) := goodIn_app (nb_g4 (List.mem_cons_of_mem _ (List.mem_append_left _ (List.mem_append_left _ (List.mem_of_getElem? (i := 20) rfl)))) (List.mem_cons_of_mem _ (List.mem_append_left _ (List.mem_append_left _ (List.mem_of_getElem? (i := 21) rfl)))) (List.mem_cons_of_mem _ (List.mem_append_left _ (List.mem_append_left _ (List.mem_of_getElem? (i := 22) rfl)))) (List.mem_cons_of_mem _ (List.mem_append_left _ (List.mem_append_left _ (List.mem_of_getElem? (i := 3) rfl)))) (by decide +kernel)) gg_x_function_typeOf
theorem gg_x_function_wrongKind : GoodIn w_x_function w_x_wrongKind := goodIn_sub (fun w h => (List.mem_cons.mp h).elim (fun e => (List.mem_cons_of_mem _ (List.mem_append_left _ (List.mem_append_right _ (List.mem_append_right _ (List.mem_append_left _ (List.mem_cons.mpr (Or.inl e)))))))) (fun h => (List.mem_append.mp h).elim (fun h => (List.mem_cons_of_mem _ (List.mem_append_left _ (List.mem_append_right _ (List.mem_append_right _ (List.mem_append_left _ (List.mem_cons_of_mem _ h))))))) (fun h => List.mem_cons_of_mem _ (List.mem_append_right _ h)))) w_x_wrongKind_good
theorem g_x_function_wrongKind_666 : GoodIn w_x_function (wsV RX12 666 RX12 yX12_wrongKind w_x_wrongKind) := goodIn_app (nb_g4 (List.mem_cons_of_mem _ (List.mem_append_left _ (List.mem_append_left _ (List.mem_of_getElem? (i := 4) rfl)))) (List.mem_cons_of_mem _ (List.mem_append_left _ (List.mem_append_left _ (List.mem_of_getElem? (i := 5) rfl)))) (List.mem_cons_of_mem _ (List.mem_append_left _ (List.mem_append_left _ (List.mem_of_getElem? (i := 6) rfl)))) (List.mem_cons_of_mem _ (List.mem_append_left _ (List.mem_append_left _ (List.mem_of_getElem? (i := 3) rfl)))) (by decide +kernel)) gg_x_function_wrongKind
set_option maxHeartbeats 40000000 in
set_option maxRecDepth 100000 in
theorem c_x_function (l : Launch) (dC : Nat → ClassId) (dI : Nat → Nat → Nat) (cy : Nat → ClassId) (a : Nat → Nat) (k0 : Nat) (L0 : Nat → Int32) (σ0 : MS) (r0 : Int32 × MS) (h0 : x_function k0 0 L0 σ0 = some r0) (sz : Nat) : Met l yX12_function w_x_function ({ frames := 55, cells := 0, slots := 0, locals := 1297 }) (va_Pc [.ref (a 0), .int (L0 1), .int (L0 2)] (nIn (dC, dI) cy sz (vM cy a σ0))) (va_Qi (fun (z : Int32) (_ : Unit) => z = r0.1) (fun _ t => nOut (dC, dI) cy (va_A (vM cy a σ0) sz) (vM cy a r0.2) t) (va_A (vM cy a σ0) sz)) 0 0 (va_A (vM cy a σ0) sz) := by
  refine Met.ofW (cc := cX12_function) (maxL := 4) (ret := (some .int)) (by decide) rfl ?_
  intro p e s m args below meth c s₁ B hml hv
  obtain ⟨rfl, hsz, hP, hK, hD0, hG⟩ := hv
  have hx := B.exec
  have hb := B.bytes
  have hr := B.returns
  have hts := atoms_spec (ws := w_x_function) B.pre
  have hown : s.vm.findClass RX12 = some m.cls := findClass_of_methodNamed B.named
  have hlocks := B.notSynchronized
  subst hsz
  have hD := hD0.self (sz := s.heap.size)
  generalize hAe : va_A (vM cy a σ0) s.heap.size = A at hD ⊢
  have hA : ∀ q : Nat, s.heap.size ≤ q → A q := fun q h => by rw [← hAe]; exact Or.inr h
  have hS : va_S A s.heap s.heap [] := va_S.rf
  have hl := lv_entry ([.ref (a 0), .int (L0 1), .int (L0 2)]) (n := 4) (Nat.le_of_ble_eq_true rfl)
  rw [lg_entry_eq]
  generalize (lg_sl ([.ref (a 0), .int (L0 1), .int (L0 2)]) ++ List.replicate (4 - (lg_sl ([.ref (a 0), .int (L0 1), .int (L0 2)])).length) Slot.unset).toArray = ls at hl ⊢
  have hl : lv_has ls 4 [(0, .ref (a 0)), (1, .int (L0 1)), (2, .int (L0 2))] := hl
  have blk : ∀ k : Nat, (bT p l e (headSpec w_x_function ({ frames := 55, cells := 0, slots := 0, locals := 1297 })).room s m #[.ref (a 0), .int (L0 1), .int (L0 2)] below meth c dC dI cy a A (qI dC dI cy a A below #[.ref (a 0), .int (L0 1), .int (L0 2)] s) 4 (x_function k 0) (fun L => [(0, .ref (a 0)), (1, .int (L 1)), (2, .int (L 2))]) 0 (fun L => [])) ∧ (bT p l e (headSpec w_x_function ({ frames := 55, cells := 0, slots := 0, locals := 1297 })).room s m #[.ref (a 0), .int (L0 1), .int (L0 2)] below meth c dC dI cy a A (qI dC dI cy a A below #[.ref (a 0), .int (L0 1), .int (L0 2)] s) 4 (x_function k 1) (fun L => [(0, .ref (a 0)), (1, .int (L 1)), (2, .int (L 2)), (3, .int (L 3))]) 68 (fun L => [])) ∧ (bT p l e (headSpec w_x_function ({ frames := 55, cells := 0, slots := 0, locals := 1297 })).room s m #[.ref (a 0), .int (L0 1), .int (L0 2)] below meth c dC dI cy a A (qI dC dI cy a A below #[.ref (a 0), .int (L0 1), .int (L0 2)] s) 4 (x_function k 2) (fun L => [(0, .ref (a 0)), (1, .int (L 1)), (2, .int (L 2)), (3, .int (L 3))]) 80 (fun L => [])) ∧ (bT p l e (headSpec w_x_function ({ frames := 55, cells := 0, slots := 0, locals := 1297 })).room s m #[.ref (a 0), .int (L0 1), .int (L0 2)] below meth c dC dI cy a A (qI dC dI cy a A below #[.ref (a 0), .int (L0 1), .int (L0 2)] s) 4 (x_function k 3) (fun L => [(0, .ref (a 0)), (1, .int (L 1)), (2, .int (L 2)), (3, .int (L 3))]) 96 (fun L => [])) ∧ (bT p l e (headSpec w_x_function ({ frames := 55, cells := 0, slots := 0, locals := 1297 })).room s m #[.ref (a 0), .int (L0 1), .int (L0 2)] below meth c dC dI cy a A (qI dC dI cy a A below #[.ref (a 0), .int (L0 1), .int (L0 2)] s) 4 (x_function k 4) (fun L => [(0, .ref (a 0)), (1, .int (L 1)), (2, .int (L 2)), (3, .int (L 3))]) 97 (fun L => [.int (L 100)])) ∧ (bT p l e (headSpec w_x_function ({ frames := 55, cells := 0, slots := 0, locals := 1297 })).room s m #[.ref (a 0), .int (L0 1), .int (L0 2)] below meth c dC dI cy a A (qI dC dI cy a A below #[.ref (a 0), .int (L0 1), .int (L0 2)] s) 4 (x_function k 5) (fun L => [(0, .ref (a 0)), (1, .int (L 1)), (2, .int (L 2)), (3, .int (L 3))]) 98 (fun L => [])) ∧ (bT p l e (headSpec w_x_function ({ frames := 55, cells := 0, slots := 0, locals := 1297 })).room s m #[.ref (a 0), .int (L0 1), .int (L0 2)] below meth c dC dI cy a A (qI dC dI cy a A below #[.ref (a 0), .int (L0 1), .int (L0 2)] s) 4 (x_function k 6) (fun L => [(0, .ref (a 0)), (1, .int (L 1)), (2, .int (L 2)), (3, .int (L 3))]) 111 (fun L => [])) ∧ (bT p l e (headSpec w_x_function ({ frames := 55, cells := 0, slots := 0, locals := 1297 })).room s m #[.ref (a 0), .int (L0 1), .int (L0 2)] below meth c dC dI cy a A (qI dC dI cy a A below #[.ref (a 0), .int (L0 1), .int (L0 2)] s) 4 (x_function k 7) (fun L => [(0, .ref (a 0)), (1, .int (L 1)), (2, .int (L 2)), (3, .int (L 3))]) 126 (fun L => [])) ∧ (bT p l e (headSpec w_x_function ({ frames := 55, cells := 0, slots := 0, locals := 1297 })).room s m #[.ref (a 0), .int (L0 1), .int (L0 2)] below meth c dC dI cy a A (qI dC dI cy a A below #[.ref (a 0), .int (L0 1), .int (L0 2)] s) 4 (x_function k 8) (fun L => [(0, .ref (a 0)), (1, .int (L 1)), (2, .int (L 2)), (3, .int (L 3))]) 134 (fun L => [.int (L 100)])) ∧ (bT p l e (headSpec w_x_function ({ frames := 55, cells := 0, slots := 0, locals := 1297 })).room s m #[.ref (a 0), .int (L0 1), .int (L0 2)] below meth c dC dI cy a A (qI dC dI cy a A below #[.ref (a 0), .int (L0 1), .int (L0 2)] s) 4 (x_function k 9) (fun L => [(0, .ref (a 0)), (1, .int (L 1)), (2, .int (L 2)), (3, .int (L 3))]) 135 (fun L => [])) ∧ (bT p l e (headSpec w_x_function ({ frames := 55, cells := 0, slots := 0, locals := 1297 })).room s m #[.ref (a 0), .int (L0 1), .int (L0 2)] below meth c dC dI cy a A (qI dC dI cy a A below #[.ref (a 0), .int (L0 1), .int (L0 2)] s) 4 (x_function k 10) (fun L => [(0, .ref (a 0)), (1, .int (L 1)), (2, .int (L 2)), (3, .int (L 3))]) 142 (fun L => [])) ∧ (bT p l e (headSpec w_x_function ({ frames := 55, cells := 0, slots := 0, locals := 1297 })).room s m #[.ref (a 0), .int (L0 1), .int (L0 2)] below meth c dC dI cy a A (qI dC dI cy a A below #[.ref (a 0), .int (L0 1), .int (L0 2)] s) 4 (x_function k 11) (fun L => [(0, .ref (a 0)), (1, .int (L 1)), (2, .int (L 2)), (3, .int (L 3))]) 149 (fun L => [])) ∧ (bT p l e (headSpec w_x_function ({ frames := 55, cells := 0, slots := 0, locals := 1297 })).room s m #[.ref (a 0), .int (L0 1), .int (L0 2)] below meth c dC dI cy a A (qI dC dI cy a A below #[.ref (a 0), .int (L0 1), .int (L0 2)] s) 4 (x_function k 12) (fun L => [(0, .ref (a 0)), (1, .int (L 1)), (2, .int (L 2)), (3, .int (L 3))]) 155 (fun L => [])) ∧ (bT p l e (headSpec w_x_function ({ frames := 55, cells := 0, slots := 0, locals := 1297 })).room s m #[.ref (a 0), .int (L0 1), .int (L0 2)] below meth c dC dI cy a A (qI dC dI cy a A below #[.ref (a 0), .int (L0 1), .int (L0 2)] s) 4 (x_function k 13) (fun L => [(0, .ref (a 0)), (1, .int (L 1)), (2, .int (L 2)), (3, .int (L 3))]) 161 (fun L => [])) ∧ (bT p l e (headSpec w_x_function ({ frames := 55, cells := 0, slots := 0, locals := 1297 })).room s m #[.ref (a 0), .int (L0 1), .int (L0 2)] below meth c dC dI cy a A (qI dC dI cy a A below #[.ref (a 0), .int (L0 1), .int (L0 2)] s) 4 (x_function k 14) (fun L => [(0, .ref (a 0)), (1, .int (L 1)), (2, .int (L 2)), (3, .int (L 3))]) 166 (fun L => [])) ∧ (bT p l e (headSpec w_x_function ({ frames := 55, cells := 0, slots := 0, locals := 1297 })).room s m #[.ref (a 0), .int (L0 1), .int (L0 2)] below meth c dC dI cy a A (qI dC dI cy a A below #[.ref (a 0), .int (L0 1), .int (L0 2)] s) 4 (x_function k 15) (fun L => [(0, .ref (a 0)), (1, .int (L 1)), (2, .int (L 2)), (3, .int (L 3))]) 186 (fun L => [])) ∧ (bT p l e (headSpec w_x_function ({ frames := 55, cells := 0, slots := 0, locals := 1297 })).room s m #[.ref (a 0), .int (L0 1), .int (L0 2)] below meth c dC dI cy a A (qI dC dI cy a A below #[.ref (a 0), .int (L0 1), .int (L0 2)] s) 4 (x_function k 16) (fun L => [(0, .ref (a 0)), (1, .int (L 1)), (2, .int (L 2)), (3, .int (L 3))]) 192 (fun L => [])) ∧ (bT p l e (headSpec w_x_function ({ frames := 55, cells := 0, slots := 0, locals := 1297 })).room s m #[.ref (a 0), .int (L0 1), .int (L0 2)] below meth c dC dI cy a A (qI dC dI cy a A below #[.ref (a 0), .int (L0 1), .int (L0 2)] s) 4 (x_function k 17) (fun L => [(0, .ref (a 0)), (1, .int (L 1)), (2, .int (L 2)), (3, .int (L 3))]) 198 (fun L => [])) ∧ (bT p l e (headSpec w_x_function ({ frames := 55, cells := 0, slots := 0, locals := 1297 })).room s m #[.ref (a 0), .int (L0 1), .int (L0 2)] below meth c dC dI cy a A (qI dC dI cy a A below #[.ref (a 0), .int (L0 1), .int (L0 2)] s) 4 (x_function k 18) (fun L => [(0, .ref (a 0)), (1, .int (L 1)), (2, .int (L 2)), (3, .int (L 3))]) 204 (fun L => [])) := by
    intro k
    induction k with
    | zero => exact ⟨fun L σ r h => (by cases h), fun L σ r h => (by cases h), fun L σ r h => (by cases h), fun L σ r h => (by cases h), fun L σ r h => (by cases h), fun L σ r h => (by cases h), fun L σ r h => (by cases h), fun L σ r h => (by cases h), fun L σ r h => (by cases h), fun L σ r h => (by cases h), fun L σ r h => (by cases h), fun L σ r h => (by cases h), fun L σ r h => (by cases h), fun L σ r h => (by cases h), fun L σ r h => (by cases h), fun L σ r h => (by cases h), fun L σ r h => (by cases h), fun L σ r h => (by cases h), fun L σ r h => (by cases h)⟩
    | succ k ih =>
      refine ⟨?_, ?_, ?_, ?_, ?_, ?_, ?_, ?_, ?_, ?_, ?_, ?_, ?_, ?_, ?_, ?_, ?_, ?_, ?_⟩
      · intro L σ r h H locs ls hP hD hS hl
        rw [x_function] at h
        refine lv_aload_n hx hb dX12_function_0 rfl (lv_at hl 0 rfl) ?_
        refine lv_iload_n hx hb dX12_function_1 rfl (lv_at hl 2 rfl) ?_
        obtain ⟨r1, hc1, h⟩ := ob_ex h
        refine nc_Vi (As := [.int (L 2)]) (rest := []) ⟨hx, hb, hml, hown, hts⟩ (c_x_kind l dC dI cy a k (upd (fun _ => 0) 1 ((L 2))) σ r1 hc1 H.size) (cwV 1 hts g_x_function_kind_545 rfl rfl rfl hd_x_kind ⟨Nat.le_of_ble_eq_true rfl, Nat.le_of_ble_eq_true rfl⟩) hK hG hA hP hD hS rfl hl.1 rfl (Nat.le_of_ble_eq_true rfl) dX12_function_2 ⟨Nat.le_refl _, Nat.le_refl _⟩ (fun H locs hP hD hS => ?_)
        refine lv_istore_n (lv' := [(3, .int r1.1), (0, .ref (a 0)), (1, .int (L 1)), (2, .int (L 2))]) hx hb dX12_function_5 rfl hl (by decide) rfl (fun ls hl => ?_)
        refine lv_iload_n hx hb dX12_function_6 rfl (lv_at hl 2 rfl) ?_
        by_cases q2 : ((L 1)) = (39 : Int32)
        · rw [if_pos q2] at h
          refine lv_tableIn (off := 61) (tgt := 68) hx hb dX12_function_7 (by rw [q2]; decide) (by rw [q2]; decide) (by rw [q2]; decide) (by decide) ?_
          exact ih.2.1 (upd L 3 r1.1) r1.2 r h H locs ls hP hD hS (lv_sub hl [1, 2, 3, 0] rfl)
        · rw [if_neg q2] at h
          by_cases q3 : ((L 1)) = (40 : Int32)
          · rw [if_pos q3] at h
            refine lv_tableIn (off := 91) (tgt := 98) hx hb dX12_function_7 (by rw [q3]; decide) (by rw [q3]; decide) (by rw [q3]; decide) (by decide) ?_
            exact ih.2.2.2.2.2.1 (upd L 3 r1.1) r1.2 r h H locs ls hP hD hS (lv_sub hl [1, 2, 3, 0] rfl)
          · rw [if_neg q3] at h
            by_cases q4 : ((L 1)) = (41 : Int32)
            · rw [if_pos q4] at h
              refine lv_tableIn (off := 128) (tgt := 135) hx hb dX12_function_7 (by rw [q4]; decide) (by rw [q4]; decide) (by rw [q4]; decide) (by decide) ?_
              exact ih.2.2.2.2.2.2.2.2.2.1 (upd L 3 r1.1) r1.2 r h H locs ls hP hD hS (lv_sub hl [1, 2, 3, 0] rfl)
            · rw [if_neg q4] at h
              by_cases q5 : ((L 1)) = (42 : Int32)
              · rw [if_pos q5] at h
                refine lv_tableIn (off := 135) (tgt := 142) hx hb dX12_function_7 (by rw [q5]; decide) (by rw [q5]; decide) (by rw [q5]; decide) (by decide) ?_
                exact ih.2.2.2.2.2.2.2.2.2.2.1 (upd L 3 r1.1) r1.2 r h H locs ls hP hD hS (lv_sub hl [1, 2, 3, 0] rfl)
              · rw [if_neg q5] at h
                by_cases q6 : ((L 1)) = (43 : Int32)
                · rw [if_pos q6] at h
                  refine lv_tableIn (off := 142) (tgt := 149) hx hb dX12_function_7 (by rw [q6]; decide) (by rw [q6]; decide) (by rw [q6]; decide) (by decide) ?_
                  exact ih.2.2.2.2.2.2.2.2.2.2.2.1 (upd L 3 r1.1) r1.2 r h H locs ls hP hD hS (lv_sub hl [1, 2, 3, 0] rfl)
                · rw [if_neg q6] at h
                  by_cases q7 : ((L 1)) = (44 : Int32)
                  · rw [if_pos q7] at h
                    refine lv_tableIn (off := 148) (tgt := 155) hx hb dX12_function_7 (by rw [q7]; decide) (by rw [q7]; decide) (by rw [q7]; decide) (by decide) ?_
                    exact ih.2.2.2.2.2.2.2.2.2.2.2.2.1 (upd L 3 r1.1) r1.2 r h H locs ls hP hD hS (lv_sub hl [1, 2, 3, 0] rfl)
                  · rw [if_neg q7] at h
                    by_cases q8 : ((L 1)) = (45 : Int32)
                    · rw [if_pos q8] at h
                      refine lv_tableIn (off := 154) (tgt := 161) hx hb dX12_function_7 (by rw [q8]; decide) (by rw [q8]; decide) (by rw [q8]; decide) (by decide) ?_
                      exact ih.2.2.2.2.2.2.2.2.2.2.2.2.2.1 (upd L 3 r1.1) r1.2 r h H locs ls hP hD hS (lv_sub hl [1, 2, 3, 0] rfl)
                    · rw [if_neg q8] at h
                      by_cases q9 : ((L 1)) = (46 : Int32)
                      · rw [if_pos q9] at h
                        refine lv_tableIn (off := 179) (tgt := 186) hx hb dX12_function_7 (by rw [q9]; decide) (by rw [q9]; decide) (by rw [q9]; decide) (by decide) ?_
                        exact ih.2.2.2.2.2.2.2.2.2.2.2.2.2.2.2.1 (upd L 3 r1.1) r1.2 r h H locs ls hP hD hS (lv_sub hl [1, 2, 3, 0] rfl)
                      · rw [if_neg q9] at h
                        by_cases q10 : ((L 1)) = (47 : Int32)
                        · rw [if_pos q10] at h
                          refine lv_tableIn (off := 185) (tgt := 192) hx hb dX12_function_7 (by rw [q10]; decide) (by rw [q10]; decide) (by rw [q10]; decide) (by decide) ?_
                          exact ih.2.2.2.2.2.2.2.2.2.2.2.2.2.2.2.2.1 (upd L 3 r1.1) r1.2 r h H locs ls hP hD hS (lv_sub hl [1, 2, 3, 0] rfl)
                        · rw [if_neg q10] at h
                          by_cases q11 : ((L 1)) = (48 : Int32)
                          · rw [if_pos q11] at h
                            refine lv_tableIn (off := 197) (tgt := 204) hx hb dX12_function_7 (by rw [q11]; decide) (by rw [q11]; decide) (by rw [q11]; decide) (by decide) ?_
                            exact ih.2.2.2.2.2.2.2.2.2.2.2.2.2.2.2.2.2.2 (upd L 3 r1.1) r1.2 r h H locs ls hP hD hS (lv_sub hl [1, 2, 3, 0] rfl)
                          · rw [if_neg q11] at h
                            by_cases q12 : ((L 1)) = (49 : Int32)
                            · rw [if_pos q12] at h
                              refine lv_tableIn (off := 197) (tgt := 204) hx hb dX12_function_7 (by rw [q12]; decide) (by rw [q12]; decide) (by rw [q12]; decide) (by decide) ?_
                              exact ih.2.2.2.2.2.2.2.2.2.2.2.2.2.2.2.2.2.2 (upd L 3 r1.1) r1.2 r h H locs ls hP hD hS (lv_sub hl [1, 2, 3, 0] rfl)
                            · rw [if_neg q12] at h
                              by_cases q13 : ((L 1)) = (50 : Int32)
                              · rw [if_pos q13] at h
                                refine lv_tableIn (off := 191) (tgt := 198) hx hb dX12_function_7 (by rw [q13]; decide) (by rw [q13]; decide) (by rw [q13]; decide) (by decide) ?_
                                exact ih.2.2.2.2.2.2.2.2.2.2.2.2.2.2.2.2.2.1 (upd L 3 r1.1) r1.2 r h H locs ls hP hD hS (lv_sub hl [1, 2, 3, 0] rfl)
                              · rw [if_neg q13] at h
                                have nq2 : ¬ ((L 1)).toInt = 39 := nb_ti q2 rfl
                                have nq3 : ¬ ((L 1)).toInt = 40 := nb_ti q3 rfl
                                have nq4 : ¬ ((L 1)).toInt = 41 := nb_ti q4 rfl
                                have nq5 : ¬ ((L 1)).toInt = 42 := nb_ti q5 rfl
                                have nq6 : ¬ ((L 1)).toInt = 43 := nb_ti q6 rfl
                                have nq7 : ¬ ((L 1)).toInt = 44 := nb_ti q7 rfl
                                have nq8 : ¬ ((L 1)).toInt = 45 := nb_ti q8 rfl
                                have nq9 : ¬ ((L 1)).toInt = 46 := nb_ti q9 rfl
                                have nq10 : ¬ ((L 1)).toInt = 47 := nb_ti q10 rfl
                                have nq11 : ¬ ((L 1)).toInt = 48 := nb_ti q11 rfl
                                have nq12 : ¬ ((L 1)).toInt = 49 := nb_ti q12 rfl
                                have nq13 : ¬ ((L 1)).toInt = 50 := nb_ti q13 rfl
                                refine lv_tableOut (tgt := 204) hx hb dX12_function_7 (by omega) (by decide) ?_
                                exact ih.2.2.2.2.2.2.2.2.2.2.2.2.2.2.2.2.2.2 (upd L 3 r1.1) r1.2 r h H locs ls hP hD hS (lv_sub hl [1, 2, 3, 0] rfl)
      · intro L σ r h H locs ls hP hD hS hl
        rw [x_function] at h
        refine lv_iload_n hx hb dX12_function_68 rfl (lv_at hl 3 rfl) ?_
        refine lv_iconst (v := 2) hx hb dX12_function_69 (by decide) ?_
        refine lv_icmp_eq (tgt := 80) hx hb dX12_function_70 (by decide) (fun c1 => ?_) (fun c1 => ?_)
        · rw [if_pos c1] at h
          exact ih.2.2.1 L σ r h H locs ls hP hD hS (lv_sub hl [0, 1, 2, 3] rfl)
        · rw [if_neg c1] at h
          refine lv_aload_n hx hb dX12_function_73 rfl (lv_at hl 0 rfl) ?_
          obtain ⟨r2, hc2, h⟩ := ob_ex h
          refine nc_Vi (As := []) (rest := []) ⟨hx, hb, hml, hown, hts⟩ (c_x_wrongKind l dC dI cy a k (fun _ => 0) σ r2 hc2 H.size) (cwV 0 hts g_x_function_wrongKind_666 rfl rfl rfl hd_x_wrongKind ⟨Nat.le_of_ble_eq_true rfl, Nat.le_of_ble_eq_true rfl⟩) hK hG hA hP hD hS rfl hl.1 rfl (Nat.le_of_ble_eq_true rfl) dX12_function_74 ⟨Nat.le_refl _, Nat.le_refl _⟩ (fun H locs hP hD hS => ?_)
          refine lv_goto (tgt := 97) hx hb dX12_function_77 (by decide) ?_
          exact ih.2.2.2.2.1 (upd L 100 r2.1) r2.2 r h H locs ls hP hD hS (lv_sub hl [0, 1, 2, 3] rfl)
      · intro L σ r h H locs ls hP hD hS hl
        rw [x_function] at h
        refine lv_aload_n hx hb dX12_function_80 rfl (lv_at hl 0 rfl) ?_
        refine lv_iload_n hx hb dX12_function_81 rfl (lv_at hl 2 rfl) ?_
        obtain ⟨r1, hc1, h⟩ := ob_ex h
        refine nc_Vi (As := [.int (L 2)]) (rest := []) ⟨hx, hb, hml, hown, hts⟩ (c_x_signOf l dC dI cy a k (upd (fun _ => 0) 1 ((L 2))) σ r1 hc1 H.size) (cwV 1 hts g_x_function_signOf_463 rfl rfl rfl hd_x_signOf ⟨Nat.le_of_ble_eq_true rfl, Nat.le_of_ble_eq_true rfl⟩) hK hG hA hP hD hS rfl hl.1 rfl (Nat.le_of_ble_eq_true rfl) dX12_function_82 ⟨Nat.le_refl _, Nat.le_refl _⟩ (fun H locs hP hD hS => ?_)
        refine lv_if_ge (tgt := 96) hx hb dX12_function_85 (by decide) (fun c2 => ?_) (fun c2 => ?_)
        · rw [if_pos c2] at h
          exact ih.2.2.2.1 L r1.2 r h H locs ls hP hD hS (lv_sub hl [0, 1, 2, 3] rfl)
        · rw [if_neg c2] at h
          refine lv_aload_n hx hb dX12_function_88 rfl (lv_at hl 0 rfl) ?_
          refine lv_iload_n hx hb dX12_function_89 rfl (lv_at hl 2 rfl) ?_
          obtain ⟨r3, hc3, h⟩ := ob_ex h
          refine nc_Vi (As := [.int (L 2)]) (rest := []) ⟨hx, hb, hml, hown, hts⟩ (c_x_other l dC dI cy a k (upd (fun _ => 0) 1 ((L 2))) r1.2 r3 hc3 H.size) (cwV 1 hts g_x_function_other_669 rfl rfl rfl hd_x_other ⟨Nat.le_of_ble_eq_true rfl, Nat.le_of_ble_eq_true rfl⟩) hK hG hA hP hD hS rfl hl.1 rfl (Nat.le_of_ble_eq_true rfl) dX12_function_90 ⟨Nat.le_refl _, Nat.le_refl _⟩ (fun H locs hP hD hS => ?_)
          refine lv_goto (tgt := 97) hx hb dX12_function_93 (by decide) ?_
          exact ih.2.2.2.2.1 (upd L 100 r3.1) r3.2 r h H locs ls hP hD hS (lv_sub hl [0, 1, 2, 3] rfl)
      · intro L σ r h H locs ls hP hD hS hl
        rw [x_function] at h
        refine lv_iload_n hx hb dX12_function_96 rfl (lv_at hl 2 rfl) ?_
        exact ih.2.2.2.2.1 (upd L 100 ((L 2))) σ r h H locs ls hP hD hS (lv_sub hl [0, 1, 2, 3] rfl)
      · intro L σ r h H locs ls hP hD hS hl
        rw [x_function] at h
        cases h
        exact W.iret (v := (L 100)) hx hb hr (fun t ht hW => ⟨⟨(L 100), (), rfl, rfl, by rw [ht]; exact hP, va_K.moved hW.alike hK, hD⟩, hS.F ht⟩) hS.2.2 dX12_function_97
      · intro L σ r h H locs ls hP hD hS hl
        rw [x_function] at h
        refine lv_iload_n hx hb dX12_function_98 rfl (lv_at hl 3 rfl) ?_
        refine lv_bipush (v := 6) hx hb dX12_function_99 (by decide) ?_
        refine lv_icmp_eq (tgt := 111) hx hb dX12_function_101 (by decide) (fun c1 => ?_) (fun c1 => ?_)
        · rw [if_pos c1] at h
          exact ih.2.2.2.2.2.2.1 L σ r h H locs ls hP hD hS (lv_sub hl [0, 1, 2, 3] rfl)
        · rw [if_neg c1] at h
          refine lv_aload_n hx hb dX12_function_104 rfl (lv_at hl 0 rfl) ?_
          obtain ⟨r2, hc2, h⟩ := ob_ex h
          refine nc_Vi (As := []) (rest := []) ⟨hx, hb, hml, hown, hts⟩ (c_x_wrongKind l dC dI cy a k (fun _ => 0) σ r2 hc2 H.size) (cwV 0 hts g_x_function_wrongKind_666 rfl rfl rfl hd_x_wrongKind ⟨Nat.le_of_ble_eq_true rfl, Nat.le_of_ble_eq_true rfl⟩) hK hG hA hP hD hS rfl hl.1 rfl (Nat.le_of_ble_eq_true rfl) dX12_function_105 ⟨Nat.le_refl _, Nat.le_refl _⟩ (fun H locs hP hD hS => ?_)
          refine lv_goto (tgt := 134) hx hb dX12_function_108 (by decide) ?_
          exact ih.2.2.2.2.2.2.2.2.1 (upd L 100 r2.1) r2.2 r h H locs ls hP hD hS (lv_sub hl [0, 1, 2, 3] rfl)
      · intro L σ r h H locs ls hP hD hS hl
        rw [x_function] at h
        refine lv_aload_n hx hb dX12_function_111 rfl (lv_at hl 0 rfl) ?_
        refine ng_53 hx hb hts in_x_function hown hK hP (hts _ (List.mem_cons_of_mem _ (List.mem_append_left _ (List.mem_append_left _ (List.mem_of_getElem? (i := 13) rfl))))) dX12_function_112 ?_
        refine lv_iload_n hx hb dX12_function_115 rfl (lv_at hl 2 rfl) ?_
        refine lv_iconst (v := 1) hx hb dX12_function_116 (by decide) ?_
        refine lv_iadd hx hb dX12_function_117 ?_
        obtain ⟨q1, h⟩ := nb_ite1 h
        refine nl_28 hx hb hK hP q1 dX12_function_118 ?_
        refine lv_if_ne (tgt := 126) hx hb dX12_function_119 (by decide) (fun c2 => ?_) (fun c2 => ?_)
        · rw [if_neg c2] at h
          exact ih.2.2.2.2.2.2.2.1 L σ r h H locs ls hP hD hS (lv_sub hl [0, 1, 2, 3] rfl)
        · rw [if_pos c2] at h
          refine lv_iconst (v := 0) hx hb dX12_function_122 (by decide) ?_
          refine lv_goto (tgt := 134) hx hb dX12_function_123 (by decide) ?_
          exact ih.2.2.2.2.2.2.2.2.1 (upd L 100 0) σ r h H locs ls hP hD hS (lv_sub hl [0, 1, 2, 3] rfl)
      · intro L σ r h H locs ls hP hD hS hl
        rw [x_function] at h
        refine lv_aload_n hx hb dX12_function_126 rfl (lv_at hl 0 rfl) ?_
        refine ng_53 hx hb hts in_x_function hown hK hP (hts _ (List.mem_cons_of_mem _ (List.mem_append_left _ (List.mem_append_left _ (List.mem_of_getElem? (i := 13) rfl))))) dX12_function_127 ?_
        refine lv_iload_n hx hb dX12_function_130 rfl (lv_at hl 2 rfl) ?_
        refine lv_iconst (v := 4) hx hb dX12_function_131 (by decide) ?_
        refine lv_iadd hx hb dX12_function_132 ?_
        obtain ⟨q1, h⟩ := nb_ite1 h
        refine nl_28 hx hb hK hP q1 dX12_function_133 ?_
        exact ih.2.2.2.2.2.2.2.2.1 (upd L 100 ((σ.2.2 28 ((((L 2)) + 4)).toNatClampNeg))) σ r h H locs ls hP hD hS (lv_sub hl [0, 1, 2, 3] rfl)
      · intro L σ r h H locs ls hP hD hS hl
        rw [x_function] at h
        cases h
        exact W.iret (v := (L 100)) hx hb hr (fun t ht hW => ⟨⟨(L 100), (), rfl, rfl, by rw [ht]; exact hP, va_K.moved hW.alike hK, hD⟩, hS.F ht⟩) hS.2.2 dX12_function_134
      · intro L σ r h H locs ls hP hD hS hl
        rw [x_function] at h
        refine lv_aload_n hx hb dX12_function_135 rfl (lv_at hl 0 rfl) ?_
        refine lv_iload_n hx hb dX12_function_136 rfl (lv_at hl 2 rfl) ?_
        refine lv_iconst (v := 0) hx hb dX12_function_137 (by decide) ?_
        obtain ⟨r1, hc1, h⟩ := ob_ex h
        refine nc_Vi (As := [.int (L 2), .int 0]) (rest := []) ⟨hx, hb, hml, hown, hts⟩ (c_x_side l dC dI cy a k (upd (upd (fun _ => 0) 1 ((L 2))) 2 0) σ r1 hc1 H.size) (cwV 2 hts g_x_function_side_764 rfl rfl rfl hd_x_side ⟨Nat.le_of_ble_eq_true rfl, Nat.le_of_ble_eq_true rfl⟩) hK hG hA hP hD hS rfl hl.1 rfl (Nat.le_of_ble_eq_true rfl) dX12_function_138 ⟨Nat.le_refl _, Nat.le_refl _⟩ (fun H locs hP hD hS => ?_)
        cases h
        exact W.iret (v := r1.1) hx hb hr (fun t ht hW => ⟨⟨r1.1, (), rfl, rfl, by rw [ht]; exact hP, va_K.moved hW.alike hK, hD⟩, hS.F ht⟩) hS.2.2 dX12_function_141
      · intro L σ r h H locs ls hP hD hS hl
        rw [x_function] at h
        refine lv_aload_n hx hb dX12_function_142 rfl (lv_at hl 0 rfl) ?_
        refine lv_iload_n hx hb dX12_function_143 rfl (lv_at hl 2 rfl) ?_
        refine lv_iconst (v := 1) hx hb dX12_function_144 (by decide) ?_
        obtain ⟨r1, hc1, h⟩ := ob_ex h
        refine nc_Vi (As := [.int (L 2), .int 1]) (rest := []) ⟨hx, hb, hml, hown, hts⟩ (c_x_side l dC dI cy a k (upd (upd (fun _ => 0) 1 ((L 2))) 2 1) σ r1 hc1 H.size) (cwV 2 hts g_x_function_side_764 rfl rfl rfl hd_x_side ⟨Nat.le_of_ble_eq_true rfl, Nat.le_of_ble_eq_true rfl⟩) hK hG hA hP hD hS rfl hl.1 rfl (Nat.le_of_ble_eq_true rfl) dX12_function_145 ⟨Nat.le_refl _, Nat.le_refl _⟩ (fun H locs hP hD hS => ?_)
        cases h
        exact W.iret (v := r1.1) hx hb hr (fun t ht hW => ⟨⟨r1.1, (), rfl, rfl, by rw [ht]; exact hP, va_K.moved hW.alike hK, hD⟩, hS.F ht⟩) hS.2.2 dX12_function_148
      · intro L σ r h H locs ls hP hD hS hl
        rw [x_function] at h
        refine lv_aload_n hx hb dX12_function_149 rfl (lv_at hl 0 rfl) ?_
        refine lv_iload_n hx hb dX12_function_150 rfl (lv_at hl 2 rfl) ?_
        obtain ⟨r1, hc1, h⟩ := ob_ex h
        refine nc_Vi (As := [.int (L 2)]) (rest := []) ⟨hx, hb, hml, hown, hts⟩ (c_x_powerSet l dC dI cy a k (upd (fun _ => 0) 1 ((L 2))) σ r1 hc1 H.size) (cwV 1 hts g_x_function_powerSet_767 rfl rfl rfl hd_x_powerSet ⟨Nat.le_of_ble_eq_true rfl, Nat.le_of_ble_eq_true rfl⟩) hK hG hA hP hD hS rfl hl.1 rfl (Nat.le_of_ble_eq_true rfl) dX12_function_151 ⟨Nat.le_refl _, Nat.le_refl _⟩ (fun H locs hP hD hS => ?_)
        cases h
        exact W.iret (v := r1.1) hx hb hr (fun t ht hW => ⟨⟨r1.1, (), rfl, rfl, by rw [ht]; exact hP, va_K.moved hW.alike hK, hD⟩, hS.F ht⟩) hS.2.2 dX12_function_154
      · intro L σ r h H locs ls hP hD hS hl
        rw [x_function] at h
        refine lv_aload_n hx hb dX12_function_155 rfl (lv_at hl 0 rfl) ?_
        refine lv_iload_n hx hb dX12_function_156 rfl (lv_at hl 2 rfl) ?_
        obtain ⟨r1, hc1, h⟩ := ob_ex h
        refine nc_Vi (As := [.int (L 2)]) (rest := []) ⟨hx, hb, hml, hown, hts⟩ (c_x_typeOf l dC dI cy a k (upd (fun _ => 0) 1 ((L 2))) σ r1 hc1 H.size) (cwV 1 hts g_x_function_typeOf_770 rfl rfl rfl hd_x_typeOf ⟨Nat.le_of_ble_eq_true rfl, Nat.le_of_ble_eq_true rfl⟩) hK hG hA hP hD hS rfl hl.1 rfl (Nat.le_of_ble_eq_true rfl) dX12_function_157 ⟨Nat.le_refl _, Nat.le_refl _⟩ (fun H locs hP hD hS => ?_)
        cases h
        exact W.iret (v := r1.1) hx hb hr (fun t ht hW => ⟨⟨r1.1, (), rfl, rfl, by rw [ht]; exact hP, va_K.moved hW.alike hK, hD⟩, hS.F ht⟩) hS.2.2 dX12_function_160
      · intro L σ r h H locs ls hP hD hS hl
        rw [x_function] at h
        refine lv_aload_n hx hb dX12_function_161 rfl (lv_at hl 0 rfl) ?_
        refine lv_iconst (v := 0) hx hb dX12_function_162 (by decide) ?_
        refine np_93 hx hb hts in_x_function hown hK hP hD hS (hts _ (List.mem_cons_of_mem _ (List.mem_append_left _ (List.mem_append_left _ (List.mem_of_getElem? (i := 23) rfl))))) dX12_function_163 (fun H locs hP hD hS => ?_)
        exact ih.2.2.2.2.2.2.2.2.2.2.2.2.2.2.1 L (upd σ.1 93 0, σ.2.1, σ.2.2) r h H locs ls hP hD hS (lv_sub hl [0, 1, 2, 3] rfl)
      · intro L σ r h H locs ls hP hD hS hl
        rw [x_function] at h
        refine lv_aload_n hx hb dX12_function_166 rfl (lv_at hl 0 rfl) ?_
        refine lv_iload_n hx hb dX12_function_167 rfl (lv_at hl 2 rfl) ?_
        refine lv_iconst (v := 0) hx hb dX12_function_168 (by decide) ?_
        obtain ⟨r1, hc1, h⟩ := ob_ex h
        refine nc_Vv (As := [.int (L 2), .int 0]) (rest := []) ⟨hx, hb, hml, hown, hts⟩ (c_x_print l dC dI cy a k (upd (upd (fun _ => 0) 1 ((L 2))) 2 0) σ r1 hc1 H.size) (cwV 2 hts g_x_function_print_554 rfl rfl rfl hd_x_print ⟨Nat.le_of_ble_eq_true rfl, Nat.le_of_ble_eq_true rfl⟩) hK hG hA hP hD hS rfl hl.1 rfl (Nat.le_of_ble_eq_true rfl) dX12_function_169 ⟨Nat.le_refl _, Nat.le_refl _⟩ (fun H locs hP hD hS => ?_)
        refine lv_aload_n hx hb dX12_function_172 rfl (lv_at hl 0 rfl) ?_
        refine lv_aload_n hx hb dX12_function_173 rfl (lv_at hl 0 rfl) ?_
        refine ng_92 hx hb hts in_x_function hown hK hP (hts _ (List.mem_cons_of_mem _ (List.mem_append_left _ (List.mem_append_left _ (List.mem_of_getElem? (i := 27) rfl))))) dX12_function_174 ?_
        refine lv_iconst (v := 0) hx hb dX12_function_177 (by decide) ?_
        refine lv_aload_n hx hb dX12_function_178 rfl (lv_at hl 0 rfl) ?_
        refine ng_93 hx hb hts in_x_function hown hK hP (hts _ (List.mem_cons_of_mem _ (List.mem_append_left _ (List.mem_append_left _ (List.mem_of_getElem? (i := 23) rfl))))) dX12_function_179 ?_
        obtain ⟨r2, hc2, h⟩ := ob_ex h
        refine nc_Vi (As := [.ref (a 48), .int 0, .int (r1.2.1 93)]) (rest := []) ⟨hx, hb, hml, hown, hts⟩ (c_x_stringOf__48 l dC dI cy a k (upd (upd (fun _ => 0) 2 0) 3 ((r1.2.1 93))) r1.2 r2 hc2 H.size) (cwV 3 hts g_x_function_stringOf__48_597 rfl rfl rfl hd_x_stringOf__48 ⟨Nat.le_of_ble_eq_true rfl, Nat.le_of_ble_eq_true rfl⟩) hK hG hA hP hD hS rfl hl.1 rfl (Nat.le_of_ble_eq_true rfl) dX12_function_182 ⟨Nat.le_refl _, Nat.le_refl _⟩ (fun H locs hP hD hS => ?_)
        cases h
        exact W.iret (v := r2.1) hx hb hr (fun t ht hW => ⟨⟨r2.1, (), rfl, rfl, by rw [ht]; exact hP, va_K.moved hW.alike hK, hD⟩, hS.F ht⟩) hS.2.2 dX12_function_185
      · intro L σ r h H locs ls hP hD hS hl
        rw [x_function] at h
        refine lv_aload_n hx hb dX12_function_186 rfl (lv_at hl 0 rfl) ?_
        refine lv_iload_n hx hb dX12_function_187 rfl (lv_at hl 2 rfl) ?_
        obtain ⟨r1, hc1, h⟩ := ob_ex h
        refine nc_Vi (As := [.int (L 2)]) (rest := []) ⟨hx, hb, hml, hown, hts⟩ (c_x_character l dC dI cy a k (upd (fun _ => 0) 1 ((L 2))) σ r1 hc1 H.size) (cwV 1 hts g_x_function_character_773 rfl rfl rfl hd_x_character ⟨Nat.le_of_ble_eq_true rfl, Nat.le_of_ble_eq_true rfl⟩) hK hG hA hP hD hS rfl hl.1 rfl (Nat.le_of_ble_eq_true rfl) dX12_function_188 ⟨Nat.le_refl _, Nat.le_refl _⟩ (fun H locs hP hD hS => ?_)
        cases h
        exact W.iret (v := r1.1) hx hb hr (fun t ht hW => ⟨⟨r1.1, (), rfl, rfl, by rw [ht]; exact hP, va_K.moved hW.alike hK, hD⟩, hS.F ht⟩) hS.2.2 dX12_function_191
      · intro L σ r h H locs ls hP hD hS hl
        rw [x_function] at h
        refine lv_aload_n hx hb dX12_function_192 rfl (lv_at hl 0 rfl) ?_
        refine lv_iload_n hx hb dX12_function_193 rfl (lv_at hl 2 rfl) ?_
        obtain ⟨r1, hc1, h⟩ := ob_ex h
        refine nc_Vi (As := [.int (L 2)]) (rest := []) ⟨hx, hb, hml, hown, hts⟩ (c_x_codeOf l dC dI cy a k (upd (fun _ => 0) 1 ((L 2))) σ r1 hc1 H.size) (cwV 1 hts g_x_function_codeOf_776 rfl rfl rfl hd_x_codeOf ⟨Nat.le_of_ble_eq_true rfl, Nat.le_of_ble_eq_true rfl⟩) hK hG hA hP hD hS rfl hl.1 rfl (Nat.le_of_ble_eq_true rfl) dX12_function_194 ⟨Nat.le_refl _, Nat.le_refl _⟩ (fun H locs hP hD hS => ?_)
        cases h
        exact W.iret (v := r1.1) hx hb hr (fun t ht hW => ⟨⟨r1.1, (), rfl, rfl, by rw [ht]; exact hP, va_K.moved hW.alike hK, hD⟩, hS.F ht⟩) hS.2.2 dX12_function_197
      · intro L σ r h H locs ls hP hD hS hl
        rw [x_function] at h
        refine lv_aload_n hx hb dX12_function_198 rfl (lv_at hl 0 rfl) ?_
        refine lv_iload_n hx hb dX12_function_199 rfl (lv_at hl 2 rfl) ?_
        obtain ⟨r1, hc1, h⟩ := ob_ex h
        refine nc_Vi (As := [.int (L 2)]) (rest := []) ⟨hx, hb, hml, hown, hts⟩ (c_x_reversed l dC dI cy a k (upd (fun _ => 0) 1 ((L 2))) σ r1 hc1 H.size) (cwV 1 hts g_x_function_reversed_779 rfl rfl rfl hd_x_reversed ⟨Nat.le_of_ble_eq_true rfl, Nat.le_of_ble_eq_true rfl⟩) hK hG hA hP hD hS rfl hl.1 rfl (Nat.le_of_ble_eq_true rfl) dX12_function_200 ⟨Nat.le_refl _, Nat.le_refl _⟩ (fun H locs hP hD hS => ?_)
        cases h
        exact W.iret (v := r1.1) hx hb hr (fun t ht hW => ⟨⟨r1.1, (), rfl, rfl, by rw [ht]; exact hP, va_K.moved hW.alike hK, hD⟩, hS.F ht⟩) hS.2.2 dX12_function_203
      · intro L σ r h H locs ls hP hD hS hl
        rw [x_function] at h
        refine lv_aload_n hx hb dX12_function_204 rfl (lv_at hl 0 rfl) ?_
        refine lv_iload_n hx hb dX12_function_205 rfl (lv_at hl 2 rfl) ?_
        obtain ⟨r1, hc1, h⟩ := ob_ex h
        refine nc_Vi (As := [.int (L 2)]) (rest := []) ⟨hx, hb, hml, hown, hts⟩ (c_x_drawn l dC dI cy a k (upd (fun _ => 0) 1 ((L 2))) σ r1 hc1 H.size) (cwV 1 hts g_x_function_drawn_782 rfl rfl rfl hd_x_drawn ⟨Nat.le_of_ble_eq_true rfl, Nat.le_of_ble_eq_true rfl⟩) hK hG hA hP hD hS rfl hl.1 rfl (Nat.le_of_ble_eq_true rfl) dX12_function_206 ⟨Nat.le_refl _, Nat.le_refl _⟩ (fun H locs hP hD hS => ?_)
        cases h
        exact W.iret (v := r1.1) hx hb hr (fun t ht hW => ⟨⟨r1.1, (), rfl, rfl, by rw [ht]; exact hP, va_K.moved hW.alike hK, hD⟩, hS.F ht⟩) hS.2.2 dX12_function_209
  exact (blk k0).1 L0 σ0 r0 h0 s.heap [] ls hP hD hS hl

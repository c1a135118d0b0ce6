/-! many -/
def x_many : Nat → Nat → (Nat → Int32) → MS → Option (Int32 × MS)
  | 0, _, _, _ => none
  | k + 1, 0, L, σ => ob (x_kind k 0 (upd (fun _ => 0) 1 ((L 1))) σ) (fun r1 => if 4 ≤ r1.1 then (x_many k 1 L r1.2) else (ob (x_fail k 0 (upd (fun _ => 0) 1 1) r1.2) (fun r3 => some (0, r3.2))))
  | k + 1, 1, L, σ => if ¬ (((((L 1)) + 1)) < 0 ∨ 1740000 ≤ ((((L 1)) + 1)).toNatClampNeg) then (ob (x_small k 0 (upd (fun _ => 0) 1 ((σ.2.2 28 ((((L 1)) + 1)).toNatClampNeg))) σ) (fun r2 => some (r2.1, r2.2))) else none
  | _ + 1, _ + 2, _, _ => none
def o_x_many : List Cond := [.methodLink RX12 545 yX12_kind, .instanceMethod yX12_kind, .selects RX12 yX12_kind yX12_kind, .initialized RX12, .methodLink RX12 369 yX12_fail, .instanceMethod yX12_fail, .selects RX12 yX12_fail yX12_fail, .fieldLink RX12 372 "SetHouseModel" "heap" "[I", .methodLink RX12 518 yX12_small, .instanceMethod yX12_small, .selects RX12 yX12_small yX12_small]
theorem o_x_many_good : o_x_many.all goodWord = true := by decide +kernel
def p_x_many : List Cond := o_x_many ++ ((.code yX12_kind cX12_kind 2 (some .int) :: p_x_kind) ++ ((.code yX12_fail cX12_fail 2 none :: p_x_fail) ++ ((.code yX12_small cX12_small 3 (some .int) :: p_x_small) ++ [])))
theorem p_x_many_good : p_x_many.all goodWord = true := nb_all2 o_x_many_good (nb_all2 (nb_allc (by decide +kernel) p_x_kind_good) (nb_all2 (nb_allc (by decide +kernel) p_x_fail_good) (nb_all2 (nb_allc (by decide +kernel) p_x_small_good) rfl)))
def w_x_many : List Cond := .code yX12_many cX12_many 2 (some .int) :: (p_x_many ++ fM)
theorem w_x_many_good : w_x_many.all goodWord = true := nb_allc (by decide +kernel) (nb_all2 p_x_many_good fM_good)
theorem in_x_many : ∀ w ∈ wsX120, w ∈ w_x_many := fun _ h => List.mem_cons_of_mem _ (List.mem_append_right _ h)
theorem hd_x_many : yX12_many.cls = RX12 ∧ yX12_many.cls ≠ "java/lang/invoke/MethodHandle" ∧ yX12_many.cls ≠ "java/lang/invoke/VarHandle" ∧ (parseMethodDescriptor yX12_many.desc).map (fun d => d.parameters.length) = some 1 := by decide +kernel
theorem gg_x_many_fail : GoodIn w_x_many w_x_fail := goodIn_sub (fun w h => (List.mem_cons.mp h).elim (fun e => (List.mem_cons_of_mem _ (List.mem_append_left _ (List.mem_append_right _ (List.mem_append_right _ (List.mem_append_left _ (List.mem_cons.mpr (Or.inl e)))))))) (fun h => (List.mem_append.mp h).elim (fun h => (List.mem_cons_of_mem _ (List.mem_append_left _ (List.mem_append_right _ (List.mem_append_right _ (List.mem_append_left _ (List.mem_cons_of_mem _ h))))))) (fun h => List.mem_cons_of_mem _ (List.mem_append_right _ h)))) w_x_fail_good
theorem g_x_many_fail_369 : GoodIn w_x_many (wsV RX12 369 RX12 yX12_fail w_x_fail) := goodIn_app (nb_g4 (List.mem_cons_of_mem _ (List.mem_append_left _ (List.mem_append_left _ (List.mem_of_getElem? (i := 4) rfl)))) (List.mem_cons_of_mem _ (List.mem_append_left _ (List.mem_append_left _ (List.mem_of_getElem? (i := 5) rfl)))) (List.mem_cons_of_mem _ (List.mem_append_left _ (List.mem_append_left _ (List.mem_of_getElem? (i := 6) rfl)))) (List.mem_cons_of_mem _ (List.mem_append_left _ (List.mem_append_left _ (List.mem_of_getElem? (i := 3) rfl)))) (by decide +kernel)) gg_x_many_fail
theorem gg_x_many_kind : GoodIn w_x_many w_x_kind := goodIn_sub (fun w h => (List.mem_cons.mp h).elim (fun e => (List.mem_cons_of_mem _ (List.mem_append_left _ (List.mem_append_right _ (List.mem_append_left _ (List.mem_cons.mpr (Or.inl e))))))) (fun h => (List.mem_append.mp h).elim (fun h => (List.mem_cons_of_mem _ (List.mem_append_left _ (List.mem_append_right _ (List.mem_append_left _ (List.mem_cons_of_mem _ h)))))) (fun h => List.mem_cons_of_mem _ (List.mem_append_right _ h)))) w_x_kind_good
theorem g_x_many_kind_545 : GoodIn w_x_many (wsV RX12 545 RX12 yX12_kind w_x_kind) := goodIn_app (nb_g4 (List.mem_cons_of_mem _ (List.mem_append_left _ (List.mem_append_left _ (List.mem_of_getElem? (i := 0) rfl)))) (List.mem_cons_of_mem _ (List.mem_append_left _ (List.mem_append_left _ (List.mem_of_getElem? (i := 1) rfl)))) (List.mem_cons_of_mem _ (List.mem_append_left _ (List.mem_append_left _ (List.mem_of_getElem? (i := 2) rfl)))) (List.mem_cons_of_mem _ (List.mem_append_left _ (List.mem_append_left _ (List.mem_of_getElem? (i := 3) rfl)))) (by decide +kernel)) gg_x_many_kind
theorem gg_x_many_small : GoodIn w_x_many w_x_small := goodIn_sub (fun w h => (List.mem_cons.mp h).elim (fun e => (List.mem_cons_of_mem _ (List.mem_append_left _ (List.mem_append_right _ (List.mem_append_right _ (List.mem_append_right _ (List.mem_append_left _ (List.mem_cons.mpr (Or.inl e))))))))) (fun h => (List.mem_append.mp h).elim (fun h => (List.mem_cons_of_mem _ (List.mem_append_left _ (List.mem_append_right _ (List.mem_append_right _ (List.mem_append_right _ (List.mem_append_left _ (List.mem_cons_of_mem _ h)))))))) (fun h => List.mem_cons_of_mem _ (List.mem_append_right _ h)))) w_x_small_good
theorem g_x_many_small_518 : GoodIn w_x_many (wsV RX12 518 RX12 yX12_small w_x_small) := goodIn_app (nb_g4 (List.mem_cons_of_mem _ (List.mem_append_left _ (List.mem_append_left _ (List.mem_of_getElem? (i := 8) rfl)))) (List.mem_cons_of_mem _ (List.mem_append_left _ (List.mem_append_left _ (List.mem_of_getElem? (i := 9) rfl)))) (List.mem_cons_of_mem _ (List.mem_append_left _ (List.mem_append_left _ (List.mem_of_getElem? (i := 10) rfl)))) (List.mem_cons_of_mem _ (List.mem_append_left _ (List.mem_append_left _ (List.mem_of_getElem? (i := 3) rfl)))) (by decide +kernel)) gg_x_many_small
set_option maxHeartbeats 40000000 in
set_option maxRecDepth 100000 in
theorem c_x_many (l : Launch) (dC : Nat → ClassId) (dI : Nat → Nat → Nat) (cy : Nat → ClassId) (a : Nat → Nat) (k0 : Nat) (L0 : Nat → Int32) (σ0 : MS) (r0 : Int32 × MS) (h0 : x_many k0 0 L0 σ0 = some r0) (sz : Nat) : Met l yX12_many w_x_many ({ frames := 4, cells := 0, slots := 0, locals := 89 }) (va_Pc [.ref (a 0), .int (L0 1)] (nIn (dC, dI) cy sz (vM cy a σ0))) (va_Qi (fun (z : Int32) (_ : Unit) => z = r0.1) (fun _ t => nOut (dC, dI) cy (va_A (vM cy a σ0) sz) (vM cy a r0.2) t) (va_A (vM cy a σ0) sz)) 0 0 (va_A (vM cy a σ0) sz) := by
  refine Met.ofW (cc := cX12_many) (maxL := 2) (ret := (some .int)) (by decide) rfl ?_
  intro p e s m args below meth c s₁ B hml hv
  obtain ⟨rfl, hsz, hP, hK, hD0, hG⟩ := hv
  have hx := B.exec
  have hb := B.bytes
  have hr := B.returns
  have hts := atoms_spec (ws := w_x_many) B.pre
  have hown : s.vm.findClass RX12 = some m.cls := findClass_of_methodNamed B.named
  have hlocks := B.notSynchronized
  subst hsz
  have hD := hD0.self (sz := s.heap.size)
  generalize hAe : va_A (vM cy a σ0) s.heap.size = A at hD ⊢
  have hA : ∀ q : Nat, s.heap.size ≤ q → A q := fun q h => by rw [← hAe]; exact Or.inr h
  have hS : va_S A s.heap s.heap [] := va_S.rf
  have hl := lv_entry ([.ref (a 0), .int (L0 1)]) (n := 2) (Nat.le_of_ble_eq_true rfl)
  rw [lg_entry_eq]
  generalize (lg_sl ([.ref (a 0), .int (L0 1)]) ++ List.replicate (2 - (lg_sl ([.ref (a 0), .int (L0 1)])).length) Slot.unset).toArray = ls at hl ⊢
  have hl : lv_has ls 2 [(0, .ref (a 0)), (1, .int (L0 1))] := hl
  have blk : ∀ k : Nat, (bT p l e (headSpec w_x_many ({ frames := 4, cells := 0, slots := 0, locals := 89 })).room s m #[.ref (a 0), .int (L0 1)] below meth c dC dI cy a A (qI dC dI cy a A below #[.ref (a 0), .int (L0 1)] s) 2 (x_many k 0) (fun L => [(0, .ref (a 0)), (1, .int (L 1))]) 0 (fun L => [])) ∧ (bT p l e (headSpec w_x_many ({ frames := 4, cells := 0, slots := 0, locals := 89 })).room s m #[.ref (a 0), .int (L0 1)] below meth c dC dI cy a A (qI dC dI cy a A below #[.ref (a 0), .int (L0 1)] s) 2 (x_many k 1) (fun L => [(0, .ref (a 0)), (1, .int (L 1))]) 16 (fun L => [])) := by
    intro k
    induction k with
    | zero => exact ⟨fun L σ r h => (by cases h), fun L σ r h => (by cases h)⟩
    | succ k ih =>
      refine ⟨?_, ?_⟩
      · intro L σ r h H locs ls hP hD hS hl
        rw [x_many] at h
        refine lv_aload_n hx hb dX12_many_0 rfl (lv_at hl 0 rfl) ?_
        refine lv_iload_n hx hb dX12_many_1 rfl (lv_at hl 1 rfl) ?_
        obtain ⟨r1, hc1, h⟩ := ob_ex h
        refine nc_Vi (As := [.int (L 1)]) (rest := []) ⟨hx, hb, hml, hown, hts⟩ (c_x_kind l dC dI cy a k (upd (fun _ => 0) 1 ((L 1))) σ r1 hc1 H.size) (cwV 1 hts g_x_many_kind_545 rfl rfl rfl hd_x_kind ⟨Nat.le_of_ble_eq_true rfl, Nat.le_of_ble_eq_true rfl⟩) hK hG hA hP hD hS rfl hl.1 rfl (Nat.le_of_ble_eq_true rfl) dX12_many_2 ⟨Nat.le_refl _, Nat.le_refl _⟩ (fun H locs hP hD hS => ?_)
        refine lv_iconst (v := 4) hx hb dX12_many_5 (by decide) ?_
        refine lv_icmp_ge (tgt := 16) hx hb dX12_many_6 (by decide) (fun c2 => ?_) (fun c2 => ?_)
        · rw [if_pos c2] at h
          exact ih.2 L r1.2 r h H locs ls hP hD hS (lv_sub hl [0, 1] rfl)
        · rw [if_neg c2] at h
          refine lv_aload_n hx hb dX12_many_9 rfl (lv_at hl 0 rfl) ?_
          refine lv_iconst (v := 1) hx hb dX12_many_10 (by decide) ?_
          obtain ⟨r3, hc3, h⟩ := ob_ex h
          refine nc_Vv (As := [.int 1]) (rest := []) ⟨hx, hb, hml, hown, hts⟩ (c_x_fail l dC dI cy a k (upd (fun _ => 0) 1 1) r1.2 r3 hc3 H.size) (cwV 1 hts g_x_many_fail_369 rfl rfl rfl hd_x_fail ⟨Nat.le_of_ble_eq_true rfl, Nat.le_of_ble_eq_true rfl⟩) hK hG hA hP hD hS rfl hl.1 rfl (Nat.le_of_ble_eq_true rfl) dX12_many_11 ⟨Nat.le_refl _, Nat.le_refl _⟩ (fun H locs hP hD hS => ?_)
          refine lv_iconst (v := 0) hx hb dX12_many_14 (by decide) ?_
          cases h
          exact W.iret (v := 0) hx hb hr (fun t ht hW => ⟨⟨0, (), rfl, rfl, by rw [ht]; exact hP, va_K.moved hW.alike hK, hD⟩, hS.F ht⟩) hS.2.2 dX12_many_15
      · intro L σ r h H locs ls hP hD hS hl
        rw [x_many] at h
        refine lv_aload_n hx hb dX12_many_16 rfl (lv_at hl 0 rfl) ?_
        refine lv_aload_n hx hb dX12_many_17 rfl (lv_at hl 0 rfl) ?_
        refine ng_53 hx hb hts in_x_many hown hK hP (hts _ (List.mem_cons_of_mem _ (List.mem_append_left _ (List.mem_append_left _ (List.mem_of_getElem? (i := 7) rfl))))) dX12_many_18 ?_
        refine lv_iload_n hx hb dX12_many_21 rfl (lv_at hl 1 rfl) ?_
        refine lv_iconst (v := 1) hx hb dX12_many_22 (by decide) ?_
        refine lv_iadd hx hb dX12_many_23 ?_
        obtain ⟨q1, h⟩ := nb_ite1 h
        refine nl_28 hx hb hK hP q1 dX12_many_24 ?_
        obtain ⟨r2, hc2, h⟩ := ob_ex h
        refine nc_Vi (As := [.int (σ.2.2 28 ((((L 1)) + 1)).toNatClampNeg)]) (rest := []) ⟨hx, hb, hml, hown, hts⟩ (c_x_small l dC dI cy a k (upd (fun _ => 0) 1 ((σ.2.2 28 ((((L 1)) + 1)).toNatClampNeg))) σ r2 hc2 H.size) (cwV 1 hts g_x_many_small_518 rfl rfl rfl hd_x_small ⟨Nat.le_of_ble_eq_true rfl, Nat.le_of_ble_eq_true rfl⟩) hK hG hA hP hD hS rfl hl.1 rfl (Nat.le_of_ble_eq_true rfl) dX12_many_25 ⟨Nat.le_refl _, Nat.le_refl _⟩ (fun H locs hP hD hS => ?_)
        cases h
        exact W.iret (v := r2.1) hx hb hr (fun t ht hW => ⟨⟨r2.1, (), rfl, rfl, by rw [ht]; exact hP, va_K.moved hW.alike hK, hD⟩, hS.F ht⟩) hS.2.2 dX12_many_28
  exact (blk k0).1 L0 σ0 r0 h0 s.heap [] ls hP hD hS hl
/-! negative -/
def x_negative : Nat → Nat → (Nat → Int32) → MS → Option (Int32 × MS)
  | 0, _, _, _ => none
  | k + 1, 0, L, σ => ob (x_kind k 0 (upd (fun _ => 0) 1 ((L 1))) σ) (fun r1 => if r1.1 = 2 then (x_negative k 1 L r1.2) else (ob (x_wrongKind k 0 (fun _ => 0) r1.2) (fun r3 => x_negative k 2 (upd L 100 r3.1) r3.2)))
  | k + 1, 1, L, σ => ob (x_other k 0 (upd (fun _ => 0) 1 ((L 1))) σ) (fun r1 => x_negative k 2 (upd L 100 r1.1) r1.2)
  | k + 1, 2, L, σ => some ((L 100), σ)
  | _ + 1, _ + 3, _, _ => none
def o_x_negative : List Cond := [.methodLink RX12 545 yX12_kind, .instanceMethod yX12_kind, .selects RX12 yX12_kind yX12_kind, .initialized RX12, .methodLink RX12 666 yX12_wrongKind, .instanceMethod yX12_wrongKind, .selects RX12 yX12_wrongKind yX12_wrongKind, .methodLink RX12 669 yX12_other, .instanceMethod yX12_other, .selects RX12 yX12_other yX12_other]
theorem o_x_negative_good : o_x_negative.all goodWord = true := by decide +kernel
def p_x_negative : List Cond := o_x_negative ++ ((.code yX12_kind cX12_kind 2 (some .int) :: p_x_kind) ++ ((.code yX12_wrongKind cX12_wrongKind 1 (some .int) :: p_x_wrongKind) ++ ((.code yX12_other cX12_other 3 (some .int) :: p_x_other) ++ [])))
theorem p_x_negative_good : p_x_negative.all goodWord = true := nb_all2 o_x_negative_good (nb_all2 (nb_allc (by decide +kernel) p_x_kind_good) (nb_all2 (nb_allc (by decide +kernel) p_x_wrongKind_good) (nb_all2 (nb_allc (by decide +kernel) p_x_other_good) rfl)))
def w_x_negative : List Cond := .code yX12_negative cX12_negative 2 (some .int) :: (p_x_negative ++ fM)
theorem w_x_negative_good : w_x_negative.all goodWord = true := nb_allc (by decide +kernel) (nb_all2 p_x_negative_good fM_good)
theorem in_x_negative : ∀ w ∈ wsX120, w ∈ w_x_negative := fun _ h => List.mem_cons_of_mem _ (List.mem_append_right _ h)
theorem hd_x_negative : yX12_negative.cls = RX12 ∧ yX12_negative.cls ≠ "java/lang/invoke/MethodHandle" ∧ yX12_negative.cls ≠ "java/lang/invoke/VarHandle" ∧ (parseMethodDescriptor yX12_negative.desc).map (fun d => d.parameters.length) = some 1 := by decide +kernel
theorem gg_x_negative_kind : GoodIn w_x_negative w_x_kind := goodIn_sub (fun w h => (List.mem_cons.mp h).elim (fun e => (List.mem_cons_of_mem _ (List.mem_append_left _ (List.mem_append_right _ (List.mem_append_left _ (List.mem_cons.mpr (Or.inl e))))))) (fun h => (List.mem_append.mp h).elim (fun h => (List.mem_cons_of_mem _ (List.mem_append_left _ (List.mem_append_right _ (List.mem_append_left _ (List.mem_cons_of_mem _ h)))))) (fun h => List.mem_cons_of_mem _ (List.mem_append_right _ h)))) w_x_kind_good
theorem g_x_negative_kind_545 : GoodIn w_x_negative (wsV RX12 545 RX12 yX12_kind w_x_kind) := goodIn_app (nb_g4 (List.mem_cons_of_mem _ (List.mem_append_left _ (List.mem_append_left _ (List.mem_of_getElem? (i := 0) rfl)))) (List.mem_cons_of_mem _ (List.mem_append_left _ (List.mem_append_left _ (List.mem_of_getElem? (i := 1) rfl)))) (List.mem_cons_of_mem _ (List.mem_append_left _ (List.mem_append_left _ (List.mem_of_getElem? (i := 2) rfl)))) (List.mem_cons_of_mem _ (List.mem_append_left _ (List.mem_append_left _ (List.mem_of_getElem? (i := 3) rfl)))) (by decide +kernel)) gg_x_negative_kind
theorem gg_x_negative_other : GoodIn w_x_negative w_x_other := goodIn_sub (fun w h => (List.mem_cons.mp h).elim (fun e => (List.mem_cons_of_mem _ (List.mem_append_left _ (List.mem_append_right _ (List.mem_append_right _ (List.mem_append_right _ (List.mem_append_left _ (List.mem_cons.mpr (Or.inl e))))))))) (fun h => (List.mem_append.mp h).elim (fun h => (List.mem_cons_of_mem _ (List.mem_append_left _ (List.mem_append_right _ (List.mem_append_right _ (List.mem_append_right _ (List.mem_append_left _ (List.mem_cons_of_mem _ h)))))))) (fun h => List.mem_cons_of_mem _ (List.mem_append_right _ h)))) w_x_other_good
theorem g_x_negative_other_669 : GoodIn w_x_negative (wsV RX12 669 RX12 yX12_other w_x_other) := goodIn_app (nb_g4 (List.mem_cons_of_mem _ (List.mem_append_left _ (List.mem_append_left _ (List.mem_of_getElem? (i := 7) rfl)))) (List.mem_cons_of_mem _ (List.mem_append_left _ (List.mem_append_left _ (List.mem_of_getElem? (i := 8) rfl)))) (List.mem_cons_of_mem _ (List.mem_append_left _ (List.mem_append_left _ (List.mem_of_getElem? (i := 9) rfl)))) (List.mem_cons_of_mem _ (List.mem_append_left _ (List.mem_append_left _ (List.mem_of_getElem? (i := 3) rfl)))) (by decide +kernel)) gg_x_negative_other
theorem gg_x_negative_wrongKind : GoodIn w_x_negative w_x_wrongKind := goodIn_sub (fun w h => (List.mem_cons.mp h).elim (fun e => (List.mem_cons_of_mem _ (List.mem_append_left _ (List.mem_append_right _ (List.mem_append_right _ (List.mem_append_left _ (List.mem_cons.mpr (Or.inl e)))))))) (fun h => (List.mem_append.mp h).elim (fun h => (List.mem_cons_of_mem _ (List.mem_append_left _ (List.mem_append_right _ (List.mem_append_right _ (List.mem_append_left _ (List.mem_cons_of_mem _ h))))))) (fun h => List.mem_cons_of_mem _ (List.mem_append_right _ h)))) w_x_wrongKind_good
theorem g_x_negative_wrongKind_666 : GoodIn w_x_negative (wsV RX12 666 RX12 yX12_wrongKind w_x_wrongKind) := goodIn_app (nb_g4 (List.mem_cons_of_mem _ (List.mem_append_left _ (List.mem_append_left _ (List.mem_of_getElem? (i := 4) rfl)))) (List.mem_cons_of_mem _ (List.mem_append_left _ (List.mem_append_left _ (List.mem_of_getElem? (i := 5) rfl)))) (List.mem_cons_of_mem _ (List.mem_append_left _ (List.mem_append_left _ (List.mem_of_getElem? (i := 6) rfl)))) (List.mem_cons_of_mem _ (List.mem_append_left _ (List.mem_append_left _ (List.mem_of_getElem? (i := 3) rfl)))) (by decide +kernel)) gg_x_negative_wrongKind
set_option maxHeartbeats 40000000 in
set_option maxRecDepth 100000 in
theorem c_x_negative (l : Launch) (dC : Nat → ClassId) (dI : Nat → Nat → Nat) (cy : Nat → ClassId) (a : Nat → Nat) (k0 : Nat) (L0 : Nat → Int32) (σ0 : MS) (r0 : Int32 × MS) (h0 : x_negative k0 0 L0 σ0 = some r0) (sz : Nat) : Met l yX12_negative w_x_negative ({ frames := 4, cells := 0, slots := 0, locals := 89 }) (va_Pc [.ref (a 0), .int (L0 1)] (nIn (dC, dI) cy sz (vM cy a σ0))) (va_Qi (fun (z : Int32) (_ : Unit) => z = r0.1) (fun _ t => nOut (dC, dI) cy (va_A (vM cy a σ0) sz) (vM cy a r0.2) t) (va_A (vM cy a σ0) sz)) 0 0 (va_A (vM cy a σ0) sz) := by
  refine Met.ofW (cc := cX12_negative) (maxL := 2) (ret := (some .int)) (by decide) rfl ?_
  intro p e s m args below meth c s₁ B hml hv
  obtain ⟨rfl, hsz, hP, hK, hD0, hG⟩ := hv
  have hx := B.exec
  have hb := B.bytes
  have hr := B.returns
  have hts := atoms_spec (ws := w_x_negative) B.pre
  have hown : s.vm.findClass RX12 = some m.cls := findClass_of_methodNamed B.named
  have hlocks := B.notSynchronized
  subst hsz
  have hD := hD0.self (sz := s.heap.size)
  generalize hAe : va_A (vM cy a σ0) s.heap.size = A at hD ⊢
  have hA : ∀ q : Nat, s.heap.size ≤ q → A q := fun q h => by rw [← hAe]; exact Or.inr h
  have hS : va_S A s.heap s.heap [] := va_S.rf
  have hl := lv_entry ([.ref (a 0), .int (L0 1)]) (n := 2) (Nat.le_of_ble_eq_true rfl)
  rw [lg_entry_eq]
  generalize (lg_sl ([.ref (a 0), .int (L0 1)]) ++ List.replicate (2 - (lg_sl ([.ref (a 0), .int (L0 1)])).length) Slot.unset).toArray = ls at hl ⊢
  have hl : lv_has ls 2 [(0, .ref (a 0)), (1, .int (L0 1))] := hl
  have blk : ∀ k : Nat, (bT p l e (headSpec w_x_negative ({ frames := 4, cells := 0, slots := 0, locals := 89 })).room s m #[.ref (a 0), .int (L0 1)] below meth c dC dI cy a A (qI dC dI cy a A below #[.ref (a 0), .int (L0 1)] s) 2 (x_negative k 0) (fun L => [(0, .ref (a 0)), (1, .int (L 1))]) 0 (fun L => [])) ∧ (bT p l e (headSpec w_x_negative ({ frames := 4, cells := 0, slots := 0, locals := 89 })).room s m #[.ref (a 0), .int (L0 1)] below meth c dC dI cy a A (qI dC dI cy a A below #[.ref (a 0), .int (L0 1)] s) 2 (x_negative k 1) (fun L => [(0, .ref (a 0)), (1, .int (L 1))]) 16 (fun L => [])) ∧ (bT p l e (headSpec w_x_negative ({ frames := 4, cells := 0, slots := 0, locals := 89 })).room s m #[.ref (a 0), .int (L0 1)] below meth c dC dI cy a A (qI dC dI cy a A below #[.ref (a 0), .int (L0 1)] s) 2 (x_negative k 2) (fun L => [(0, .ref (a 0)), (1, .int (L 1))]) 21 (fun L => [.int (L 100)])) := by
    intro k
    induction k with
    | zero => exact ⟨fun L σ r h => (by cases h), fun L σ r h => (by cases h), fun L σ r h => (by cases h)⟩
    | succ k ih =>
      refine ⟨?_, ?_, ?_⟩
      · intro L σ r h H locs ls hP hD hS hl
        rw [x_negative] at h
        refine lv_aload_n hx hb dX12_negative_0 rfl (lv_at hl 0 rfl) ?_
        refine lv_iload_n hx hb dX12_negative_1 rfl (lv_at hl 1 rfl) ?_
        obtain ⟨r1, hc1, h⟩ := ob_ex h
        refine nc_Vi (As := [.int (L 1)]) (rest := []) ⟨hx, hb, hml, hown, hts⟩ (c_x_kind l dC dI cy a k (upd (fun _ => 0) 1 ((L 1))) σ r1 hc1 H.size) (cwV 1 hts g_x_negative_kind_545 rfl rfl rfl hd_x_kind ⟨Nat.le_of_ble_eq_true rfl, Nat.le_of_ble_eq_true rfl⟩) hK hG hA hP hD hS rfl hl.1 rfl (Nat.le_of_ble_eq_true rfl) dX12_negative_2 ⟨Nat.le_refl _, Nat.le_refl _⟩ (fun H locs hP hD hS => ?_)
        refine lv_iconst (v := 2) hx hb dX12_negative_5 (by decide) ?_
        refine lv_icmp_eq (tgt := 16) hx hb dX12_negative_6 (by decide) (fun c2 => ?_) (fun c2 => ?_)
        · rw [if_pos c2] at h
          exact ih.2.1 L r1.2 r h H locs ls hP hD hS (lv_sub hl [0, 1] rfl)
        · rw [if_neg c2] at h
          refine lv_aload_n hx hb dX12_negative_9 rfl (lv_at hl 0 rfl) ?_
          obtain ⟨r3, hc3, h⟩ := ob_ex h
          refine nc_Vi (As := []) (rest := []) ⟨hx, hb, hml, hown, hts⟩ (c_x_wrongKind l dC dI cy a k (fun _ => 0) r1.2 r3 hc3 H.size) (cwV 0 hts g_x_negative_wrongKind_666 rfl rfl rfl hd_x_wrongKind ⟨Nat.le_of_ble_eq_true rfl, Nat.le_of_ble_eq_true rfl⟩) hK hG hA hP hD hS rfl hl.1 rfl (Nat.le_of_ble_eq_true rfl) dX12_negative_10 ⟨Nat.le_refl _, Nat.le_refl _⟩ (fun H locs hP hD hS => ?_)
          refine lv_goto (tgt := 21) hx hb dX12_negative_13 (by decide) ?_
          exact ih.2.2 (upd L 100 r3.1) r3.2 r h H locs ls hP hD hS (lv_sub hl [0, 1] rfl)
      · intro L σ r h H locs ls hP hD hS hl
        rw [x_negative] at h
        refine lv_aload_n hx hb dX12_negative_16 rfl (lv_at hl 0 rfl) ?_
        refine lv_iload_n hx hb dX12_negative_17 rfl (lv_at hl 1 rfl) ?_
        obtain ⟨r1, hc1, h⟩ := ob_ex h
        refine nc_Vi (As := [.int (L 1)]) (rest := []) ⟨hx, hb, hml, hown, hts⟩ (c_x_other l dC dI cy a k (upd (fun _ => 0) 1 ((L 1))) σ r1 hc1 H.size) (cwV 1 hts g_x_negative_other_669 rfl rfl rfl hd_x_other ⟨Nat.le_of_ble_eq_true rfl, Nat.le_of_ble_eq_true rfl⟩) hK hG hA hP hD hS rfl hl.1 rfl (Nat.le_of_ble_eq_true rfl) dX12_negative_18 ⟨Nat.le_refl _, Nat.le_refl _⟩ (fun H locs hP hD hS => ?_)
        exact ih.2.2 (upd L 100 r1.1) r1.2 r h H locs ls hP hD hS (lv_sub hl [0, 1] rfl)
      · intro L σ r h H locs ls hP hD hS hl
        rw [x_negative] at h
        cases h
        exact W.iret (v := (L 100)) hx hb hr (fun t ht hW => ⟨⟨(L 100), (), rfl, rfl, by rw [ht]; exact hP, va_K.moved hW.alike hK, hD⟩, hS.F ht⟩) hS.2.2 dX12_negative_21
  exact (blk k0).1 L0 σ0 r0 h0 s.heap [] ls hP hD hS hl
/-! has -/
def x_has : Nat → Nat → (Nat → Int32) → MS → Option (Int32 × MS)
  | 0, _, _, _ => none
  | k + 1, 0, L, σ => if ¬ (((((L 1)) + 1)) < 0 ∨ 1740000 ≤ ((((L 1)) + 1)).toNatClampNeg) then (x_has k 1 (upd (upd L 3 0) 4 ((((σ.2.2 28 ((((L 1)) + 1)).toNatClampNeg)) - 1))) σ) else none
  | k + 1, 1, L, σ => if ((L 4)) < ((L 3)) then (x_has k 7 L σ) else (if (2 : Int32) = 0 then none else (if ¬ (((((((L 1)) + 4)) + ((((((L 3)) + ((L 4)))) / 2)))) < 0 ∨ 1740000 ≤ ((((((L 1)) + 4)) + ((((((L 3)) + ((L 4)))) / 2)))).toNatClampNeg) then (ob (x_compare k 0 (upd (upd (fun _ => 0) 1 ((σ.2.2 28 ((((((L 1)) + 4)) + ((((((L 3)) + ((L 4)))) / 2)))).toNatClampNeg))) 2 ((L 2))) σ) (fun r4 => if r4.1 = 0 then (some (1, r4.2)) else (x_has k 2 (upd (upd L 5 ((((((L 3)) + ((L 4)))) / 2))) 6 r4.1) r4.2))) else none))
  | k + 1, 2, L, σ => if 0 ≤ ((L 6)) then (x_has k 3 L σ) else (x_has k 4 (upd L 100 ((((L 5)) + 1))) σ)
  | k + 1, 3, L, σ => x_has k 4 (upd L 100 ((L 3))) σ
  | k + 1, 4, L, σ => if 0 ≤ ((L 6)) then (x_has k 5 (upd L 3 ((L 100))) σ) else (x_has k 6 (upd (upd L 3 ((L 100))) 100 ((L 4))) σ)
  | k + 1, 5, L, σ => x_has k 6 (upd L 100 ((((L 5)) - 1))) σ
  | k + 1, 6, L, σ => x_has k 1 (upd L 4 ((L 100))) σ
  | k + 1, 7, L, σ => some (0, σ)
  | _ + 1, _ + 8, _, _ => none
def o_x_has : List Cond := [.fieldLink RX12 372 "SetHouseModel" "heap" "[I", .methodLink RX12 451 yX12_compare, .instanceMethod yX12_compare, .selects RX12 yX12_compare yX12_compare, .initialized RX12]
theorem o_x_has_good : o_x_has.all goodWord = true := by decide +kernel
def p_x_has : List Cond := o_x_has ++ ((.code yX12_compare cX12_compare 9 (some .int) :: p_x_GC) ++ [])
theorem p_x_has_good : p_x_has.all goodWord = true := nb_all2 o_x_has_good (nb_all2 (nb_allc (by decide +kernel) p_x_GC_good) rfl)
def w_x_has : List Cond := .code yX12_has cX12_has 7 (some .boolean) :: (p_x_has ++ fM)
theorem w_x_has_good : w_x_has.all goodWord = true := nb_allc (by decide +kernel) (nb_all2 p_x_has_good fM_good)
theorem in_x_has : ∀ w ∈ wsX120, w ∈ w_x_has := fun _ h => List.mem_cons_of_mem _ (List.mem_append_right _ h)
theorem hd_x_has : yX12_has.cls = RX12 ∧ yX12_has.cls ≠ "java/lang/invoke/MethodHandle" ∧ yX12_has.cls ≠ "java/lang/invoke/VarHandle" ∧ (parseMethodDescriptor yX12_has.desc).map (fun d => d.parameters.length) = some 2 := by decide +kernel
theorem gg_x_has_compare : GoodIn w_x_has w_x_compare := goodIn_sub (fun w h => (List.mem_cons.mp h).elim (fun e => (List.mem_cons_of_mem _ (List.mem_append_left _ (List.mem_append_right _ (List.mem_append_left _ (List.mem_cons.mpr (Or.inl e))))))) (fun h => (List.mem_append.mp h).elim (fun h => (List.mem_cons_of_mem _ (List.mem_append_left _ (List.mem_append_right _ (List.mem_append_left _ (List.mem_cons_of_mem _ h)))))) (fun h => List.mem_cons_of_mem _ (List.mem_append_right _ h)))) w_x_compare_good
theorem g_x_has_compare_451 : GoodIn w_x_has (wsV RX12 451 RX12 yX12_compare w_x_compare) := goodIn_app (nb_g4 (List.mem_cons_of_mem _ (List.mem_append_left _ (List.mem_append_left _ (List.mem_of_getElem? (i := 1) rfl)))) (List.mem_cons_of_mem _ (List.mem_append_left _ (List.mem_append_left _ (List.mem_of_getElem? (i := 2) rfl)))) (List.mem_cons_of_mem _ (List.mem_append_left _ (List.mem_append_left _ (List.mem_of_getElem? (i := 3) rfl)))) (List.mem_cons_of_mem _ (List.mem_append_left _ (List.mem_append_left _ (List.mem_of_getElem? (i := 4) rfl)))) (by decide +kernel)) gg_x_has_compare
set_option maxHeartbeats 40000000 in
set_option maxRecDepth 100000 in
theorem c_x_has (l : Launch) (dC : Nat → ClassId) (dI : Nat → Nat → Nat) (cy : Nat → ClassId) (a : Nat → Nat) (k0 : Nat) (L0 : Nat → Int32) (σ0 : MS) (r0 : Int32 × MS) (h0 : x_has k0 0 L0 σ0 = some r0) (sz : Nat) : Met l yX12_has w_x_has ({ frames := 43, cells := 0, slots := 0, locals := 1195 }) (va_Pc [.ref (a 0), .int (L0 1), .int (L0 2)] (nIn (dC, dI) cy sz (vM cy a σ0))) (va_Qi (fun (z : Int32) (_ : Unit) => z = r0.1) (fun _ t => nOut (dC, dI) cy (va_A (vM cy a σ0) sz) (vM cy a r0.2) t) (va_A (vM cy a σ0) sz)) 0 0 (va_A (vM cy a σ0) sz) := by
  refine Met.ofW (cc := cX12_has) (maxL := 7) (ret := (some .boolean)) (by decide) rfl ?_
  intro p e s m args below meth c s₁ B hml hv
  obtain ⟨rfl, hsz, hP, hK, hD0, hG⟩ := hv
  have hx := B.exec
  have hb := B.bytes
  have hr := B.returns
  have hts := atoms_spec (ws := w_x_has) B.pre
  have hown : s.vm.findClass RX12 = some m.cls := findClass_of_methodNamed B.named
  have hlocks := B.notSynchronized
  subst hsz
  have hD := hD0.self (sz := s.heap.size)
  generalize hAe : va_A (vM cy a σ0) s.heap.size = A at hD ⊢
  have hA : ∀ q : Nat, s.heap.size ≤ q → A q := fun q h => by rw [← hAe]; exact Or.inr h
  have hS : va_S A s.heap s.heap [] := va_S.rf
  have hl := lv_entry ([.ref (a 0), .int (L0 1), .int (L0 2)]) (n := 7) (Nat.le_of_ble_eq_true rfl)
  rw [lg_entry_eq]
  generalize (lg_sl ([.ref (a 0), .int (L0 1), .int (L0 2)]) ++ List.replicate (7 - (lg_sl ([.ref (a 0), .int (L0 1), .int (L0 2)])).length) Slot.unset).toArray = ls at hl ⊢
  have hl : lv_has ls 7 [(0, .ref (a 0)), (1, .int (L0 1)), (2, .int (L0 2))] := hl
  have blk : ∀ k : Nat, (bT p l e (headSpec w_x_has ({ frames := 43, cells := 0, slots := 0, locals := 1195 })).room s m #[.ref (a 0), .int (L0 1), .int (L0 2)] below meth c dC dI cy a A (qI dC dI cy a A below #[.ref (a 0), .int (L0 1), .int (L0 2)] s) 7 (x_has k 0) (fun L => [(0, .ref (a 0)), (1, .int (L 1)), (2, .int (L 2))]) 0 (fun L => [])) ∧ (bT p l e (headSpec w_x_has ({ frames := 43, cells := 0, slots := 0, locals := 1195 })).room s m #[.ref (a 0), .int (L0 1), .int (L0 2)] below meth c dC dI cy a A (qI dC dI cy a A below #[.ref (a 0), .int (L0 1), .int (L0 2)] s) 7 (x_has k 1) (fun L => [(0, .ref (a 0)), (1, .int (L 1)), (2, .int (L 2)), (3, .int (L 3)), (4, .int (L 4))]) 14 (fun L => [])) ∧ (bT p l e (headSpec w_x_has ({ frames := 43, cells := 0, slots := 0, locals := 1195 })).room s m #[.ref (a 0), .int (L0 1), .int (L0 2)] below meth c dC dI cy a A (qI dC dI cy a A below #[.ref (a 0), .int (L0 1), .int (L0 2)] s) 7 (x_has k 2) (fun L => [(0, .ref (a 0)), (1, .int (L 1)), (2, .int (L 2)), (3, .int (L 3)), (4, .int (L 4)), (5, .int (L 5)), (6, .int (L 6))]) 53 (fun L => [])) ∧ (bT p l e (headSpec w_x_has ({ frames := 43, cells := 0, slots := 0, locals := 1195 })).room s m #[.ref (a 0), .int (L0 1), .int (L0 2)] below meth c dC dI cy a A (qI dC dI cy a A below #[.ref (a 0), .int (L0 1), .int (L0 2)] s) 7 (x_has k 3) (fun L => [(0, .ref (a 0)), (1, .int (L 1)), (2, .int (L 2)), (3, .int (L 3)), (4, .int (L 4)), (5, .int (L 5)), (6, .int (L 6))]) 65 (fun L => [])) ∧ (bT p l e (headSpec w_x_has ({ frames := 43, cells := 0, slots := 0, locals := 1195 })).room s m #[.ref (a 0), .int (L0 1), .int (L0 2)] below meth c dC dI cy a A (qI dC dI cy a A below #[.ref (a 0), .int (L0 1), .int (L0 2)] s) 7 (x_has k 4) (fun L => [(0, .ref (a 0)), (1, .int (L 1)), (2, .int (L 2)), (3, .int (L 3)), (4, .int (L 4)), (5, .int (L 5)), (6, .int (L 6))]) 66 (fun L => [.int (L 100)])) ∧ (bT p l e (headSpec w_x_has ({ frames := 43, cells := 0, slots := 0, locals := 1195 })).room s m #[.ref (a 0), .int (L0 1), .int (L0 2)] below meth c dC dI cy a A (qI dC dI cy a A below #[.ref (a 0), .int (L0 1), .int (L0 2)] s) 7 (x_has k 5) (fun L => [(0, .ref (a 0)), (1, .int (L 1)), (2, .int (L 2)), (3, .int (L 3)), (4, .int (L 4)), (5, .int (L 5)), (6, .int (L 6))]) 77 (fun L => [])) ∧ (bT p l e (headSpec w_x_has ({ frames := 43, cells := 0, slots := 0, locals := 1195 })).room s m #[.ref (a 0), .int (L0 1), .int (L0 2)] below meth c dC dI cy a A (qI dC dI cy a A below #[.ref (a 0), .int (L0 1), .int (L0 2)] s) 7 (x_has k 6) (fun L => [(0, .ref (a 0)), (1, .int (L 1)), (2, .int (L 2)), (3, .int (L 3)), (4, .int (L 4)), (5, .int (L 5)), (6, .int (L 6))]) 81 (fun L => [.int (L 100)])) ∧ (bT p l e (headSpec w_x_has ({ frames := 43, cells := 0, slots := 0, locals := 1195 })).room s m #[.ref (a 0), .int (L0 1), .int (L0 2)] below meth c dC dI cy a A (qI dC dI cy a A below #[.ref (a 0), .int (L0 1), .int (L0 2)] s) 7 (x_has k 7) (fun L => [(0, .ref (a 0)), (1, .int (L 1)), (2, .int (L 2)), (3, .int (L 3)), (4, .int (L 4))]) 86 (fun L => [])) := by
    intro k
    induction k with
    | zero => exact ⟨fun L σ r h => (by cases h), fun L σ r h => (by cases h), fun L σ r h => (by cases h), fun L σ r h => (by cases h), fun L σ r h => (by cases h), fun L σ r h => (by cases h), fun L σ r h => (by cases h), fun L σ r h => (by cases h)⟩
    | succ k ih =>
      refine ⟨?_, ?_, ?_, ?_, ?_, ?_, ?_, ?_⟩
      · intro L σ r h H locs ls hP hD hS hl
        rw [x_has] at h
        refine lv_iconst (v := 0) hx hb dX12_has_0 (by decide) ?_
        refine lv_istore_n (lv' := [(3, .int 0), (0, .ref (a 0)), (1, .int (L 1)), (2, .int (L 2))]) hx hb dX12_has_1 rfl hl (by decide) rfl (fun ls hl => ?_)
        refine lv_aload_n hx hb dX12_has_2 rfl (lv_at hl 1 rfl) ?_
        refine ng_53 hx hb hts in_x_has hown hK hP (hts _ (List.mem_cons_of_mem _ (List.mem_append_left _ (List.mem_append_left _ (List.mem_of_getElem? (i := 0) rfl))))) dX12_has_3 ?_
        refine lv_iload_n hx hb dX12_has_6 rfl (lv_at hl 2 rfl) ?_
        refine lv_iconst (v := 1) hx hb dX12_has_7 (by decide) ?_
        refine lv_iadd hx hb dX12_has_8 ?_
        obtain ⟨q1, h⟩ := nb_ite1 h
        refine nl_28 hx hb hK hP q1 dX12_has_9 ?_
        refine lv_iconst (v := 1) hx hb dX12_has_10 (by decide) ?_
        refine lv_isub hx hb dX12_has_11 ?_
        refine lv_istore (lv' := [(4, .int (((σ.2.2 28 ((((L 1)) + 1)).toNatClampNeg)) - 1)), (3, .int 0), (0, .ref (a 0)), (1, .int (L 1)), (2, .int (L 2))]) hx hb dX12_has_12 hl (by decide) rfl (fun ls hl => ?_)
        exact ih.2.1 (upd (upd L 3 0) 4 ((((σ.2.2 28 ((((L 1)) + 1)).toNatClampNeg)) - 1))) σ r h H locs ls hP hD hS (lv_sub hl [2, 3, 4, 1, 0] rfl)
      · intro L σ r h H locs ls hP hD hS hl
        rw [x_has] at h
        refine lv_iload_n hx hb dX12_has_14 rfl (lv_at hl 3 rfl) ?_
        refine lv_iload hx hb dX12_has_15 (lv_at hl 4 rfl) ?_
        refine lv_icmp_gt (tgt := 86) hx hb dX12_has_17 (by decide) (fun c1 => ?_) (fun c1 => ?_)
        · rw [if_pos c1] at h
          exact ih.2.2.2.2.2.2.2 L σ r h H locs ls hP hD hS (lv_sub hl [0, 1, 2, 3, 4] rfl)
        · rw [if_neg c1] at h
          refine lv_iload_n hx hb dX12_has_20 rfl (lv_at hl 3 rfl) ?_
          refine lv_iload hx hb dX12_has_21 (lv_at hl 4 rfl) ?_
          refine lv_iadd hx hb dX12_has_23 ?_
          refine lv_iconst (v := 2) hx hb dX12_has_24 (by decide) ?_
          obtain ⟨q2, h⟩ := nb_ite0 h
          refine lv_idiv hx hb dX12_has_25 q2 ?_
          refine lv_istore (lv' := [(5, .int (((((L 3)) + ((L 4)))) / 2)), (0, .ref (a 0)), (1, .int (L 1)), (2, .int (L 2)), (3, .int (L 3)), (4, .int (L 4))]) hx hb dX12_has_26 hl (by decide) rfl (fun ls hl => ?_)
          refine lv_aload_n hx hb dX12_has_28 rfl (lv_at hl 1 rfl) ?_
          refine lv_aload_n hx hb dX12_has_29 rfl (lv_at hl 1 rfl) ?_
          refine ng_53 hx hb hts in_x_has hown hK hP (hts _ (List.mem_cons_of_mem _ (List.mem_append_left _ (List.mem_append_left _ (List.mem_of_getElem? (i := 0) rfl))))) dX12_has_30 ?_
          refine lv_iload_n hx hb dX12_has_33 rfl (lv_at hl 2 rfl) ?_
          refine lv_iconst (v := 4) hx hb dX12_has_34 (by decide) ?_
          refine lv_iadd hx hb dX12_has_35 ?_
          refine lv_iload hx hb dX12_has_36 (lv_at hl 0 rfl) ?_
          refine lv_iadd hx hb dX12_has_38 ?_
          obtain ⟨q3, h⟩ := nb_ite1 h
          refine nl_28 hx hb hK hP q3 dX12_has_39 ?_
          refine lv_iload_n hx hb dX12_has_40 rfl (lv_at hl 3 rfl) ?_
          obtain ⟨r4, hc4, h⟩ := ob_ex h
          refine nc_Vi (As := [.int (σ.2.2 28 ((((((L 1)) + 4)) + ((((((L 3)) + ((L 4)))) / 2)))).toNatClampNeg), .int (L 2)]) (rest := []) ⟨hx, hb, hml, hown, hts⟩ (c_x_compare l dC dI cy a k (upd (upd (fun _ => 0) 1 ((σ.2.2 28 ((((((L 1)) + 4)) + ((((((L 3)) + ((L 4)))) / 2)))).toNatClampNeg))) 2 ((L 2))) σ r4 hc4 H.size) (cwV 2 hts g_x_has_compare_451 rfl rfl rfl hd_x_compare ⟨Nat.le_of_ble_eq_true rfl, Nat.le_of_ble_eq_true rfl⟩) hK hG hA hP hD hS rfl hl.1 rfl (Nat.le_of_ble_eq_true rfl) dX12_has_41 ⟨Nat.le_refl _, Nat.le_refl _⟩ (fun H locs hP hD hS => ?_)
          refine lv_istore (lv' := [(6, .int r4.1), (5, .int (((((L 3)) + ((L 4)))) / 2)), (0, .ref (a 0)), (1, .int (L 1)), (2, .int (L 2)), (3, .int (L 3)), (4, .int (L 4))]) hx hb dX12_has_44 hl (by decide) rfl (fun ls hl => ?_)
          refine lv_iload hx hb dX12_has_46 (lv_at hl 0 rfl) ?_
          refine lv_if_ne (tgt := 53) hx hb dX12_has_48 (by decide) (fun c5 => ?_) (fun c5 => ?_)
          · rw [if_neg c5] at h
            exact ih.2.2.1 (upd (upd L 5 ((((((L 3)) + ((L 4)))) / 2))) 6 r4.1) r4.2 r h H locs ls hP hD hS (lv_sub hl [2, 3, 4, 5, 6, 1, 0] rfl)
          · rw [if_pos c5] at h
            refine lv_iconst (v := 1) hx hb dX12_has_51 (by decide) ?_
            cases h
            exact W.zret (v := 1) hx hb hr rfl (fun t ht hW => ⟨⟨1, (), rfl, rfl, by rw [ht]; exact hP, va_K.moved hW.alike hK, hD⟩, hS.F ht⟩) hS.2.2 dX12_has_52
      · intro L σ r h H locs ls hP hD hS hl
        rw [x_has] at h
        refine lv_iload hx hb dX12_has_53 (lv_at hl 6 rfl) ?_
        refine lv_if_ge (tgt := 65) hx hb dX12_has_55 (by decide) (fun c1 => ?_) (fun c1 => ?_)
        · rw [if_pos c1] at h
          exact ih.2.2.2.1 L σ r h H locs ls hP hD hS (lv_sub hl [0, 1, 2, 3, 4, 5, 6] rfl)
        · rw [if_neg c1] at h
          refine lv_iload hx hb dX12_has_58 (lv_at hl 5 rfl) ?_
          refine lv_iconst (v := 1) hx hb dX12_has_60 (by decide) ?_
          refine lv_iadd hx hb dX12_has_61 ?_
          refine lv_goto (tgt := 66) hx hb dX12_has_62 (by decide) ?_
          exact ih.2.2.2.2.1 (upd L 100 ((((L 5)) + 1))) σ r h H locs ls hP hD hS (lv_sub hl [0, 1, 2, 3, 4, 5, 6] rfl)
      · intro L σ r h H locs ls hP hD hS hl
        rw [x_has] at h
        refine lv_iload_n hx hb dX12_has_65 rfl (lv_at hl 3 rfl) ?_
        exact ih.2.2.2.2.1 (upd L 100 ((L 3))) σ r h H locs ls hP hD hS (lv_sub hl [0, 1, 2, 3, 4, 5, 6] rfl)
      · intro L σ r h H locs ls hP hD hS hl
        rw [x_has] at h
        refine lv_istore_n (lv' := [(3, .int (L 100)), (0, .ref (a 0)), (1, .int (L 1)), (2, .int (L 2)), (4, .int (L 4)), (5, .int (L 5)), (6, .int (L 6))]) hx hb dX12_has_66 rfl hl (by decide) rfl (fun ls hl => ?_)
        refine lv_iload hx hb dX12_has_67 (lv_at hl 6 rfl) ?_
        refine lv_if_ge (tgt := 77) hx hb dX12_has_69 (by decide) (fun c1 => ?_) (fun c1 => ?_)
        · rw [if_pos c1] at h
          exact ih.2.2.2.2.2.1 (upd L 3 ((L 100))) σ r h H locs ls hP hD hS (lv_sub hl [1, 2, 3, 0, 4, 5, 6] rfl)
        · rw [if_neg c1] at h
          refine lv_iload hx hb dX12_has_72 (lv_at hl 4 rfl) ?_
          refine lv_goto (tgt := 81) hx hb dX12_has_74 (by decide) ?_
          exact ih.2.2.2.2.2.2.1 (upd (upd L 3 ((L 100))) 100 ((L 4))) σ r h H locs ls hP hD hS (lv_sub hl [1, 2, 3, 0, 4, 5, 6] rfl)
      · intro L σ r h H locs ls hP hD hS hl
        rw [x_has] at h
        refine lv_iload hx hb dX12_has_77 (lv_at hl 5 rfl) ?_
        refine lv_iconst (v := 1) hx hb dX12_has_79 (by decide) ?_
        refine lv_isub hx hb dX12_has_80 ?_
        exact ih.2.2.2.2.2.2.1 (upd L 100 ((((L 5)) - 1))) σ r h H locs ls hP hD hS (lv_sub hl [0, 1, 2, 3, 4, 5, 6] rfl)
      · intro L σ r h H locs ls hP hD hS hl
        rw [x_has] at h
        refine lv_istore (lv' := [(4, .int (L 100)), (0, .ref (a 0)), (1, .int (L 1)), (2, .int (L 2)), (3, .int (L 3)), (5, .int (L 5)), (6, .int (L 6))]) hx hb dX12_has_81 hl (by decide) rfl (fun ls hl => ?_)
        refine lv_goto (tgt := 14) hx hb dX12_has_83 (by decide) ?_
        exact ih.2.1 (upd L 4 ((L 100))) σ r h H locs ls hP hD hS (lv_sub hl [1, 2, 3, 4, 0] rfl)
      · intro L σ r h H locs ls hP hD hS hl
        rw [x_has] at h
        refine lv_iconst (v := 0) hx hb dX12_has_86 (by decide) ?_
        cases h
        exact W.zret (v := 0) hx hb hr rfl (fun t ht hW => ⟨⟨0, (), rfl, rfl, by rw [ht]; exact hP, va_K.moved hW.alike hK, hD⟩, hS.F ht⟩) hS.2.2 dX12_has_87
  exact (blk k0).1 L0 σ0 r0 h0 s.heap [] ls hP hD hS hl
/-! isIn -/
def x_isIn : Nat → Nat → (Nat → Int32) → MS → Option (Int32 × MS)
  | 0, _, _, _ => none
  | k + 1, 0, L, σ => ob (x_kind k 0 (upd (fun _ => 0) 1 ((L 2))) σ) (fun r1 => if r1.1 = 6 then (if ((L 1)) = 0 then (x_isIn k 1 (upd L 3 r1.1) r1.2) else (ob (x_has k 0 (upd (upd (fun _ => 0) 1 ((L 2))) 2 ((L 1))) r1.2) (fun r4 => if r4.1 = 0 then (x_isIn k 1 (upd L 3 r1.1) r4.2) else (x_isIn k 2 (upd (upd L 3 r1.1) 100 1) r4.2)))) else (x_isIn k 3 (upd L 3 r1.1) r1.2))
  | k + 1, 1, L, σ => x_isIn k 2 (upd L 100 0) σ
  | k + 1, 2, L, σ => ob (x_truth k 0 (upd (fun _ => 0) 1 ((L 100))) σ) (fun r1 => some (r1.1, r1.2))
  | k + 1, 3, L, σ => if ((L 3)) = 5 then (x_isIn k 4 (upd (upd L 4 0) 5 0) σ) else (x_isIn k 9 L σ)
  | k + 1, 4, L, σ => if ¬ (((((L 2)) + 1)) < 0 ∨ 1740000 ≤ ((((L 2)) + 1)).toNatClampNeg) then (if ((σ.2.2 28 ((((L 2)) + 1)).toNatClampNeg)) ≤ ((L 5)) then (x_isIn k 8 L σ) else (if ((L 1)) = 0 then (x_isIn k 8 L σ) else (if ((L 4)) = 0 then (if ¬ (((((((L 2)) + 4)) + ((L 5)))) < 0 ∨ 1740000 ≤ ((((((L 2)) + 4)) + ((L 5)))).toNatClampNeg) then (ob (x_compare k 0 (upd (upd (fun _ => 0) 1 ((σ.2.2 28 ((((((L 2)) + 4)) + ((L 5)))).toNatClampNeg))) 2 ((L 1))) σ) (fun r6 => if r6.1 = 0 then (x_isIn k 5 L r6.2) else (x_isIn k 6 L r6.2))) else none) else (x_isIn k 5 L σ)))) else none
  | k + 1, 5, L, σ => x_isIn k 7 (upd L 100 1) σ
  | k + 1, 6, L, σ => x_isIn k 7 (upd L 100 0) σ
  | k + 1, 7, L, σ => x_isIn k 4 (upd (upd L 4 ((L 100))) 5 (((L 5)) + 1)) σ
  | k + 1, 8, L, σ => ob (x_truth k 0 (upd (fun _ => 0) 1 ((L 4))) σ) (fun r1 => some (r1.1, r1.2))
  | k + 1, 9, L, σ => if ((L 3)) = 4 then (ob (x_kind k 0 (upd (fun _ => 0) 1 ((L 1))) σ) (fun r2 => if r2.1 = 4 then (x_isIn k 11 L r2.2) else (x_isIn k 10 L r2.2))) else (x_isIn k 10 L σ)
  | k + 1, 10, L, σ => ob (x_wrongKind k 0 (fun _ => 0) σ) (fun r1 => some (r1.1, r1.2))
  | k + 1, 11, L, σ => x_isIn k 12 (upd (upd L 4 0) 5 0) σ
  | k + 1, 12, L, σ => if ¬ (((((L 1)) + 1)) < 0 ∨ 1740000 ≤ ((((L 1)) + 1)).toNatClampNeg) then (if ¬ (((((L 2)) + 1)) < 0 ∨ 1740000 ≤ ((((L 2)) + 1)).toNatClampNeg) then (if ((σ.2.2 28 ((((L 2)) + 1)).toNatClampNeg)) < ((((L 5)) + ((σ.2.2 28 ((((L 1)) + 1)).toNatClampNeg)))) then (x_isIn k 17 L σ) else (if ((L 4)) = 0 then (x_isIn k 13 (upd (upd L 6 1) 7 0) σ) else (x_isIn k 17 L σ))) else none) else none
  | k + 1, 13, L, σ => if ¬ (((((L 1)) + 1)) < 0 ∨ 1740000 ≤ ((((L 1)) + 1)).toNatClampNeg) then (if ((σ.2.2 28 ((((L 1)) + 1)).toNatClampNeg)) ≤ ((L 7)) then (x_isIn k 16 L σ) else (if ((L 6)) = 0 then (x_isIn k 16 L σ) else (if ¬ (((((((((L 2)) + 4)) + ((L 5)))) + ((L 7)))) < 0 ∨ 1740000 ≤ ((((((((L 2)) + 4)) + ((L 5)))) + ((L 7)))).toNatClampNeg) then (if ¬ (((((((L 1)) + 4)) + ((L 7)))) < 0 ∨ 1740000 ≤ ((((((L 1)) + 4)) + ((L 7)))).toNatClampNeg) then (if ((σ.2.2 28 ((((((((L 2)) + 4)) + ((L 5)))) + ((L 7)))).toNatClampNeg)) = ((σ.2.2 28 ((((((L 1)) + 4)) + ((L 7)))).toNatClampNeg)) then (x_isIn k 15 (upd L 100 1) σ) else (x_isIn k 14 L σ)) else none) else none))) else none
  | k + 1, 14, L, σ => x_isIn k 15 (upd L 100 0) σ
  | k + 1, 15, L, σ => x_isIn k 13 (upd (upd L 6 ((L 100))) 7 (((L 7)) + 1)) σ
  | k + 1, 16, L, σ => x_isIn k 12 (upd (upd L 4 ((L 6))) 5 (((L 5)) + 1)) σ
  | k + 1, 17, L, σ => ob (x_truth k 0 (upd (fun _ => 0) 1 ((L 4))) σ) (fun r1 => some (r1.1, r1.2))
  | _ + 1, _ + 18, _, _ => none
def o_x_isIn : List Cond := [.methodLink RX12 545 yX12_kind, .instanceMethod yX12_kind, .selects RX12 yX12_kind yX12_kind, .initialized RX12, .methodLink RX12 759 yX12_has, .instanceMethod yX12_has, .selects RX12 yX12_has yX12_has, .methodLink RX12 646 yX12_truth, .instanceMethod yX12_truth, .selects RX12 yX12_truth yX12_truth, .fieldLink RX12 372 "SetHouseModel" "heap" "[I", .methodLink RX12 451 yX12_compare, .instanceMethod yX12_compare, .selects RX12 yX12_compare yX12_compare, .methodLink RX12 666 yX12_wrongKind, .instanceMethod yX12_wrongKind, .selects RX12 yX12_wrongKind yX12_wrongKind]
theorem o_x_isIn_good : o_x_isIn.all goodWord = true := by decide +kernel
def p_x_isIn : List Cond := o_x_isIn ++ ((.code yX12_kind cX12_kind 2 (some .int) :: p_x_kind) ++ ((.code yX12_has cX12_has 7 (some .boolean) :: p_x_has) ++ ((.code yX12_truth cX12_truth 2 (some .int) :: p_x_truth) ++ ((.code yX12_compare cX12_compare 9 (some .int) :: p_x_GC) ++ ((.code yX12_wrongKind cX12_wrongKind 1 (some .int) :: p_x_wrongKind) ++ [])))))
theorem p_x_isIn_good : p_x_isIn.all goodWord = true := nb_all2 o_x_isIn_good (nb_all2 (nb_allc (by decide +kernel) p_x_kind_good) (nb_all2 (nb_allc (by decide +kernel) p_x_has_good) (nb_all2 (nb_allc (by decide +kernel) p_x_truth_good) (nb_all2 (nb_allc (by decide +kernel) p_x_GC_good) (nb_all2 (nb_allc (by decide +kernel) p_x_wrongKind_good) rfl)))))
def w_x_isIn : List Cond := .code yX12_isIn cX12_isIn 8 (some .int) :: (p_x_isIn ++ fM)
theorem w_x_isIn_good : w_x_isIn.all goodWord = true := nb_allc (by decide +kernel) (nb_all2 p_x_isIn_good fM_good)
theorem in_x_isIn : ∀ w ∈ wsX120, w ∈ w_x_isIn := fun _ h => List.mem_cons_of_mem _ (List.mem_append_right _ h)
theorem hd_x_isIn : yX12_isIn.cls = RX12 ∧ yX12_isIn.cls ≠ "java/lang/invoke/MethodHandle" ∧ yX12_isIn.cls ≠ "java/lang/invoke/VarHandle" ∧ (parseMethodDescriptor yX12_isIn.desc).map (fun d => d.parameters.length) = some 2 := by decide +kernel
theorem gg_x_isIn_compare : GoodIn w_x_isIn w_x_compare := goodIn_sub (fun w h => (List.mem_cons.mp h).elim (fun e => (List.mem_cons_of_mem _ (List.mem_append_left _ (List.mem_append_right _ (List.mem_append_right _ (List.mem_append_right _ (List.mem_append_right _ (List.mem_append_left _ (List.mem_cons.mpr (Or.inl e)))))))))) (fun h => (List.mem_append.mp h).elim (fun h => (List.mem_cons_of_mem _ (List.mem_append_left _ (List.mem_append_right _ (List.mem_append_right _ (List.mem_append_right _ (List.mem_append_right _ (List.mem_append_left _ (List.mem_cons_of_mem _ h))))))))) (fun h => List.mem_cons_of_mem _ (List.mem_append_right _ h)))) w_x_compare_good
theorem g_x_isIn_compare_451 : GoodIn w_x_isIn (wsV RX12 451 RX12 yX12_compare w_x_compare) := goodIn_app (nb_g4 (List.mem_cons_of_mem _ (List.mem_append_left _ (List.mem_append_left _ (List.mem_of_getElem? (i := 11) rfl)))) (List.mem_cons_of_mem _ (List.mem_append_left _ (List.mem_append_left _ (List.mem_of_getElem? (i := 12) rfl)))) (List.mem_cons_of_mem _ (List.mem_append_left _ (List.mem_append_left _ (List.mem_of_getElem? (i := 13) rfl)))) (List.mem_cons_of_mem _ (List.mem_append_left _ (List.mem_append_left _ (List.mem_of_getElem? (i := 3) rfl)))) (by decide +kernel)) gg_x_isIn_compare
theorem gg_x_isIn_has : GoodIn w_x_isIn w_x_has := goodIn_sub (fun w h => (List.mem_cons.mp h).elim (fun e => (List.mem_cons_of_mem _ (List.mem_append_left _ (List.mem_append_right _ (List.mem_append_right _ (List.mem_append_left _ (List.mem_cons.mpr (Or.inl e)))))))) (fun h => (List.mem_append.mp h).elim (fun h => (List.mem_cons_of_mem _ (List.mem_append_left _ (List.mem_append_right _ (List.mem_append_right _ (List.mem_append_left _ (List.mem_cons_of_mem _ h))))))) (fun h => List.mem_cons_of_mem _ (List.mem_append_right _ h)))) w_x_has_good
theorem g_x_isIn_has_759 : GoodIn w_x_isIn (wsV RX12 759 RX12 yX12_has w_x_has) := goodIn_app (nb_g4 (List.mem_cons_of_mem _ (List.mem_append_left _ (List.mem_append_left _ (List.mem_of_getElem? (i := 4) rfl)))) (List.mem_cons_of_mem _ (List.mem_append_left _ (List.mem_append_left _ (List.mem_of_getElem? (i := 5) rfl)))) (List.mem_cons_of_mem _ (List.mem_append_left _ (List.mem_append_left _ (List.mem_of_getElem? (i := 6) rfl)))) (List.mem_cons_of_mem _ (List.mem_append_left _ (List.mem_append_left _ (List.mem_of_getElem? (i := 3) rfl)))) (by decide +kernel)) gg_x_isIn_has
theorem gg_x_isIn_kind : GoodIn w_x_isIn w_x_kind := goodIn_sub (fun w h => (List.mem_cons.mp h).elim (fun e => (List.mem_cons_of_mem _ (List.mem_append_left _ (List.mem_append_right _ (List.mem_append_left _ (List.mem_cons.mpr (Or.inl e))))))) (fun h => (List.mem_append.mp h).elim (fun h => (List.mem_cons_of_mem _ (List.mem_append_left _ (List.mem_append_right _ (List.mem_append_left _ (List.mem_cons_of_mem _ h)))))) (fun h => List.mem_cons_of_mem _ (List.mem_append_right _ h)))) w_x_kind_good
theorem g_x_isIn_kind_545 : GoodIn w_x_isIn (wsV RX12 545 RX12 yX12_kind w_x_kind) := goodIn_app (nb_g4 (List.mem_cons_of_mem _ (List.mem_append_left _ (List.mem_append_left _ (List.mem_of_getElem? (i := 0) rfl)))) (List.mem_cons_of_mem _ (List.mem_append_left _ (List.mem_append_left _ (List.mem_of_getElem? (i := 1) rfl)))) (List.mem_cons_of_mem _ (List.mem_append_left _ (List.mem_append_left _ (List.mem_of_getElem? (i := 2) rfl)))) (List.mem_cons_of_mem _ (List.mem_append_left _ (List.mem_append_left _ (List.mem_of_getElem? (i := 3) rfl)))) (by decide +kernel)) gg_x_isIn_kind
theorem gg_x_isIn_truth : GoodIn w_x_isIn w_x_truth := goodIn_sub (fun w h => (List.mem_cons.mp h).elim (fun e => (List.mem_cons_of_mem _ (List.mem_append_left _ (List.mem_append_right _ (List.mem_append_right _ (List.mem_append_right _ (List.mem_append_left _ (List.mem_cons.mpr (Or.inl e))))))))) (fun h => (List.mem_append.mp h).elim (fun h => (List.mem_cons_of_mem _ (List.mem_append_left _ (List.mem_append_right _ (List.mem_append_right _ (List.mem_append_right _ (List.mem_append_left _ (List.mem_cons_of_mem _ h)))))))) (fun h => List.mem_cons_of_mem _ (List.mem_append_right _ h)))) w_x_truth_good
theorem g_x_isIn_truth_646 : GoodIn w_x_isIn (wsV RX12 646 RX12 yX12_truth w_x_truth) := goodIn_app (nb_g4 (List.mem_cons_of_mem _ (List.mem_append_left _ (List.mem_append_left _ (List.mem_of_getElem? (i := 7) rfl)))) (List.mem_cons_of_mem _ (List.mem_append_left _ (List.mem_append_left _ (List.mem_of_getElem? (i := 8) rfl)))) (List.mem_cons_of_mem _ (List.mem_append_left _ (List.mem_append_left _ (List.mem_of_getElem? (i := 9) rfl)))) (List.mem_cons_of_mem _ (List.mem_append_left _ (List.mem_append_left _ (List.mem_of_getElem? (i := 3) rfl)))) (by decide +kernel)) gg_x_isIn_truth
theorem gg_x_isIn_wrongKind : GoodIn w_x_isIn w_x_wrongKind := goodIn_sub (fun w h => (List.mem_cons.mp h).elim (fun e => (List.mem_cons_of_mem _ (List.mem_append_left _ (List.mem_append_right _ (List.mem_append_right _ (List.mem_append_right _ (List.mem_append_right _ (List.mem_append_right _ (List.mem_append_left _ (List.mem_cons.mpr (Or.inl e))))))))))) (fun h => (List.mem_append.mp h).elim (fun h => (List.mem_cons_of_mem _ (List.mem_append_left _ (List.mem_append_right _ (List.mem_append_right _ (List.mem_append_right _ (List.mem_append_right _ (List.mem_append_right _ (List.mem_append_left _ (List.mem_cons_of_mem _ h)))))))))) (fun h => List.mem_cons_of_mem _ (List.mem_append_right _ h)))) w_x_wrongKind_good
theorem g_x_isIn_wrongKind_666 : GoodIn w_x_isIn (wsV RX12 666 RX12 yX12_wrongKind w_x_wrongKind) := goodIn_app (nb_g4 (List.mem_cons_of_mem _ (List.mem_append_left _ (List.mem_append_left _ (List.mem_of_getElem? (i := 14) rfl)))) (List.mem_cons_of_mem _ (List.mem_append_left _ (List.mem_append_left _ (List.mem_of_getElem? (i := 15) rfl)))) (List.mem_cons_of_mem _ (List.mem_append_left _ (List.mem_append_left _ (List.mem_of_getElem? (i := 16) rfl)))) (List.mem_cons_of_mem _ (List.mem_append_left _ (List.mem_append_left _ (List.mem_of_getElem? (i := 3) rfl)))) (by decide +kernel)) gg_x_isIn_wrongKind
set_option maxHeartbeats 40000000 in
set_option maxRecDepth 100000 in
theorem c_x_isIn (l : Launch) (dC : Nat → ClassId) (dI : Nat → Nat → Nat) (cy : Nat → ClassId) (a : Nat → Nat) (k0 : Nat) (L0 : Nat → Int32) (σ0 : MS) (r0 : Int32 × MS) (h0 : x_isIn k0 0 L0 σ0 = some r0) (sz : Nat) : Met l yX12_isIn w_x_isIn ({ frames := 44, cells := 0, slots := 0, locals := 1221 }) (va_Pc [.ref (a 0), .int (L0 1), .int (L0 2)] (nIn (dC, dI) cy sz (vM cy a σ0))) (va_Qi (fun (z : Int32) (_ : Unit) => z = r0.1) (fun _ t => nOut (dC, dI) cy (va_A (vM cy a σ0) sz) (vM cy a r0.2) t) (va_A (vM cy a σ0) sz)) 0 0 (va_A (vM cy a σ0) sz) := by
  refine Met.ofW (cc := cX12_isIn) (maxL := 8) (ret := (some .int)) (by decide) rfl ?_
  intro p e s m args below meth c s₁ B hml hv
  obtain ⟨rfl, hsz, hP, hK, hD0, hG⟩ := hv
  have hx := B.exec
  have hb := B.bytes
  have hr := B.returns
  have hts := atoms_spec (ws := w_x_isIn) B.pre
  have hown : s.vm.findClass RX12 = some m.cls := findClass_of_methodNamed B.named
  have hlocks := B.notSynchronized
  subst hsz
  have hD := hD0.self (sz := s.heap.size)
  generalize hAe : va_A (vM cy a σ0) s.heap.size = A at hD ⊢
  have hA : ∀ q : Nat, s.heap.size ≤ q → A q := fun q h => by rw [← hAe]; exact Or.inr h
  have hS : va_S A s.heap s.heap [] := va_S.rf
  have hl := lv_entry ([.ref (a 0), .int (L0 1), .int (L0 2)]) (n := 8) (Nat.le_of_ble_eq_true rfl)
  rw [lg_entry_eq]
  generalize (lg_sl ([.ref (a 0), .int (L0 1), .int (L0 2)]) ++ List.replicate (8 - (lg_sl ([.ref (a 0), .int (L0 1), .int (L0 2)])).length) Slot.unset).toArray = ls at hl ⊢
  have hl : lv_has ls 8 [(0, .ref (a 0)), (1, .int (L0 1)), (2, .int (L0 2))] := hl
  have blk : ∀ k : Nat, (bT p l e (headSpec w_x_isIn ({ frames := 44, cells := 0, slots := 0, locals := 1221 })).room s m #[.ref (a 0), .int (L0 1), .int (L0 2)] below meth c dC dI cy a A (qI dC dI cy a A below #[.ref (a 0), .int (L0 1), .int (L0 2)] s) 8 (x_isIn k 0) (fun L => [(0, .ref (a 0)), (1, .int (L 1)), (2, .int (L 2))]) 0 (fun L => [])) ∧ (bT p l e (headSpec w_x_isIn ({ frames := 44, cells := 0, slots := 0, locals := 1221 })).room s m #[.ref (a 0), .int (L0 1), .int (L0 2)] below meth c dC dI cy a A (qI dC dI cy a A below #[.ref (a 0), .int (L0 1), .int (L0 2)] s) 8 (x_isIn k 1) (fun L => [(0, .ref (a 0)), (1, .int (L 1)), (2, .int (L 2)), (3, .int (L 3))]) 30 (fun L => [.ref (a 0)])) ∧ (bT p l e (headSpec w_x_isIn ({ frames := 44, cells := 0, slots := 0, locals := 1221 })).room s m #[.ref (a 0), .int (L0 1), .int (L0 2)] below meth c dC dI cy a A (qI dC dI cy a A below #[.ref (a 0), .int (L0 1), .int (L0 2)] s) 8 (x_isIn k 2) (fun L => [(0, .ref (a 0)), (1, .int (L 1)), (2, .int (L 2)), (3, .int (L 3))]) 31 (fun L => [.int (L 100), .ref (a 0)])) ∧ (bT p l e (headSpec w_x_isIn ({ frames := 44, cells := 0, slots := 0, locals := 1221 })).room s m #[.ref (a 0), .int (L0 1), .int (L0 2)] below meth c dC dI cy a A (qI dC dI cy a A below #[.ref (a 0), .int (L0 1), .int (L0 2)] s) 8 (x_isIn k 3) (fun L => [(0, .ref (a 0)), (1, .int (L 1)), (2, .int (L 2)), (3, .int (L 3))]) 35 (fun L => [])) ∧ (bT p l e (headSpec w_x_isIn ({ frames := 44, cells := 0, slots := 0, locals := 1221 })).room s m #[.ref (a 0), .int (L0 1), .int (L0 2)] below meth c dC dI cy a A (qI dC dI cy a A below #[.ref (a 0), .int (L0 1), .int (L0 2)] s) 8 (x_isIn k 4) (fun L => [(0, .ref (a 0)), (1, .int (L 1)), (2, .int (L 2)), (3, .int (L 3)), (4, .int (L 4)), (5, .int (L 5))]) 46 (fun L => [])) ∧ (bT p l e (headSpec w_x_isIn ({ frames := 44, cells := 0, slots := 0, locals := 1221 })).room s m #[.ref (a 0), .int (L0 1), .int (L0 2)] below meth c dC dI cy a A (qI dC dI cy a A below #[.ref (a 0), .int (L0 1), .int (L0 2)] s) 8 (x_isIn k 5) (fun L => [(0, .ref (a 0)), (1, .int (L 1)), (2, .int (L 2)), (3, .int (L 3)), (4, .int (L 4)), (5, .int (L 5))]) 87 (fun L => [])) ∧ (bT p l e (headSpec w_x_isIn ({ frames := 44, cells := 0, slots := 0, locals := 1221 })).room s m #[.ref (a 0), .int (L0 1), .int (L0 2)] below meth c dC dI cy a A (qI dC dI cy a A below #[.ref (a 0), .int (L0 1), .int (L0 2)] s) 8 (x_isIn k 6) (fun L => [(0, .ref (a 0)), (1, .int (L 1)), (2, .int (L 2)), (3, .int (L 3)), (4, .int (L 4)), (5, .int (L 5))]) 91 (fun L => [])) ∧ (bT p l e (headSpec w_x_isIn ({ frames := 44, cells := 0, slots := 0, locals := 1221 })).room s m #[.ref (a 0), .int (L0 1), .int (L0 2)] below meth c dC dI cy a A (qI dC dI cy a A below #[.ref (a 0), .int (L0 1), .int (L0 2)] s) 8 (x_isIn k 7) (fun L => [(0, .ref (a 0)), (1, .int (L 1)), (2, .int (L 2)), (3, .int (L 3)), (4, .int (L 4)), (5, .int (L 5))]) 92 (fun L => [.int (L 100)])) ∧ (bT p l e (headSpec w_x_isIn ({ frames := 44, cells := 0, slots := 0, locals := 1221 })).room s m #[.ref (a 0), .int (L0 1), .int (L0 2)] below meth c dC dI cy a A (qI dC dI cy a A below #[.ref (a 0), .int (L0 1), .int (L0 2)] s) 8 (x_isIn k 8) (fun L => [(0, .ref (a 0)), (1, .int (L 1)), (2, .int (L 2)), (3, .int (L 3)), (4, .int (L 4)), (5, .int (L 5))]) 100 (fun L => [])) ∧ (bT p l e (headSpec w_x_isIn ({ frames := 44, cells := 0, slots := 0, locals := 1221 })).room s m #[.ref (a 0), .int (L0 1), .int (L0 2)] below meth c dC dI cy a A (qI dC dI cy a A below #[.ref (a 0), .int (L0 1), .int (L0 2)] s) 8 (x_isIn k 9) (fun L => [(0, .ref (a 0)), (1, .int (L 1)), (2, .int (L 2)), (3, .int (L 3))]) 107 (fun L => [])) ∧ (bT p l e (headSpec w_x_isIn ({ frames := 44, cells := 0, slots := 0, locals := 1221 })).room s m #[.ref (a 0), .int (L0 1), .int (L0 2)] below meth c dC dI cy a A (qI dC dI cy a A below #[.ref (a 0), .int (L0 1), .int (L0 2)] s) 8 (x_isIn k 10) (fun L => [(0, .ref (a 0)), (1, .int (L 1)), (2, .int (L 2)), (3, .int (L 3))]) 121 (fun L => [])) ∧ (bT p l e (headSpec w_x_isIn ({ frames := 44, cells := 0, slots := 0, locals := 1221 })).room s m #[.ref (a 0), .int (L0 1), .int (L0 2)] below meth c dC dI cy a A (qI dC dI cy a A below #[.ref (a 0), .int (L0 1), .int (L0 2)] s) 8 (x_isIn k 11) (fun L => [(0, .ref (a 0)), (1, .int (L 1)), (2, .int (L 2)), (3, .int (L 3))]) 126 (fun L => [])) ∧ (bT p l e (headSpec w_x_isIn ({ frames := 44, cells := 0, slots := 0, locals := 1221 })).room s m #[.ref (a 0), .int (L0 1), .int (L0 2)] below meth c dC dI cy a A (qI dC dI cy a A below #[.ref (a 0), .int (L0 1), .int (L0 2)] s) 8 (x_isIn k 12) (fun L => [(0, .ref (a 0)), (1, .int (L 1)), (2, .int (L 2)), (3, .int (L 3)), (4, .int (L 4)), (5, .int (L 5))]) 132 (fun L => [])) ∧ (bT p l e (headSpec w_x_isIn ({ frames := 44, cells := 0, slots := 0, locals := 1221 })).room s m #[.ref (a 0), .int (L0 1), .int (L0 2)] below meth c dC dI cy a A (qI dC dI cy a A below #[.ref (a 0), .int (L0 1), .int (L0 2)] s) 8 (x_isIn k 13) (fun L => [(0, .ref (a 0)), (1, .int (L 1)), (2, .int (L 2)), (3, .int (L 3)), (4, .int (L 4)), (5, .int (L 5)), (6, .int (L 6)), (7, .int (L 7))]) 165 (fun L => [])) ∧ (bT p l e (headSpec w_x_isIn ({ frames := 44, cells := 0, slots := 0, locals := 1221 })).room s m #[.ref (a 0), .int (L0 1), .int (L0 2)] below meth c dC dI cy a A (qI dC dI cy a A below #[.ref (a 0), .int (L0 1), .int (L0 2)] s) 8 (x_isIn k 14) (fun L => [(0, .ref (a 0)), (1, .int (L 1)), (2, .int (L 2)), (3, .int (L 3)), (4, .int (L 4)), (5, .int (L 5)), (6, .int (L 6)), (7, .int (L 7))]) 215 (fun L => [])) ∧ (bT p l e (headSpec w_x_isIn ({ frames := 44, cells := 0, slots := 0, locals := 1221 })).room s m #[.ref (a 0), .int (L0 1), .int (L0 2)] below meth c dC dI cy a A (qI dC dI cy a A below #[.ref (a 0), .int (L0 1), .int (L0 2)] s) 8 (x_isIn k 15) (fun L => [(0, .ref (a 0)), (1, .int (L 1)), (2, .int (L 2)), (3, .int (L 3)), (4, .int (L 4)), (5, .int (L 5)), (6, .int (L 6)), (7, .int (L 7))]) 216 (fun L => [.int (L 100)])) ∧ (bT p l e (headSpec w_x_isIn ({ frames := 44, cells := 0, slots := 0, locals := 1221 })).room s m #[.ref (a 0), .int (L0 1), .int (L0 2)] below meth c dC dI cy a A (qI dC dI cy a A below #[.ref (a 0), .int (L0 1), .int (L0 2)] s) 8 (x_isIn k 16) (fun L => [(0, .ref (a 0)), (1, .int (L 1)), (2, .int (L 2)), (3, .int (L 3)), (4, .int (L 4)), (5, .int (L 5)), (6, .int (L 6)), (7, .int (L 7))]) 224 (fun L => [])) ∧ (bT p l e (headSpec w_x_isIn ({ frames := 44, cells := 0, slots := 0, locals := 1221 })).room s m #[.ref (a 0), .int (L0 1), .int (L0 2)] below meth c dC dI cy a A (qI dC dI cy a A below #[.ref (a 0), .int (L0 1), .int (L0 2)] s) 8 (x_isIn k 17) (fun L => [(0, .ref (a 0)), (1, .int (L 1)), (2, .int (L 2)), (3, .int (L 3)), (4, .int (L 4)), (5, .int (L 5))]) 234 (fun L => [])) := by
    intro k
    induction k with
    | zero => exact ⟨fun L σ r h => (by cases h), fun L σ r h => (by cases h), fun L σ r h => (by cases h), fun L σ r h => (by cases h), fun L σ r h => (by cases h), fun L σ r h => (by cases h), fun L σ r h => (by cases h), fun L σ r h => (by cases h), fun L σ r h => (by cases h), fun L σ r h => (by cases h), fun L σ r h => (by cases h), fun L σ r h => (by cases h), fun L σ r h => (by cases h), fun L σ r h => (by cases h), fun L σ r h => (by cases h), fun L σ r h => (by cases h), fun L σ r h => (by cases h), fun L σ r h => (by cases h)⟩
    | succ k ih =>
      refine ⟨?_, ?_, ?_, ?_, ?_, ?_, ?_, ?_, ?_, ?_, ?_, ?_, ?_, ?_, ?_, ?_, ?_, ?_⟩
      · intro L σ r h H locs ls hP hD hS hl
        rw [x_isIn] at h
        refine lv_aload_n hx hb dX12_isIn_0 rfl (lv_at hl 0 rfl) ?_
        refine lv_iload_n hx hb dX12_isIn_1 rfl (lv_at hl 2 rfl) ?_
        obtain ⟨r1, hc1, h⟩ := ob_ex h
        refine nc_Vi (As := [.int (L 2)]) (rest := []) ⟨hx, hb, hml, hown, hts⟩ (c_x_kind l dC dI cy a k (upd (fun _ => 0) 1 ((L 2))) σ r1 hc1 H.size) (cwV 1 hts g_x_isIn_kind_545 rfl rfl rfl hd_x_kind ⟨Nat.le_of_ble_eq_true rfl, Nat.le_of_ble_eq_true rfl⟩) hK hG hA hP hD hS rfl hl.1 rfl (Nat.le_of_ble_eq_true rfl) dX12_isIn_2 ⟨Nat.le_refl _, Nat.le_refl _⟩ (fun H locs hP hD hS => ?_)
        refine lv_istore_n (lv' := [(3, .int r1.1), (0, .ref (a 0)), (1, .int (L 1)), (2, .int (L 2))]) hx hb dX12_isIn_5 rfl hl (by decide) rfl (fun ls hl => ?_)
        refine lv_iload_n hx hb dX12_isIn_6 rfl (lv_at hl 0 rfl) ?_
        refine lv_bipush (v := 6) hx hb dX12_isIn_7 (by decide) ?_
        refine lv_icmp_ne (tgt := 35) hx hb dX12_isIn_9 (by decide) (fun c2 => ?_) (fun c2 => ?_)
        · rw [if_neg c2] at h
          exact ih.2.2.2.1 (upd L 3 r1.1) r1.2 r h H locs ls hP hD hS (lv_sub hl [1, 2, 3, 0] rfl)
        · rw [if_pos c2] at h
          refine lv_aload_n hx hb dX12_isIn_12 rfl (lv_at hl 1 rfl) ?_
          refine lv_iload_n hx hb dX12_isIn_13 rfl (lv_at hl 2 rfl) ?_
          refine lv_if_eq (tgt := 30) hx hb dX12_isIn_14 (by decide) (fun c3 => ?_) (fun c3 => ?_)
          · rw [if_pos c3] at h
            exact ih.2.1 (upd L 3 r1.1) r1.2 r h H locs ls hP hD hS (lv_sub hl [1, 2, 3, 0] rfl)
          · rw [if_neg c3] at h
            refine lv_aload_n hx hb dX12_isIn_17 rfl (lv_at hl 1 rfl) ?_
            refine lv_iload_n hx hb dX12_isIn_18 rfl (lv_at hl 3 rfl) ?_
            refine lv_iload_n hx hb dX12_isIn_19 rfl (lv_at hl 2 rfl) ?_
            obtain ⟨r4, hc4, h⟩ := ob_ex h
            refine nc_Vi (As := [.int (L 2), .int (L 1)]) (rest := [.ref (a 0)]) ⟨hx, hb, hml, hown, hts⟩ (c_x_has l dC dI cy a k (upd (upd (fun _ => 0) 1 ((L 2))) 2 ((L 1))) r1.2 r4 hc4 H.size) (cwV 2 hts g_x_isIn_has_759 rfl rfl rfl hd_x_has ⟨Nat.le_of_ble_eq_true rfl, Nat.le_of_ble_eq_true rfl⟩) hK hG hA hP hD hS rfl hl.1 rfl (Nat.le_of_ble_eq_true rfl) dX12_isIn_20 ⟨Nat.le_refl _, Nat.le_refl _⟩ (fun H locs hP hD hS => ?_)
            refine lv_if_eq (tgt := 30) hx hb dX12_isIn_23 (by decide) (fun c5 => ?_) (fun c5 => ?_)
            · rw [if_pos c5] at h
              exact ih.2.1 (upd L 3 r1.1) r4.2 r h H locs ls hP hD hS (lv_sub hl [1, 2, 3, 0] rfl)
            · rw [if_neg c5] at h
              refine lv_iconst (v := 1) hx hb dX12_isIn_26 (by decide) ?_
              refine lv_goto (tgt := 31) hx hb dX12_isIn_27 (by decide) ?_
              exact ih.2.2.1 (upd (upd L 3 r1.1) 100 1) r4.2 r h H locs ls hP hD hS (lv_sub hl [1, 2, 3, 0] rfl)
      · intro L σ r h H locs ls hP hD hS hl
        rw [x_isIn] at h
        refine lv_iconst (v := 0) hx hb dX12_isIn_30 (by decide) ?_
        exact ih.2.2.1 (upd L 100 0) σ r h H locs ls hP hD hS (lv_sub hl [0, 1, 2, 3] rfl)
      · intro L σ r h H locs ls hP hD hS hl
        rw [x_isIn] at h
        obtain ⟨r1, hc1, h⟩ := ob_ex h
        refine nc_Vi (As := [.int (L 100)]) (rest := []) ⟨hx, hb, hml, hown, hts⟩ (c_x_truth l dC dI cy a k (upd (fun _ => 0) 1 ((L 100))) σ r1 hc1 H.size) (cwV 1 hts g_x_isIn_truth_646 rfl rfl rfl hd_x_truth ⟨Nat.le_of_ble_eq_true rfl, Nat.le_of_ble_eq_true rfl⟩) hK hG hA hP hD hS rfl hl.1 rfl (Nat.le_of_ble_eq_true rfl) dX12_isIn_31 ⟨Nat.le_refl _, Nat.le_refl _⟩ (fun H locs hP hD hS => ?_)
        cases h
        exact W.iret (v := r1.1) hx hb hr (fun t ht hW => ⟨⟨r1.1, (), rfl, rfl, by rw [ht]; exact hP, va_K.moved hW.alike hK, hD⟩, hS.F ht⟩) hS.2.2 dX12_isIn_34
      · intro L σ r h H locs ls hP hD hS hl
        rw [x_isIn] at h
        refine lv_iload_n hx hb dX12_isIn_35 rfl (lv_at hl 3 rfl) ?_
        refine lv_iconst (v := 5) hx hb dX12_isIn_36 (by decide) ?_
        refine lv_icmp_ne (tgt := 107) hx hb dX12_isIn_37 (by decide) (fun c1 => ?_) (fun c1 => ?_)
        · rw [if_neg c1] at h
          exact ih.2.2.2.2.2.2.2.2.2.1 L σ r h H locs ls hP hD hS (lv_sub hl [0, 1, 2, 3] rfl)
        · rw [if_pos c1] at h
          refine lv_iconst (v := 0) hx hb dX12_isIn_40 (by decide) ?_
          refine lv_istore (lv' := [(4, .int 0), (0, .ref (a 0)), (1, .int (L 1)), (2, .int (L 2)), (3, .int (L 3))]) hx hb dX12_isIn_41 hl (by decide) rfl (fun ls hl => ?_)
          refine lv_iconst (v := 0) hx hb dX12_isIn_43 (by decide) ?_
          refine lv_istore (lv' := [(5, .int 0), (4, .int 0), (0, .ref (a 0)), (1, .int (L 1)), (2, .int (L 2)), (3, .int (L 3))]) hx hb dX12_isIn_44 hl (by decide) rfl (fun ls hl => ?_)
          exact ih.2.2.2.2.1 (upd (upd L 4 0) 5 0) σ r h H locs ls hP hD hS (lv_sub hl [2, 3, 4, 5, 1, 0] rfl)
      · intro L σ r h H locs ls hP hD hS hl
        rw [x_isIn] at h
        refine lv_iload hx hb dX12_isIn_46 (lv_at hl 5 rfl) ?_
        refine lv_aload_n hx hb dX12_isIn_48 rfl (lv_at hl 0 rfl) ?_
        refine ng_53 hx hb hts in_x_isIn hown hK hP (hts _ (List.mem_cons_of_mem _ (List.mem_append_left _ (List.mem_append_left _ (List.mem_of_getElem? (i := 10) rfl))))) dX12_isIn_49 ?_
        refine lv_iload_n hx hb dX12_isIn_52 rfl (lv_at hl 2 rfl) ?_
        refine lv_iconst (v := 1) hx hb dX12_isIn_53 (by decide) ?_
        refine lv_iadd hx hb dX12_isIn_54 ?_
        obtain ⟨q1, h⟩ := nb_ite1 h
        refine nl_28 hx hb hK hP q1 dX12_isIn_55 ?_
        refine lv_icmp_ge (tgt := 100) hx hb dX12_isIn_56 (by decide) (fun c2 => ?_) (fun c2 => ?_)
        · rw [if_pos c2] at h
          exact ih.2.2.2.2.2.2.2.2.1 L σ r h H locs ls hP hD hS (lv_sub hl [0, 1, 2, 3, 4, 5] rfl)
        · rw [if_neg c2] at h
          refine lv_iload_n hx hb dX12_isIn_59 rfl (lv_at hl 1 rfl) ?_
          refine lv_if_eq (tgt := 100) hx hb dX12_isIn_60 (by decide) (fun c3 => ?_) (fun c3 => ?_)
          · rw [if_pos c3] at h
            exact ih.2.2.2.2.2.2.2.2.1 L σ r h H locs ls hP hD hS (lv_sub hl [0, 1, 2, 3, 4, 5] rfl)
          · rw [if_neg c3] at h
            refine lv_iload hx hb dX12_isIn_63 (lv_at hl 4 rfl) ?_
            refine lv_if_ne (tgt := 87) hx hb dX12_isIn_65 (by decide) (fun c4 => ?_) (fun c4 => ?_)
            · rw [if_neg c4] at h
              exact ih.2.2.2.2.2.1 L σ r h H locs ls hP hD hS (lv_sub hl [0, 1, 2, 3, 4, 5] rfl)
            · rw [if_pos c4] at h
              refine lv_aload_n hx hb dX12_isIn_68 rfl (lv_at hl 0 rfl) ?_
              refine lv_aload_n hx hb dX12_isIn_69 rfl (lv_at hl 0 rfl) ?_
              refine ng_53 hx hb hts in_x_isIn hown hK hP (hts _ (List.mem_cons_of_mem _ (List.mem_append_left _ (List.mem_append_left _ (List.mem_of_getElem? (i := 10) rfl))))) dX12_isIn_70 ?_
              refine lv_iload_n hx hb dX12_isIn_73 rfl (lv_at hl 2 rfl) ?_
              refine lv_iconst (v := 4) hx hb dX12_isIn_74 (by decide) ?_
              refine lv_iadd hx hb dX12_isIn_75 ?_
              refine lv_iload hx hb dX12_isIn_76 (lv_at hl 5 rfl) ?_
              refine lv_iadd hx hb dX12_isIn_78 ?_
              obtain ⟨q5, h⟩ := nb_ite1 h
              refine nl_28 hx hb hK hP q5 dX12_isIn_79 ?_
              refine lv_iload_n hx hb dX12_isIn_80 rfl (lv_at hl 1 rfl) ?_
              obtain ⟨r6, hc6, h⟩ := ob_ex h
              refine nc_Vi (As := [.int (σ.2.2 28 ((((((L 2)) + 4)) + ((L 5)))).toNatClampNeg), .int (L 1)]) (rest := []) ⟨hx, hb, hml, hown, hts⟩ (c_x_compare l dC dI cy a k (upd (upd (fun _ => 0) 1 ((σ.2.2 28 ((((((L 2)) + 4)) + ((L 5)))).toNatClampNeg))) 2 ((L 1))) σ r6 hc6 H.size) (cwV 2 hts g_x_isIn_compare_451 rfl rfl rfl hd_x_compare ⟨Nat.le_of_ble_eq_true rfl, Nat.le_of_ble_eq_true rfl⟩) hK hG hA hP hD hS rfl hl.1 rfl (Nat.le_of_ble_eq_true rfl) dX12_isIn_81 ⟨Nat.le_refl _, Nat.le_refl _⟩ (fun H locs hP hD hS => ?_)
              refine lv_if_ne (tgt := 91) hx hb dX12_isIn_84 (by decide) (fun c7 => ?_) (fun c7 => ?_)
              · rw [if_neg c7] at h
                exact ih.2.2.2.2.2.2.1 L r6.2 r h H locs ls hP hD hS (lv_sub hl [0, 1, 2, 3, 4, 5] rfl)
              · rw [if_pos c7] at h
                exact ih.2.2.2.2.2.1 L r6.2 r h H locs ls hP hD hS (lv_sub hl [0, 1, 2, 3, 4, 5] rfl)
      · intro L σ r h H locs ls hP hD hS hl
        rw [x_isIn] at h
        refine lv_iconst (v := 1) hx hb dX12_isIn_87 (by decide) ?_
        refine lv_goto (tgt := 92) hx hb dX12_isIn_88 (by decide) ?_
        exact ih.2.2.2.2.2.2.2.1 (upd L 100 1) σ r h H locs ls hP hD hS (lv_sub hl [0, 1, 2, 3, 4, 5] rfl)
      · intro L σ r h H locs ls hP hD hS hl
        rw [x_isIn] at h
        refine lv_iconst (v := 0) hx hb dX12_isIn_91 (by decide) ?_
        exact ih.2.2.2.2.2.2.2.1 (upd L 100 0) σ r h H locs ls hP hD hS (lv_sub hl [0, 1, 2, 3, 4, 5] rfl)
      · intro L σ r h H locs ls hP hD hS hl
        rw [x_isIn] at h
        refine lv_istore (lv' := [(4, .int (L 100)), (0, .ref (a 0)), (1, .int (L 1)), (2, .int (L 2)), (3, .int (L 3)), (5, .int (L 5))]) hx hb dX12_isIn_92 hl (by decide) rfl (fun ls hl => ?_)
        refine lv_iinc (v := ((L 5)) + 1) (lv' := [(5, .int (((L 5)) + 1)), (4, .int (L 100)), (0, .ref (a 0)), (1, .int (L 1)), (2, .int (L 2)), (3, .int (L 3))]) hx hb dX12_isIn_94 hl (k := 5) rfl rfl (by decide) rfl (fun ls hl => ?_)
        refine lv_goto (tgt := 46) hx hb dX12_isIn_97 (by decide) ?_
        exact ih.2.2.2.2.1 (upd (upd L 4 ((L 100))) 5 (((L 5)) + 1)) σ r h H locs ls hP hD hS (lv_sub hl [2, 3, 4, 5, 1, 0] rfl)
      · intro L σ r h H locs ls hP hD hS hl
        rw [x_isIn] at h
        refine lv_aload_n hx hb dX12_isIn_100 rfl (lv_at hl 0 rfl) ?_
        refine lv_iload hx hb dX12_isIn_101 (lv_at hl 4 rfl) ?_
        obtain ⟨r1, hc1, h⟩ := ob_ex h
        refine nc_Vi (As := [.int (L 4)]) (rest := []) ⟨hx, hb, hml, hown, hts⟩ (c_x_truth l dC dI cy a k (upd (fun _ => 0) 1 ((L 4))) σ r1 hc1 H.size) (cwV 1 hts g_x_isIn_truth_646 rfl rfl rfl hd_x_truth ⟨Nat.le_of_ble_eq_true rfl, Nat.le_of_ble_eq_true rfl⟩) hK hG hA hP hD hS rfl hl.1 rfl (Nat.le_of_ble_eq_true rfl) dX12_isIn_103 ⟨Nat.le_refl _, Nat.le_refl _⟩ (fun H locs hP hD hS => ?_)
        cases h
        exact W.iret (v := r1.1) hx hb hr (fun t ht hW => ⟨⟨r1.1, (), rfl, rfl, by rw [ht]; exact hP, va_K.moved hW.alike hK, hD⟩, hS.F ht⟩) hS.2.2 dX12_isIn_106
      · intro L σ r h H locs ls hP hD hS hl
        rw [x_isIn] at h
        refine lv_iload_n hx hb dX12_isIn_107 rfl (lv_at hl 3 rfl) ?_
        refine lv_iconst (v := 4) hx hb dX12_isIn_108 (by decide) ?_
        refine lv_icmp_ne (tgt := 121) hx hb dX12_isIn_109 (by decide) (fun c1 => ?_) (fun c1 => ?_)
        · rw [if_neg c1] at h
          exact ih.2.2.2.2.2.2.2.2.2.2.1 L σ r h H locs ls hP hD hS (lv_sub hl [0, 1, 2, 3] rfl)
        · rw [if_pos c1] at h
          refine lv_aload_n hx hb dX12_isIn_112 rfl (lv_at hl 0 rfl) ?_
          refine lv_iload_n hx hb dX12_isIn_113 rfl (lv_at hl 1 rfl) ?_
          obtain ⟨r2, hc2, h⟩ := ob_ex h
          refine nc_Vi (As := [.int (L 1)]) (rest := []) ⟨hx, hb, hml, hown, hts⟩ (c_x_kind l dC dI cy a k (upd (fun _ => 0) 1 ((L 1))) σ r2 hc2 H.size) (cwV 1 hts g_x_isIn_kind_545 rfl rfl rfl hd_x_kind ⟨Nat.le_of_ble_eq_true rfl, Nat.le_of_ble_eq_true rfl⟩) hK hG hA hP hD hS rfl hl.1 rfl (Nat.le_of_ble_eq_true rfl) dX12_isIn_114 ⟨Nat.le_refl _, Nat.le_refl _⟩ (fun H locs hP hD hS => ?_)
          refine lv_iconst (v := 4) hx hb dX12_isIn_117 (by decide) ?_
          refine lv_icmp_eq (tgt := 126) hx hb dX12_isIn_118 (by decide) (fun c3 => ?_) (fun c3 => ?_)
          · rw [if_pos c3] at h
            exact ih.2.2.2.2.2.2.2.2.2.2.2.1 L r2.2 r h H locs ls hP hD hS (lv_sub hl [0, 1, 2, 3] rfl)
          · rw [if_neg c3] at h
            exact ih.2.2.2.2.2.2.2.2.2.2.1 L r2.2 r h H locs ls hP hD hS (lv_sub hl [0, 1, 2, 3] rfl)
      · intro L σ r h H locs ls hP hD hS hl
        rw [x_isIn] at h
        refine lv_aload_n hx hb dX12_isIn_121 rfl (lv_at hl 0 rfl) ?_
        obtain ⟨r1, hc1, h⟩ := ob_ex h
        refine nc_Vi (As := []) (rest := []) ⟨hx, hb, hml, hown, hts⟩ (c_x_wrongKind l dC dI cy a k (fun _ => 0) σ r1 hc1 H.size) (cwV 0 hts g_x_isIn_wrongKind_666 rfl rfl rfl hd_x_wrongKind ⟨Nat.le_of_ble_eq_true rfl, Nat.le_of_ble_eq_true rfl⟩) hK hG hA hP hD hS rfl hl.1 rfl (Nat.le_of_ble_eq_true rfl) dX12_isIn_122 ⟨Nat.le_refl _, Nat.le_refl _⟩ (fun H locs hP hD hS => ?_)
        cases h
        exact W.iret (v := r1.1) hx hb hr (fun t ht hW => ⟨⟨r1.1, (), rfl, rfl, by rw [ht]; exact hP, va_K.moved hW.alike hK, hD⟩, hS.F ht⟩) hS.2.2 dX12_isIn_125
      · intro L σ r h H locs ls hP hD hS hl
        rw [x_isIn] at h
        refine lv_iconst (v := 0) hx hb dX12_isIn_126 (by decide) ?_
        refine lv_istore (lv' := [(4, .int 0), (0, .ref (a 0)), (1, .int (L 1)), (2, .int (L 2)), (3, .int (L 3))]) hx hb dX12_isIn_127 hl (by decide) rfl (fun ls hl => ?_)
        refine lv_iconst (v := 0) hx hb dX12_isIn_129 (by decide) ?_
        refine lv_istore (lv' := [(5, .int 0), (4, .int 0), (0, .ref (a 0)), (1, .int (L 1)), (2, .int (L 2)), (3, .int (L 3))]) hx hb dX12_isIn_130 hl (by decide) rfl (fun ls hl => ?_)
        exact ih.2.2.2.2.2.2.2.2.2.2.2.2.1 (upd (upd L 4 0) 5 0) σ r h H locs ls hP hD hS (lv_sub hl [2, 3, 4, 5, 1, 0] rfl)
      · intro L σ r h H locs ls hP hD hS hl
        rw [x_isIn] at h
        refine lv_iload hx hb dX12_isIn_132 (lv_at hl 5 rfl) ?_
        refine lv_aload_n hx hb dX12_isIn_134 rfl (lv_at hl 0 rfl) ?_
        refine ng_53 hx hb hts in_x_isIn hown hK hP (hts _ (List.mem_cons_of_mem _ (List.mem_append_left _ (List.mem_append_left _ (List.mem_of_getElem? (i := 10) rfl))))) dX12_isIn_135 ?_
        refine lv_iload_n hx hb dX12_isIn_138 rfl (lv_at hl 1 rfl) ?_
        refine lv_iconst (v := 1) hx hb dX12_isIn_139 (by decide) ?_
        refine lv_iadd hx hb dX12_isIn_140 ?_
        obtain ⟨q1, h⟩ := nb_ite1 h
        refine nl_28 hx hb hK hP q1 dX12_isIn_141 ?_
        refine lv_iadd hx hb dX12_isIn_142 ?_
        refine lv_aload_n hx hb dX12_isIn_143 rfl (lv_at hl 0 rfl) ?_
        refine ng_53 hx hb hts in_x_isIn hown hK hP (hts _ (List.mem_cons_of_mem _ (List.mem_append_left _ (List.mem_append_left _ (List.mem_of_getElem? (i := 10) rfl))))) dX12_isIn_144 ?_
        refine lv_iload_n hx hb dX12_isIn_147 rfl (lv_at hl 2 rfl) ?_
        refine lv_iconst (v := 1) hx hb dX12_isIn_148 (by decide) ?_
        refine lv_iadd hx hb dX12_isIn_149 ?_
        obtain ⟨q2, h⟩ := nb_ite1 h
        refine nl_28 hx hb hK hP q2 dX12_isIn_150 ?_
        refine lv_icmp_gt (tgt := 234) hx hb dX12_isIn_151 (by decide) (fun c3 => ?_) (fun c3 => ?_)
        · rw [if_pos c3] at h
          exact ih.2.2.2.2.2.2.2.2.2.2.2.2.2.2.2.2.2 L σ r h H locs ls hP hD hS (lv_sub hl [0, 1, 2, 3, 4, 5] rfl)
        · rw [if_neg c3] at h
          refine lv_iload hx hb dX12_isIn_154 (lv_at hl 4 rfl) ?_
          refine lv_if_ne (tgt := 234) hx hb dX12_isIn_156 (by decide) (fun c4 => ?_) (fun c4 => ?_)
          · rw [if_neg c4] at h
            exact ih.2.2.2.2.2.2.2.2.2.2.2.2.2.2.2.2.2 L σ r h H locs ls hP hD hS (lv_sub hl [0, 1, 2, 3, 4, 5] rfl)
          · rw [if_pos c4] at h
            refine lv_iconst (v := 1) hx hb dX12_isIn_159 (by decide) ?_
            refine lv_istore (lv' := [(6, .int 1), (0, .ref (a 0)), (1, .int (L 1)), (2, .int (L 2)), (3, .int (L 3)), (4, .int (L 4)), (5, .int (L 5))]) hx hb dX12_isIn_160 hl (by decide) rfl (fun ls hl => ?_)
            refine lv_iconst (v := 0) hx hb dX12_isIn_162 (by decide) ?_
            refine lv_istore (lv' := [(7, .int 0), (6, .int 1), (0, .ref (a 0)), (1, .int (L 1)), (2, .int (L 2)), (3, .int (L 3)), (4, .int (L 4)), (5, .int (L 5))]) hx hb dX12_isIn_163 hl (by decide) rfl (fun ls hl => ?_)
            exact ih.2.2.2.2.2.2.2.2.2.2.2.2.2.1 (upd (upd L 6 1) 7 0) σ r h H locs ls hP hD hS (lv_sub hl [2, 3, 4, 5, 6, 7, 1, 0] rfl)
      · intro L σ r h H locs ls hP hD hS hl
        rw [x_isIn] at h
        refine lv_iload hx hb dX12_isIn_165 (lv_at hl 7 rfl) ?_
        refine lv_aload_n hx hb dX12_isIn_167 rfl (lv_at hl 0 rfl) ?_
        refine ng_53 hx hb hts in_x_isIn hown hK hP (hts _ (List.mem_cons_of_mem _ (List.mem_append_left _ (List.mem_append_left _ (List.mem_of_getElem? (i := 10) rfl))))) dX12_isIn_168 ?_
        refine lv_iload_n hx hb dX12_isIn_171 rfl (lv_at hl 1 rfl) ?_
        refine lv_iconst (v := 1) hx hb dX12_isIn_172 (by decide) ?_
        refine lv_iadd hx hb dX12_isIn_173 ?_
        obtain ⟨q1, h⟩ := nb_ite1 h
        refine nl_28 hx hb hK hP q1 dX12_isIn_174 ?_
        refine lv_icmp_ge (tgt := 224) hx hb dX12_isIn_175 (by decide) (fun c2 => ?_) (fun c2 => ?_)
        · rw [if_pos c2] at h
          exact ih.2.2.2.2.2.2.2.2.2.2.2.2.2.2.2.2.1 L σ r h H locs ls hP hD hS (lv_sub hl [0, 1, 2, 3, 4, 5, 6, 7] rfl)
        · rw [if_neg c2] at h
          refine lv_iload hx hb dX12_isIn_178 (lv_at hl 6 rfl) ?_
          refine lv_if_eq (tgt := 224) hx hb dX12_isIn_180 (by decide) (fun c3 => ?_) (fun c3 => ?_)
          · rw [if_pos c3] at h
            exact ih.2.2.2.2.2.2.2.2.2.2.2.2.2.2.2.2.1 L σ r h H locs ls hP hD hS (lv_sub hl [0, 1, 2, 3, 4, 5, 6, 7] rfl)
          · rw [if_neg c3] at h
            refine lv_aload_n hx hb dX12_isIn_183 rfl (lv_at hl 0 rfl) ?_
            refine ng_53 hx hb hts in_x_isIn hown hK hP (hts _ (List.mem_cons_of_mem _ (List.mem_append_left _ (List.mem_append_left _ (List.mem_of_getElem? (i := 10) rfl))))) dX12_isIn_184 ?_
            refine lv_iload_n hx hb dX12_isIn_187 rfl (lv_at hl 2 rfl) ?_
            refine lv_iconst (v := 4) hx hb dX12_isIn_188 (by decide) ?_
            refine lv_iadd hx hb dX12_isIn_189 ?_
            refine lv_iload hx hb dX12_isIn_190 (lv_at hl 5 rfl) ?_
            refine lv_iadd hx hb dX12_isIn_192 ?_
            refine lv_iload hx hb dX12_isIn_193 (lv_at hl 7 rfl) ?_
            refine lv_iadd hx hb dX12_isIn_195 ?_
            obtain ⟨q4, h⟩ := nb_ite1 h
            refine nl_28 hx hb hK hP q4 dX12_isIn_196 ?_
            refine lv_aload_n hx hb dX12_isIn_197 rfl (lv_at hl 0 rfl) ?_
            refine ng_53 hx hb hts in_x_isIn hown hK hP (hts _ (List.mem_cons_of_mem _ (List.mem_append_left _ (List.mem_append_left _ (List.mem_of_getElem? (i := 10) rfl))))) dX12_isIn_198 ?_
            refine lv_iload_n hx hb dX12_isIn_201 rfl (lv_at hl 1 rfl) ?_
            refine lv_iconst (v := 4) hx hb dX12_isIn_202 (by decide) ?_
            refine lv_iadd hx hb dX12_isIn_203 ?_
            refine lv_iload hx hb dX12_isIn_204 (lv_at hl 7 rfl) ?_
            refine lv_iadd hx hb dX12_isIn_206 ?_
            obtain ⟨q5, h⟩ := nb_ite1 h
            refine nl_28 hx hb hK hP q5 dX12_isIn_207 ?_
            refine lv_icmp_ne (tgt := 215) hx hb dX12_isIn_208 (by decide) (fun c6 => ?_) (fun c6 => ?_)
            · rw [if_neg c6] at h
              exact ih.2.2.2.2.2.2.2.2.2.2.2.2.2.2.1 L σ r h H locs ls hP hD hS (lv_sub hl [0, 1, 2, 3, 4, 5, 6, 7] rfl)
            · rw [if_pos c6] at h
              refine lv_iconst (v := 1) hx hb dX12_isIn_211 (by decide) ?_
              refine lv_goto (tgt := 216) hx hb dX12_isIn_212 (by decide) ?_
              exact ih.2.2.2.2.2.2.2.2.2.2.2.2.2.2.2.1 (upd L 100 1) σ r h H locs ls hP hD hS (lv_sub hl [0, 1, 2, 3, 4, 5, 6, 7] rfl)
      · intro L σ r h H locs ls hP hD hS hl
        rw [x_isIn] at h
        refine lv_iconst (v := 0) hx hb dX12_isIn_215 (by decide) ?_
        exact ih.2.2.2.2.2.2.2.2.2.2.2.2.2.2.2.1 (upd L 100 0) σ r h H locs ls hP hD hS (lv_sub hl [0, 1, 2, 3, 4, 5, 6, 7] rfl)
      · intro L σ r h H locs ls hP hD hS hl
        rw [x_isIn] at h
        refine lv_istore (lv' := [(6, .int (L 100)), (0, .ref (a 0)), (1, .int (L 1)), (2, .int (L 2)), (3, .int (L 3)), (4, .int (L 4)), (5, .int (L 5)), (7, .int (L 7))]) hx hb dX12_isIn_216 hl (by decide) rfl (fun ls hl => ?_)
        refine lv_iinc (v := ((L 7)) + 1) (lv' := [(7, .int (((L 7)) + 1)), (6, .int (L 100)), (0, .ref (a 0)), (1, .int (L 1)), (2, .int (L 2)), (3, .int (L 3)), (4, .int (L 4)), (5, .int (L 5))]) hx hb dX12_isIn_218 hl (k := 7) rfl rfl (by decide) rfl (fun ls hl => ?_)
        refine lv_goto (tgt := 165) hx hb dX12_isIn_221 (by decide) ?_
        exact ih.2.2.2.2.2.2.2.2.2.2.2.2.2.1 (upd (upd L 6 ((L 100))) 7 (((L 7)) + 1)) σ r h H locs ls hP hD hS (lv_sub hl [2, 3, 4, 5, 6, 7, 1, 0] rfl)
      · intro L σ r h H locs ls hP hD hS hl
        rw [x_isIn] at h
        refine lv_iload hx hb dX12_isIn_224 (lv_at hl 6 rfl) ?_
        refine lv_istore (lv' := [(4, .int (L 6)), (0, .ref (a 0)), (1, .int (L 1)), (2, .int (L 2)), (3, .int (L 3)), (5, .int (L 5)), (6, .int (L 6)), (7, .int (L 7))]) hx hb dX12_isIn_226 hl (by decide) rfl (fun ls hl => ?_)
        refine lv_iinc (v := ((L 5)) + 1) (lv' := [(5, .int (((L 5)) + 1)), (4, .int (L 6)), (0, .ref (a 0)), (1, .int (L 1)), (2, .int (L 2)), (3, .int (L 3)), (6, .int (L 6)), (7, .int (L 7))]) hx hb dX12_isIn_228 hl (k := 5) rfl rfl (by decide) rfl (fun ls hl => ?_)
        refine lv_goto (tgt := 132) hx hb dX12_isIn_231 (by decide) ?_
        exact ih.2.2.2.2.2.2.2.2.2.2.2.2.1 (upd (upd L 4 ((L 6))) 5 (((L 5)) + 1)) σ r h H locs ls hP hD hS (lv_sub hl [2, 3, 4, 5, 1, 0] rfl)
      · intro L σ r h H locs ls hP hD hS hl
        rw [x_isIn] at h
        refine lv_aload_n hx hb dX12_isIn_234 rfl (lv_at hl 0 rfl) ?_
        refine lv_iload hx hb dX12_isIn_235 (lv_at hl 4 rfl) ?_
        obtain ⟨r1, hc1, h⟩ := ob_ex h
        refine nc_Vi (As := [.int (L 4)]) (rest := []) ⟨hx, hb, hml, hown, hts⟩ (c_x_truth l dC dI cy a k (upd (fun _ => 0) 1 ((L 4))) σ r1 hc1 H.size) (cwV 1 hts g_x_isIn_truth_646 rfl rfl rfl hd_x_truth ⟨Nat.le_of_ble_eq_true rfl, Nat.le_of_ble_eq_true rfl⟩) hK hG hA hP hD hS rfl hl.1 rfl (Nat.le_of_ble_eq_true rfl) dX12_isIn_237 ⟨Nat.le_refl _, Nat.le_refl _⟩ (fun H locs hP hD hS => ?_)
        cases h
        exact W.iret (v := r1.1) hx hb hr (fun t ht hW => ⟨⟨r1.1, (), rfl, rfl, by rw [ht]; exact hP, va_K.moved hW.alike hK, hD⟩, hS.F ht⟩) hS.2.2 dX12_isIn_240
  exact (blk k0).1 L0 σ0 r0 h0 s.heap [] ls hP hD hS hl
/-! isSubset -/
def x_isSubset : Nat → Nat → (Nat → Int32) → MS → Option (Int32 × MS)
  | 0, _, _, _ => none
  | k + 1, 0, L, σ => x_isSubset k 1 (upd (upd L 3 1) 4 0) σ
  | k + 1, 1, L, σ => if ¬ (((((L 1)) + 1)) < 0 ∨ 1740000 ≤ ((((L 1)) + 1)).toNatClampNeg) then (if ((σ.2.2 28 ((((L 1)) + 1)).toNatClampNeg)) ≤ ((L 4)) then (x_isSubset k 2 L σ) else (if ((L 3)) = 0 then (x_isSubset k 2 L σ) else (if ¬ (((((((L 1)) + 4)) + ((L 4)))) < 0 ∨ 1740000 ≤ ((((((L 1)) + 4)) + ((L 4)))).toNatClampNeg) then (ob (x_has k 0 (upd (upd (fun _ => 0) 1 ((L 2))) 2 ((σ.2.2 28 ((((((L 1)) + 4)) + ((L 4)))).toNatClampNeg))) σ) (fun r5 => x_isSubset k 1 (upd (upd L 3 r5.1) 4 (((L 4)) + 1)) r5.2)) else none))) else none
  | k + 1, 2, L, σ => if ((L 3)) = 0 ∨ ((L 3)) = 1 then some ((L 3), σ) else none
  | _ + 1, _ + 3, _, _ => none
def o_x_isSubset : List Cond := [.fieldLink RX12 372 "SetHouseModel" "heap" "[I", .methodLink RX12 759 yX12_has, .instanceMethod yX12_has, .selects RX12 yX12_has yX12_has, .initialized RX12]
theorem o_x_isSubset_good : o_x_isSubset.all goodWord = true := by decide +kernel
def p_x_isSubset : List Cond := o_x_isSubset ++ ((.code yX12_has cX12_has 7 (some .boolean) :: p_x_has) ++ [])
theorem p_x_isSubset_good : p_x_isSubset.all goodWord = true := nb_all2 o_x_isSubset_good (nb_all2 (nb_allc (by decide +kernel) p_x_has_good) rfl)
def w_x_isSubset : List Cond := .code yX12_isSubset cX12_isSubset 5 (some .boolean) :: (p_x_isSubset ++ fM)
theorem w_x_isSubset_good : w_x_isSubset.all goodWord = true := nb_allc (by decide +kernel) (nb_all2 p_x_isSubset_good fM_good)
theorem in_x_isSubset : ∀ w ∈ wsX120, w ∈ w_x_isSubset := fun _ h => List.mem_cons_of_mem _ (List.mem_append_right _ h)
theorem hd_x_isSubset : yX12_isSubset.cls = RX12 ∧ yX12_isSubset.cls ≠ "java/lang/invoke/MethodHandle" ∧ yX12_isSubset.cls ≠ "java/lang/invoke/VarHandle" ∧ (parseMethodDescriptor yX12_isSubset.desc).map (fun d => d.parameters.length) = some 2 := by decide +kernel
theorem gg_x_isSubset_has : GoodIn w_x_isSubset w_x_has := goodIn_sub (fun w h => (List.mem_cons.mp h).elim (fun e => (List.mem_cons_of_mem _ (List.mem_append_left _ (List.mem_append_right _ (List.mem_append_left _ (List.mem_cons.mpr (Or.inl e))))))) (fun h => (List.mem_append.mp h).elim (fun h => (List.mem_cons_of_mem _ (List.mem_append_left _ (List.mem_append_right _ (List.mem_append_left _ (List.mem_cons_of_mem _ h)))))) (fun h => List.mem_cons_of_mem _ (List.mem_append_right _ h)))) w_x_has_good
theorem g_x_isSubset_has_759 : GoodIn w_x_isSubset (wsV RX12 759 RX12 yX12_has w_x_has) := goodIn_app (nb_g4 (List.mem_cons_of_mem _ (List.mem_append_left _ (List.mem_append_left _ (List.mem_of_getElem? (i := 1) rfl)))) (List.mem_cons_of_mem _ (List.mem_append_left _ (List.mem_append_left _ (List.mem_of_getElem? (i := 2) rfl)))) (List.mem_cons_of_mem _ (List.mem_append_left _ (List.mem_append_left _ (List.mem_of_getElem? (i := 3) rfl)))) (List.mem_cons_of_mem _ (List.mem_append_left _ (List.mem_append_left _ (List.mem_of_getElem? (i := 4) rfl)))) (by decide +kernel)) gg_x_isSubset_has
set_option maxHeartbeats 40000000 in
set_option maxRecDepth 100000 in
theorem c_x_isSubset (l : Launch) (dC : Nat → ClassId) (dI : Nat → Nat → Nat) (cy : Nat → ClassId) (a : Nat → Nat) (k0 : Nat) (L0 : Nat → Int32) (σ0 : MS) (r0 : Int32 × MS) (h0 : x_isSubset k0 0 L0 σ0 = some r0) (sz : Nat) : Met l yX12_isSubset w_x_isSubset ({ frames := 44, cells := 0, slots := 0, locals := 1221 }) (va_Pc [.ref (a 0), .int (L0 1), .int (L0 2)] (nIn (dC, dI) cy sz (vM cy a σ0))) (va_Qi (fun (z : Int32) (_ : Unit) => z = r0.1) (fun _ t => nOut (dC, dI) cy (va_A (vM cy a σ0) sz) (vM cy a r0.2) t) (va_A (vM cy a σ0) sz)) 0 0 (va_A (vM cy a σ0) sz) := by
  refine Met.ofW (cc := cX12_isSubset) (maxL := 5) (ret := (some .boolean)) (by decide) rfl ?_
  intro p e s m args below meth c s₁ B hml hv
  obtain ⟨rfl, hsz, hP, hK, hD0, hG⟩ := hv
  have hx := B.exec
  have hb := B.bytes
  have hr := B.returns
  have hts := atoms_spec (ws := w_x_isSubset) B.pre
  have hown : s.vm.findClass RX12 = some m.cls := findClass_of_methodNamed B.named
  have hlocks := B.notSynchronized
  subst hsz
  have hD := hD0.self (sz := s.heap.size)
  generalize hAe : va_A (vM cy a σ0) s.heap.size = A at hD ⊢
  have hA : ∀ q : Nat, s.heap.size ≤ q → A q := fun q h => by rw [← hAe]; exact Or.inr h
  have hS : va_S A s.heap s.heap [] := va_S.rf
  have hl := lv_entry ([.ref (a 0), .int (L0 1), .int (L0 2)]) (n := 5) (Nat.le_of_ble_eq_true rfl)
  rw [lg_entry_eq]
  generalize (lg_sl ([.ref (a 0), .int (L0 1), .int (L0 2)]) ++ List.replicate (5 - (lg_sl ([.ref (a 0), .int (L0 1), .int (L0 2)])).length) Slot.unset).toArray = ls at hl ⊢
  have hl : lv_has ls 5 [(0, .ref (a 0)), (1, .int (L0 1)), (2, .int (L0 2))] := hl
  have blk : ∀ k : Nat, (bT p l e (headSpec w_x_isSubset ({ frames := 44, cells := 0, slots := 0, locals := 1221 })).room s m #[.ref (a 0), .int (L0 1), .int (L0 2)] below meth c dC dI cy a A (qI dC dI cy a A below #[.ref (a 0), .int (L0 1), .int (L0 2)] s) 5 (x_isSubset k 0) (fun L => [(0, .ref (a 0)), (1, .int (L 1)), (2, .int (L 2))]) 0 (fun L => [])) ∧ (bT p l e (headSpec w_x_isSubset ({ frames := 44, cells := 0, slots := 0, locals := 1221 })).room s m #[.ref (a 0), .int (L0 1), .int (L0 2)] below meth c dC dI cy a A (qI dC dI cy a A below #[.ref (a 0), .int (L0 1), .int (L0 2)] s) 5 (x_isSubset k 1) (fun L => [(0, .ref (a 0)), (1, .int (L 1)), (2, .int (L 2)), (3, .int (L 3)), (4, .int (L 4))]) 5 (fun L => [])) ∧ (bT p l e (headSpec w_x_isSubset ({ frames := 44, cells := 0, slots := 0, locals := 1221 })).room s m #[.ref (a 0), .int (L0 1), .int (L0 2)] below meth c dC dI cy a A (qI dC dI cy a A below #[.ref (a 0), .int (L0 1), .int (L0 2)] s) 5 (x_isSubset k 2) (fun L => [(0, .ref (a 0)), (1, .int (L 1)), (2, .int (L 2)), (3, .int (L 3)), (4, .int (L 4))]) 45 (fun L => [])) := by
    intro k
    induction k with
    | zero => exact ⟨fun L σ r h => (by cases h), fun L σ r h => (by cases h), fun L σ r h => (by cases h)⟩
    | succ k ih =>
      refine ⟨?_, ?_, ?_⟩
      · intro L σ r h H locs ls hP hD hS hl
        rw [x_isSubset] at h
        refine lv_iconst (v := 1) hx hb dX12_isSubset_0 (by decide) ?_
        refine lv_istore_n (lv' := [(3, .int 1), (0, .ref (a 0)), (1, .int (L 1)), (2, .int (L 2))]) hx hb dX12_isSubset_1 rfl hl (by decide) rfl (fun ls hl => ?_)
        refine lv_iconst (v := 0) hx hb dX12_isSubset_2 (by decide) ?_
        refine lv_istore (lv' := [(4, .int 0), (3, .int 1), (0, .ref (a 0)), (1, .int (L 1)), (2, .int (L 2))]) hx hb dX12_isSubset_3 hl (by decide) rfl (fun ls hl => ?_)
        exact ih.2.1 (upd (upd L 3 1) 4 0) σ r h H locs ls hP hD hS (lv_sub hl [2, 3, 4, 1, 0] rfl)
      · intro L σ r h H locs ls hP hD hS hl
        rw [x_isSubset] at h
        refine lv_iload hx hb dX12_isSubset_5 (lv_at hl 4 rfl) ?_
        refine lv_aload_n hx hb dX12_isSubset_7 rfl (lv_at hl 0 rfl) ?_
        refine ng_53 hx hb hts in_x_isSubset hown hK hP (hts _ (List.mem_cons_of_mem _ (List.mem_append_left _ (List.mem_append_left _ (List.mem_of_getElem? (i := 0) rfl))))) dX12_isSubset_8 ?_
        refine lv_iload_n hx hb dX12_isSubset_11 rfl (lv_at hl 1 rfl) ?_
        refine lv_iconst (v := 1) hx hb dX12_isSubset_12 (by decide) ?_
        refine lv_iadd hx hb dX12_isSubset_13 ?_
        obtain ⟨q1, h⟩ := nb_ite1 h
        refine nl_28 hx hb hK hP q1 dX12_isSubset_14 ?_
        refine lv_icmp_ge (tgt := 45) hx hb dX12_isSubset_15 (by decide) (fun c2 => ?_) (fun c2 => ?_)
        · rw [if_pos c2] at h
          exact ih.2.2 L σ r h H locs ls hP hD hS (lv_sub hl [0, 1, 2, 3, 4] rfl)
        · rw [if_neg c2] at h
          refine lv_iload_n hx hb dX12_isSubset_18 rfl (lv_at hl 3 rfl) ?_
          refine lv_if_eq (tgt := 45) hx hb dX12_isSubset_19 (by decide) (fun c3 => ?_) (fun c3 => ?_)
          · rw [if_pos c3] at h
            exact ih.2.2 L σ r h H locs ls hP hD hS (lv_sub hl [0, 1, 2, 3, 4] rfl)
          · rw [if_neg c3] at h
            refine lv_aload_n hx hb dX12_isSubset_22 rfl (lv_at hl 0 rfl) ?_
            refine lv_iload_n hx hb dX12_isSubset_23 rfl (lv_at hl 2 rfl) ?_
            refine lv_aload_n hx hb dX12_isSubset_24 rfl (lv_at hl 0 rfl) ?_
            refine ng_53 hx hb hts in_x_isSubset hown hK hP (hts _ (List.mem_cons_of_mem _ (List.mem_append_left _ (List.mem_append_left _ (List.mem_of_getElem? (i := 0) rfl))))) dX12_isSubset_25 ?_
            refine lv_iload_n hx hb dX12_isSubset_28 rfl (lv_at hl 1 rfl) ?_
            refine lv_iconst (v := 4) hx hb dX12_isSubset_29 (by decide) ?_
            refine lv_iadd hx hb dX12_isSubset_30 ?_
            refine lv_iload hx hb dX12_isSubset_31 (lv_at hl 4 rfl) ?_
            refine lv_iadd hx hb dX12_isSubset_33 ?_
            obtain ⟨q4, h⟩ := nb_ite1 h
            refine nl_28 hx hb hK hP q4 dX12_isSubset_34 ?_
            obtain ⟨r5, hc5, h⟩ := ob_ex h
            refine nc_Vi (As := [.int (L 2), .int (σ.2.2 28 ((((((L 1)) + 4)) + ((L 4)))).toNatClampNeg)]) (rest := []) ⟨hx, hb, hml, hown, hts⟩ (c_x_has l dC dI cy a k (upd (upd (fun _ => 0) 1 ((L 2))) 2 ((σ.2.2 28 ((((((L 1)) + 4)) + ((L 4)))).toNatClampNeg))) σ r5 hc5 H.size) (cwV 2 hts g_x_isSubset_has_759 rfl rfl rfl hd_x_has ⟨Nat.le_of_ble_eq_true rfl, Nat.le_of_ble_eq_true rfl⟩) hK hG hA hP hD hS rfl hl.1 rfl (Nat.le_of_ble_eq_true rfl) dX12_isSubset_35 ⟨Nat.le_refl _, Nat.le_refl _⟩ (fun H locs hP hD hS => ?_)
            refine lv_istore_n (lv' := [(3, .int r5.1), (0, .ref (a 0)), (1, .int (L 1)), (2, .int (L 2)), (4, .int (L 4))]) hx hb dX12_isSubset_38 rfl hl (by decide) rfl (fun ls hl => ?_)
            refine lv_iinc (v := ((L 4)) + 1) (lv' := [(4, .int (((L 4)) + 1)), (3, .int r5.1), (0, .ref (a 0)), (1, .int (L 1)), (2, .int (L 2))]) hx hb dX12_isSubset_39 hl (k := 4) rfl rfl (by decide) rfl (fun ls hl => ?_)
            refine lv_goto (tgt := 5) hx hb dX12_isSubset_42 (by decide) ?_
            exact ih.2.1 (upd (upd L 3 r5.1) 4 (((L 4)) + 1)) r5.2 r h H locs ls hP hD hS (lv_sub hl [2, 3, 4, 1, 0] rfl)
      · intro L σ r h H locs ls hP hD hS hl
        rw [x_isSubset] at h
        refine lv_iload_n hx hb dX12_isSubset_45 rfl (lv_at hl 3 rfl) ?_
        obtain ⟨q1, h⟩ := nb_ite1 h
        cases h
        exact W.zret (v := (L 3)) hx hb hr (nb_bz q1) (fun t ht hW => ⟨⟨(L 3), (), rfl, rfl, by rw [ht]; exact hP, va_K.moved hW.alike hK, hD⟩, hS.F ht⟩) hS.2.2 dX12_isSubset_46
  exact (blk k0).1 L0 σ0 r0 h0 s.heap [] ls hP hD hS hl
/-! joined -/
def x_joined : Nat → Nat → (Nat → Int32) → MS → Option (Int32 × MS)
  | 0, _, _, _ => none
  | k + 1, 0, L, σ => if ¬ (((((L 1)) + 1)) < 0 ∨ 1740000 ≤ ((((L 1)) + 1)).toNatClampNeg) then (if ¬ (((((L 2)) + 1)) < 0 ∨ 1740000 ≤ ((((L 2)) + 1)).toNatClampNeg) then (x_joined k 1 (upd (upd (upd L 3 ((σ.2.2 28 ((((L 1)) + 1)).toNatClampNeg))) 4 ((σ.2.2 28 ((((L 2)) + 1)).toNatClampNeg))) 5 0) σ) else none) else none
  | k + 1, 1, L, σ => if ((L 3)) ≤ ((L 5)) then (x_joined k 3 L σ) else (if ¬ (((((((L 1)) + 4)) + ((L 5)))) < 0 ∨ 1740000 ≤ ((((((L 1)) + 4)) + ((L 5)))).toNatClampNeg) then (if ¬ (((L 5)) < 0 ∨ 8200 ≤ ((L 5)).toNatClampNeg) then (x_joined k 2 L (σ.1, σ.2.1, updG σ.2.2 51 (upd (σ.2.2 51) ((L 5)).toNatClampNeg ((σ.2.2 28 ((((((L 1)) + 4)) + ((L 5)))).toNatClampNeg))))) else none) else none)
  | k + 1, 2, L, σ => x_joined k 1 (upd L 5 (((L 5)) + 1)) σ
  | k + 1, 3, L, σ => x_joined k 4 (upd L 5 0) σ
  | k + 1, 4, L, σ => if ((L 4)) ≤ ((L 5)) then (x_joined k 6 L σ) else (if ¬ (((((((L 2)) + 4)) + ((L 5)))) < 0 ∨ 1740000 ≤ ((((((L 2)) + 4)) + ((L 5)))).toNatClampNeg) then (if ¬ (((((L 3)) + ((L 5)))) < 0 ∨ 8200 ≤ ((((L 3)) + ((L 5)))).toNatClampNeg) then (x_joined k 5 L (σ.1, σ.2.1, updG σ.2.2 51 (upd (σ.2.2 51) ((((L 3)) + ((L 5)))).toNatClampNeg ((σ.2.2 28 ((((((L 2)) + 4)) + ((L 5)))).toNatClampNeg))))) else none) else none)
  | k + 1, 5, L, σ => x_joined k 4 (upd L 5 (((L 5)) + 1)) σ
  | k + 1, 6, L, σ => ob (x_stringOf__51 k 0 (upd (upd (fun _ => 0) 2 0) 3 ((((L 3)) + ((L 4))))) σ) (fun r1 => some (r1.1, r1.2))
  | _ + 1, _ + 7, _, _ => none
def o_x_joined : List Cond := [.fieldLink RX12 372 "SetHouseModel" "heap" "[I", .fieldLink RX12 756 "SetHouseModel" "bytes" "[I", .methodLink RX12 597 yX12_stringOf, .instanceMethod yX12_stringOf, .selects RX12 yX12_stringOf yX12_stringOf, .initialized RX12]
theorem o_x_joined_good : o_x_joined.all goodWord = true := by decide +kernel
def p_x_joined : List Cond := o_x_joined ++ ((.code yX12_stringOf cX12_stringOf 6 (some .int) :: p_x_stringOf__51) ++ [])
theorem p_x_joined_good : p_x_joined.all goodWord = true := nb_all2 o_x_joined_good (nb_all2 (nb_allc (by decide +kernel) p_x_stringOf__51_good) rfl)
def w_x_joined : List Cond := .code yX12_joined cX12_joined 6 (some .int) :: (p_x_joined ++ fM)
theorem w_x_joined_good : w_x_joined.all goodWord = true := nb_allc (by decide +kernel) (nb_all2 p_x_joined_good fM_good)
theorem in_x_joined : ∀ w ∈ wsX120, w ∈ w_x_joined := fun _ h => List.mem_cons_of_mem _ (List.mem_append_right _ h)
theorem hd_x_joined : yX12_joined.cls = RX12 ∧ yX12_joined.cls ≠ "java/lang/invoke/MethodHandle" ∧ yX12_joined.cls ≠ "java/lang/invoke/VarHandle" ∧ (parseMethodDescriptor yX12_joined.desc).map (fun d => d.parameters.length) = some 2 := by decide +kernel
theorem gg_x_joined_stringOf__51 : GoodIn w_x_joined w_x_stringOf__51 := goodIn_sub (fun w h => (List.mem_cons.mp h).elim (fun e => (List.mem_cons_of_mem _ (List.mem_append_left _ (List.mem_append_right _ (List.mem_append_left _ (List.mem_cons.mpr (Or.inl e))))))) (fun h => (List.mem_append.mp h).elim (fun h => (List.mem_cons_of_mem _ (List.mem_append_left _ (List.mem_append_right _ (List.mem_append_left _ (List.mem_cons_of_mem _ h)))))) (fun h => List.mem_cons_of_mem _ (List.mem_append_right _ h)))) w_x_stringOf__51_good
theorem g_x_joined_stringOf__51_597 : GoodIn w_x_joined (wsV RX12 597 RX12 yX12_stringOf w_x_stringOf__51) := goodIn_app (nb_g4 (List.mem_cons_of_mem _ (List.mem_append_left _ (List.mem_append_left _ (List.mem_of_getElem? (i := 2) rfl)))) (List.mem_cons_of_mem _ (List.mem_append_left _ (List.mem_append_left _ (List.mem_of_getElem? (i := 3) rfl)))) (List.mem_cons_of_mem _ (List.mem_append_left _ (List.mem_append_left _ (List.mem_of_getElem? (i := 4) rfl)))) (List.mem_cons_of_mem _ (List.mem_append_left _ (List.mem_append_left _ (List.mem_of_getElem? (i := 5) rfl)))) (by decide +kernel)) gg_x_joined_stringOf__51
set_option maxHeartbeats 40000000 in
set_option maxRecDepth 100000 in
theorem c_x_joined (l : Launch) (dC : Nat → ClassId) (dI : Nat → Nat → Nat) (cy : Nat → ClassId) (a : Nat → Nat) (k0 : Nat) (L0 : Nat → Int32) (σ0 : MS) (r0 : Int32 × MS) (h0 : x_joined k0 0 L0 σ0 = some r0) (sz : Nat) : Met l yX12_joined w_x_joined ({ frames := 3, cells := 0, slots := 0, locals := 69 }) (va_Pc [.ref (a 0), .int (L0 1), .int (L0 2)] (nIn (dC, dI) cy sz (vM cy a σ0))) (va_Qi (fun (z : Int32) (_ : Unit) => z = r0.1) (fun _ t => nOut (dC, dI) cy (va_A (vM cy a σ0) sz) (vM cy a r0.2) t) (va_A (vM cy a σ0) sz)) 0 0 (va_A (vM cy a σ0) sz) := by
  refine Met.ofW (cc := cX12_joined) (maxL := 6) (ret := (some .int)) (by decide) rfl ?_
  intro p e s m args below meth c s₁ B hml hv
  obtain ⟨rfl, hsz, hP, hK, hD0, hG⟩ := hv
  have hx := B.exec
  have hb := B.bytes
  have hr := B.returns
  have hts := atoms_spec (ws := w_x_joined) B.pre
  have hown : s.vm.findClass RX12 = some m.cls := findClass_of_methodNamed B.named
  have hlocks := B.notSynchronized
  subst hsz
  have hD := hD0.self (sz := s.heap.size)
  generalize hAe : va_A (vM cy a σ0) s.heap.size = A at hD ⊢
  have hA : ∀ q : Nat, s.heap.size ≤ q → A q := fun q h => by rw [← hAe]; exact Or.inr h
  have hS : va_S A s.heap s.heap [] := va_S.rf
  have hl := lv_entry ([.ref (a 0), .int (L0 1), .int (L0 2)]) (n := 6) (Nat.le_of_ble_eq_true rfl)
  rw [lg_entry_eq]
  generalize (lg_sl ([.ref (a 0), .int (L0 1), .int (L0 2)]) ++ List.replicate (6 - (lg_sl ([.ref (a 0), .int (L0 1), .int (L0 2)])).length) Slot.unset).toArray = ls at hl ⊢
  have hl : lv_has ls 6 [(0, .ref (a 0)), (1, .int (L0 1)), (2, .int (L0 2))] := hl
  have blk : ∀ k : Nat, (bT p l e (headSpec w_x_joined ({ frames := 3, cells := 0, slots := 0, locals := 69 })).room s m #[.ref (a 0), .int (L0 1), .int (L0 2)] below meth c dC dI cy a A (qI dC dI cy a A below #[.ref (a 0), .int (L0 1), .int (L0 2)] s) 6 (x_joined k 0) (fun L => [(0, .ref (a 0)), (1, .int (L 1)), (2, .int (L 2))]) 0 (fun L => [])) ∧ (bT p l e (headSpec w_x_joined ({ frames := 3, cells := 0, slots := 0, locals := 69 })).room s m #[.ref (a 0), .int (L0 1), .int (L0 2)] below meth c dC dI cy a A (qI dC dI cy a A below #[.ref (a 0), .int (L0 1), .int (L0 2)] s) 6 (x_joined k 1) (fun L => [(0, .ref (a 0)), (1, .int (L 1)), (2, .int (L 2)), (3, .int (L 3)), (4, .int (L 4)), (5, .int (L 5))]) 22 (fun L => [])) ∧ (bT p l e (headSpec w_x_joined ({ frames := 3, cells := 0, slots := 0, locals := 69 })).room s m #[.ref (a 0), .int (L0 1), .int (L0 2)] below meth c dC dI cy a A (qI dC dI cy a A below #[.ref (a 0), .int (L0 1), .int (L0 2)] s) 6 (x_joined k 2) (fun L => [(0, .ref (a 0)), (1, .int (L 1)), (2, .int (L 2)), (3, .int (L 3)), (4, .int (L 4)), (5, .int (L 5))]) 46 (fun L => [])) ∧ (bT p l e (headSpec w_x_joined ({ frames := 3, cells := 0, slots := 0, locals := 69 })).room s m #[.ref (a 0), .int (L0 1), .int (L0 2)] below meth c dC dI cy a A (qI dC dI cy a A below #[.ref (a 0), .int (L0 1), .int (L0 2)] s) 6 (x_joined k 3) (fun L => [(0, .ref (a 0)), (1, .int (L 1)), (2, .int (L 2)), (3, .int (L 3)), (4, .int (L 4)), (5, .int (L 5))]) 52 (fun L => [])) ∧ (bT p l e (headSpec w_x_joined ({ frames := 3, cells := 0, slots := 0, locals := 69 })).room s m #[.ref (a 0), .int (L0 1), .int (L0 2)] below meth c dC dI cy a A (qI dC dI cy a A below #[.ref (a 0), .int (L0 1), .int (L0 2)] s) 6 (x_joined k 4) (fun L => [(0, .ref (a 0)), (1, .int (L 1)), (2, .int (L 2)), (3, .int (L 3)), (4, .int (L 4)), (5, .int (L 5))]) 55 (fun L => [])) ∧ (bT p l e (headSpec w_x_joined ({ frames := 3, cells := 0, slots := 0, locals := 69 })).room s m #[.ref (a 0), .int (L0 1), .int (L0 2)] below meth c dC dI cy a A (qI dC dI cy a A below #[.ref (a 0), .int (L0 1), .int (L0 2)] s) 6 (x_joined k 5) (fun L => [(0, .ref (a 0)), (1, .int (L 1)), (2, .int (L 2)), (3, .int (L 3)), (4, .int (L 4)), (5, .int (L 5))]) 82 (fun L => [])) ∧ (bT p l e (headSpec w_x_joined ({ frames := 3, cells := 0, slots := 0, locals := 69 })).room s m #[.ref (a 0), .int (L0 1), .int (L0 2)] below meth c dC dI cy a A (qI dC dI cy a A below #[.ref (a 0), .int (L0 1), .int (L0 2)] s) 6 (x_joined k 6) (fun L => [(0, .ref (a 0)), (1, .int (L 1)), (2, .int (L 2)), (3, .int (L 3)), (4, .int (L 4)), (5, .int (L 5))]) 88 (fun L => [])) := by
    intro k
    induction k with
    | zero => exact ⟨fun L σ r h => (by cases h), fun L σ r h => (by cases h), fun L σ r h => (by cases h), fun L σ r h => (by cases h), fun L σ r h => (by cases h), fun L σ r h => (by cases h), fun L σ r h => (by cases h)⟩
    | succ k ih =>
      refine ⟨?_, ?_, ?_, ?_, ?_, ?_, ?_⟩
      · intro L σ r h H locs ls hP hD hS hl
        rw [x_joined] at h
        refine lv_aload_n hx hb dX12_joined_0 rfl (lv_at hl 0 rfl) ?_
        refine ng_53 hx hb hts in_x_joined hown hK hP (hts _ (List.mem_cons_of_mem _ (List.mem_append_left _ (List.mem_append_left _ (List.mem_of_getElem? (i := 0) rfl))))) dX12_joined_1 ?_
        refine lv_iload_n hx hb dX12_joined_4 rfl (lv_at hl 1 rfl) ?_
        refine lv_iconst (v := 1) hx hb dX12_joined_5 (by decide) ?_
        refine lv_iadd hx hb dX12_joined_6 ?_
        obtain ⟨q1, h⟩ := nb_ite1 h
        refine nl_28 hx hb hK hP q1 dX12_joined_7 ?_
        refine lv_istore_n (lv' := [(3, .int (σ.2.2 28 ((((L 1)) + 1)).toNatClampNeg)), (0, .ref (a 0)), (1, .int (L 1)), (2, .int (L 2))]) hx hb dX12_joined_8 rfl hl (by decide) rfl (fun ls hl => ?_)
        refine lv_aload_n hx hb dX12_joined_9 rfl (lv_at hl 1 rfl) ?_
        refine ng_53 hx hb hts in_x_joined hown hK hP (hts _ (List.mem_cons_of_mem _ (List.mem_append_left _ (List.mem_append_left _ (List.mem_of_getElem? (i := 0) rfl))))) dX12_joined_10 ?_
        refine lv_iload_n hx hb dX12_joined_13 rfl (lv_at hl 3 rfl) ?_
        refine lv_iconst (v := 1) hx hb dX12_joined_14 (by decide) ?_
        refine lv_iadd hx hb dX12_joined_15 ?_
        obtain ⟨q2, h⟩ := nb_ite1 h
        refine nl_28 hx hb hK hP q2 dX12_joined_16 ?_
        refine lv_istore (lv' := [(4, .int (σ.2.2 28 ((((L 2)) + 1)).toNatClampNeg)), (3, .int (σ.2.2 28 ((((L 1)) + 1)).toNatClampNeg)), (0, .ref (a 0)), (1, .int (L 1)), (2, .int (L 2))]) hx hb dX12_joined_17 hl (by decide) rfl (fun ls hl => ?_)
        refine lv_iconst (v := 0) hx hb dX12_joined_19 (by decide) ?_
        refine lv_istore (lv' := [(5, .int 0), (4, .int (σ.2.2 28 ((((L 2)) + 1)).toNatClampNeg)), (3, .int (σ.2.2 28 ((((L 1)) + 1)).toNatClampNeg)), (0, .ref (a 0)), (1, .int (L 1)), (2, .int (L 2))]) hx hb dX12_joined_20 hl (by decide) rfl (fun ls hl => ?_)
        exact ih.2.1 (upd (upd (upd L 3 ((σ.2.2 28 ((((L 1)) + 1)).toNatClampNeg))) 4 ((σ.2.2 28 ((((L 2)) + 1)).toNatClampNeg))) 5 0) σ r h H locs ls hP hD hS (lv_sub hl [3, 4, 5, 2, 1, 0] rfl)
      · intro L σ r h H locs ls hP hD hS hl
        rw [x_joined] at h
        refine lv_iload hx hb dX12_joined_22 (lv_at hl 5 rfl) ?_
        refine lv_iload_n hx hb dX12_joined_24 rfl (lv_at hl 3 rfl) ?_
        refine lv_icmp_ge (tgt := 52) hx hb dX12_joined_25 (by decide) (fun c1 => ?_) (fun c1 => ?_)
        · rw [if_pos c1] at h
          exact ih.2.2.2.1 L σ r h H locs ls hP hD hS (lv_sub hl [0, 1, 2, 3, 4, 5] rfl)
        · rw [if_neg c1] at h
          refine lv_aload_n hx hb dX12_joined_28 rfl (lv_at hl 0 rfl) ?_
          refine ng_99 hx hb hts in_x_joined hown hK hP (hts _ (List.mem_cons_of_mem _ (List.mem_append_left _ (List.mem_append_left _ (List.mem_of_getElem? (i := 1) rfl))))) dX12_joined_29 ?_
          refine lv_iload hx hb dX12_joined_32 (lv_at hl 5 rfl) ?_
          refine lv_aload_n hx hb dX12_joined_34 rfl (lv_at hl 0 rfl) ?_
          refine ng_53 hx hb hts in_x_joined hown hK hP (hts _ (List.mem_cons_of_mem _ (List.mem_append_left _ (List.mem_append_left _ (List.mem_of_getElem? (i := 0) rfl))))) dX12_joined_35 ?_
          refine lv_iload_n hx hb dX12_joined_38 rfl (lv_at hl 1 rfl) ?_
          refine lv_iconst (v := 4) hx hb dX12_joined_39 (by decide) ?_
          refine lv_iadd hx hb dX12_joined_40 ?_
          refine lv_iload hx hb dX12_joined_41 (lv_at hl 5 rfl) ?_
          refine lv_iadd hx hb dX12_joined_43 ?_
          obtain ⟨q2, h⟩ := nb_ite1 h
          refine nl_28 hx hb hK hP q2 dX12_joined_44 ?_
          obtain ⟨q3, h⟩ := nb_ite1 h
          refine ns_51 hx hb hK hP hD hS q3 dX12_joined_45 (fun H locs hP hD hS => ?_)
          exact ih.2.2.1 L (σ.1, σ.2.1, updG σ.2.2 51 (upd (σ.2.2 51) ((L 5)).toNatClampNeg ((σ.2.2 28 ((((((L 1)) + 4)) + ((L 5)))).toNatClampNeg)))) r h H locs ls hP hD hS (lv_sub hl [0, 1, 2, 3, 4, 5] rfl)
      · intro L σ r h H locs ls hP hD hS hl
        rw [x_joined] at h
        refine lv_iinc (v := ((L 5)) + 1) (lv' := [(5, .int (((L 5)) + 1)), (0, .ref (a 0)), (1, .int (L 1)), (2, .int (L 2)), (3, .int (L 3)), (4, .int (L 4))]) hx hb dX12_joined_46 hl (k := 5) rfl rfl (by decide) rfl (fun ls hl => ?_)
        refine lv_goto (tgt := 22) hx hb dX12_joined_49 (by decide) ?_
        exact ih.2.1 (upd L 5 (((L 5)) + 1)) σ r h H locs ls hP hD hS (lv_sub hl [1, 2, 3, 4, 5, 0] rfl)
      · intro L σ r h H locs ls hP hD hS hl
        rw [x_joined] at h
        refine lv_iconst (v := 0) hx hb dX12_joined_52 (by decide) ?_
        refine lv_istore (lv' := [(5, .int 0), (0, .ref (a 0)), (1, .int (L 1)), (2, .int (L 2)), (3, .int (L 3)), (4, .int (L 4))]) hx hb dX12_joined_53 hl (by decide) rfl (fun ls hl => ?_)
        exact ih.2.2.2.2.1 (upd L 5 0) σ r h H locs ls hP hD hS (lv_sub hl [1, 2, 3, 4, 5, 0] rfl)
      · intro L σ r h H locs ls hP hD hS hl
        rw [x_joined] at h
        refine lv_iload hx hb dX12_joined_55 (lv_at hl 5 rfl) ?_
        refine lv_iload hx hb dX12_joined_57 (lv_at hl 4 rfl) ?_
        refine lv_icmp_ge (tgt := 88) hx hb dX12_joined_59 (by decide) (fun c1 => ?_) (fun c1 => ?_)
        · rw [if_pos c1] at h
          exact ih.2.2.2.2.2.2 L σ r h H locs ls hP hD hS (lv_sub hl [0, 1, 2, 3, 4, 5] rfl)
        · rw [if_neg c1] at h
          refine lv_aload_n hx hb dX12_joined_62 rfl (lv_at hl 0 rfl) ?_
          refine ng_99 hx hb hts in_x_joined hown hK hP (hts _ (List.mem_cons_of_mem _ (List.mem_append_left _ (List.mem_append_left _ (List.mem_of_getElem? (i := 1) rfl))))) dX12_joined_63 ?_
          refine lv_iload_n hx hb dX12_joined_66 rfl (lv_at hl 3 rfl) ?_
          refine lv_iload hx hb dX12_joined_67 (lv_at hl 5 rfl) ?_
          refine lv_iadd hx hb dX12_joined_69 ?_
          refine lv_aload_n hx hb dX12_joined_70 rfl (lv_at hl 0 rfl) ?_
          refine ng_53 hx hb hts in_x_joined hown hK hP (hts _ (List.mem_cons_of_mem _ (List.mem_append_left _ (List.mem_append_left _ (List.mem_of_getElem? (i := 0) rfl))))) dX12_joined_71 ?_
          refine lv_iload_n hx hb dX12_joined_74 rfl (lv_at hl 2 rfl) ?_
          refine lv_iconst (v := 4) hx hb dX12_joined_75 (by decide) ?_
          refine lv_iadd hx hb dX12_joined_76 ?_
          refine lv_iload hx hb dX12_joined_77 (lv_at hl 5 rfl) ?_
          refine lv_iadd hx hb dX12_joined_79 ?_
          obtain ⟨q2, h⟩ := nb_ite1 h
          refine nl_28 hx hb hK hP q2 dX12_joined_80 ?_
          obtain ⟨q3, h⟩ := nb_ite1 h
          refine ns_51 hx hb hK hP hD hS q3 dX12_joined_81 (fun H locs hP hD hS => ?_)
          exact ih.2.2.2.2.2.1 L (σ.1, σ.2.1, updG σ.2.2 51 (upd (σ.2.2 51) ((((L 3)) + ((L 5)))).toNatClampNeg ((σ.2.2 28 ((((((L 2)) + 4)) + ((L 5)))).toNatClampNeg)))) r h H locs ls hP hD hS (lv_sub hl [0, 1, 2, 3, 4, 5] rfl)
      · intro L σ r h H locs ls hP hD hS hl
        rw [x_joined] at h
        refine lv_iinc (v := ((L 5)) + 1) (lv' := [(5, .int (((L 5)) + 1)), (0, .ref (a 0)), (1, .int (L 1)), (2, .int (L 2)), (3, .int (L 3)), (4, .int (L 4))]) hx hb dX12_joined_82 hl (k := 5) rfl rfl (by decide) rfl (fun ls hl => ?_)
        refine lv_goto (tgt := 55) hx hb dX12_joined_85 (by decide) ?_
        exact ih.2.2.2.2.1 (upd L 5 (((L 5)) + 1)) σ r h H locs ls hP hD hS (lv_sub hl [1, 2, 3, 4, 5, 0] rfl)
      · intro L σ r h H locs ls hP hD hS hl
        rw [x_joined] at h
        refine lv_aload_n hx hb dX12_joined_88 rfl (lv_at hl 0 rfl) ?_
        refine lv_aload_n hx hb dX12_joined_89 rfl (lv_at hl 0 rfl) ?_
        refine ng_99 hx hb hts in_x_joined hown hK hP (hts _ (List.mem_cons_of_mem _ (List.mem_append_left _ (List.mem_append_left _ (List.mem_of_getElem? (i := 1) rfl))))) dX12_joined_90 ?_
        refine lv_iconst (v := 0) hx hb dX12_joined_93 (by decide) ?_
        refine lv_iload_n hx hb dX12_joined_94 rfl (lv_at hl 3 rfl) ?_
        refine lv_iload hx hb dX12_joined_95 (lv_at hl 4 rfl) ?_
        refine lv_iadd hx hb dX12_joined_97 ?_
        obtain ⟨r1, hc1, h⟩ := ob_ex h
        refine nc_Vi (As := [.ref (a 51), .int 0, .int (((L 3)) + ((L 4)))]) (rest := []) ⟨hx, hb, hml, hown, hts⟩ (c_x_stringOf__51 l dC dI cy a k (upd (upd (fun _ => 0) 2 0) 3 ((((L 3)) + ((L 4))))) σ r1 hc1 H.size) (cwV 3 hts g_x_joined_stringOf__51_597 rfl rfl rfl hd_x_stringOf__51 ⟨Nat.le_of_ble_eq_true rfl, Nat.le_of_ble_eq_true rfl⟩) hK hG hA hP hD hS rfl hl.1 rfl (Nat.le_of_ble_eq_true rfl) dX12_joined_98 ⟨Nat.le_refl _, Nat.le_refl _⟩ (fun H locs hP hD hS => ?_)
        cases h
        exact W.iret (v := r1.1) hx hb hr (fun t ht hW => ⟨⟨r1.1, (), rfl, rfl, by rw [ht]; exact hP, va_K.moved hW.alike hK, hD⟩, hS.F ht⟩) hS.2.2 dX12_joined_101
  exact (blk k0).1 L0 σ0 r0 h0 s.heap [] ls hP hD hS hl
/-! plus -/
def x_plus : Nat → Nat → (Nat → Int32) → MS → Option (Int32 × MS)
  | 0, _, _, _ => none
  | k + 1, 0, L, σ => ob (x_kind k 0 (upd (fun _ => 0) 1 ((L 1))) σ) (fun r1 => ob (x_kind k 0 (upd (fun _ => 0) 1 ((L 2))) r1.2) (fun r2 => if r1.1 = r2.1 then (if r1.1 = 2 then (x_plus k 2 (upd L 3 r1.1) r2.2) else (if 4 ≤ r1.1 then (x_plus k 2 (upd L 3 r1.1) r2.2) else (x_plus k 1 (upd L 3 r1.1) r2.2))) else (x_plus k 1 (upd L 3 r1.1) r2.2)))
  | k + 1, 1, L, σ => ob (x_wrongKind k 0 (fun _ => 0) σ) (fun r1 => some (r1.1, r1.2))
  | k + 1, 2, L, σ => if ((L 3)) = 2 then (ob (x_add k 0 (upd (upd (upd (fun _ => 0) 1 ((L 1))) 2 ((L 2))) 3 1) σ) (fun r2 => some (r2.1, r2.2))) else (x_plus k 3 L σ)
  | k + 1, 3, L, σ => if ((L 3)) = 4 then (ob (x_joined k 0 (upd (upd (fun _ => 0) 1 ((L 1))) 2 ((L 2))) σ) (fun r2 => some (r2.1, r2.2))) else (x_plus k 4 L σ)
  | k + 1, 4, L, σ => x_plus k 5 (upd (upd L 4 ((σ.1 59))) 5 0) σ
  | k + 1, 5, L, σ => if ¬ (((((L 1)) + 1)) < 0 ∨ 1740000 ≤ ((((L 1)) + 1)).toNatClampNeg) then (if ((σ.2.2 28 ((((L 1)) + 1)).toNatClampNeg)) ≤ ((L 5)) then (x_plus k 6 L σ) else (if ¬ (((((((L 1)) + 4)) + ((L 5)))) < 0 ∨ 1740000 ≤ ((((((L 1)) + 4)) + ((L 5)))).toNatClampNeg) then (ob (x_push k 0 (upd (fun _ => 0) 1 ((σ.2.2 28 ((((((L 1)) + 4)) + ((L 5)))).toNatClampNeg))) σ) (fun r4 => x_plus k 5 (upd L 5 (((L 5)) + 1)) r4.2)) else none)) else none
  | k + 1, 6, L, σ => x_plus k 7 (upd L 5 0) σ
  | k + 1, 7, L, σ => if ¬ (((((L 2)) + 1)) < 0 ∨ 1740000 ≤ ((((L 2)) + 1)).toNatClampNeg) then (if ((σ.2.2 28 ((((L 2)) + 1)).toNatClampNeg)) ≤ ((L 5)) then (x_plus k 8 L σ) else (if ¬ (((((((L 2)) + 4)) + ((L 5)))) < 0 ∨ 1740000 ≤ ((((((L 2)) + 4)) + ((L 5)))).toNatClampNeg) then (ob (x_push k 0 (upd (fun _ => 0) 1 ((σ.2.2 28 ((((((L 2)) + 4)) + ((L 5)))).toNatClampNeg))) σ) (fun r4 => x_plus k 7 (upd L 5 (((L 5)) + 1)) r4.2)) else none)) else none
  | k + 1, 8, L, σ => if ((L 3)) = 6 then (ob (x_setOf k 0 (upd (fun _ => 0) 1 ((L 4))) σ) (fun r2 => x_plus k 10 (upd L 100 r2.1) r2.2)) else (x_plus k 9 L σ)
  | k + 1, 9, L, σ => ob (x_tupleOf k 0 (upd (fun _ => 0) 1 ((L 4))) σ) (fun r1 => x_plus k 10 (upd L 100 r1.1) r1.2)
  | k + 1, 10, L, σ => some ((L 100), σ)
  | _ + 1, _ + 11, _, _ => none
def o_x_plus : List Cond := [.methodLink RX12 545 yX12_kind, .instanceMethod yX12_kind, .selects RX12 yX12_kind yX12_kind, .initialized RX12, .methodLink RX12 666 yX12_wrongKind, .instanceMethod yX12_wrongKind, .selects RX12 yX12_wrongKind yX12_wrongKind, .methodLink RX12 728 yX12_add, .instanceMethod yX12_add, .selects RX12 yX12_add yX12_add, .methodLink RX12 753 yX12_joined, .instanceMethod yX12_joined, .selects RX12 yX12_joined yX12_joined, .fieldLink RX12 385 "SetHouseModel" "top" "I", .fieldLink RX12 372 "SetHouseModel" "heap" "[I", .methodLink RX12 594 yX12_push, .instanceMethod yX12_push, .selects RX12 yX12_push yX12_push, .methodLink RX12 678 yX12_setOf, .instanceMethod yX12_setOf, .selects RX12 yX12_setOf yX12_setOf, .methodLink RX12 675 yX12_tupleOf, .instanceMethod yX12_tupleOf, .selects RX12 yX12_tupleOf yX12_tupleOf]
theorem o_x_plus_good : o_x_plus.all goodWord = true := by decide +kernel
def p_x_plus : List Cond := o_x_plus ++ ((.code yX12_kind cX12_kind 2 (some .int) :: p_x_kind) ++ ((.code yX12_wrongKind cX12_wrongKind 1 (some .int) :: p_x_wrongKind) ++ ((.code yX12_add cX12_add 12 (some .int) :: p_x_add) ++ ((.code yX12_joined cX12_joined 6 (some .int) :: p_x_joined) ++ ((.code yX12_push cX12_push 2 none :: p_x_push) ++ ((.code yX12_setOf cX12_setOf 5 (some .int) :: p_x_setOf) ++ ((.code yX12_tupleOf cX12_tupleOf 5 (some .int) :: p_x_tupleOf) ++ [])))))))
theorem p_x_plus_good : p_x_plus.all goodWord = true := nb_all2 o_x_plus_good (nb_all2 (nb_allc (by decide +kernel) p_x_kind_good) (nb_all2 (nb_allc (by decide +kernel) p_x_wrongKind_good) (nb_all2 (nb_allc (by decide +kernel) p_x_add_good) (nb_all2 (nb_allc (by decide +kernel) p_x_joined_good) (nb_all2 (nb_allc (by decide +kernel) p_x_push_good) (nb_all2 (nb_allc (by decide +kernel) p_x_setOf_good) (nb_all2 (nb_allc (by decide +kernel) p_x_tupleOf_good) rfl)))))))
def w_x_plus : List Cond := .code yX12_plus cX12_plus 6 (some .int) :: (p_x_plus ++ fM)
theorem w_x_plus_good : w_x_plus.all goodWord = true := nb_allc (by decide +kernel) (nb_all2 p_x_plus_good fM_good)
theorem in_x_plus : ∀ w ∈ wsX120, w ∈ w_x_plus := fun _ h => List.mem_cons_of_mem _ (List.mem_append_right _ h)
theorem hd_x_plus : yX12_plus.cls = RX12 ∧ yX12_plus.cls ≠ "java/lang/invoke/MethodHandle" ∧ yX12_plus.cls ≠ "java/lang/invoke/VarHandle" ∧ (parseMethodDescriptor yX12_plus.desc).map (fun d => d.parameters.length) = some 2 := by decide +kernel
theorem gg_x_plus_add : GoodIn w_x_plus w_x_add := goodIn_sub (fun w h => (List.mem_cons.mp h).elim (fun e => (List.mem_cons_of_mem _ (List.mem_append_left _ (List.mem_append_right _ (List.mem_append_right _ (List.mem_append_right _ (List.mem_append_left _ (List.mem_cons.mpr (Or.inl e))))))))) (fun h => (List.mem_append.mp h).elim (fun h => (List.mem_cons_of_mem _ (List.mem_append_left _ (List.mem_append_right _ (List.mem_append_right _ (List.mem_append_right _ (List.mem_append_left _ (List.mem_cons_of_mem _ h)))))))) (fun h => List.mem_cons_of_mem _ (List.mem_append_right _ h)))) w_x_add_good
theorem g_x_plus_add_728 : GoodIn w_x_plus (wsV RX12 728 RX12 yX12_add w_x_add) := goodIn_app (nb_g4 (List.mem_cons_of_mem _ (List.mem_append_left _ (List.mem_append_left _ (List.mem_of_getElem? (i := 7) rfl)))) (List.mem_cons_of_mem _ (List.mem_append_left _ (List.mem_append_left _ (List.mem_of_getElem? (i := 8) rfl)))) (List.mem_cons_of_mem _ (List.mem_append_left _ (List.mem_append_left _ (List.mem_of_getElem? (i := 9) rfl)))) (List.mem_cons_of_mem _ (List.mem_append_left _ (List.mem_append_left _ (List.mem_of_getElem? (i := 3) rfl)))) (by decide +kernel)) gg_x_plus_add
theorem gg_x_plus_joined : GoodIn w_x_plus w_x_joined := goodIn_sub (fun w h => (List.mem_cons.mp h).elim (fun e => (List.mem_cons_of_mem _ (List.mem_append_left _ (List.mem_append_right _ (List.mem_append_right _ (List.mem_append_right _ (List.mem_append_right _ (List.mem_append_left _ (List.mem_cons.mpr (Or.inl e)))))))))) (fun h => (List.mem_append.mp h).elim (fun h => (List.mem_cons_of_mem _ (List.mem_append_left _ (List.mem_append_right _ (List.mem_append_right _ (List.mem_append_right _ (List.mem_append_right _ (List.mem_append_left _ (List.mem_cons_of_mem _ h))))))))) (fun h => List.mem_cons_of_mem _ (List.mem_append_right _ h)))) w_x_joined_good
theorem g_x_plus_joined_753 : GoodIn w_x_plus (wsV RX12 753 RX12 yX12_joined w_x_joined) := goodIn_app (nb_g4 (List.mem_cons_of_mem _ (List.mem_append_left _ (List.mem_append_left _ (List.mem_of_getElem? (i := 10) rfl)))) (List.mem_cons_of_mem _ (List.mem_append_left _ (List.mem_append_left _ (List.mem_of_getElem? (i := 11) rfl)))) (List.mem_cons_of_mem _ (List.mem_append_left _ (List.mem_append_left _ (List.mem_of_getElem? (i := 12) rfl)))) (List.mem_cons_of_mem _ (List.mem_append_left _ (List.mem_append_left _ (List.mem_of_getElem? (i := 3) rfl)))) (by decide +kernel)) gg_x_plus_joined
theorem gg_x_plus_kind : GoodIn w_x_plus w_x_kind := goodIn_sub (fun w h => (List.mem_cons.mp h).elim (fun e => (List.mem_cons_of_mem _ (List.mem_append_left _ (List.mem_append_right _ (List.mem_append_left _ (List.mem_cons.mpr (Or.inl e))))))) (fun h => (List.mem_append.mp h).elim (fun h => (List.mem_cons_of_mem _ (List.mem_append_left _ (List.mem_append_right _ (List.mem_append_left _ (List.mem_cons_of_mem _ h)))))) (fun h => List.mem_cons_of_mem _ (List.mem_append_right _ h)))) w_x_kind_good
theorem g_x_plus_kind_545 : GoodIn w_x_plus (wsV RX12 545 RX12 yX12_kind w_x_kind) := goodIn_app (nb_g4 (List.mem_cons_of_mem _ (List.mem_append_left _ (List.mem_append_left _ (List.mem_of_getElem? (i := 0) rfl)))) (List.mem_cons_of_mem _ (List.mem_append_left _ (List.mem_append_left _ (List.mem_of_getElem? (i := 1) rfl)))) (List.mem_cons_of_mem _ (List.mem_append_left _ (List.mem_append_left _ (List.mem_of_getElem? (i := 2) rfl)))) (List.mem_cons_of_mem _ (List.mem_append_left _ (List.mem_append_left _ (List.mem_of_getElem? (i := 3) rfl)))) (by decide +kernel)) gg_x_plus_kind
theorem gg_x_plus_push : GoodIn w_x_plus w_x_push := goodIn_sub (fun w h => (List.mem_cons.mp h).elim (fun e => (List.mem_cons_of_mem _ (List.mem_append_left _ (List.mem_append_right _ (List.mem_append_right _ (List.mem_append_right _ (List.mem_append_right _ (List.mem_append_right _ (List.mem_append_left _ (List.mem_cons.mpr (Or.inl e))))))))))) (fun h => (List.mem_append.mp h).elim (fun h => (List.mem_cons_of_mem _ (List.mem_append_left _ (List.mem_append_right _ (List.mem_append_right _ (List.mem_append_right _ (List.mem_append_right _ (List.mem_append_right _ (List.mem_append_left _ (List.mem_cons_of_mem _ h)))))))))) (fun h => List.mem_cons_of_mem _ (List.mem_append_right _ h)))) w_x_push_good
theorem g_x_plus_push_594 : GoodIn w_x_plus (wsV RX12 594 RX12 yX12_push w_x_push) := goodIn_app (nb_g4 (List.mem_cons_of_mem _ (List.mem_append_left _ (List.mem_append_left _ (List.mem_of_getElem? (i := 15) rfl)))) (List.mem_cons_of_mem _ (List.mem_append_left _ (List.mem_append_left _ (List.mem_of_getElem? (i := 16) rfl)))) (List.mem_cons_of_mem _ (List.mem_append_left _ (List.mem_append_left _ (List.mem_of_getElem? (i := 17) rfl)))) (List.mem_cons_of_mem _ (List.mem_append_left _ (List.mem_append_left _ (List.mem_of_getElem? (i := 3) rfl)))) (by decide +kernel)) gg_x_plus_push
theorem gg_x_plus_setOf : GoodIn w_x_plus w_x_setOf := goodIn_sub (fun w h => (List.mem_cons.mp h).elim (fun e => (List.mem_cons_of_mem _ (List.mem_append_left _ (List.mem_append_right _ (List.mem_append_right _ (List.mem_append_right _ (List.mem_append_right _ (List.mem_append_right _ (List.mem_append_right _ (List.mem_append_left _ (List.mem_cons.mpr (Or.inl e)))))))))))) (fun h => (List.mem_append.mp h).elim (fun h => (List.mem_cons_of_mem _ (List.mem_append_left _ (List.mem_append_right _ (List.mem_append_right _ (List.mem_append_right _ (List.mem_append_right _ (List.mem_append_right _ (List.mem_append_right _ (List.mem_append_left _ (List.mem_cons_of_mem _ h))))))))))) (fun h => List.mem_cons_of_mem _ (List.mem_append_right _ h)))) w_x_setOf_good
theorem g_x_plus_setOf_678 : GoodIn w_x_plus (wsV RX12 678 RX12 yX12_setOf w_x_setOf) := goodIn_app (nb_g4 (List.mem_cons_of_mem _ (List.mem_append_left _ (List.mem_append_left _ (List.mem_of_getElem? (i := 18) rfl)))) (List.mem_cons_of_mem _ (List.mem_append_left _ (List.mem_append_left _ (List.mem_of_getElem? (i := 19) rfl)))) (List.mem_cons_of_mem _ (List.mem_append_left _ (List.mem_append_left _ (List.mem_of_getElem? (i := 20) rfl)))) (List.mem_cons_of_mem _ (List.mem_append_left _ (List.mem_append_left _ (List.mem_of_getElem? (i := 3) rfl)))) (by decide +kernel)) gg_x_plus_setOf
theorem gg_x_plus_tupleOf : GoodIn w_x_plus w_x_tupleOf := goodIn_sub (fun w h => (List.mem_cons.mp h).elim (fun e => (List.mem_cons_of_mem _ (List.mem_append_left _ (List.mem_append_right _ (List.mem_append_right _ (List.mem_append_right _ (List.mem_append_right _ (List.mem_append_right _ (List.mem_append_right _ (List.mem_append_right _ (List.mem_append_left _ (List.mem_cons.mpr (Or.inl e))))))))))))) (fun h => (List.mem_append.mp h).elim (fun h => (List.mem_cons_of_mem _ (List.mem_append_left _ (List.mem_append_right _ (List.mem_append_right _ (List.mem_append_right _ (List.mem_append_right _ (List.mem_append_right _ (List.mem_append_right _ (List.mem_append_right _ (List.mem_append_left _ (List.mem_cons_of_mem _ h)))))))))))) (fun h => List.mem_cons_of_mem _ (List.mem_append_right _ h)))) w_x_tupleOf_good
theorem g_x_plus_tupleOf_675 : GoodIn w_x_plus (wsV RX12 675 RX12 yX12_tupleOf w_x_tupleOf) := goodIn_app (nb_g4 (List.mem_cons_of_mem _ (List.mem_append_left _ (List.mem_append_left _ (List.mem_of_getElem? (i := 21) rfl)))) (List.mem_cons_of_mem _ (List.mem_append_left _ (List.mem_append_left _ (List.mem_of_getElem? (i := 22) rfl)))) (List.mem_cons_of_mem _ (List.mem_append_left _ (List.mem_append_left _ (List.mem_of_getElem? (i := 23) rfl)))) (List.mem_cons_of_mem _ (List.mem_append_left _ (List.mem_append_left _ (List.mem_of_getElem? (i := 3) rfl)))) (by decide +kernel)) gg_x_plus_tupleOf
theorem gg_x_plus_wrongKind : GoodIn w_x_plus w_x_wrongKind := goodIn_sub (fun w h => (List.mem_cons.mp h).elim (fun e => (List.mem_cons_of_mem _ (List.mem_append_left _ (List.mem_append_right _ (List.mem_append_right _ (List.mem_append_left _ (List.mem_cons.mpr (Or.inl e)))))))) (fun h => (List.mem_append.mp h).elim (fun h => (List.mem_cons_of_mem _ (List.mem_append_left _ (List.mem_append_right _ (List.mem_append_right _ (List.mem_append_left _ (List.mem_cons_of_mem _ h))))))) (fun h => List.mem_cons_of_mem _ (List.mem_append_right _ h)))) w_x_wrongKind_good
theorem g_x_plus_wrongKind_666 : GoodIn w_x_plus (wsV RX12 666 RX12 yX12_wrongKind w_x_wrongKind) := goodIn_app (nb_g4 (List.mem_cons_of_mem _ (List.mem_append_left _ (List.mem_append_left _ (List.mem_of_getElem? (i := 4) rfl)))) (List.mem_cons_of_mem _ (List.mem_append_left _ (List.mem_append_left _ (List.mem_of_getElem? (i := 5) rfl)))) (List.mem_cons_of_mem _ (List.mem_append_left _ (List.mem_append_left _ (List.mem_of_getElem? (i := 6) rfl)))) (List.mem_cons_of_mem _ (List.mem_append_left _ (List.mem_append_left _ (List.mem_of_getElem? (i := 3) rfl)))) (by decide +kernel)) gg_x_plus_wrongKind
set_option maxHeartbeats 40000000 in
set_option maxRecDepth 100000 in
theorem c_x_plus (l : Launch) (dC : Nat → ClassId) (dI : Nat → Nat → Nat) (cy : Nat → ClassId) (a : Nat → Nat) (k0 : Nat) (L0 : Nat → Int32) (σ0 : MS) (r0 : Int32 × MS) (h0 : x_plus k0 0 L0 σ0 = some r0) (sz : Nat) : Met l yX12_plus w_x_plus ({ frames := 46, cells := 0, slots := 0, locals := 1271 }) (va_Pc [.ref (a 0), .int (L0 1), .int (L0 2)] (nIn (dC, dI) cy sz (vM cy a σ0))) (va_Qi (fun (z : Int32) (_ : Unit) => z = r0.1) (fun _ t => nOut (dC, dI) cy (va_A (vM cy a σ0) sz) (vM cy a r0.2) t) (va_A (vM cy a σ0) sz)) 0 0 (va_A (vM cy a σ0) sz) := by
  refine Met.ofW (cc := cX12_plus) (maxL := 6) (ret := (some .int)) (by decide) rfl ?_
  intro p e s m args below meth c s₁ B hml hv
  obtain ⟨rfl, hsz, hP, hK, hD0, hG⟩ := hv
  have hx := B.exec
  have hb := B.bytes
  have hr := B.returns
  have hts := atoms_spec (ws := w_x_plus) B.pre
  have hown : s.vm.findClass RX12 = some m.cls := findClass_of_methodNamed B.named
  have hlocks := B.notSynchronized
  subst hsz
  have hD := hD0.self (sz := s.heap.size)
  generalize hAe : va_A (vM cy a σ0) s.heap.size = A at hD ⊢
  have hA : ∀ q : Nat, s.heap.size ≤ q → A q := fun q h => by rw [← hAe]; exact Or.inr h
  have hS : va_S A s.heap s.heap [] := va_S.rf
  have hl := lv_entry ([.ref (a 0), .int (L0 1), .int (L0 2)]) (n := 6) (Nat.le_of_ble_eq_true rfl)
  rw [lg_entry_eq]
  generalize (lg_sl ([.ref (a 0), .int (L0 1), .int (L0 2)]) ++ List.replicate (6 - (lg_sl ([.ref (a 0), .int (L0 1), .int (L0 2)])).length) Slot.unset).toArray = ls at hl ⊢
  have hl : lv_has ls 6 [(0, .ref (a 0)), (1, .int (L0 1)), (2, .int (L0 2))] := hl
  have blk : ∀ k : Nat, (bT p l e (headSpec w_x_plus ({ frames := 46, cells := 0, slots := 0, locals := 1271 })).room s m #[.ref (a 0), .int (L0 1), .int (L0 2)] below meth c dC dI cy a A (qI dC dI cy a A below #[.ref (a 0), .int (L0 1), .int (L0 2)] s) 6 (x_plus k 0) (fun L => [(0, .ref (a 0)), (1, .int (L 1)), (2, .int (L 2))]) 0 (fun L => [])) ∧ (bT p l e (headSpec w_x_plus ({ frames := 46, cells := 0, slots := 0, locals := 1271 })).room s m #[.ref (a 0), .int (L0 1), .int (L0 2)] below meth c dC dI cy a A (qI dC dI cy a A below #[.ref (a 0), .int (L0 1), .int (L0 2)] s) 6 (x_plus k 1) (fun L => [(0, .ref (a 0)), (1, .int (L 1)), (2, .int (L 2)), (3, .int (L 3))]) 25 (fun L => [])) ∧ (bT p l e (headSpec w_x_plus ({ frames := 46, cells := 0, slots := 0, locals := 1271 })).room s m #[.ref (a 0), .int (L0 1), .int (L0 2)] below meth c dC dI cy a A (qI dC dI cy a A below #[.ref (a 0), .int (L0 1), .int (L0 2)] s) 6 (x_plus k 2) (fun L => [(0, .ref (a 0)), (1, .int (L 1)), (2, .int (L 2)), (3, .int (L 3))]) 30 (fun L => [])) ∧ (bT p l e (headSpec w_x_plus ({ frames := 46, cells := 0, slots := 0, locals := 1271 })).room s m #[.ref (a 0), .int (L0 1), .int (L0 2)] below meth c dC dI cy a A (qI dC dI cy a A below #[.ref (a 0), .int (L0 1), .int (L0 2)] s) 6 (x_plus k 3) (fun L => [(0, .ref (a 0)), (1, .int (L 1)), (2, .int (L 2)), (3, .int (L 3))]) 43 (fun L => [])) ∧ (bT p l e (headSpec w_x_plus ({ frames := 46, cells := 0, slots := 0, locals := 1271 })).room s m #[.ref (a 0), .int (L0 1), .int (L0 2)] below meth c dC dI cy a A (qI dC dI cy a A below #[.ref (a 0), .int (L0 1), .int (L0 2)] s) 6 (x_plus k 4) (fun L => [(0, .ref (a 0)), (1, .int (L 1)), (2, .int (L 2)), (3, .int (L 3))]) 55 (fun L => [])) ∧ (bT p l e (headSpec w_x_plus ({ frames := 46, cells := 0, slots := 0, locals := 1271 })).room s m #[.ref (a 0), .int (L0 1), .int (L0 2)] below meth c dC dI cy a A (qI dC dI cy a A below #[.ref (a 0), .int (L0 1), .int (L0 2)] s) 6 (x_plus k 5) (fun L => [(0, .ref (a 0)), (1, .int (L 1)), (2, .int (L 2)), (3, .int (L 3)), (4, .int (L 4)), (5, .int (L 5))]) 64 (fun L => [])) ∧ (bT p l e (headSpec w_x_plus ({ frames := 46, cells := 0, slots := 0, locals := 1271 })).room s m #[.ref (a 0), .int (L0 1), .int (L0 2)] below meth c dC dI cy a A (qI dC dI cy a A below #[.ref (a 0), .int (L0 1), .int (L0 2)] s) 6 (x_plus k 6) (fun L => [(0, .ref (a 0)), (1, .int (L 1)), (2, .int (L 2)), (3, .int (L 3)), (4, .int (L 4)), (5, .int (L 5))]) 98 (fun L => [])) ∧ (bT p l e (headSpec w_x_plus ({ frames := 46, cells := 0, slots := 0, locals := 1271 })).room s m #[.ref (a 0), .int (L0 1), .int (L0 2)] below meth c dC dI cy a A (qI dC dI cy a A below #[.ref (a 0), .int (L0 1), .int (L0 2)] s) 6 (x_plus k 7) (fun L => [(0, .ref (a 0)), (1, .int (L 1)), (2, .int (L 2)), (3, .int (L 3)), (4, .int (L 4)), (5, .int (L 5))]) 101 (fun L => [])) ∧ (bT p l e (headSpec w_x_plus ({ frames := 46, cells := 0, slots := 0, locals := 1271 })).room s m #[.ref (a 0), .int (L0 1), .int (L0 2)] below meth c dC dI cy a A (qI dC dI cy a A below #[.ref (a 0), .int (L0 1), .int (L0 2)] s) 6 (x_plus k 8) (fun L => [(0, .ref (a 0)), (1, .int (L 1)), (2, .int (L 2)), (3, .int (L 3)), (4, .int (L 4)), (5, .int (L 5))]) 135 (fun L => [])) ∧ (bT p l e (headSpec w_x_plus ({ frames := 46, cells := 0, slots := 0, locals := 1271 })).room s m #[.ref (a 0), .int (L0 1), .int (L0 2)] below meth c dC dI cy a A (qI dC dI cy a A below #[.ref (a 0), .int (L0 1), .int (L0 2)] s) 6 (x_plus k 9) (fun L => [(0, .ref (a 0)), (1, .int (L 1)), (2, .int (L 2)), (3, .int (L 3)), (4, .int (L 4)), (5, .int (L 5))]) 150 (fun L => [])) ∧ (bT p l e (headSpec w_x_plus ({ frames := 46, cells := 0, slots := 0, locals := 1271 })).room s m #[.ref (a 0), .int (L0 1), .int (L0 2)] below meth c dC dI cy a A (qI dC dI cy a A below #[.ref (a 0), .int (L0 1), .int (L0 2)] s) 6 (x_plus k 10) (fun L => [(0, .ref (a 0)), (1, .int (L 1)), (2, .int (L 2)), (3, .int (L 3)), (4, .int (L 4)), (5, .int (L 5))]) 156 (fun L => [.int (L 100)])) := by
    intro k
    induction k with
    | zero => exact ⟨fun L σ r h => (by cases h), fun L σ r h => (by cases h), fun L σ r h => (by cases h), fun L σ r h => (by cases h), fun L σ r h => (by cases h), fun L σ r h => (by cases h), fun L σ r h => (by cases h), fun L σ r h => (by cases h), fun L σ r h => (by cases h), fun L σ r h => (by cases h), fun L σ r h => (by cases h)⟩
    | succ k ih =>
      refine ⟨?_, ?_, ?_, ?_, ?_, ?_, ?_, ?_, ?_, ?_, ?_⟩
      · intro L σ r h H locs ls hP hD hS hl
        rw [x_plus] at h
        refine lv_aload_n hx hb dX12_plus_0 rfl (lv_at hl 0 rfl) ?_
        refine lv_iload_n hx hb dX12_plus_1 rfl (lv_at hl 1 rfl) ?_
        obtain ⟨r1, hc1, h⟩ := ob_ex h
        refine nc_Vi (As := [.int (L 1)]) (rest := []) ⟨hx, hb, hml, hown, hts⟩ (c_x_kind l dC dI cy a k (upd (fun _ => 0) 1 ((L 1))) σ r1 hc1 H.size) (cwV 1 hts g_x_plus_kind_545 rfl rfl rfl hd_x_kind ⟨Nat.le_of_ble_eq_true rfl, Nat.le_of_ble_eq_true rfl⟩) hK hG hA hP hD hS rfl hl.1 rfl (Nat.le_of_ble_eq_true rfl) dX12_plus_2 ⟨Nat.le_refl _, Nat.le_refl _⟩ (fun H locs hP hD hS => ?_)
        refine lv_istore_n (lv' := [(3, .int r1.1), (0, .ref (a 0)), (1, .int (L 1)), (2, .int (L 2))]) hx hb dX12_plus_5 rfl hl (by decide) rfl (fun ls hl => ?_)
        refine lv_iload_n hx hb dX12_plus_6 rfl (lv_at hl 0 rfl) ?_
        refine lv_aload_n hx hb dX12_plus_7 rfl (lv_at hl 1 rfl) ?_
        refine lv_iload_n hx hb dX12_plus_8 rfl (lv_at hl 3 rfl) ?_
        obtain ⟨r2, hc2, h⟩ := ob_ex h
        refine nc_Vi (As := [.int (L 2)]) (rest := [.int r1.1]) ⟨hx, hb, hml, hown, hts⟩ (c_x_kind l dC dI cy a k (upd (fun _ => 0) 1 ((L 2))) r1.2 r2 hc2 H.size) (cwV 1 hts g_x_plus_kind_545 rfl rfl rfl hd_x_kind ⟨Nat.le_of_ble_eq_true rfl, Nat.le_of_ble_eq_true rfl⟩) hK hG hA hP hD hS rfl hl.1 rfl (Nat.le_of_ble_eq_true rfl) dX12_plus_9 ⟨Nat.le_refl _, Nat.le_refl _⟩ (fun H locs hP hD hS => ?_)
        refine lv_icmp_ne (tgt := 25) hx hb dX12_plus_12 (by decide) (fun c3 => ?_) (fun c3 => ?_)
        · rw [if_neg c3] at h
          exact ih.2.1 (upd L 3 r1.1) r2.2 r h H locs ls hP hD hS (lv_sub hl [1, 2, 3, 0] rfl)
        · rw [if_pos c3] at h
          refine lv_iload_n hx hb dX12_plus_15 rfl (lv_at hl 0 rfl) ?_
          refine lv_iconst (v := 2) hx hb dX12_plus_16 (by decide) ?_
          refine lv_icmp_eq (tgt := 30) hx hb dX12_plus_17 (by decide) (fun c4 => ?_) (fun c4 => ?_)
          · rw [if_pos c4] at h
            exact ih.2.2.1 (upd L 3 r1.1) r2.2 r h H locs ls hP hD hS (lv_sub hl [1, 2, 3, 0] rfl)
          · rw [if_neg c4] at h
            refine lv_iload_n hx hb dX12_plus_20 rfl (lv_at hl 0 rfl) ?_
            refine lv_iconst (v := 4) hx hb dX12_plus_21 (by decide) ?_
            refine lv_icmp_ge (tgt := 30) hx hb dX12_plus_22 (by decide) (fun c5 => ?_) (fun c5 => ?_)
            · rw [if_pos c5] at h
              exact ih.2.2.1 (upd L 3 r1.1) r2.2 r h H locs ls hP hD hS (lv_sub hl [1, 2, 3, 0] rfl)
            · rw [if_neg c5] at h
              exact ih.2.1 (upd L 3 r1.1) r2.2 r h H locs ls hP hD hS (lv_sub hl [1, 2, 3, 0] rfl)
      · intro L σ r h H locs ls hP hD hS hl
        rw [x_plus] at h
        refine lv_aload_n hx hb dX12_plus_25 rfl (lv_at hl 0 rfl) ?_
        obtain ⟨r1, hc1, h⟩ := ob_ex h
        refine nc_Vi (As := []) (rest := []) ⟨hx, hb, hml, hown, hts⟩ (c_x_wrongKind l dC dI cy a k (fun _ => 0) σ r1 hc1 H.size) (cwV 0 hts g_x_plus_wrongKind_666 rfl rfl rfl hd_x_wrongKind ⟨Nat.le_of_ble_eq_true rfl, Nat.le_of_ble_eq_true rfl⟩) hK hG hA hP hD hS rfl hl.1 rfl (Nat.le_of_ble_eq_true rfl) dX12_plus_26 ⟨Nat.le_refl _, Nat.le_refl _⟩ (fun H locs hP hD hS => ?_)
        cases h
        exact W.iret (v := r1.1) hx hb hr (fun t ht hW => ⟨⟨r1.1, (), rfl, rfl, by rw [ht]; exact hP, va_K.moved hW.alike hK, hD⟩, hS.F ht⟩) hS.2.2 dX12_plus_29
      · intro L σ r h H locs ls hP hD hS hl
        rw [x_plus] at h
        refine lv_iload_n hx hb dX12_plus_30 rfl (lv_at hl 3 rfl) ?_
        refine lv_iconst (v := 2) hx hb dX12_plus_31 (by decide) ?_
        refine lv_icmp_ne (tgt := 43) hx hb dX12_plus_32 (by decide) (fun c1 => ?_) (fun c1 => ?_)
        · rw [if_neg c1] at h
          exact ih.2.2.2.1 L σ r h H locs ls hP hD hS (lv_sub hl [0, 1, 2, 3] rfl)
        · rw [if_pos c1] at h
          refine lv_aload_n hx hb dX12_plus_35 rfl (lv_at hl 0 rfl) ?_
          refine lv_iload_n hx hb dX12_plus_36 rfl (lv_at hl 1 rfl) ?_
          refine lv_iload_n hx hb dX12_plus_37 rfl (lv_at hl 2 rfl) ?_
          refine lv_iconst (v := 1) hx hb dX12_plus_38 (by decide) ?_
          obtain ⟨r2, hc2, h⟩ := ob_ex h
          refine nc_Vi (As := [.int (L 1), .int (L 2), .int 1]) (rest := []) ⟨hx, hb, hml, hown, hts⟩ (c_x_add l dC dI cy a k (upd (upd (upd (fun _ => 0) 1 ((L 1))) 2 ((L 2))) 3 1) σ r2 hc2 H.size) (cwV 3 hts g_x_plus_add_728 rfl rfl rfl hd_x_add ⟨Nat.le_of_ble_eq_true rfl, Nat.le_of_ble_eq_true rfl⟩) hK hG hA hP hD hS rfl hl.1 rfl (Nat.le_of_ble_eq_true rfl) dX12_plus_39 ⟨Nat.le_refl _, Nat.le_refl _⟩ (fun H locs hP hD hS => ?_)
          cases h
          exact W.iret (v := r2.1) hx hb hr (fun t ht hW => ⟨⟨r2.1, (), rfl, rfl, by rw [ht]; exact hP, va_K.moved hW.alike hK, hD⟩, hS.F ht⟩) hS.2.2 dX12_plus_42
      · intro L σ r h H locs ls hP hD hS hl
        rw [x_plus] at h
        refine lv_iload_n hx hb dX12_plus_43 rfl (lv_at hl 3 rfl) ?_
        refine lv_iconst (v := 4) hx hb dX12_plus_44 (by decide) ?_
        refine lv_icmp_ne (tgt := 55) hx hb dX12_plus_45 (by decide) (fun c1 => ?_) (fun c1 => ?_)
        · rw [if_neg c1] at h
          exact ih.2.2.2.2.1 L σ r h H locs ls hP hD hS (lv_sub hl [0, 1, 2, 3] rfl)
        · rw [if_pos c1] at h
          refine lv_aload_n hx hb dX12_plus_48 rfl (lv_at hl 0 rfl) ?_
          refine lv_iload_n hx hb dX12_plus_49 rfl (lv_at hl 1 rfl) ?_
          refine lv_iload_n hx hb dX12_plus_50 rfl (lv_at hl 2 rfl) ?_
          obtain ⟨r2, hc2, h⟩ := ob_ex h
          refine nc_Vi (As := [.int (L 1), .int (L 2)]) (rest := []) ⟨hx, hb, hml, hown, hts⟩ (c_x_joined l dC dI cy a k (upd (upd (fun _ => 0) 1 ((L 1))) 2 ((L 2))) σ r2 hc2 H.size) (cwV 2 hts g_x_plus_joined_753 rfl rfl rfl hd_x_joined ⟨Nat.le_of_ble_eq_true rfl, Nat.le_of_ble_eq_true rfl⟩) hK hG hA hP hD hS rfl hl.1 rfl (Nat.le_of_ble_eq_true rfl) dX12_plus_51 ⟨Nat.le_refl _, Nat.le_refl _⟩ (fun H locs hP hD hS => ?_)
          cases h
          exact W.iret (v := r2.1) hx hb hr (fun t ht hW => ⟨⟨r2.1, (), rfl, rfl, by rw [ht]; exact hP, va_K.moved hW.alike hK, hD⟩, hS.F ht⟩) hS.2.2 dX12_plus_54
      · intro L σ r h H locs ls hP hD hS hl
        rw [x_plus] at h
        refine lv_aload_n hx hb dX12_plus_55 rfl (lv_at hl 0 rfl) ?_
        refine ng_59 hx hb hts in_x_plus hown hK hP (hts _ (List.mem_cons_of_mem _ (List.mem_append_left _ (List.mem_append_left _ (List.mem_of_getElem? (i := 13) rfl))))) dX12_plus_56 ?_
        refine lv_istore (lv' := [(4, .int (σ.1 59)), (0, .ref (a 0)), (1, .int (L 1)), (2, .int (L 2)), (3, .int (L 3))]) hx hb dX12_plus_59 hl (by decide) rfl (fun ls hl => ?_)
        refine lv_iconst (v := 0) hx hb dX12_plus_61 (by decide) ?_
        refine lv_istore (lv' := [(5, .int 0), (4, .int (σ.1 59)), (0, .ref (a 0)), (1, .int (L 1)), (2, .int (L 2)), (3, .int (L 3))]) hx hb dX12_plus_62 hl (by decide) rfl (fun ls hl => ?_)
        exact ih.2.2.2.2.2.1 (upd (upd L 4 ((σ.1 59))) 5 0) σ r h H locs ls hP hD hS (lv_sub hl [2, 3, 4, 5, 1, 0] rfl)
      · intro L σ r h H locs ls hP hD hS hl
        rw [x_plus] at h
        refine lv_iload hx hb dX12_plus_64 (lv_at hl 5 rfl) ?_
        refine lv_aload_n hx hb dX12_plus_66 rfl (lv_at hl 0 rfl) ?_
        refine ng_53 hx hb hts in_x_plus hown hK hP (hts _ (List.mem_cons_of_mem _ (List.mem_append_left _ (List.mem_append_left _ (List.mem_of_getElem? (i := 14) rfl))))) dX12_plus_67 ?_
        refine lv_iload_n hx hb dX12_plus_70 rfl (lv_at hl 1 rfl) ?_
        refine lv_iconst (v := 1) hx hb dX12_plus_71 (by decide) ?_
        refine lv_iadd hx hb dX12_plus_72 ?_
        obtain ⟨q1, h⟩ := nb_ite1 h
        refine nl_28 hx hb hK hP q1 dX12_plus_73 ?_
        refine lv_icmp_ge (tgt := 98) hx hb dX12_plus_74 (by decide) (fun c2 => ?_) (fun c2 => ?_)
        · rw [if_pos c2] at h
          exact ih.2.2.2.2.2.2.1 L σ r h H locs ls hP hD hS (lv_sub hl [0, 1, 2, 3, 4, 5] rfl)
        · rw [if_neg c2] at h
          refine lv_aload_n hx hb dX12_plus_77 rfl (lv_at hl 0 rfl) ?_
          refine lv_aload_n hx hb dX12_plus_78 rfl (lv_at hl 0 rfl) ?_
          refine ng_53 hx hb hts in_x_plus hown hK hP (hts _ (List.mem_cons_of_mem _ (List.mem_append_left _ (List.mem_append_left _ (List.mem_of_getElem? (i := 14) rfl))))) dX12_plus_79 ?_
          refine lv_iload_n hx hb dX12_plus_82 rfl (lv_at hl 1 rfl) ?_
          refine lv_iconst (v := 4) hx hb dX12_plus_83 (by decide) ?_
          refine lv_iadd hx hb dX12_plus_84 ?_
          refine lv_iload hx hb dX12_plus_85 (lv_at hl 5 rfl) ?_
          refine lv_iadd hx hb dX12_plus_87 ?_
          obtain ⟨q3, h⟩ := nb_ite1 h
          refine nl_28 hx hb hK hP q3 dX12_plus_88 ?_
          obtain ⟨r4, hc4, h⟩ := ob_ex h
          refine nc_Vv (As := [.int (σ.2.2 28 ((((((L 1)) + 4)) + ((L 5)))).toNatClampNeg)]) (rest := []) ⟨hx, hb, hml, hown, hts⟩ (c_x_push l dC dI cy a k (upd (fun _ => 0) 1 ((σ.2.2 28 ((((((L 1)) + 4)) + ((L 5)))).toNatClampNeg))) σ r4 hc4 H.size) (cwV 1 hts g_x_plus_push_594 rfl rfl rfl hd_x_push ⟨Nat.le_of_ble_eq_true rfl, Nat.le_of_ble_eq_true rfl⟩) hK hG hA hP hD hS rfl hl.1 rfl (Nat.le_of_ble_eq_true rfl) dX12_plus_89 ⟨Nat.le_refl _, Nat.le_refl _⟩ (fun H locs hP hD hS => ?_)
          refine lv_iinc (v := ((L 5)) + 1) (lv' := [(5, .int (((L 5)) + 1)), (0, .ref (a 0)), (1, .int (L 1)), (2, .int (L 2)), (3, .int (L 3)), (4, .int (L 4))]) hx hb dX12_plus_92 hl (k := 5) rfl rfl (by decide) rfl (fun ls hl => ?_)
          refine lv_goto (tgt := 64) hx hb dX12_plus_95 (by decide) ?_
          exact ih.2.2.2.2.2.1 (upd L 5 (((L 5)) + 1)) r4.2 r h H locs ls hP hD hS (lv_sub hl [1, 2, 3, 4, 5, 0] rfl)
      · intro L σ r h H locs ls hP hD hS hl
        rw [x_plus] at h
        refine lv_iconst (v := 0) hx hb dX12_plus_98 (by decide) ?_
        refine lv_istore (lv' := [(5, .int 0), (0, .ref (a 0)), (1, .int (L 1)), (2, .int (L 2)), (3, .int (L 3)), (4, .int (L 4))]) hx hb dX12_plus_99 hl (by decide) rfl (fun ls hl => ?_)
        exact ih.2.2.2.2.2.2.2.1 (upd L 5 0) σ r h H locs ls hP hD hS (lv_sub hl [1, 2, 3, 4, 5, 0] rfl)
      · intro L σ r h H locs ls hP hD hS hl
        rw [x_plus] at h
        refine lv_iload hx hb dX12_plus_101 (lv_at hl 5 rfl) ?_
        refine lv_aload_n hx hb dX12_plus_103 rfl (lv_at hl 0 rfl) ?_
        refine ng_53 hx hb hts in_x_plus hown hK hP (hts _ (List.mem_cons_of_mem _ (List.mem_append_left _ (List.mem_append_left _ (List.mem_of_getElem? (i := 14) rfl))))) dX12_plus_104 ?_
        refine lv_iload_n hx hb dX12_plus_107 rfl (lv_at hl 2 rfl) ?_
        refine lv_iconst (v := 1) hx hb dX12_plus_108 (by decide) ?_
        refine lv_iadd hx hb dX12_plus_109 ?_
        obtain ⟨q1, h⟩ := nb_ite1 h
        refine nl_28 hx hb hK hP q1 dX12_plus_110 ?_
        refine lv_icmp_ge (tgt := 135) hx hb dX12_plus_111 (by decide) (fun c2 => ?_) (fun c2 => ?_)
        · rw [if_pos c2] at h
          exact ih.2.2.2.2.2.2.2.2.1 L σ r h H locs ls hP hD hS (lv_sub hl [0, 1, 2, 3, 4, 5] rfl)
        · rw [if_neg c2] at h
          refine lv_aload_n hx hb dX12_plus_114 rfl (lv_at hl 0 rfl) ?_
          refine lv_aload_n hx hb dX12_plus_115 rfl (lv_at hl 0 rfl) ?_
          refine ng_53 hx hb hts in_x_plus hown hK hP (hts _ (List.mem_cons_of_mem _ (List.mem_append_left _ (List.mem_append_left _ (List.mem_of_getElem? (i := 14) rfl))))) dX12_plus_116 ?_
          refine lv_iload_n hx hb dX12_plus_119 rfl (lv_at hl 2 rfl) ?_
          refine lv_iconst (v := 4) hx hb dX12_plus_120 (by decide) ?_
          refine lv_iadd hx hb dX12_plus_121 ?_
          refine lv_iload hx hb dX12_plus_122 (lv_at hl 5 rfl) ?_
          refine lv_iadd hx hb dX12_plus_124 ?_
          obtain ⟨q3, h⟩ := nb_ite1 h
          refine nl_28 hx hb hK hP q3 dX12_plus_125 ?_
          obtain ⟨r4, hc4, h⟩ := ob_ex h
          refine nc_Vv (As := [.int (σ.2.2 28 ((((((L 2)) + 4)) + ((L 5)))).toNatClampNeg)]) (rest := []) ⟨hx, hb, hml, hown, hts⟩ (c_x_push l dC dI cy a k (upd (fun _ => 0) 1 ((σ.2.2 28 ((((((L 2)) + 4)) + ((L 5)))).toNatClampNeg))) σ r4 hc4 H.size) (cwV 1 hts g_x_plus_push_594 rfl rfl rfl hd_x_push ⟨Nat.le_of_ble_eq_true rfl, Nat.le_of_ble_eq_true rfl⟩) hK hG hA hP hD hS rfl hl.1 rfl (Nat.le_of_ble_eq_true rfl) dX12_plus_126 ⟨Nat.le_refl _, Nat.le_refl _⟩ (fun H locs hP hD hS => ?_)
          refine lv_iinc (v := ((L 5)) + 1) (lv' := [(5, .int (((L 5)) + 1)), (0, .ref (a 0)), (1, .int (L 1)), (2, .int (L 2)), (3, .int (L 3)), (4, .int (L 4))]) hx hb dX12_plus_129 hl (k := 5) rfl rfl (by decide) rfl (fun ls hl => ?_)
          refine lv_goto (tgt := 101) hx hb dX12_plus_132 (by decide) ?_
          exact ih.2.2.2.2.2.2.2.1 (upd L 5 (((L 5)) + 1)) r4.2 r h H locs ls hP hD hS (lv_sub hl [1, 2, 3, 4, 5, 0] rfl)
      · intro L σ r h H locs ls hP hD hS hl
        rw [x_plus] at h
        refine lv_iload_n hx hb dX12_plus_135 rfl (lv_at hl 3 rfl) ?_
        refine lv_bipush (v := 6) hx hb dX12_plus_136 (by decide) ?_
        refine lv_icmp_ne (tgt := 150) hx hb dX12_plus_138 (by decide) (fun c1 => ?_) (fun c1 => ?_)
        · rw [if_neg c1] at h
          exact ih.2.2.2.2.2.2.2.2.2.1 L σ r h H locs ls hP hD hS (lv_sub hl [0, 1, 2, 3, 4, 5] rfl)
        · rw [if_pos c1] at h
          refine lv_aload_n hx hb dX12_plus_141 rfl (lv_at hl 0 rfl) ?_
          refine lv_iload hx hb dX12_plus_142 (lv_at hl 4 rfl) ?_
          obtain ⟨r2, hc2, h⟩ := ob_ex h
          refine nc_Vi (As := [.int (L 4)]) (rest := []) ⟨hx, hb, hml, hown, hts⟩ (c_x_setOf l dC dI cy a k (upd (fun _ => 0) 1 ((L 4))) σ r2 hc2 H.size) (cwV 1 hts g_x_plus_setOf_678 rfl rfl rfl hd_x_setOf ⟨Nat.le_of_ble_eq_true rfl, Nat.le_of_ble_eq_true rfl⟩) hK hG hA hP hD hS rfl hl.1 rfl (Nat.le_of_ble_eq_true rfl) dX12_plus_144 ⟨Nat.le_refl _, Nat.le_refl _⟩ (fun H locs hP hD hS => ?_)
          refine lv_goto (tgt := 156) hx hb dX12_plus_147 (by decide) ?_
          exact ih.2.2.2.2.2.2.2.2.2.2 (upd L 100 r2.1) r2.2 r h H locs ls hP hD hS (lv_sub hl [0, 1, 2, 3, 4, 5] rfl)
      · intro L σ r h H locs ls hP hD hS hl
        rw [x_plus] at h
        refine lv_aload_n hx hb dX12_plus_150 rfl (lv_at hl 0 rfl) ?_
        refine lv_iload hx hb dX12_plus_151 (lv_at hl 4 rfl) ?_
        obtain ⟨r1, hc1, h⟩ := ob_ex h
        refine nc_Vi (As := [.int (L 4)]) (rest := []) ⟨hx, hb, hml, hown, hts⟩ (c_x_tupleOf l dC dI cy a k (upd (fun _ => 0) 1 ((L 4))) σ r1 hc1 H.size) (cwV 1 hts g_x_plus_tupleOf_675 rfl rfl rfl hd_x_tupleOf ⟨Nat.le_of_ble_eq_true rfl, Nat.le_of_ble_eq_true rfl⟩) hK hG hA hP hD hS rfl hl.1 rfl (Nat.le_of_ble_eq_true rfl) dX12_plus_153 ⟨Nat.le_refl _, Nat.le_refl _⟩ (fun H locs hP hD hS => ?_)
        exact ih.2.2.2.2.2.2.2.2.2.2 (upd L 100 r1.1) r1.2 r h H locs ls hP hD hS (lv_sub hl [0, 1, 2, 3, 4, 5] rfl)
      · intro L σ r h H locs ls hP hD hS hl
        rw [x_plus] at h
        cases h
        exact W.iret (v := (L 100)) hx hb hr (fun t ht hW => ⟨⟨(L 100), (), rfl, rfl, by rw [ht]; exact hP, va_K.moved hW.alike hK, hD⟩, hS.F ht⟩) hS.2.2 dX12_plus_156
  exact (blk k0).1 L0 σ0 r0 h0 s.heap [] ls hP hD hS hl
/-! repeat -/
def x_repeat : Nat → Nat → (Nat → Int32) → MS → Option (Int32 × MS)
  | 0, _, _, _ => none
  | k + 1, 0, L, σ => ob (x_signOf k 0 (upd (fun _ => 0) 1 ((L 2))) σ) (fun r1 => if 0 ≤ r1.1 then (x_repeat k 1 L r1.2) else (ob (x_fail k 0 (upd (fun _ => 0) 1 4) r1.2) (fun r3 => some (0, r3.2))))
  | k + 1, 1, L, σ => if ¬ (((((L 1)) + 1)) < 0 ∨ 1740000 ≤ ((((L 1)) + 1)).toNatClampNeg) then (if ((σ.2.2 28 ((((L 1)) + 1)).toNatClampNeg)) = 0 then (x_repeat k 3 (upd (upd L 3 ((σ.2.2 28 ((((L 1)) + 1)).toNatClampNeg))) 100 0) σ) else (x_repeat k 2 (upd L 3 ((σ.2.2 28 ((((L 1)) + 1)).toNatClampNeg))) σ)) else none
  | k + 1, 2, L, σ => ob (x_intOf k 0 (upd (upd (fun _ => 0) 1 ((L 2))) 2 5000) (fun _ => 0) σ) (fun r1 => x_repeat k 3 (upd L 100 r1.1) r1.2)
  | k + 1, 3, L, σ => if ((nbCmp ((((((L 3)).toInt64)) * ((((L 100)).toInt64)))) (8000 : Int64))) ≤ 0 then (x_repeat k 4 (upd L 4 ((L 100))) σ) else (ob (x_fail k 0 (upd (fun _ => 0) 1 5) σ) (fun r2 => some (0, r2.2)))
  | k + 1, 4, L, σ => if ¬ (((L 1)) < 0 ∨ 1740000 ≤ ((L 1)).toNatClampNeg) then (if ((σ.2.2 28 ((L 1)).toNatClampNeg)) = 4 then (x_repeat k 5 (upd L 5 0) σ) else (x_repeat k 8 L σ)) else none
  | k + 1, 5, L, σ => if ((((L 3)) * ((L 4)))) ≤ ((L 5)) then (x_repeat k 7 L σ) else (if ((L 3)) = 0 then none else (if ¬ (((((((L 1)) + 4)) + ((((L 5)) - ((L 5)) / ((L 3)) * ((L 3)))))) < 0 ∨ 1740000 ≤ ((((((L 1)) + 4)) + ((((L 5)) - ((L 5)) / ((L 3)) * ((L 3)))))).toNatClampNeg) then (if ¬ (((L 5)) < 0 ∨ 8200 ≤ ((L 5)).toNatClampNeg) then (x_repeat k 6 L (σ.1, σ.2.1, updG σ.2.2 51 (upd (σ.2.2 51) ((L 5)).toNatClampNeg ((σ.2.2 28 ((((((L 1)) + 4)) + ((((L 5)) - ((L 5)) / ((L 3)) * ((L 3)))))).toNatClampNeg))))) else none) else none))
  | k + 1, 6, L, σ => x_repeat k 5 (upd L 5 (((L 5)) + 1)) σ
  | k + 1, 7, L, σ => ob (x_stringOf__51 k 0 (upd (upd (fun _ => 0) 2 0) 3 ((((L 3)) * ((L 4))))) σ) (fun r1 => some (r1.1, r1.2))
  | k + 1, 8, L, σ => x_repeat k 9 (upd (upd L 5 ((σ.1 59))) 6 0) σ
  | k + 1, 9, L, σ => if ((((L 3)) * ((L 4)))) ≤ ((L 6)) then (x_repeat k 10 L σ) else (if ((L 3)) = 0 then none else (if ¬ (((((((L 1)) + 4)) + ((((L 6)) - ((L 6)) / ((L 3)) * ((L 3)))))) < 0 ∨ 1740000 ≤ ((((((L 1)) + 4)) + ((((L 6)) - ((L 6)) / ((L 3)) * ((L 3)))))).toNatClampNeg) then (ob (x_push k 0 (upd (fun _ => 0) 1 ((σ.2.2 28 ((((((L 1)) + 4)) + ((((L 6)) - ((L 6)) / ((L 3)) * ((L 3)))))).toNatClampNeg))) σ) (fun r4 => x_repeat k 9 (upd L 6 (((L 6)) + 1)) r4.2)) else none))
  | k + 1, 10, L, σ => ob (x_tupleOf k 0 (upd (fun _ => 0) 1 ((L 5))) σ) (fun r1 => some (r1.1, r1.2))
  | _ + 1, _ + 11, _, _ => none
def o_x_repeat : List Cond := [.methodLink RX12 463 yX12_signOf, .instanceMethod yX12_signOf, .selects RX12 yX12_signOf yX12_signOf, .initialized RX12, .methodLink RX12 369 yX12_fail, .instanceMethod yX12_fail, .selects RX12 yX12_fail yX12_fail, .fieldLink RX12 372 "SetHouseModel" "heap" "[I", .methodLink RX12 515 yX12_intOf, .instanceMethod yX12_intOf, .selects RX12 yX12_intOf yX12_intOf, .constantLong RX12 762 (8000), .fieldLink RX12 756 "SetHouseModel" "bytes" "[I", .methodLink RX12 597 yX12_stringOf, .instanceMethod yX12_stringOf, .selects RX12 yX12_stringOf yX12_stringOf, .fieldLink RX12 385 "SetHouseModel" "top" "I", .methodLink RX12 594 yX12_push, .instanceMethod yX12_push, .selects RX12 yX12_push yX12_push, .methodLink RX12 675 yX12_tupleOf, .instanceMethod yX12_tupleOf, .selects RX12 yX12_tupleOf yX12_tupleOf]
theorem o_x_repeat_good : o_x_repeat.all goodWord = true := by decide +kernel
def p_x_repeat : List Cond := o_x_repeat ++ ((.code yX12_signOf cX12_signOf 2 (some .int) :: p_x_signOf) ++ ((.code yX12_fail cX12_fail 2 none :: p_x_fail) ++ ((.code yX12_intOf cX12_intOf 7 (some .int) :: p_x_intOf) ++ ((.code yX12_stringOf cX12_stringOf 6 (some .int) :: p_x_stringOf__51) ++ ((.code yX12_push cX12_push 2 none :: p_x_push) ++ ((.code yX12_tupleOf cX12_tupleOf 5 (some .int) :: p_x_tupleOf) ++ []))))))
theorem p_x_repeat_good : p_x_repeat.all goodWord = true := nb_all2 o_x_repeat_good (nb_all2 (nb_allc (by decide +kernel) p_x_signOf_good) (nb_all2 (nb_allc (by decide +kernel) p_x_fail_good) (nb_all2 (nb_allc (by decide +kernel) p_x_intOf_good) (nb_all2 (nb_allc (by decide +kernel) p_x_stringOf__51_good) (nb_all2 (nb_allc (by decide +kernel) p_x_push_good) (nb_all2 (nb_allc (by decide +kernel) p_x_tupleOf_good) rfl))))))
def w_x_repeat : List Cond := .code yX12_repeat cX12_repeat 7 (some .int) :: (p_x_repeat ++ fM)
theorem w_x_repeat_good : w_x_repeat.all goodWord = true := nb_allc (by decide +kernel) (nb_all2 p_x_repeat_good fM_good)
theorem in_x_repeat : ∀ w ∈ wsX120, w ∈ w_x_repeat := fun _ h => List.mem_cons_of_mem _ (List.mem_append_right _ h)
theorem hd_x_repeat : yX12_repeat.cls = RX12 ∧ yX12_repeat.cls ≠ "java/lang/invoke/MethodHandle" ∧ yX12_repeat.cls ≠ "java/lang/invoke/VarHandle" ∧ (parseMethodDescriptor yX12_repeat.desc).map (fun d => d.parameters.length) = some 2 := by decide +kernel
theorem gg_x_repeat_fail : GoodIn w_x_repeat w_x_fail := goodIn_sub (fun w h => (List.mem_cons.mp h).elim (fun e => (List.mem_cons_of_mem _ (List.mem_append_left _ (List.mem_append_right _ (List.mem_append_right _ (List.mem_append_left _ (List.mem_cons.mpr (Or.inl e)))))))) (fun h => (List.mem_append.mp h).elim (fun h => (List.mem_cons_of_mem _ (List.mem_append_left _ (List.mem_append_right _ (List.mem_append_right _ (List.mem_append_left _ (List.mem_cons_of_mem _ h))))))) (fun h => List.mem_cons_of_mem _ (List.mem_append_right _ h)))) w_x_fail_good
theorem g_x_repeat_fail_369 : GoodIn w_x_repeat (wsV RX12 369 RX12 yX12_fail w_x_fail) := goodIn_app (nb_g4 (List.mem_cons_of_mem _ (List.mem_append_left _ (List.mem_append_left _ (List.mem_of_getElem? (i := 4) rfl)))) (List.mem_cons_of_mem _ (List.mem_append_left _ (List.mem_append_left _ (List.mem_of_getElem? (i := 5) rfl)))) (List.mem_cons_of_mem _ (List.mem_append_left _ (List.mem_append_left _ (List.mem_of_getElem? (i := 6) rfl)))) (List.mem_cons_of_mem _ (List.mem_append_left _ (List.mem_append_left _ (List.mem_of_getElem? (i := 3) rfl)))) (by decide +kernel)) gg_x_repeat_fail
theorem gg_x_repeat_intOf : GoodIn w_x_repeat w_x_intOf := goodIn_sub (fun w h => (List.mem_cons.mp h).elim (fun e => (List.mem_cons_of_mem _ (List.mem_append_left _ (List.mem_append_right _ (List.mem_append_right _ (List.mem_append_right _ (List.mem_append_left _ (List.mem_cons.mpr (Or.inl e))))))))) (fun h => (List.mem_append.mp h).elim (fun h => (List.mem_cons_of_mem _ (List.mem_append_left _ (List.mem_append_right _ (List.mem_append_right _ (List.mem_append_right _ (List.mem_append_left _ (List.mem_cons_of_mem _ h)))))))) (fun h => List.mem_cons_of_mem _ (List.mem_append_right _ h)))) w_x_intOf_good
theorem g_x_repeat_intOf_515 : GoodIn w_x_repeat (wsV RX12 515 RX12 yX12_intOf w_x_intOf) := goodIn_app (nb_g4 (List.mem_cons_of_mem _ (List.mem_append_left _ (List.mem_append_left _ (List.mem_of_getElem? (i := 8) rfl)))) (List.mem_cons_of_mem _ (List.mem_append_left _ (List.mem_append_left _ (List.mem_of_getElem? (i := 9) rfl)))) (List.mem_cons_of_mem _ (List.mem_append_left _ (List.mem_append_left _ (List.mem_of_getElem? (i := 10) rfl)))) (List.mem_cons_of_mem _ (List.mem_append_left _ (List.mem_append_left _ (List.mem_of_getElem? (i := 3) rfl)))) (by decide +kernel)) gg_x_repeat_intOf
theorem gg_x_repeat_push : GoodIn w_x_repeat w_x_push := goodIn_sub (fun w h => (List.mem_cons.mp h).elim (fun e => (List.mem_cons_of_mem _ (List.mem_append_left _ (List.mem_append_right _ (List.mem_append_right _ (List.mem_append_right _ (List.mem_append_right _ (List.mem_append_right _ (List.mem_append_left _ (List.mem_cons.mpr (Or.inl e))))))))))) (fun h => (List.mem_append.mp h).elim (fun h => (List.mem_cons_of_mem _ (List.mem_append_left _ (List.mem_append_right _ (List.mem_append_right _ (List.mem_append_right _ (List.mem_append_right _ (List.mem_append_right _ (List.mem_append_left _ (List.mem_cons_of_mem _ h)))))))))) (fun h => List.mem_cons_of_mem _ (List.mem_append_right _ h)))) w_x_push_good
theorem g_x_repeat_push_594 : GoodIn w_x_repeat (wsV RX12 594 RX12 yX12_push w_x_push) := goodIn_app (nb_g4 (List.mem_cons_of_mem _ (List.mem_append_left _ (List.mem_append_left _ (List.mem_of_getElem? (i := 17) rfl)))) (List.mem_cons_of_mem _ (List.mem_append_left _ (List.mem_append_left _ (List.mem_of_getElem? (i := 18) rfl)))) (List.mem_cons_of_mem _ (List.mem_append_left _ (List.mem_append_left _ (List.mem_of_getElem? (i := 19) rfl)))) (List.mem_cons_of_mem _ (List.mem_append_left _ (List.mem_append_left _ (List.mem_of_getElem? (i := 3) rfl)))) (by decide +kernel)) gg_x_repeat_push
theorem gg_x_repeat_signOf : GoodIn w_x_repeat w_x_signOf := goodIn_sub (fun w h => (List.mem_cons.mp h).elim (fun e => (List.mem_cons_of_mem _ (List.mem_append_left _ (List.mem_append_right _ (List.mem_append_left _ (List.mem_cons.mpr (Or.inl e))))))) (fun h => (List.mem_append.mp h).elim (fun h => (List.mem_cons_of_mem _ (List.mem_append_left _ (List.mem_append_right _ (List.mem_append_left _ (List.mem_cons_of_mem _ h)))))) (fun h => List.mem_cons_of_mem _ (List.mem_append_right _ h)))) w_x_signOf_good
theorem g_x_repeat_signOf_463 : GoodIn w_x_repeat (wsV RX12 463 RX12 yX12_signOf w_x_signOf) := goodIn_app (nb_g4 (List.mem_cons_of_mem _ (List.mem_append_left _ (List.mem_append_left _ (List.mem_of_getElem? (i := 0) rfl)))) (List.mem_cons_of_mem _ (List.mem_append_left _ (List.mem_append_left _ (List.mem_of_getElem? (i := 1) rfl)))) (List.mem_cons_of_mem _ (List.mem_append_left _ (List.mem_append_left _ (List.mem_of_getElem? (i := 2) rfl)))) (List.mem_cons_of_mem _ (List.mem_append_left _ (List.mem_append_left _ (List.mem_of_getElem? (i := 3) rfl)))) (by decide +kernel)) gg_x_repeat_signOf
theorem gg_x_repeat_stringOf__51 : GoodIn w_x_repeat w_x_stringOf__51 := goodIn_sub (fun w h => (List.mem_cons.mp h).elim (fun e => (List.mem_cons_of_mem _ (List.mem_append_left _ (List.mem_append_right _ (List.mem_append_right _ (List.mem_append_right _ (List.mem_append_right _ (List.mem_append_left _ (List.mem_cons.mpr (Or.inl e)))))))))) (fun h => (List.mem_append.mp h).elim (fun h => (List.mem_cons_of_mem _ (List.mem_append_left _ (List.mem_append_right _ (List.mem_append_right _ (List.mem_append_right _ (List.mem_append_right _ (List.mem_append_left _ (List.mem_cons_of_mem _ h))))))))) (fun h => List.mem_cons_of_mem _ (List.mem_append_right _ h)))) w_x_stringOf__51_good
theorem g_x_repeat_stringOf__51_597 : GoodIn w_x_repeat (wsV RX12 597 RX12 yX12_stringOf w_x_stringOf__51) := goodIn_app (nb_g4 (List.mem_cons_of_mem _ (List.mem_append_left _ (List.mem_append_left _ (List.mem_of_getElem? (i := 13) rfl)))) (List.mem_cons_of_mem _ (List.mem_append_left _ (List.mem_append_left _ (List.mem_of_getElem? (i := 14) rfl)))) (List.mem_cons_of_mem _ (List.mem_append_left _ (List.mem_append_left _ (List.mem_of_getElem? (i := 15) rfl)))) (List.mem_cons_of_mem _ (List.mem_append_left _ (List.mem_append_left _ (List.mem_of_getElem? (i := 3) rfl)))) (by decide +kernel)) gg_x_repeat_stringOf__51
theorem gg_x_repeat_tupleOf : GoodIn w_x_repeat w_x_tupleOf := goodIn_sub (fun w h => (List.mem_cons.mp h).elim (fun e => (List.mem_cons_of_mem _ (List.mem_append_left _ (List.mem_append_right _ (List.mem_append_right _ (List.mem_append_right _ (List.mem_append_right _ (List.mem_append_right _ (List.mem_append_right _ (List.mem_append_left _ (List.mem_cons.mpr (Or.inl e)))))))))))) (fun h => (List.mem_append.mp h).elim (fun h => (List.mem_cons_of_mem _ (List.mem_append_left _ (List.mem_append_right _ (List.mem_append_right _ (List.mem_append_right _ (List.mem_append_right _ (List.mem_append_right _ (List.mem_append_right _ (List.mem_append_left _ (List.mem_cons_of_mem _ h))))))))))) (fun h => List.mem_cons_of_mem _ (List.mem_append_right _ h)))) w_x_tupleOf_good
theorem g_x_repeat_tupleOf_675 : GoodIn w_x_repeat (wsV RX12 675 RX12 yX12_tupleOf w_x_tupleOf) := goodIn_app (nb_g4 (List.mem_cons_of_mem _ (List.mem_append_left _ (List.mem_append_left _ (List.mem_of_getElem? (i := 20) rfl)))) (List.mem_cons_of_mem _ (List.mem_append_left _ (List.mem_append_left _ (List.mem_of_getElem? (i := 21) rfl)))) (List.mem_cons_of_mem _ (List.mem_append_left _ (List.mem_append_left _ (List.mem_of_getElem? (i := 22) rfl)))) (List.mem_cons_of_mem _ (List.mem_append_left _ (List.mem_append_left _ (List.mem_of_getElem? (i := 3) rfl)))) (by decide +kernel)) gg_x_repeat_tupleOf
set_option maxHeartbeats 40000000 in
set_option maxRecDepth 100000 in
theorem c_x_repeat (l : Launch) (dC : Nat → ClassId) (dI : Nat → Nat → Nat) (cy : Nat → ClassId) (a : Nat → Nat) (k0 : Nat) (L0 : Nat → Int32) (σ0 : MS) (r0 : Int32 × MS) (h0 : x_repeat k0 0 L0 σ0 = some r0) (sz : Nat) : Met l yX12_repeat w_x_repeat ({ frames := 4, cells := 0, slots := 0, locals := 92 }) (va_Pc [.ref (a 0), .int (L0 1), .int (L0 2)] (nIn (dC, dI) cy sz (vM cy a σ0))) (va_Qi (fun (z : Int32) (_ : Unit) => z = r0.1) (fun _ t => nOut (dC, dI) cy (va_A (vM cy a σ0) sz) (vM cy a r0.2) t) (va_A (vM cy a σ0) sz)) 0 0 (va_A (vM cy a σ0) sz) := by
  refine Met.ofW (cc := cX12_repeat) (maxL := 7) (ret := (some .int)) (by decide) rfl ?_
  intro p e s m args below meth c s₁ B hml hv
  obtain ⟨rfl, hsz, hP, hK, hD0, hG⟩ := hv
  have hx := B.exec
  have hb := B.bytes
  have hr := B.returns
  have hts := atoms_spec (ws := w_x_repeat) B.pre
  have hown : s.vm.findClass RX12 = some m.cls := findClass_of_methodNamed B.named
  have hlocks := B.notSynchronized
  subst hsz
  have hD := hD0.self (sz := s.heap.size)
  generalize hAe : va_A (vM cy a σ0) s.heap.size = A at hD ⊢
  have hA : ∀ q : Nat, s.heap.size ≤ q → A q := fun q h => by rw [← hAe]; exact Or.inr h
  have hS : va_S A s.heap s.heap [] := va_S.rf
  have hl := lv_entry ([.ref (a 0), .int (L0 1), .int (L0 2)]) (n := 7) (Nat.le_of_ble_eq_true rfl)
  rw [lg_entry_eq]
  generalize (lg_sl ([.ref (a 0), .int (L0 1), .int (L0 2)]) ++ List.replicate (7 - (lg_sl ([.ref (a 0), .int (L0 1), .int (L0 2)])).length) Slot.unset).toArray = ls at hl ⊢
  have hl : lv_has ls 7 [(0, .ref (a 0)), (1, .int (L0 1)), (2, .int (L0 2))] := hl
  have blk : ∀ k : Nat, (bT p l e (headSpec w_x_repeat ({ frames := 4, cells := 0, slots := 0, locals := 92 })).room s m #[.ref (a 0), .int (L0 1), .int (L0 2)] below meth c dC dI cy a A (qI dC dI cy a A below #[.ref (a 0), .int (L0 1), .int (L0 2)] s) 7 (x_repeat k 0) (fun L => [(0, .ref (a 0)), (1, .int (L 1)), (2, .int (L 2))]) 0 (fun L => [])) ∧ (bT p l e (headSpec w_x_repeat ({ frames := 4, cells := 0, slots := 0, locals := 92 })).room s m #[.ref (a 0), .int (L0 1), .int (L0 2)] below meth c dC dI cy a A (qI dC dI cy a A below #[.ref (a 0), .int (L0 1), .int (L0 2)] s) 7 (x_repeat k 1) (fun L => [(0, .ref (a 0)), (1, .int (L 1)), (2, .int (L 2))]) 15 (fun L => [])) ∧ (bT p l e (headSpec w_x_repeat ({ frames := 4, cells := 0, slots := 0, locals := 92 })).room s m #[.ref (a 0), .int (L0 1), .int (L0 2)] below meth c dC dI cy a A (qI dC dI cy a A below #[.ref (a 0), .int (L0 1), .int (L0 2)] s) 7 (x_repeat k 2) (fun L => [(0, .ref (a 0)), (1, .int (L 1)), (2, .int (L 2)), (3, .int (L 3))]) 32 (fun L => [])) ∧ (bT p l e (headSpec w_x_repeat ({ frames := 4, cells := 0, slots := 0, locals := 92 })).room s m #[.ref (a 0), .int (L0 1), .int (L0 2)] below meth c dC dI cy a A (qI dC dI cy a A below #[.ref (a 0), .int (L0 1), .int (L0 2)] s) 7 (x_repeat k 3) (fun L => [(0, .ref (a 0)), (1, .int (L 1)), (2, .int (L 2)), (3, .int (L 3))]) 40 (fun L => [.int (L 100)])) ∧ (bT p l e (headSpec w_x_repeat ({ frames := 4, cells := 0, slots := 0, locals := 92 })).room s m #[.ref (a 0), .int (L0 1), .int (L0 2)] below meth c dC dI cy a A (qI dC dI cy a A below #[.ref (a 0), .int (L0 1), .int (L0 2)] s) 7 (x_repeat k 4) (fun L => [(0, .ref (a 0)), (1, .int (L 1)), (2, .int (L 2)), (3, .int (L 3)), (4, .int (L 4))]) 62 (fun L => [])) ∧ (bT p l e (headSpec w_x_repeat ({ frames := 4, cells := 0, slots := 0, locals := 92 })).room s m #[.ref (a 0), .int (L0 1), .int (L0 2)] below meth c dC dI cy a A (qI dC dI cy a A below #[.ref (a 0), .int (L0 1), .int (L0 2)] s) 7 (x_repeat k 5) (fun L => [(0, .ref (a 0)), (1, .int (L 1)), (2, .int (L 2)), (3, .int (L 3)), (4, .int (L 4)), (5, .int (L 5))]) 75 (fun L => [])) ∧ (bT p l e (headSpec w_x_repeat ({ frames := 4, cells := 0, slots := 0, locals := 92 })).room s m #[.ref (a 0), .int (L0 1), .int (L0 2)] below meth c dC dI cy a A (qI dC dI cy a A below #[.ref (a 0), .int (L0 1), .int (L0 2)] s) 7 (x_repeat k 6) (fun L => [(0, .ref (a 0)), (1, .int (L 1)), (2, .int (L 2)), (3, .int (L 3)), (4, .int (L 4)), (5, .int (L 5))]) 104 (fun L => [])) ∧ (bT p l e (headSpec w_x_repeat ({ frames := 4, cells := 0, slots := 0, locals := 92 })).room s m #[.ref (a 0), .int (L0 1), .int (L0 2)] below meth c dC dI cy a A (qI dC dI cy a A below #[.ref (a 0), .int (L0 1), .int (L0 2)] s) 7 (x_repeat k 7) (fun L => [(0, .ref (a 0)), (1, .int (L 1)), (2, .int (L 2)), (3, .int (L 3)), (4, .int (L 4)), (5, .int (L 5))]) 110 (fun L => [])) ∧ (bT p l e (headSpec w_x_repeat ({ frames := 4, cells := 0, slots := 0, locals := 92 })).room s m #[.ref (a 0), .int (L0 1), .int (L0 2)] below meth c dC dI cy a A (qI dC dI cy a A below #[.ref (a 0), .int (L0 1), .int (L0 2)] s) 7 (x_repeat k 8) (fun L => [(0, .ref (a 0)), (1, .int (L 1)), (2, .int (L 2)), (3, .int (L 3)), (4, .int (L 4))]) 124 (fun L => [])) ∧ (bT p l e (headSpec w_x_repeat ({ frames := 4, cells := 0, slots := 0, locals := 92 })).room s m #[.ref (a 0), .int (L0 1), .int (L0 2)] below meth c dC dI cy a A (qI dC dI cy a A below #[.ref (a 0), .int (L0 1), .int (L0 2)] s) 7 (x_repeat k 9) (fun L => [(0, .ref (a 0)), (1, .int (L 1)), (2, .int (L 2)), (3, .int (L 3)), (4, .int (L 4)), (5, .int (L 5)), (6, .int (L 6))]) 133 (fun L => [])) ∧ (bT p l e (headSpec w_x_repeat ({ frames := 4, cells := 0, slots := 0, locals := 92 })).room s m #[.ref (a 0), .int (L0 1), .int (L0 2)] below meth c dC dI cy a A (qI dC dI cy a A below #[.ref (a 0), .int (L0 1), .int (L0 2)] s) 7 (x_repeat k 10) (fun L => [(0, .ref (a 0)), (1, .int (L 1)), (2, .int (L 2)), (3, .int (L 3)), (4, .int (L 4)), (5, .int (L 5)), (6, .int (L 6))]) 165 (fun L => [])) := by
    intro k
    induction k with
    | zero => exact ⟨fun L σ r h => (by cases h), fun L σ r h => (by cases h), fun L σ r h => (by cases h), fun L σ r h => (by cases h), fun L σ r h => (by cases h), fun L σ r h => (by cases h), fun L σ r h => (by cases h), fun L σ r h => (by cases h), fun L σ r h => (by cases h), fun L σ r h => (by cases h), fun L σ r h => (by cases h)⟩
    | succ k ih =>
      refine ⟨?_, ?_, ?_, ?_, ?_, ?_, ?_, ?_, ?_, ?_, ?_⟩
      · intro L σ r h H locs ls hP hD hS hl
        rw [x_repeat] at h
        refine lv_aload_n hx hb dX12_repeat_0 rfl (lv_at hl 0 rfl) ?_
        refine lv_iload_n hx hb dX12_repeat_1 rfl (lv_at hl 2 rfl) ?_
        obtain ⟨r1, hc1, h⟩ := ob_ex h
        refine nc_Vi (As := [.int (L 2)]) (rest := []) ⟨hx, hb, hml, hown, hts⟩ (c_x_signOf l dC dI cy a k (upd (fun _ => 0) 1 ((L 2))) σ r1 hc1 H.size) (cwV 1 hts g_x_repeat_signOf_463 rfl rfl rfl hd_x_signOf ⟨Nat.le_of_ble_eq_true rfl, Nat.le_of_ble_eq_true rfl⟩) hK hG hA hP hD hS rfl hl.1 rfl (Nat.le_of_ble_eq_true rfl) dX12_repeat_2 ⟨Nat.le_refl _, Nat.le_refl _⟩ (fun H locs hP hD hS => ?_)
        refine lv_if_ge (tgt := 15) hx hb dX12_repeat_5 (by decide) (fun c2 => ?_) (fun c2 => ?_)
        · rw [if_pos c2] at h
          exact ih.2.1 L r1.2 r h H locs ls hP hD hS (lv_sub hl [0, 1, 2] rfl)
        · rw [if_neg c2] at h
          refine lv_aload_n hx hb dX12_repeat_8 rfl (lv_at hl 0 rfl) ?_
          refine lv_iconst (v := 4) hx hb dX12_repeat_9 (by decide) ?_
          obtain ⟨r3, hc3, h⟩ := ob_ex h
          refine nc_Vv (As := [.int 4]) (rest := []) ⟨hx, hb, hml, hown, hts⟩ (c_x_fail l dC dI cy a k (upd (fun _ => 0) 1 4) r1.2 r3 hc3 H.size) (cwV 1 hts g_x_repeat_fail_369 rfl rfl rfl hd_x_fail ⟨Nat.le_of_ble_eq_true rfl, Nat.le_of_ble_eq_true rfl⟩) hK hG hA hP hD hS rfl hl.1 rfl (Nat.le_of_ble_eq_true rfl) dX12_repeat_10 ⟨Nat.le_refl _, Nat.le_refl _⟩ (fun H locs hP hD hS => ?_)
          refine lv_iconst (v := 0) hx hb dX12_repeat_13 (by decide) ?_
          cases h
          exact W.iret (v := 0) hx hb hr (fun t ht hW => ⟨⟨0, (), rfl, rfl, by rw [ht]; exact hP, va_K.moved hW.alike hK, hD⟩, hS.F ht⟩) hS.2.2 dX12_repeat_14
      · intro L σ r h H locs ls hP hD hS hl
        rw [x_repeat] at h
        refine lv_aload_n hx hb dX12_repeat_15 rfl (lv_at hl 0 rfl) ?_
        refine ng_53 hx hb hts in_x_repeat hown hK hP (hts _ (List.mem_cons_of_mem _ (List.mem_append_left _ (List.mem_append_left _ (List.mem_of_getElem? (i := 7) rfl))))) dX12_repeat_16 ?_
        refine lv_iload_n hx hb dX12_repeat_19 rfl (lv_at hl 1 rfl) ?_
        refine lv_iconst (v := 1) hx hb dX12_repeat_20 (by decide) ?_
        refine lv_iadd hx hb dX12_repeat_21 ?_
        obtain ⟨q1, h⟩ := nb_ite1 h
        refine nl_28 hx hb hK hP q1 dX12_repeat_22 ?_
        refine lv_istore_n (lv' := [(3, .int (σ.2.2 28 ((((L 1)) + 1)).toNatClampNeg)), (0, .ref (a 0)), (1, .int (L 1)), (2, .int (L 2))]) hx hb dX12_repeat_23 rfl hl (by decide) rfl (fun ls hl => ?_)
        refine lv_iload_n hx hb dX12_repeat_24 rfl (lv_at hl 0 rfl) ?_
        refine lv_if_ne (tgt := 32) hx hb dX12_repeat_25 (by decide) (fun c2 => ?_) (fun c2 => ?_)
        · rw [if_neg c2] at h
          exact ih.2.2.1 (upd L 3 ((σ.2.2 28 ((((L 1)) + 1)).toNatClampNeg))) σ r h H locs ls hP hD hS (lv_sub hl [1, 2, 3, 0] rfl)
        · rw [if_pos c2] at h
          refine lv_iconst (v := 0) hx hb dX12_repeat_28 (by decide) ?_
          refine lv_goto (tgt := 40) hx hb dX12_repeat_29 (by decide) ?_
          exact ih.2.2.2.1 (upd (upd L 3 ((σ.2.2 28 ((((L 1)) + 1)).toNatClampNeg))) 100 0) σ r h H locs ls hP hD hS (lv_sub hl [1, 2, 3, 0] rfl)
      · intro L σ r h H locs ls hP hD hS hl
        rw [x_repeat] at h
        refine lv_aload_n hx hb dX12_repeat_32 rfl (lv_at hl 0 rfl) ?_
        refine lv_iload_n hx hb dX12_repeat_33 rfl (lv_at hl 2 rfl) ?_
        refine lv_sipush (v := 5000) hx hb dX12_repeat_34 (by decide) ?_
        obtain ⟨r1, hc1, h⟩ := ob_ex h
        refine nc_Vi (As := [.int (L 2), .int 5000]) (rest := []) ⟨hx, hb, hml, hown, hts⟩ (c_x_intOf l dC dI cy a k (upd (upd (fun _ => 0) 1 ((L 2))) 2 5000) (fun _ => 0) σ r1 hc1 H.size) (cwV 2 hts g_x_repeat_intOf_515 rfl rfl rfl hd_x_intOf ⟨Nat.le_of_ble_eq_true rfl, Nat.le_of_ble_eq_true rfl⟩) hK hG hA hP hD hS rfl hl.1 rfl (Nat.le_of_ble_eq_true rfl) dX12_repeat_37 ⟨Nat.le_refl _, Nat.le_refl _⟩ (fun H locs hP hD hS => ?_)
        exact ih.2.2.2.1 (upd L 100 r1.1) r1.2 r h H locs ls hP hD hS (lv_sub hl [0, 1, 2, 3] rfl)
      · intro L σ r h H locs ls hP hD hS hl
        rw [x_repeat] at h
        refine lv_istore (lv' := [(4, .int (L 100)), (0, .ref (a 0)), (1, .int (L 1)), (2, .int (L 2)), (3, .int (L 3))]) hx hb dX12_repeat_40 hl (by decide) rfl (fun ls hl => ?_)
        refine lv_iload_n hx hb dX12_repeat_42 rfl (lv_at hl 4 rfl) ?_
        refine lv_i2l (v := ((L 3)).toInt64) hx hb dX12_repeat_43 rfl ?_
        refine lv_iload hx hb dX12_repeat_44 (lv_at hl 0 rfl) ?_
        refine lv_i2l (v := ((L 100)).toInt64) hx hb dX12_repeat_46 rfl ?_
        refine lv_lmul hx hb dX12_repeat_47 ?_
        refine lv_ldc2 (v := 8000) hx hb hown (hts _ (List.mem_cons_of_mem _ (List.mem_append_left _ (List.mem_append_left _ (List.mem_of_getElem? (i := 11) rfl))))) dX12_repeat_48 ?_
        refine nb_lcmp hx hb dX12_repeat_51 ?_
        refine lv_if_le (tgt := 62) hx hb dX12_repeat_52 (by decide) (fun c1 => ?_) (fun c1 => ?_)
        · rw [if_pos c1] at h
          exact ih.2.2.2.2.1 (upd L 4 ((L 100))) σ r h H locs ls hP hD hS (lv_sub hl [1, 2, 3, 4, 0] rfl)
        · rw [if_neg c1] at h
          refine lv_aload_n hx hb dX12_repeat_55 rfl (lv_at hl 1 rfl) ?_
          refine lv_iconst (v := 5) hx hb dX12_repeat_56 (by decide) ?_
          obtain ⟨r2, hc2, h⟩ := ob_ex h
          refine nc_Vv (As := [.int 5]) (rest := []) ⟨hx, hb, hml, hown, hts⟩ (c_x_fail l dC dI cy a k (upd (fun _ => 0) 1 5) σ r2 hc2 H.size) (cwV 1 hts g_x_repeat_fail_369 rfl rfl rfl hd_x_fail ⟨Nat.le_of_ble_eq_true rfl, Nat.le_of_ble_eq_true rfl⟩) hK hG hA hP hD hS rfl hl.1 rfl (Nat.le_of_ble_eq_true rfl) dX12_repeat_57 ⟨Nat.le_refl _, Nat.le_refl _⟩ (fun H locs hP hD hS => ?_)
          refine lv_iconst (v := 0) hx hb dX12_repeat_60 (by decide) ?_
          cases h
          exact W.iret (v := 0) hx hb hr (fun t ht hW => ⟨⟨0, (), rfl, rfl, by rw [ht]; exact hP, va_K.moved hW.alike hK, hD⟩, hS.F ht⟩) hS.2.2 dX12_repeat_61
      · intro L σ r h H locs ls hP hD hS hl
        rw [x_repeat] at h
        refine lv_aload_n hx hb dX12_repeat_62 rfl (lv_at hl 0 rfl) ?_
        refine ng_53 hx hb hts in_x_repeat hown hK hP (hts _ (List.mem_cons_of_mem _ (List.mem_append_left _ (List.mem_append_left _ (List.mem_of_getElem? (i := 7) rfl))))) dX12_repeat_63 ?_
        refine lv_iload_n hx hb dX12_repeat_66 rfl (lv_at hl 1 rfl) ?_
        obtain ⟨q1, h⟩ := nb_ite1 h
        refine nl_28 hx hb hK hP q1 dX12_repeat_67 ?_
        refine lv_iconst (v := 4) hx hb dX12_repeat_68 (by decide) ?_
        refine lv_icmp_ne (tgt := 124) hx hb dX12_repeat_69 (by decide) (fun c2 => ?_) (fun c2 => ?_)
        · rw [if_neg c2] at h
          exact ih.2.2.2.2.2.2.2.2.1 L σ r h H locs ls hP hD hS (lv_sub hl [0, 1, 2, 3, 4] rfl)
        · rw [if_pos c2] at h
          refine lv_iconst (v := 0) hx hb dX12_repeat_72 (by decide) ?_
          refine lv_istore (lv' := [(5, .int 0), (0, .ref (a 0)), (1, .int (L 1)), (2, .int (L 2)), (3, .int (L 3)), (4, .int (L 4))]) hx hb dX12_repeat_73 hl (by decide) rfl (fun ls hl => ?_)
          exact ih.2.2.2.2.2.1 (upd L 5 0) σ r h H locs ls hP hD hS (lv_sub hl [1, 2, 3, 4, 5, 0] rfl)
      · intro L σ r h H locs ls hP hD hS hl
        rw [x_repeat] at h
        refine lv_iload hx hb dX12_repeat_75 (lv_at hl 5 rfl) ?_
        refine lv_iload_n hx hb dX12_repeat_77 rfl (lv_at hl 3 rfl) ?_
        refine lv_iload hx hb dX12_repeat_78 (lv_at hl 4 rfl) ?_
        refine lv_imul hx hb dX12_repeat_80 ?_
        refine lv_icmp_ge (tgt := 110) hx hb dX12_repeat_81 (by decide) (fun c1 => ?_) (fun c1 => ?_)
        · rw [if_pos c1] at h
          exact ih.2.2.2.2.2.2.2.1 L σ r h H locs ls hP hD hS (lv_sub hl [0, 1, 2, 3, 4, 5] rfl)
        · rw [if_neg c1] at h
          refine lv_aload_n hx hb dX12_repeat_84 rfl (lv_at hl 0 rfl) ?_
          refine ng_99 hx hb hts in_x_repeat hown hK hP (hts _ (List.mem_cons_of_mem _ (List.mem_append_left _ (List.mem_append_left _ (List.mem_of_getElem? (i := 12) rfl))))) dX12_repeat_85 ?_
          refine lv_iload hx hb dX12_repeat_88 (lv_at hl 5 rfl) ?_
          refine lv_aload_n hx hb dX12_repeat_90 rfl (lv_at hl 0 rfl) ?_
          refine ng_53 hx hb hts in_x_repeat hown hK hP (hts _ (List.mem_cons_of_mem _ (List.mem_append_left _ (List.mem_append_left _ (List.mem_of_getElem? (i := 7) rfl))))) dX12_repeat_91 ?_
          refine lv_iload_n hx hb dX12_repeat_94 rfl (lv_at hl 1 rfl) ?_
          refine lv_iconst (v := 4) hx hb dX12_repeat_95 (by decide) ?_
          refine lv_iadd hx hb dX12_repeat_96 ?_
          refine lv_iload hx hb dX12_repeat_97 (lv_at hl 5 rfl) ?_
          refine lv_iload_n hx hb dX12_repeat_99 rfl (lv_at hl 3 rfl) ?_
          obtain ⟨q2, h⟩ := nb_ite0 h
          refine lv_irem hx hb dX12_repeat_100 q2 ?_
          refine lv_iadd hx hb dX12_repeat_101 ?_
          obtain ⟨q3, h⟩ := nb_ite1 h
          refine nl_28 hx hb hK hP q3 dX12_repeat_102 ?_
          obtain ⟨q4, h⟩ := nb_ite1 h
          refine ns_51 hx hb hK hP hD hS q4 dX12_repeat_103 (fun H locs hP hD hS => ?_)
          exact ih.2.2.2.2.2.2.1 L (σ.1, σ.2.1, updG σ.2.2 51 (upd (σ.2.2 51) ((L 5)).toNatClampNeg ((σ.2.2 28 ((((((L 1)) + 4)) + ((((L 5)) - ((L 5)) / ((L 3)) * ((L 3)))))).toNatClampNeg)))) r h H locs ls hP hD hS (lv_sub hl [0, 1, 2, 3, 4, 5] rfl)
      · intro L σ r h H locs ls hP hD hS hl
        rw [x_repeat] at h
        refine lv_iinc (v := ((L 5)) + 1) (lv' := [(5, .int (((L 5)) + 1)), (0, .ref (a 0)), (1, .int (L 1)), (2, .int (L 2)), (3, .int (L 3)), (4, .int (L 4))]) hx hb dX12_repeat_104 hl (k := 5) rfl rfl (by decide) rfl (fun ls hl => ?_)
        refine lv_goto (tgt := 75) hx hb dX12_repeat_107 (by decide) ?_
        exact ih.2.2.2.2.2.1 (upd L 5 (((L 5)) + 1)) σ r h H locs ls hP hD hS (lv_sub hl [1, 2, 3, 4, 5, 0] rfl)
      · intro L σ r h H locs ls hP hD hS hl
        rw [x_repeat] at h
        refine lv_aload_n hx hb dX12_repeat_110 rfl (lv_at hl 0 rfl) ?_
        refine lv_aload_n hx hb dX12_repeat_111 rfl (lv_at hl 0 rfl) ?_
        refine ng_99 hx hb hts in_x_repeat hown hK hP (hts _ (List.mem_cons_of_mem _ (List.mem_append_left _ (List.mem_append_left _ (List.mem_of_getElem? (i := 12) rfl))))) dX12_repeat_112 ?_
        refine lv_iconst (v := 0) hx hb dX12_repeat_115 (by decide) ?_
        refine lv_iload_n hx hb dX12_repeat_116 rfl (lv_at hl 3 rfl) ?_
        refine lv_iload hx hb dX12_repeat_117 (lv_at hl 4 rfl) ?_
        refine lv_imul hx hb dX12_repeat_119 ?_
        obtain ⟨r1, hc1, h⟩ := ob_ex h
        refine nc_Vi (As := [.ref (a 51), .int 0, .int (((L 3)) * ((L 4)))]) (rest := []) ⟨hx, hb, hml, hown, hts⟩ (c_x_stringOf__51 l dC dI cy a k (upd (upd (fun _ => 0) 2 0) 3 ((((L 3)) * ((L 4))))) σ r1 hc1 H.size) (cwV 3 hts g_x_repeat_stringOf__51_597 rfl rfl rfl hd_x_stringOf__51 ⟨Nat.le_of_ble_eq_true rfl, Nat.le_of_ble_eq_true rfl⟩) hK hG hA hP hD hS rfl hl.1 rfl (Nat.le_of_ble_eq_true rfl) dX12_repeat_120 ⟨Nat.le_refl _, Nat.le_refl _⟩ (fun H locs hP hD hS => ?_)
        cases h
        exact W.iret (v := r1.1) hx hb hr (fun t ht hW => ⟨⟨r1.1, (), rfl, rfl, by rw [ht]; exact hP, va_K.moved hW.alike hK, hD⟩, hS.F ht⟩) hS.2.2 dX12_repeat_123
      · intro L σ r h H locs ls hP hD hS hl
        rw [x_repeat] at h
        refine lv_aload_n hx hb dX12_repeat_124 rfl (lv_at hl 0 rfl) ?_
        refine ng_59 hx hb hts in_x_repeat hown hK hP (hts _ (List.mem_cons_of_mem _ (List.mem_append_left _ (List.mem_append_left _ (List.mem_of_getElem? (i := 16) rfl))))) dX12_repeat_125 ?_
        refine lv_istore (lv' := [(5, .int (σ.1 59)), (0, .ref (a 0)), (1, .int (L 1)), (2, .int (L 2)), (3, .int (L 3)), (4, .int (L 4))]) hx hb dX12_repeat_128 hl (by decide) rfl (fun ls hl => ?_)
        refine lv_iconst (v := 0) hx hb dX12_repeat_130 (by decide) ?_
        refine lv_istore (lv' := [(6, .int 0), (5, .int (σ.1 59)), (0, .ref (a 0)), (1, .int (L 1)), (2, .int (L 2)), (3, .int (L 3)), (4, .int (L 4))]) hx hb dX12_repeat_131 hl (by decide) rfl (fun ls hl => ?_)
        exact ih.2.2.2.2.2.2.2.2.2.1 (upd (upd L 5 ((σ.1 59))) 6 0) σ r h H locs ls hP hD hS (lv_sub hl [2, 3, 4, 5, 6, 1, 0] rfl)
      · intro L σ r h H locs ls hP hD hS hl
        rw [x_repeat] at h
        refine lv_iload hx hb dX12_repeat_133 (lv_at hl 6 rfl) ?_
        refine lv_iload_n hx hb dX12_repeat_135 rfl (lv_at hl 3 rfl) ?_
        refine lv_iload hx hb dX12_repeat_136 (lv_at hl 4 rfl) ?_
        refine lv_imul hx hb dX12_repeat_138 ?_
        refine lv_icmp_ge (tgt := 165) hx hb dX12_repeat_139 (by decide) (fun c1 => ?_) (fun c1 => ?_)
        · rw [if_pos c1] at h
          exact ih.2.2.2.2.2.2.2.2.2.2 L σ r h H locs ls hP hD hS (lv_sub hl [0, 1, 2, 3, 4, 5, 6] rfl)
        · rw [if_neg c1] at h
          refine lv_aload_n hx hb dX12_repeat_142 rfl (lv_at hl 0 rfl) ?_
          refine lv_aload_n hx hb dX12_repeat_143 rfl (lv_at hl 0 rfl) ?_
          refine ng_53 hx hb hts in_x_repeat hown hK hP (hts _ (List.mem_cons_of_mem _ (List.mem_append_left _ (List.mem_append_left _ (List.mem_of_getElem? (i := 7) rfl))))) dX12_repeat_144 ?_
          refine lv_iload_n hx hb dX12_repeat_147 rfl (lv_at hl 1 rfl) ?_
          refine lv_iconst (v := 4) hx hb dX12_repeat_148 (by decide) ?_
          refine lv_iadd hx hb dX12_repeat_149 ?_
          refine lv_iload hx hb dX12_repeat_150 (lv_at hl 6 rfl) ?_
          refine lv_iload_n hx hb dX12_repeat_152 rfl (lv_at hl 3 rfl) ?_
          obtain ⟨q2, h⟩ := nb_ite0 h
          refine lv_irem hx hb dX12_repeat_153 q2 ?_
          refine lv_iadd hx hb dX12_repeat_154 ?_
          obtain ⟨q3, h⟩ := nb_ite1 h
          refine nl_28 hx hb hK hP q3 dX12_repeat_155 ?_
          obtain ⟨r4, hc4, h⟩ := ob_ex h
          refine nc_Vv (As := [.int (σ.2.2 28 ((((((L 1)) + 4)) + ((((L 6)) - ((L 6)) / ((L 3)) * ((L 3)))))).toNatClampNeg)]) (rest := []) ⟨hx, hb, hml, hown, hts⟩ (c_x_push l dC dI cy a k (upd (fun _ => 0) 1 ((σ.2.2 28 ((((((L 1)) + 4)) + ((((L 6)) - ((L 6)) / ((L 3)) * ((L 3)))))).toNatClampNeg))) σ r4 hc4 H.size) (cwV 1 hts g_x_repeat_push_594 rfl rfl rfl hd_x_push ⟨Nat.le_of_ble_eq_true rfl, Nat.le_of_ble_eq_true rfl⟩) hK hG hA hP hD hS rfl hl.1 rfl (Nat.le_of_ble_eq_true rfl) dX12_repeat_156 ⟨Nat.le_refl _, Nat.le_refl _⟩ (fun H locs hP hD hS => ?_)
          refine lv_iinc (v := ((L 6)) + 1) (lv' := [(6, .int (((L 6)) + 1)), (0, .ref (a 0)), (1, .int (L 1)), (2, .int (L 2)), (3, .int (L 3)), (4, .int (L 4)), (5, .int (L 5))]) hx hb dX12_repeat_159 hl (k := 6) rfl rfl (by decide) rfl (fun ls hl => ?_)
          refine lv_goto (tgt := 133) hx hb dX12_repeat_162 (by decide) ?_
          exact ih.2.2.2.2.2.2.2.2.2.1 (upd L 6 (((L 6)) + 1)) r4.2 r h H locs ls hP hD hS (lv_sub hl [1, 2, 3, 4, 5, 6, 0] rfl)
      · intro L σ r h H locs ls hP hD hS hl
        rw [x_repeat] at h
        refine lv_aload_n hx hb dX12_repeat_165 rfl (lv_at hl 0 rfl) ?_
        refine lv_iload hx hb dX12_repeat_166 (lv_at hl 5 rfl) ?_
        obtain ⟨r1, hc1, h⟩ := ob_ex h
        refine nc_Vi (As := [.int (L 5)]) (rest := []) ⟨hx, hb, hml, hown, hts⟩ (c_x_tupleOf l dC dI cy a k (upd (fun _ => 0) 1 ((L 5))) σ r1 hc1 H.size) (cwV 1 hts g_x_repeat_tupleOf_675 rfl rfl rfl hd_x_tupleOf ⟨Nat.le_of_ble_eq_true rfl, Nat.le_of_ble_eq_true rfl⟩) hK hG hA hP hD hS rfl hl.1 rfl (Nat.le_of_ble_eq_true rfl) dX12_repeat_168 ⟨Nat.le_refl _, Nat.le_refl _⟩ (fun H locs hP hD hS => ?_)
        cases h
        exact W.iret (v := r1.1) hx hb hr (fun t ht hW => ⟨⟨r1.1, (), rfl, rfl, by rw [ht]; exact hP, va_K.moved hW.alike hK, hD⟩, hS.F ht⟩) hS.2.2 dX12_repeat_171
  exact (blk k0).1 L0 σ0 r0 h0 s.heap [] ls hP hD hS hl

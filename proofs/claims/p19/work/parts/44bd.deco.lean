/-! beginFor -/
def x_beginFor : Nat → Nat → (Nat → Int32) → MS → Option (Int32 × MS)
  | 0, _, _, _ => none
  | k + 1, 0, L, σ => if ¬ ((2 : Int32) < 0 ∨ 11514 ≤ (2 : Int32).toNatClampNeg) then (if ¬ (((3214 + ((2 * ((σ.2.2 30 (2 : Int32).toNatClampNeg)))))) < 0 ∨ 11514 ≤ ((3214 + ((2 * ((σ.2.2 30 (2 : Int32).toNatClampNeg)))))).toNatClampNeg) then (x_beginFor k 1 (upd L 2 ((3214 + ((2 * ((σ.2.2 30 (2 : Int32).toNatClampNeg))))))) (σ.1, σ.2.1, updG σ.2.2 30 (upd (σ.2.2 30) ((3214 + ((2 * ((σ.2.2 30 (2 : Int32).toNatClampNeg)))))).toNatClampNeg ((L 1))))) else none) else none
  | k + 1, 1, L, σ => if ¬ ((3 : Int32) < 0 ∨ 11514 ≤ (3 : Int32).toNatClampNeg) then (if ¬ (((((L 2)) + 1)) < 0 ∨ 11514 ≤ ((((L 2)) + 1)).toNatClampNeg) then (x_beginFor k 2 L (σ.1, σ.2.1, updG σ.2.2 30 (upd (σ.2.2 30) ((((L 2)) + 1)).toNatClampNeg ((σ.2.2 30 (3 : Int32).toNatClampNeg))))) else none) else none
  | k + 1, 2, L, σ => if ¬ ((2 : Int32) < 0 ∨ 11514 ≤ (2 : Int32).toNatClampNeg) then (if ¬ ((2 : Int32) < 0 ∨ 11514 ≤ (2 : Int32).toNatClampNeg) then (x_beginFor k 3 L (σ.1, σ.2.1, updG σ.2.2 30 (upd (σ.2.2 30) (2 : Int32).toNatClampNeg ((((σ.2.2 30 (2 : Int32).toNatClampNeg)) + 1))))) else none) else none
  | k + 1, 3, L, σ => ob (x_seek k 0 (upd (upd (fun _ => 0) 1 ((L 1))) 2 1) σ) (fun r1 => ob (x_goOnBehind k 0 (upd (fun _ => 0) 1 r1.1) r1.2) (fun r2 => some (0, r2.2)))
  | _ + 1, _ + 4, _, _ => none
def o_x_beginFor : List Cond := [.fieldLink RX12 395 "SetHouseModel" "st" "[I", .methodLink RX12 871 yX12_seek, .instanceMethod yX12_seek, .selects RX12 yX12_seek yX12_seek, .initialized RX12, .methodLink RX12 874 yX12_goOnBehind, .instanceMethod yX12_goOnBehind, .selects RX12 yX12_goOnBehind yX12_goOnBehind]
theorem o_x_beginFor_good : o_x_beginFor.all goodWord = true := by decide +kernel
def p_x_beginFor : List Cond := o_x_beginFor ++ ((.code yX12_seek cX12_seek 6 (some .int) :: p_x_seek) ++ ((.code yX12_goOnBehind cX12_goOnBehind 2 none :: p_x_goOnBehind) ++ []))
theorem p_x_beginFor_good : p_x_beginFor.all goodWord = true := nb_all2 o_x_beginFor_good (nb_all2 (nb_allc (by decide +kernel) p_x_seek_good) (nb_all2 (nb_allc (by decide +kernel) p_x_goOnBehind_good) rfl))
def w_x_beginFor : List Cond := .code yX12_beginFor cX12_beginFor 3 none :: (p_x_beginFor ++ fM)
theorem w_x_beginFor_good : w_x_beginFor.all goodWord = true := nb_allc (by decide +kernel) (nb_all2 p_x_beginFor_good fM_good)
theorem in_x_beginFor : ∀ w ∈ wsX120, w ∈ w_x_beginFor := fun _ h => List.mem_cons_of_mem _ (List.mem_append_right _ h)
theorem hd_x_beginFor : yX12_beginFor.cls = RX12 ∧ yX12_beginFor.cls ≠ "java/lang/invoke/MethodHandle" ∧ yX12_beginFor.cls ≠ "java/lang/invoke/VarHandle" ∧ (parseMethodDescriptor yX12_beginFor.desc).map (fun d => d.parameters.length) = some 1 := by decide +kernel
theorem gg_x_beginFor_goOnBehind : GoodIn w_x_beginFor w_x_goOnBehind := goodIn_sub (fun w h => (List.mem_cons.mp h).elim (fun e => (List.mem_cons_of_mem _ (List.mem_append_left _ (List.mem_append_right _ (List.mem_append_right _ (List.mem_append_left _ (List.mem_cons.mpr (Or.inl e)))))))) (fun h => (List.mem_append.mp h).elim (fun h => (List.mem_cons_of_mem _ (List.mem_append_left _ (List.mem_append_right _ (List.mem_append_right _ (List.mem_append_left _ (List.mem_cons_of_mem _ h))))))) (fun h => List.mem_cons_of_mem _ (List.mem_append_right _ h)))) w_x_goOnBehind_good
theorem g_x_beginFor_goOnBehind_874 : GoodIn w_x_beginFor (wsV RX12 874 RX12 yX12_goOnBehind w_x_goOnBehind) := goodIn_app (nb_g4 (List.mem_cons_of_mem _ (List.mem_append_left _ (List.mem_append_left _ (List.mem_of_getElem? (i := 5) rfl)))) (List.mem_cons_of_mem _ (List.mem_append_left _ (List.mem_append_left _ (List.mem_of_getElem? (i := 6) rfl)))) (List.mem_cons_of_mem _ (List.mem_append_left _ (List.mem_append_left _ (List.mem_of_getElem? (i := 7) rfl)))) (List.mem_cons_of_mem _ (List.mem_append_left _ (List.mem_append_left _ (List.mem_of_getElem? (i := 4) rfl)))) (by decide +kernel)) gg_x_beginFor_goOnBehind
theorem gg_x_beginFor_seek : GoodIn w_x_beginFor w_x_seek := goodIn_sub (fun w h => (List.mem_cons.mp h).elim (fun e => (List.mem_cons_of_mem _ (List.mem_append_left _ (List.mem_append_right _ (List.mem_append_left _ (List.mem_cons.mpr (Or.inl e))))))) (fun h => (List.mem_append.mp h).elim (fun h => (List.mem_cons_of_mem _ (List.mem_append_left _ (List.mem_append_right _ (List.mem_append_left _ (List.mem_cons_of_mem _ h)))))) (fun h => List.mem_cons_of_mem _ (List.mem_append_right _ h)))) w_x_seek_good
theorem g_x_beginFor_seek_871 : GoodIn w_x_beginFor (wsV RX12 871 RX12 yX12_seek w_x_seek) := goodIn_app (nb_g4 (List.mem_cons_of_mem _ (List.mem_append_left _ (List.mem_append_left _ (List.mem_of_getElem? (i := 1) rfl)))) (List.mem_cons_of_mem _ (List.mem_append_left _ (List.mem_append_left _ (List.mem_of_getElem? (i := 2) rfl)))) (List.mem_cons_of_mem _ (List.mem_append_left _ (List.mem_append_left _ (List.mem_of_getElem? (i := 3) rfl)))) (List.mem_cons_of_mem _ (List.mem_append_left _ (List.mem_append_left _ (List.mem_of_getElem? (i := 4) rfl)))) (by decide +kernel)) gg_x_beginFor_seek
set_option maxHeartbeats 40000000 in
set_option maxRecDepth 100000 in
theorem c_x_beginFor (l : Launch) (dC : Nat → ClassId) (dI : Nat → Nat → Nat) (cy : Nat → ClassId) (a : Nat → Nat) (k0 : Nat) (L0 : Nat → Int32) (σ0 : MS) (r0 : Int32 × MS) (h0 : x_beginFor k0 0 L0 σ0 = some r0) (sz : Nat) : Met l yX12_beginFor w_x_beginFor ({ frames := 1364, cells := 0, slots := 0, locals := 36636 }) (va_Pc [.ref (a 0), .int (L0 1)] (nIn (dC, dI) cy sz (vM cy a σ0))) (va_Qv (fun _ : Unit => True) (fun _ t => nOut (dC, dI) cy (va_A (vM cy a σ0) sz) (vM cy a r0.2) t) (va_A (vM cy a σ0) sz)) 0 0 (va_A (vM cy a σ0) sz) := by
  refine Met.ofW (cc := cX12_beginFor) (maxL := 3) (ret := none) (by decide) rfl ?_
  intro p e s m args below meth c s₁ B hml hv
  obtain ⟨rfl, hsz, hP, hK, hD0, hG⟩ := hv
  have hx := B.exec
  have hb := B.bytes
  have hr := B.returns
  have hts := atoms_spec (ws := w_x_beginFor) B.pre
  have hown : s.vm.findClass RX12 = some m.cls := findClass_of_methodNamed B.named
  have hlocks := B.notSynchronized
  subst hsz
  have hD := hD0.self (sz := s.heap.size)
  generalize hAe : va_A (vM cy a σ0) s.heap.size = A at hD ⊢
  have hA : ∀ q : Nat, s.heap.size ≤ q → A q := fun q h => by rw [← hAe]; exact Or.inr h
  have hS : va_S A s.heap s.heap [] := va_S.rf
  have hl := lv_entry ([.ref (a 0), .int (L0 1)]) (n := 3) (Nat.le_of_ble_eq_true rfl)
  rw [lg_entry_eq]
  generalize (lg_sl ([.ref (a 0), .int (L0 1)]) ++ List.replicate (3 - (lg_sl ([.ref (a 0), .int (L0 1)])).length) Slot.unset).toArray = ls at hl ⊢
  have hl : lv_has ls 3 [(0, .ref (a 0)), (1, .int (L0 1))] := hl
  have blk : ∀ k : Nat, (bT p l e (headSpec w_x_beginFor ({ frames := 1364, cells := 0, slots := 0, locals := 36636 })).room s m #[.ref (a 0), .int (L0 1)] below meth c dC dI cy a A (qV dC dI cy a A below #[.ref (a 0), .int (L0 1)] s) 3 (x_beginFor k 0) (fun L => [(0, .ref (a 0)), (1, .int (L 1))]) 0 (fun L => [])) ∧ (bT p l e (headSpec w_x_beginFor ({ frames := 1364, cells := 0, slots := 0, locals := 36636 })).room s m #[.ref (a 0), .int (L0 1)] below meth c dC dI cy a A (qV dC dI cy a A below #[.ref (a 0), .int (L0 1)] s) 3 (x_beginFor k 1) (fun L => [(0, .ref (a 0)), (1, .int (L 1)), (2, .int (L 2))]) 20 (fun L => [])) ∧ (bT p l e (headSpec w_x_beginFor ({ frames := 1364, cells := 0, slots := 0, locals := 36636 })).room s m #[.ref (a 0), .int (L0 1)] below meth c dC dI cy a A (qV dC dI cy a A below #[.ref (a 0), .int (L0 1)] s) 3 (x_beginFor k 2) (fun L => [(0, .ref (a 0)), (1, .int (L 1)), (2, .int (L 2))]) 34 (fun L => [])) ∧ (bT p l e (headSpec w_x_beginFor ({ frames := 1364, cells := 0, slots := 0, locals := 36636 })).room s m #[.ref (a 0), .int (L0 1)] below meth c dC dI cy a A (qV dC dI cy a A below #[.ref (a 0), .int (L0 1)] s) 3 (x_beginFor k 3) (fun L => [(0, .ref (a 0)), (1, .int (L 1)), (2, .int (L 2))]) 44 (fun L => [])) := by
    intro k
    induction k with
    | zero => exact ⟨fun L σ r h => (by cases h), fun L σ r h => (by cases h), fun L σ r h => (by cases h), fun L σ r h => (by cases h)⟩
    | succ k ih =>
      refine ⟨?_, ?_, ?_, ?_⟩
      · intro L σ r h H locs ls hP hD hS hl
        rw [x_beginFor] at h
        refine lv_sipush (v := 3214) hx hb dX12_beginFor_0 (by decide) ?_
        refine lv_iconst (v := 2) hx hb dX12_beginFor_3 (by decide) ?_
        refine lv_aload_n hx hb dX12_beginFor_4 rfl (lv_at hl 0 rfl) ?_
        refine ng_60 hx hb hts in_x_beginFor hown hK hP (hts _ (List.mem_cons_of_mem _ (List.mem_append_left _ (List.mem_append_left _ (List.mem_of_getElem? (i := 0) rfl))))) dX12_beginFor_5 ?_
        refine lv_iconst (v := 2) hx hb dX12_beginFor_8 (by decide) ?_
        obtain ⟨q1, h⟩ := nb_ite1 h
        refine nl_30 hx hb hK hP q1 dX12_beginFor_9 ?_
        refine lv_imul hx hb dX12_beginFor_10 ?_
        refine lv_iadd hx hb dX12_beginFor_11 ?_
        refine lv_istore_n (lv' := [(2, .int (3214 + ((2 * ((σ.2.2 30 (2 : Int32).toNatClampNeg)))))), (0, .ref (a 0)), (1, .int (L 1))]) hx hb dX12_beginFor_12 rfl hl (by decide) rfl (fun ls hl => ?_)
        refine lv_aload_n hx hb dX12_beginFor_13 rfl (lv_at hl 1 rfl) ?_
        refine ng_60 hx hb hts in_x_beginFor hown hK hP (hts _ (List.mem_cons_of_mem _ (List.mem_append_left _ (List.mem_append_left _ (List.mem_of_getElem? (i := 0) rfl))))) dX12_beginFor_14 ?_
        refine lv_iload_n hx hb dX12_beginFor_17 rfl (lv_at hl 0 rfl) ?_
        refine lv_iload_n hx hb dX12_beginFor_18 rfl (lv_at hl 2 rfl) ?_
        obtain ⟨q2, h⟩ := nb_ite1 h
        refine ns_30 hx hb hK hP hD hS q2 dX12_beginFor_19 (fun H locs hP hD hS => ?_)
        exact ih.2.1 (upd L 2 ((3214 + ((2 * ((σ.2.2 30 (2 : Int32).toNatClampNeg))))))) (σ.1, σ.2.1, updG σ.2.2 30 (upd (σ.2.2 30) ((3214 + ((2 * ((σ.2.2 30 (2 : Int32).toNatClampNeg)))))).toNatClampNeg ((L 1)))) r h H locs ls hP hD hS (lv_sub hl [1, 2, 0] rfl)
      · intro L σ r h H locs ls hP hD hS hl
        rw [x_beginFor] at h
        refine lv_aload_n hx hb dX12_beginFor_20 rfl (lv_at hl 0 rfl) ?_
        refine ng_60 hx hb hts in_x_beginFor hown hK hP (hts _ (List.mem_cons_of_mem _ (List.mem_append_left _ (List.mem_append_left _ (List.mem_of_getElem? (i := 0) rfl))))) dX12_beginFor_21 ?_
        refine lv_iload_n hx hb dX12_beginFor_24 rfl (lv_at hl 2 rfl) ?_
        refine lv_iconst (v := 1) hx hb dX12_beginFor_25 (by decide) ?_
        refine lv_iadd hx hb dX12_beginFor_26 ?_
        refine lv_aload_n hx hb dX12_beginFor_27 rfl (lv_at hl 0 rfl) ?_
        refine ng_60 hx hb hts in_x_beginFor hown hK hP (hts _ (List.mem_cons_of_mem _ (List.mem_append_left _ (List.mem_append_left _ (List.mem_of_getElem? (i := 0) rfl))))) dX12_beginFor_28 ?_
        refine lv_iconst (v := 3) hx hb dX12_beginFor_31 (by decide) ?_
        obtain ⟨q1, h⟩ := nb_ite1 h
        refine nl_30 hx hb hK hP q1 dX12_beginFor_32 ?_
        obtain ⟨q2, h⟩ := nb_ite1 h
        refine ns_30 hx hb hK hP hD hS q2 dX12_beginFor_33 (fun H locs hP hD hS => ?_)
        exact ih.2.2.1 L (σ.1, σ.2.1, updG σ.2.2 30 (upd (σ.2.2 30) ((((L 2)) + 1)).toNatClampNeg ((σ.2.2 30 (3 : Int32).toNatClampNeg)))) r h H locs ls hP hD hS (lv_sub hl [0, 1, 2] rfl)
      · intro L σ r h H locs ls hP hD hS hl
        rw [x_beginFor] at h
        refine lv_aload_n hx hb dX12_beginFor_34 rfl (lv_at hl 0 rfl) ?_
        refine ng_60 hx hb hts in_x_beginFor hown hK hP (hts _ (List.mem_cons_of_mem _ (List.mem_append_left _ (List.mem_append_left _ (List.mem_of_getElem? (i := 0) rfl))))) dX12_beginFor_35 ?_
        refine lv_iconst (v := 2) hx hb dX12_beginFor_38 (by decide) ?_
        refine lv_dup2_11 hx hb dX12_beginFor_39 rfl rfl ?_
        obtain ⟨q1, h⟩ := nb_ite1 h
        refine nl_30 hx hb hK hP q1 dX12_beginFor_40 ?_
        refine lv_iconst (v := 1) hx hb dX12_beginFor_41 (by decide) ?_
        refine lv_iadd hx hb dX12_beginFor_42 ?_
        obtain ⟨q2, h⟩ := nb_ite1 h
        refine ns_30 hx hb hK hP hD hS q2 dX12_beginFor_43 (fun H locs hP hD hS => ?_)
        exact ih.2.2.2 L (σ.1, σ.2.1, updG σ.2.2 30 (upd (σ.2.2 30) (2 : Int32).toNatClampNeg ((((σ.2.2 30 (2 : Int32).toNatClampNeg)) + 1)))) r h H locs ls hP hD hS (lv_sub hl [0, 1, 2] rfl)
      · intro L σ r h H locs ls hP hD hS hl
        rw [x_beginFor] at h
        refine lv_aload_n hx hb dX12_beginFor_44 rfl (lv_at hl 0 rfl) ?_
        refine lv_aload_n hx hb dX12_beginFor_45 rfl (lv_at hl 0 rfl) ?_
        refine lv_iload_n hx hb dX12_beginFor_46 rfl (lv_at hl 1 rfl) ?_
        refine lv_iconst (v := 1) hx hb dX12_beginFor_47 (by decide) ?_
        obtain ⟨r1, hc1, h⟩ := ob_ex h
        refine nc_Vi (As := [.int (L 1), .int 1]) (rest := [.ref (a 0)]) ⟨hx, hb, hml, hown, hts⟩ (c_x_seek l dC dI cy a k (upd (upd (fun _ => 0) 1 ((L 1))) 2 1) σ r1 hc1 H.size) (cwV 2 hts g_x_beginFor_seek_871 rfl rfl rfl hd_x_seek ⟨Nat.le_of_ble_eq_true rfl, Nat.le_of_ble_eq_true rfl⟩) hK hG hA hP hD hS rfl hl.1 rfl (Nat.le_of_ble_eq_true rfl) dX12_beginFor_48 ⟨Nat.le_refl _, Nat.le_refl _⟩ (fun H locs hP hD hS => ?_)
        obtain ⟨r2, hc2, h⟩ := ob_ex h
        refine nc_Vv (As := [.int r1.1]) (rest := []) ⟨hx, hb, hml, hown, hts⟩ (c_x_goOnBehind l dC dI cy a k (upd (fun _ => 0) 1 r1.1) r1.2 r2 hc2 H.size) (cwV 1 hts g_x_beginFor_goOnBehind_874 rfl rfl rfl hd_x_goOnBehind ⟨Nat.le_of_ble_eq_true rfl, Nat.le_of_ble_eq_true rfl⟩) hK hG hA hP hD hS rfl hl.1 rfl (Nat.le_of_ble_eq_true rfl) dX12_beginFor_51 ⟨Nat.le_refl _, Nat.le_refl _⟩ (fun H locs hP hD hS => ?_)
        cases h
        exact W.vret hx hb hr (fun t ht hW => ⟨⟨(), rfl, trivial, by rw [ht]; exact hP, va_K.moved hW.alike hK, hD⟩, hS.F ht⟩) hS.2.2 dX12_beginFor_54
  exact (blk k0).1 L0 σ0 r0 h0 s.heap [] ls hP hD hS hl
/-! loopOf -/
def x_loopOf : Nat → Nat → (Nat → Int32) → MS → Option (Int32 × MS)
  | 0, _, _, _ => none
  | k + 1, 0, L, σ => if ¬ (((L 1)) < 0 ∨ 70000 ≤ ((L 1)).toNatClampNeg) then (if ¬ (((σ.2.2 8 ((L 1)).toNatClampNeg)) < 0 ∨ 401 ≤ ((σ.2.2 8 ((L 1)).toNatClampNeg)).toNatClampNeg) then (x_loopOf k 1 (upd L 2 ((σ.2.2 10 ((σ.2.2 8 ((L 1)).toNatClampNeg)).toNatClampNeg))) σ) else none) else none
  | k + 1, 1, L, σ => if ¬ (((L 2)) < 0 ∨ 70000 ≤ ((L 2)).toNatClampNeg) then (if ((σ.2.2 4 ((L 2)).toNatClampNeg)) = 47 then (x_loopOf k 2 L σ) else (if ¬ (((L 2)) < 0 ∨ 70000 ≤ ((L 2)).toNatClampNeg) then (if ((σ.2.2 4 ((L 2)).toNatClampNeg)) = 48 then (x_loopOf k 2 L σ) else (if ¬ (((L 2)) < 0 ∨ 70000 ≤ ((L 2)).toNatClampNeg) then (if ¬ (((σ.2.2 8 ((L 2)).toNatClampNeg)) < 0 ∨ 401 ≤ ((σ.2.2 8 ((L 2)).toNatClampNeg)).toNatClampNeg) then (x_loopOf k 1 (upd L 2 ((σ.2.2 10 ((σ.2.2 8 ((L 2)).toNatClampNeg)).toNatClampNeg))) σ) else none) else none)) else none)) else none
  | k + 1, 2, L, σ => some ((L 2), σ)
  | _ + 1, _ + 3, _, _ => none
def o_x_loopOf : List Cond := [.fieldLink RX12 291 "SetHouseModel" "up" "[I", .fieldLink RX12 95 "SetHouseModel" "x4" "[I", .fieldLink RX12 83 "SetHouseModel" "op" "[I"]
theorem o_x_loopOf_good : o_x_loopOf.all goodWord = true := by decide +kernel
def p_x_loopOf : List Cond := o_x_loopOf ++ []
theorem p_x_loopOf_good : p_x_loopOf.all goodWord = true := nb_all2 o_x_loopOf_good rfl
def w_x_loopOf : List Cond := .code yX12_loopOf cX12_loopOf 3 (some .int) :: (p_x_loopOf ++ fM)
theorem w_x_loopOf_good : w_x_loopOf.all goodWord = true := nb_allc (by decide +kernel) (nb_all2 p_x_loopOf_good fM_good)
theorem in_x_loopOf : ∀ w ∈ wsX120, w ∈ w_x_loopOf := fun _ h => List.mem_cons_of_mem _ (List.mem_append_right _ h)
theorem hd_x_loopOf : yX12_loopOf.cls = RX12 ∧ yX12_loopOf.cls ≠ "java/lang/invoke/MethodHandle" ∧ yX12_loopOf.cls ≠ "java/lang/invoke/VarHandle" ∧ (parseMethodDescriptor yX12_loopOf.desc).map (fun d => d.parameters.length) = some 1 := by decide +kernel
set_option maxHeartbeats 40000000 in
set_option maxRecDepth 100000 in
theorem c_x_loopOf (l : Launch) (dC : Nat → ClassId) (dI : Nat → Nat → Nat) (cy : Nat → ClassId) (a : Nat → Nat) (k0 : Nat) (L0 : Nat → Int32) (σ0 : MS) (r0 : Int32 × MS) (h0 : x_loopOf k0 0 L0 σ0 = some r0) (sz : Nat) : Met l yX12_loopOf w_x_loopOf ({ frames := 0, cells := 0, slots := 0, locals := 0 }) (va_Pc [.ref (a 0), .int (L0 1)] (nIn (dC, dI) cy sz (vM cy a σ0))) (va_Qi (fun (z : Int32) (_ : Unit) => z = r0.1) (fun _ t => nOut (dC, dI) cy (va_A (vM cy a σ0) sz) (vM cy a r0.2) t) (va_A (vM cy a σ0) sz)) 0 0 (va_A (vM cy a σ0) sz) := by
  refine Met.ofW (cc := cX12_loopOf) (maxL := 3) (ret := (some .int)) (by decide) rfl ?_
  intro p e s m args below meth c s₁ B hml hv
  obtain ⟨rfl, hsz, hP, hK, hD0, hG⟩ := hv
  have hx := B.exec
  have hb := B.bytes
  have hr := B.returns
  have hts := atoms_spec (ws := w_x_loopOf) B.pre
  have hown : s.vm.findClass RX12 = some m.cls := findClass_of_methodNamed B.named
  have hlocks := B.notSynchronized
  subst hsz
  have hD := hD0.self (sz := s.heap.size)
  generalize hAe : va_A (vM cy a σ0) s.heap.size = A at hD ⊢
  have hA : ∀ q : Nat, s.heap.size ≤ q → A q := fun q h => by rw [← hAe]; exact Or.inr h
  have hS : va_S A s.heap s.heap [] := va_S.rf
  have hl := lv_entry ([.ref (a 0), .int (L0 1)]) (n := 3) (Nat.le_of_ble_eq_true rfl)
  rw [lg_entry_eq]
  generalize (lg_sl ([.ref (a 0), .int (L0 1)]) ++ List.replicate (3 - (lg_sl ([.ref (a 0), .int (L0 1)])).length) Slot.unset).toArray = ls at hl ⊢
  have hl : lv_has ls 3 [(0, .ref (a 0)), (1, .int (L0 1))] := hl
  have blk : ∀ k : Nat, (bT p l e (headSpec w_x_loopOf ({ frames := 0, cells := 0, slots := 0, locals := 0 })).room s m #[.ref (a 0), .int (L0 1)] below meth c dC dI cy a A (qI dC dI cy a A below #[.ref (a 0), .int (L0 1)] s) 3 (x_loopOf k 0) (fun L => [(0, .ref (a 0)), (1, .int (L 1))]) 0 (fun L => [])) ∧ (bT p l e (headSpec w_x_loopOf ({ frames := 0, cells := 0, slots := 0, locals := 0 })).room s m #[.ref (a 0), .int (L0 1)] below meth c dC dI cy a A (qI dC dI cy a A below #[.ref (a 0), .int (L0 1)] s) 3 (x_loopOf k 1) (fun L => [(0, .ref (a 0)), (1, .int (L 1)), (2, .int (L 2))]) 12 (fun L => [])) ∧ (bT p l e (headSpec w_x_loopOf ({ frames := 0, cells := 0, slots := 0, locals := 0 })).room s m #[.ref (a 0), .int (L0 1)] below meth c dC dI cy a A (qI dC dI cy a A below #[.ref (a 0), .int (L0 1)] s) 3 (x_loopOf k 2) (fun L => [(0, .ref (a 0)), (1, .int (L 1)), (2, .int (L 2))]) 49 (fun L => [])) := by
    intro k
    induction k with
    | zero => exact ⟨fun L σ r h => (by cases h), fun L σ r h => (by cases h), fun L σ r h => (by cases h)⟩
    | succ k ih =>
      refine ⟨?_, ?_, ?_⟩
      · intro L σ r h H locs ls hP hD hS hl
        rw [x_loopOf] at h
        refine lv_aload_n hx hb dX12_loopOf_0 rfl (lv_at hl 0 rfl) ?_
        refine ng_20 hx hb hts in_x_loopOf hown hK hP (hts _ (List.mem_cons_of_mem _ (List.mem_append_left _ (List.mem_append_left _ (List.mem_of_getElem? (i := 0) rfl))))) dX12_loopOf_1 ?_
        refine lv_aload_n hx hb dX12_loopOf_4 rfl (lv_at hl 0 rfl) ?_
        refine ng_18 hx hb hts in_x_loopOf hown hK hP (hts _ (List.mem_cons_of_mem _ (List.mem_append_left _ (List.mem_append_left _ (List.mem_of_getElem? (i := 1) rfl))))) dX12_loopOf_5 ?_
        refine lv_iload_n hx hb dX12_loopOf_8 rfl (lv_at hl 1 rfl) ?_
        obtain ⟨q1, h⟩ := nb_ite1 h
        refine nl_8 hx hb hK hP q1 dX12_loopOf_9 ?_
        obtain ⟨q2, h⟩ := nb_ite1 h
        refine nl_10 hx hb hK hP q2 dX12_loopOf_10 ?_
        refine lv_istore_n (lv' := [(2, .int (σ.2.2 10 ((σ.2.2 8 ((L 1)).toNatClampNeg)).toNatClampNeg)), (0, .ref (a 0)), (1, .int (L 1))]) hx hb dX12_loopOf_11 rfl hl (by decide) rfl (fun ls hl => ?_)
        exact ih.2.1 (upd L 2 ((σ.2.2 10 ((σ.2.2 8 ((L 1)).toNatClampNeg)).toNatClampNeg))) σ r h H locs ls hP hD hS (lv_sub hl [1, 2, 0] rfl)
      · intro L σ r h H locs ls hP hD hS hl
        rw [x_loopOf] at h
        refine lv_aload_n hx hb dX12_loopOf_12 rfl (lv_at hl 0 rfl) ?_
        refine ng_14 hx hb hts in_x_loopOf hown hK hP (hts _ (List.mem_cons_of_mem _ (List.mem_append_left _ (List.mem_append_left _ (List.mem_of_getElem? (i := 2) rfl))))) dX12_loopOf_13 ?_
        refine lv_iload_n hx hb dX12_loopOf_16 rfl (lv_at hl 2 rfl) ?_
        obtain ⟨q1, h⟩ := nb_ite1 h
        refine nl_4 hx hb hK hP q1 dX12_loopOf_17 ?_
        refine lv_bipush (v := 47) hx hb dX12_loopOf_18 (by decide) ?_
        refine lv_icmp_eq (tgt := 49) hx hb dX12_loopOf_20 (by decide) (fun c2 => ?_) (fun c2 => ?_)
        · rw [if_pos c2] at h
          exact ih.2.2 L σ r h H locs ls hP hD hS (lv_sub hl [0, 1, 2] rfl)
        · rw [if_neg c2] at h
          refine lv_aload_n hx hb dX12_loopOf_23 rfl (lv_at hl 0 rfl) ?_
          refine ng_14 hx hb hts in_x_loopOf hown hK hP (hts _ (List.mem_cons_of_mem _ (List.mem_append_left _ (List.mem_append_left _ (List.mem_of_getElem? (i := 2) rfl))))) dX12_loopOf_24 ?_
          refine lv_iload_n hx hb dX12_loopOf_27 rfl (lv_at hl 2 rfl) ?_
          obtain ⟨q3, h⟩ := nb_ite1 h
          refine nl_4 hx hb hK hP q3 dX12_loopOf_28 ?_
          refine lv_bipush (v := 48) hx hb dX12_loopOf_29 (by decide) ?_
          refine lv_icmp_eq (tgt := 49) hx hb dX12_loopOf_31 (by decide) (fun c4 => ?_) (fun c4 => ?_)
          · rw [if_pos c4] at h
            exact ih.2.2 L σ r h H locs ls hP hD hS (lv_sub hl [0, 1, 2] rfl)
          · rw [if_neg c4] at h
            refine lv_aload_n hx hb dX12_loopOf_34 rfl (lv_at hl 0 rfl) ?_
            refine ng_20 hx hb hts in_x_loopOf hown hK hP (hts _ (List.mem_cons_of_mem _ (List.mem_append_left _ (List.mem_append_left _ (List.mem_of_getElem? (i := 0) rfl))))) dX12_loopOf_35 ?_
            refine lv_aload_n hx hb dX12_loopOf_38 rfl (lv_at hl 0 rfl) ?_
            refine ng_18 hx hb hts in_x_loopOf hown hK hP (hts _ (List.mem_cons_of_mem _ (List.mem_append_left _ (List.mem_append_left _ (List.mem_of_getElem? (i := 1) rfl))))) dX12_loopOf_39 ?_
            refine lv_iload_n hx hb dX12_loopOf_42 rfl (lv_at hl 2 rfl) ?_
            obtain ⟨q5, h⟩ := nb_ite1 h
            refine nl_8 hx hb hK hP q5 dX12_loopOf_43 ?_
            obtain ⟨q6, h⟩ := nb_ite1 h
            refine nl_10 hx hb hK hP q6 dX12_loopOf_44 ?_
            refine lv_istore_n (lv' := [(2, .int (σ.2.2 10 ((σ.2.2 8 ((L 2)).toNatClampNeg)).toNatClampNeg)), (0, .ref (a 0)), (1, .int (L 1))]) hx hb dX12_loopOf_45 rfl hl (by decide) rfl (fun ls hl => ?_)
            refine lv_goto (tgt := 12) hx hb dX12_loopOf_46 (by decide) ?_
            exact ih.2.1 (upd L 2 ((σ.2.2 10 ((σ.2.2 8 ((L 2)).toNatClampNeg)).toNatClampNeg))) σ r h H locs ls hP hD hS (lv_sub hl [1, 2, 0] rfl)
      · intro L σ r h H locs ls hP hD hS hl
        rw [x_loopOf] at h
        refine lv_iload_n hx hb dX12_loopOf_49 rfl (lv_at hl 2 rfl) ?_
        cases h
        exact W.iret (v := (L 2)) hx hb hr (fun t ht hW => ⟨⟨(L 2), (), rfl, rfl, by rw [ht]; exact hP, va_K.moved hW.alike hK, hD⟩, hS.F ht⟩) hS.2.2 dX12_loopOf_50
  exact (blk k0).1 L0 σ0 r0 h0 s.heap [] ls hP hD hS hl
/-! beginCall -/
def x_beginCall : Nat → Nat → (Nat → Int32) → MS → Option (Int32 × MS)
  | 0, _, _, _ => none
  | k + 1, 0, L, σ => if ¬ (((L 1)) < 0 ∨ 70000 ≤ ((L 1)).toNatClampNeg) then (if ¬ (((L 1)) < 0 ∨ 70000 ≤ ((L 1)).toNatClampNeg) then (x_beginCall k 1 (upd (upd (upd (upd L 2 ((σ.2.2 7 ((L 1)).toNatClampNeg))) 3 ((σ.1 59))) 4 0) 5 ((σ.2.2 6 ((L 1)).toNatClampNeg))) σ) else none) else none
  | k + 1, 1, L, σ => if ((L 5)) = ((-1)) then (x_beginCall k 4 L σ) else (if ¬ (((((8 * ((L 2)))) + ((L 4)))) < 0 ∨ 328 ≤ ((((8 * ((L 2)))) + ((L 4)))).toNatClampNeg) then (if ((σ.2.2 19 ((((8 * ((L 2)))) + ((L 4)))).toNatClampNeg)) = 1 then (x_beginCall k 2 L σ) else (ob (x_eval k 0 (upd (fun _ => 0) 1 ((L 5))) σ) (fun r4 => x_beginCall k 3 L r4.2))) else none)
  | k + 1, 2, L, σ => ob (x_push k 0 (upd (fun _ => 0) 1 0) σ) (fun r1 => x_beginCall k 3 L r1.2)
  | k + 1, 3, L, σ => if ¬ (((L 5)) < 0 ∨ 70000 ≤ ((L 5)).toNatClampNeg) then (x_beginCall k 1 (upd (upd L 4 (((L 4)) + 1)) 5 ((σ.2.2 9 ((L 5)).toNatClampNeg))) σ) else none
  | k + 1, 4, L, σ => if ((σ.1 56)) ≤ 0 then (x_beginCall k 5 L σ) else (some (0, σ))
  | k + 1, 5, L, σ => if ¬ ((1 : Int32) < 0 ∨ 11514 ≤ (1 : Int32).toNatClampNeg) then (if ((σ.2.2 30 (1 : Int32).toNatClampNeg)) = 50 then (ob (x_fail k 0 (upd (fun _ => 0) 1 7) σ) (fun r3 => some (0, r3.2))) else (x_beginCall k 6 L σ)) else none
  | k + 1, 6, L, σ => x_beginCall k 7 (upd (upd L 5 0) 6 0) σ
  | k + 1, 7, L, σ => if ¬ (((1 + ((L 2)))) < 0 ∨ 43 ≤ ((1 + ((L 2)))).toNatClampNeg) then (if ((σ.2.2 21 ((1 + ((L 2)))).toNatClampNeg)) ≤ ((L 6)) then (x_beginCall k 11 L σ) else (if ¬ (((((60 * ((1 + ((L 2)))))) + ((L 6)))) < 0 ∨ 2580 ≤ ((((60 * ((1 + ((L 2)))))) + ((L 6)))).toNatClampNeg) then (if ((σ.2.2 20 ((((60 * ((1 + ((L 2)))))) + ((L 6)))).toNatClampNeg)) = 0 then (x_beginCall k 9 (upd L 100 ((L 5))) σ) else (if ¬ (((L 2)) < 0 ∨ 41 ≤ ((L 2)).toNatClampNeg) then (if ((σ.2.2 18 ((L 2)).toNatClampNeg)) ≤ ((L 6)) then (x_beginCall k 8 (upd L 100 ((L 5))) σ) else (if ¬ (((((L 3)) + ((L 6)))) < 0 ∨ 185000 ≤ ((((L 3)) + ((L 6)))).toNatClampNeg) then (ob (x_size k 0 (upd (fun _ => 0) 1 ((σ.2.2 29 ((((L 3)) + ((L 6)))).toNatClampNeg))) σ) (fun r8 => x_beginCall k 10 (upd (upd L 100 r8.1) 101 ((L 5))) r8.2)) else none)) else none)) else none)) else none
  | k + 1, 8, L, σ => x_beginCall k 10 (upd (upd L 100 1) 101 ((L 100))) σ
  | k + 1, 9, L, σ => x_beginCall k 10 (upd (upd L 100 0) 101 ((L 100))) σ
  | k + 1, 10, L, σ => x_beginCall k 7 (upd (upd L 5 ((((L 101)) + ((L 100))))) 6 (((L 6)) + 1)) σ
  | k + 1, 11, L, σ => if ((((((σ.1 64)) + ((σ.1 65)))) + ((L 5)))) ≤ 40000 then (x_beginCall k 12 L σ) else (ob (x_fail k 0 (upd (fun _ => 0) 1 6) σ) (fun r2 => some (0, r2.2)))
  | k + 1, 12, L, σ => x_beginCall k 13 L (upd σ.1 64 ((((σ.1 64)) + ((L 5)))), σ.2.1, σ.2.2)
  | k + 1, 13, L, σ => if ¬ ((1 : Int32) < 0 ∨ 11514 ≤ (1 : Int32).toNatClampNeg) then (if ¬ (((64 + ((3 * ((σ.2.2 30 (1 : Int32).toNatClampNeg)))))) < 0 ∨ 11514 ≤ ((64 + ((3 * ((σ.2.2 30 (1 : Int32).toNatClampNeg)))))).toNatClampNeg) then (x_beginCall k 14 (upd L 6 ((σ.2.2 30 (1 : Int32).toNatClampNeg))) (σ.1, σ.2.1, updG σ.2.2 30 (upd (σ.2.2 30) ((64 + ((3 * ((σ.2.2 30 (1 : Int32).toNatClampNeg)))))).toNatClampNeg ((L 1))))) else none) else none
  | k + 1, 14, L, σ => if ¬ (((((64 + ((3 * ((L 6)))))) + 1)) < 0 ∨ 11514 ≤ ((((64 + ((3 * ((L 6)))))) + 1)).toNatClampNeg) then (x_beginCall k 15 L (σ.1, σ.2.1, updG σ.2.2 30 (upd (σ.2.2 30) ((((64 + ((3 * ((L 6)))))) + 1)).toNatClampNeg ((L 2))))) else none
  | k + 1, 15, L, σ => if ¬ ((2 : Int32) < 0 ∨ 11514 ≤ (2 : Int32).toNatClampNeg) then (if ¬ (((((64 + ((3 * ((L 6)))))) + 2)) < 0 ∨ 11514 ≤ ((((64 + ((3 * ((L 6)))))) + 2)).toNatClampNeg) then (x_beginCall k 16 L (σ.1, σ.2.1, updG σ.2.2 30 (upd (σ.2.2 30) ((((64 + ((3 * ((L 6)))))) + 2)).toNatClampNeg ((σ.2.2 30 (2 : Int32).toNatClampNeg))))) else none) else none
  | k + 1, 16, L, σ => x_beginCall k 17 (upd L 7 0) σ
  | k + 1, 17, L, σ => if 60 ≤ ((L 7)) then (x_beginCall k 21 L σ) else (if ¬ (((L 2)) < 0 ∨ 41 ≤ ((L 2)).toNatClampNeg) then (if ((σ.2.2 18 ((L 2)).toNatClampNeg)) ≤ ((L 7)) then (x_beginCall k 18 (upd L 100 ((((214 + ((60 * ((L 6)))))) + ((L 7))))) σ) else (if ¬ (((((L 3)) + ((L 7)))) < 0 ∨ 185000 ≤ ((((L 3)) + ((L 7)))).toNatClampNeg) then (x_beginCall k 19 (upd (upd L 100 ((σ.2.2 29 ((((L 3)) + ((L 7)))).toNatClampNeg))) 101 ((((214 + ((60 * ((L 6)))))) + ((L 7))))) σ) else none)) else none)
  | k + 1, 18, L, σ => x_beginCall k 19 (upd (upd L 100 0) 101 ((L 100))) σ
  | k + 1, 19, L, σ => if ¬ (((L 101)) < 0 ∨ 11514 ≤ ((L 101)).toNatClampNeg) then (x_beginCall k 20 L (σ.1, σ.2.1, updG σ.2.2 30 (upd (σ.2.2 30) ((L 101)).toNatClampNeg ((L 100))))) else none
  | k + 1, 20, L, σ => x_beginCall k 17 (upd L 7 (((L 7)) + 1)) σ
  | k + 1, 21, L, σ => x_beginCall k 22 L (upd σ.1 59 ((L 3)), σ.2.1, σ.2.2)
  | k + 1, 22, L, σ => if ¬ ((1 : Int32) < 0 ∨ 11514 ≤ (1 : Int32).toNatClampNeg) then (if ¬ ((1 : Int32) < 0 ∨ 11514 ≤ (1 : Int32).toNatClampNeg) then (x_beginCall k 23 L (σ.1, σ.2.1, updG σ.2.2 30 (upd (σ.2.2 30) (1 : Int32).toNatClampNeg ((((σ.2.2 30 (1 : Int32).toNatClampNeg)) + 1))))) else none) else none
  | k + 1, 23, L, σ => if ¬ (((L 2)) < 0 ∨ 41 ≤ ((L 2)).toNatClampNeg) then (ob (x_enter k 0 (upd (upd (fun _ => 0) 1 ((σ.2.2 17 ((L 2)).toNatClampNeg))) 2 ((-1))) σ) (fun r2 => some (0, r2.2))) else none
  | _ + 1, _ + 24, _, _ => none
def o_x_beginCall : List Cond := [.fieldLink RX12 92 "SetHouseModel" "x3" "[I", .fieldLink RX12 385 "SetHouseModel" "top" "I", .fieldLink RX12 89 "SetHouseModel" "x2" "[I", .fieldLink RX12 330 "SetHouseModel" "modes" "[I", .methodLink RX12 566 yX12_eval, .instanceMethod yX12_eval, .selects RX12 yX12_eval yX12_eval, .initialized RX12, .methodLink RX12 594 yX12_push, .instanceMethod yX12_push, .selects RX12 yX12_push yX12_push, .fieldLink RX12 98 "SetHouseModel" "next" "[I", .fieldLink RX12 362 "SetHouseModel" "err" "I", .fieldLink RX12 395 "SetHouseModel" "st" "[I", .methodLink RX12 369 yX12_fail, .instanceMethod yX12_fail, .selects RX12 yX12_fail yX12_fail, .fieldLink RX12 157 "SetHouseModel" "held" "[I", .fieldLink RX12 160 "SetHouseModel" "counts" "[Z", .fieldLink RX12 239 "SetHouseModel" "params" "[I", .fieldLink RX12 382 "SetHouseModel" "pile" "[I", .methodLink RX12 432 yX12_size, .instanceMethod yX12_size, .selects RX12 yX12_size yX12_size, .fieldLink RX12 852 "SetHouseModel" "total" "I", .fieldLink RX12 855 "SetHouseModel" "pointsTotal" "I", .constant RX12 858 (40000), .fieldLink RX12 359 "SetHouseModel" "first" "[I", .methodLink RX12 895 yX12_enter, .instanceMethod yX12_enter, .selects RX12 yX12_enter yX12_enter]
theorem o_x_beginCall_good : o_x_beginCall.all goodWord = true := by decide +kernel
def p_x_beginCall : List Cond := o_x_beginCall ++ ((.code yX12_eval cX12_eval 3 none :: p_x_GV) ++ ((.code yX12_push cX12_push 2 none :: p_x_push) ++ ((.code yX12_fail cX12_fail 2 none :: p_x_fail) ++ ((.code yX12_size cX12_size 2 (some .int) :: p_x_size) ++ ((.code yX12_enter cX12_enter 3 none :: p_x_enter) ++ [])))))
theorem p_x_beginCall_good : p_x_beginCall.all goodWord = true := nb_all2 o_x_beginCall_good (nb_all2 (nb_allc (by decide +kernel) p_x_GV_good) (nb_all2 (nb_allc (by decide +kernel) p_x_push_good) (nb_all2 (nb_allc (by decide +kernel) p_x_fail_good) (nb_all2 (nb_allc (by decide +kernel) p_x_size_good) (nb_all2 (nb_allc (by decide +kernel) p_x_enter_good) rfl)))))
def w_x_beginCall : List Cond := .code yX12_beginCall cX12_beginCall 8 none :: (p_x_beginCall ++ fM)
theorem w_x_beginCall_good : w_x_beginCall.all goodWord = true := nb_allc (by decide +kernel) (nb_all2 p_x_beginCall_good fM_good)
theorem in_x_beginCall : ∀ w ∈ wsX120, w ∈ w_x_beginCall := fun _ h => List.mem_cons_of_mem _ (List.mem_append_right _ h)
theorem hd_x_beginCall : yX12_beginCall.cls = RX12 ∧ yX12_beginCall.cls ≠ "java/lang/invoke/MethodHandle" ∧ yX12_beginCall.cls ≠ "java/lang/invoke/VarHandle" ∧ (parseMethodDescriptor yX12_beginCall.desc).map (fun d => d.parameters.length) = some 1 := by decide +kernel
theorem gg_x_beginCall_enter : GoodIn w_x_beginCall w_x_enter := goodIn_sub (fun w h => (List.mem_cons.mp h).elim (fun e => (List.mem_cons_of_mem _ (List.mem_append_left _ (List.mem_append_right _ (List.mem_append_right _ (List.mem_append_right _ (List.mem_append_right _ (List.mem_append_right _ (List.mem_append_left _ (List.mem_cons.mpr (Or.inl e))))))))))) (fun h => (List.mem_append.mp h).elim (fun h => (List.mem_cons_of_mem _ (List.mem_append_left _ (List.mem_append_right _ (List.mem_append_right _ (List.mem_append_right _ (List.mem_append_right _ (List.mem_append_right _ (List.mem_append_left _ (List.mem_cons_of_mem _ h)))))))))) (fun h => List.mem_cons_of_mem _ (List.mem_append_right _ h)))) w_x_enter_good
theorem g_x_beginCall_enter_895 : GoodIn w_x_beginCall (wsV RX12 895 RX12 yX12_enter w_x_enter) := goodIn_app (nb_g4 (List.mem_cons_of_mem _ (List.mem_append_left _ (List.mem_append_left _ (List.mem_of_getElem? (i := 28) rfl)))) (List.mem_cons_of_mem _ (List.mem_append_left _ (List.mem_append_left _ (List.mem_of_getElem? (i := 29) rfl)))) (List.mem_cons_of_mem _ (List.mem_append_left _ (List.mem_append_left _ (List.mem_of_getElem? (i := 30) rfl)))) (List.mem_cons_of_mem _ (List.mem_append_left _ (List.mem_append_left _ (List.mem_of_getElem? (i := 7) rfl)))) (by decide +kernel)) gg_x_beginCall_enter
theorem gg_x_beginCall_eval : GoodIn w_x_beginCall w_x_eval := goodIn_sub (fun w h => (List.mem_cons.mp h).elim (fun e => (List.mem_cons_of_mem _ (List.mem_append_left _ (List.mem_append_right _ (List.mem_append_left _ (List.mem_cons.mpr (Or.inl e))))))) (fun h => (List.mem_append.mp h).elim (fun h => (List.mem_cons_of_mem _ (List.mem_append_left _ (List.mem_append_right _ (List.mem_append_left _ (List.mem_cons_of_mem _ h)))))) (fun h => List.mem_cons_of_mem _ (List.mem_append_right _ h)))) w_x_eval_good
theorem g_x_beginCall_eval_566 : GoodIn w_x_beginCall (wsV RX12 566 RX12 yX12_eval w_x_eval) := goodIn_app (nb_g4 (List.mem_cons_of_mem _ (List.mem_append_left _ (List.mem_append_left _ (List.mem_of_getElem? (i := 4) rfl)))) (List.mem_cons_of_mem _ (List.mem_append_left _ (List.mem_append_left _ (List.mem_of_getElem? (i := 5) rfl)))) (List.mem_cons_of_mem _ (List.mem_append_left _ (List.mem_append_left _ (List.mem_of_getElem? (i := 6) rfl)))) (List.mem_cons_of_mem _ (List.mem_append_left _ (List.mem_append_left _ (List.mem_of_getElem? (i := 7) rfl)))) (by decide +kernel)) gg_x_beginCall_eval
theorem gg_x_beginCall_fail : GoodIn w_x_beginCall w_x_fail := goodIn_sub (fun w h => (List.mem_cons.mp h).elim (fun e => (List.mem_cons_of_mem _ (List.mem_append_left _ (List.mem_append_right _ (List.mem_append_right _ (List.mem_append_right _ (List.mem_append_left _ (List.mem_cons.mpr (Or.inl e))))))))) (fun h => (List.mem_append.mp h).elim (fun h => (List.mem_cons_of_mem _ (List.mem_append_left _ (List.mem_append_right _ (List.mem_append_right _ (List.mem_append_right _ (List.mem_append_left _ (List.mem_cons_of_mem _ h)))))))) (fun h => List.mem_cons_of_mem _ (List.mem_append_right _ h)))) w_x_fail_good
theorem g_x_beginCall_fail_369 : GoodIn w_x_beginCall (wsV RX12 369 RX12 yX12_fail w_x_fail) := goodIn_app (nb_g4 (List.mem_cons_of_mem _ (List.mem_append_left _ (List.mem_append_left _ (List.mem_of_getElem? (i := 14) rfl)))) (List.mem_cons_of_mem _ (List.mem_append_left _ (List.mem_append_left _ (List.mem_of_getElem? (i := 15) rfl)))) (List.mem_cons_of_mem _ (List.mem_append_left _ (List.mem_append_left _ (List.mem_of_getElem? (i := 16) rfl)))) (List.mem_cons_of_mem _ (List.mem_append_left _ (List.mem_append_left _ (List.mem_of_getElem? (i := 7) rfl)))) (by decide +kernel)) gg_x_beginCall_fail
theorem gg_x_beginCall_push : GoodIn w_x_beginCall w_x_push := goodIn_sub (fun w h => (List.mem_cons.mp h).elim (fun e => (List.mem_cons_of_mem _ (List.mem_append_left _ (List.mem_append_right _ (List.mem_append_right _ (List.mem_append_left _ (List.mem_cons.mpr (Or.inl e)))))))) (fun h => (List.mem_append.mp h).elim (fun h => (List.mem_cons_of_mem _ (List.mem_append_left _ (List.mem_append_right _ (List.mem_append_right _ (List.mem_append_left _ (List.mem_cons_of_mem _ h))))))) (fun h => List.mem_cons_of_mem _ (List.mem_append_right _ h)))) w_x_push_good
theorem g_x_beginCall_push_594 : GoodIn w_x_beginCall (wsV RX12 594 RX12 yX12_push w_x_push) := goodIn_app (nb_g4 (List.mem_cons_of_mem _ (List.mem_append_left _ (List.mem_append_left _ (List.mem_of_getElem? (i := 8) rfl)))) (List.mem_cons_of_mem _ (List.mem_append_left _ (List.mem_append_left _ (List.mem_of_getElem? (i := 9) rfl)))) (List.mem_cons_of_mem _ (List.mem_append_left _ (List.mem_append_left _ (List.mem_of_getElem? (i := 10) rfl)))) (List.mem_cons_of_mem _ (List.mem_append_left _ (List.mem_append_left _ (List.mem_of_getElem? (i := 7) rfl)))) (by decide +kernel)) gg_x_beginCall_push
theorem gg_x_beginCall_size : GoodIn w_x_beginCall w_x_size := goodIn_sub (fun w h => (List.mem_cons.mp h).elim (fun e => (List.mem_cons_of_mem _ (List.mem_append_left _ (List.mem_append_right _ (List.mem_append_right _ (List.mem_append_right _ (List.mem_append_right _ (List.mem_append_left _ (List.mem_cons.mpr (Or.inl e)))))))))) (fun h => (List.mem_append.mp h).elim (fun h => (List.mem_cons_of_mem _ (List.mem_append_left _ (List.mem_append_right _ (List.mem_append_right _ (List.mem_append_right _ (List.mem_append_right _ (List.mem_append_left _ (List.mem_cons_of_mem _ h))))))))) (fun h => List.mem_cons_of_mem _ (List.mem_append_right _ h)))) w_x_size_good
theorem g_x_beginCall_size_432 : GoodIn w_x_beginCall (wsV RX12 432 RX12 yX12_size w_x_size) := goodIn_app (nb_g4 (List.mem_cons_of_mem _ (List.mem_append_left _ (List.mem_append_left _ (List.mem_of_getElem? (i := 21) rfl)))) (List.mem_cons_of_mem _ (List.mem_append_left _ (List.mem_append_left _ (List.mem_of_getElem? (i := 22) rfl)))) (List.mem_cons_of_mem _ (List.mem_append_left _ (List.mem_append_left _ (List.mem_of_getElem? (i := 23) rfl)))) (List.mem_cons_of_mem _ (List.mem_append_left _ (List.mem_append_left _ (List.mem_of_getElem? (i := 7) rfl)))) (by decide +kernel)) gg_x_beginCall_size
set_option maxHeartbeats 40000000 in
set_option maxRecDepth 100000 in
theorem c_x_beginCall (l : Launch) (dC : Nat → ClassId) (dI : Nat → Nat → Nat) (cy : Nat → ClassId) (a : Nat → Nat) (k0 : Nat) (L0 : Nat → Int32) (σ0 : MS) (r0 : Int32 × MS) (h0 : x_beginCall k0 0 L0 σ0 = some r0) (sz : Nat) : Met l yX12_beginCall w_x_beginCall ({ frames := 1364, cells := 0, slots := 0, locals := 36637 }) (va_Pc [.ref (a 0), .int (L0 1)] (nIn (dC, dI) cy sz (vM cy a σ0))) (va_Qv (fun _ : Unit => True) (fun _ t => nOut (dC, dI) cy (va_A (vM cy a σ0) sz) (vM cy a r0.2) t) (va_A (vM cy a σ0) sz)) 0 0 (va_A (vM cy a σ0) sz) := by
  refine Met.ofW (cc := cX12_beginCall) (maxL := 8) (ret := none) (by decide) rfl ?_
  intro p e s m args below meth c s₁ B hml hv
  obtain ⟨rfl, hsz, hP, hK, hD0, hG⟩ := hv
  have hx := B.exec
  have hb := B.bytes
  have hr := B.returns
  have hts := atoms_spec (ws := w_x_beginCall) B.pre
  have hown : s.vm.findClass RX12 = some m.cls := findClass_of_methodNamed B.named
  have hlocks := B.notSynchronized
  subst hsz
  have hD := hD0.self (sz := s.heap.size)
  generalize hAe : va_A (vM cy a σ0) s.heap.size = A at hD ⊢
  have hA : ∀ q : Nat, s.heap.size ≤ q → A q := fun q h => by rw [← hAe]; exact Or.inr h
  have hS : va_S A s.heap s.heap [] := va_S.rf
  have hl := lv_entry ([.ref (a 0), .int (L0 1)]) (n := 8) (Nat.le_of_ble_eq_true rfl)
  rw [lg_entry_eq]
  generalize (lg_sl ([.ref (a 0), .int (L0 1)]) ++ List.replicate (8 - (lg_sl ([.ref (a 0), .int (L0 1)])).length) Slot.unset).toArray = ls at hl ⊢
  have hl : lv_has ls 8 [(0, .ref (a 0)), (1, .int (L0 1))] := hl
  have blk : ∀ k : Nat, (bT p l e (headSpec w_x_beginCall ({ frames := 1364, cells := 0, slots := 0, locals := 36637 })).room s m #[.ref (a 0), .int (L0 1)] below meth c dC dI cy a A (qV dC dI cy a A below #[.ref (a 0), .int (L0 1)] s) 8 (x_beginCall k 0) (fun L => [(0, .ref (a 0)), (1, .int (L 1))]) 0 (fun L => [])) ∧ (bT p l e (headSpec w_x_beginCall ({ frames := 1364, cells := 0, slots := 0, locals := 36637 })).room s m #[.ref (a 0), .int (L0 1)] below meth c dC dI cy a A (qV dC dI cy a A below #[.ref (a 0), .int (L0 1)] s) 8 (x_beginCall k 1) (fun L => [(0, .ref (a 0)), (1, .int (L 1)), (2, .int (L 2)), (3, .int (L 3)), (4, .int (L 4)), (5, .int (L 5))]) 23 (fun L => [])) ∧ (bT p l e (headSpec w_x_beginCall ({ frames := 1364, cells := 0, slots := 0, locals := 36637 })).room s m #[.ref (a 0), .int (L0 1)] below meth c dC dI cy a A (qV dC dI cy a A below #[.ref (a 0), .int (L0 1)] s) 8 (x_beginCall k 2) (fun L => [(0, .ref (a 0)), (1, .int (L 1)), (2, .int (L 2)), (3, .int (L 3)), (4, .int (L 4)), (5, .int (L 5))]) 54 (fun L => [])) ∧ (bT p l e (headSpec w_x_beginCall ({ frames := 1364, cells := 0, slots := 0, locals := 36637 })).room s m #[.ref (a 0), .int (L0 1)] below meth c dC dI cy a A (qV dC dI cy a A below #[.ref (a 0), .int (L0 1)] s) 8 (x_beginCall k 3) (fun L => [(0, .ref (a 0)), (1, .int (L 1)), (2, .int (L 2)), (3, .int (L 3)), (4, .int (L 4)), (5, .int (L 5))]) 59 (fun L => [])) ∧ (bT p l e (headSpec w_x_beginCall ({ frames := 1364, cells := 0, slots := 0, locals := 36637 })).room s m #[.ref (a 0), .int (L0 1)] below meth c dC dI cy a A (qV dC dI cy a A below #[.ref (a 0), .int (L0 1)] s) 8 (x_beginCall k 4) (fun L => [(0, .ref (a 0)), (1, .int (L 1)), (2, .int (L 2)), (3, .int (L 3)), (4, .int (L 4)), (5, .int (L 5))]) 74 (fun L => [])) ∧ (bT p l e (headSpec w_x_beginCall ({ frames := 1364, cells := 0, slots := 0, locals := 36637 })).room s m #[.ref (a 0), .int (L0 1)] below meth c dC dI cy a A (qV dC dI cy a A below #[.ref (a 0), .int (L0 1)] s) 8 (x_beginCall k 5) (fun L => [(0, .ref (a 0)), (1, .int (L 1)), (2, .int (L 2)), (3, .int (L 3)), (4, .int (L 4)), (5, .int (L 5))]) 82 (fun L => [])) ∧ (bT p l e (headSpec w_x_beginCall ({ frames := 1364, cells := 0, slots := 0, locals := 36637 })).room s m #[.ref (a 0), .int (L0 1)] below meth c dC dI cy a A (qV dC dI cy a A below #[.ref (a 0), .int (L0 1)] s) 8 (x_beginCall k 6) (fun L => [(0, .ref (a 0)), (1, .int (L 1)), (2, .int (L 2)), (3, .int (L 3)), (4, .int (L 4)), (5, .int (L 5))]) 100 (fun L => [])) ∧ (bT p l e (headSpec w_x_beginCall ({ frames := 1364, cells := 0, slots := 0, locals := 36637 })).room s m #[.ref (a 0), .int (L0 1)] below meth c dC dI cy a A (qV dC dI cy a A below #[.ref (a 0), .int (L0 1)] s) 8 (x_beginCall k 7) (fun L => [(0, .ref (a 0)), (1, .int (L 1)), (2, .int (L 2)), (3, .int (L 3)), (4, .int (L 4)), (5, .int (L 5)), (6, .int (L 6))]) 106 (fun L => [])) ∧ (bT p l e (headSpec w_x_beginCall ({ frames := 1364, cells := 0, slots := 0, locals := 36637 })).room s m #[.ref (a 0), .int (L0 1)] below meth c dC dI cy a A (qV dC dI cy a A below #[.ref (a 0), .int (L0 1)] s) 8 (x_beginCall k 8) (fun L => [(0, .ref (a 0)), (1, .int (L 1)), (2, .int (L 2)), (3, .int (L 3)), (4, .int (L 4)), (5, .int (L 5)), (6, .int (L 6))]) 165 (fun L => [.int (L 100)])) ∧ (bT p l e (headSpec w_x_beginCall ({ frames := 1364, cells := 0, slots := 0, locals := 36637 })).room s m #[.ref (a 0), .int (L0 1)] below meth c dC dI cy a A (qV dC dI cy a A below #[.ref (a 0), .int (L0 1)] s) 8 (x_beginCall k 9) (fun L => [(0, .ref (a 0)), (1, .int (L 1)), (2, .int (L 2)), (3, .int (L 3)), (4, .int (L 4)), (5, .int (L 5)), (6, .int (L 6))]) 169 (fun L => [.int (L 100)])) ∧ (bT p l e (headSpec w_x_beginCall ({ frames := 1364, cells := 0, slots := 0, locals := 36637 })).room s m #[.ref (a 0), .int (L0 1)] below meth c dC dI cy a A (qV dC dI cy a A below #[.ref (a 0), .int (L0 1)] s) 8 (x_beginCall k 10) (fun L => [(0, .ref (a 0)), (1, .int (L 1)), (2, .int (L 2)), (3, .int (L 3)), (4, .int (L 4)), (5, .int (L 5)), (6, .int (L 6))]) 170 (fun L => [.int (L 100), .int (L 101)])) ∧ (bT p l e (headSpec w_x_beginCall ({ frames := 1364, cells := 0, slots := 0, locals := 36637 })).room s m #[.ref (a 0), .int (L0 1)] below meth c dC dI cy a A (qV dC dI cy a A below #[.ref (a 0), .int (L0 1)] s) 8 (x_beginCall k 11) (fun L => [(0, .ref (a 0)), (1, .int (L 1)), (2, .int (L 2)), (3, .int (L 3)), (4, .int (L 4)), (5, .int (L 5)), (6, .int (L 6))]) 179 (fun L => [])) ∧ (bT p l e (headSpec w_x_beginCall ({ frames := 1364, cells := 0, slots := 0, locals := 36637 })).room s m #[.ref (a 0), .int (L0 1)] below meth c dC dI cy a A (qV dC dI cy a A below #[.ref (a 0), .int (L0 1)] s) 8 (x_beginCall k 12) (fun L => [(0, .ref (a 0)), (1, .int (L 1)), (2, .int (L 2)), (3, .int (L 3)), (4, .int (L 4)), (5, .int (L 5)), (6, .int (L 6))]) 204 (fun L => [])) ∧ (bT p l e (headSpec w_x_beginCall ({ frames := 1364, cells := 0, slots := 0, locals := 36637 })).room s m #[.ref (a 0), .int (L0 1)] below meth c dC dI cy a A (qV dC dI cy a A below #[.ref (a 0), .int (L0 1)] s) 8 (x_beginCall k 13) (fun L => [(0, .ref (a 0)), (1, .int (L 1)), (2, .int (L 2)), (3, .int (L 3)), (4, .int (L 4)), (5, .int (L 5)), (6, .int (L 6))]) 215 (fun L => [])) ∧ (bT p l e (headSpec w_x_beginCall ({ frames := 1364, cells := 0, slots := 0, locals := 36637 })).room s m #[.ref (a 0), .int (L0 1)] below meth c dC dI cy a A (qV dC dI cy a A below #[.ref (a 0), .int (L0 1)] s) 8 (x_beginCall k 14) (fun L => [(0, .ref (a 0)), (1, .int (L 1)), (2, .int (L 2)), (3, .int (L 3)), (4, .int (L 4)), (5, .int (L 5)), (6, .int (L 6))]) 236 (fun L => [])) ∧ (bT p l e (headSpec w_x_beginCall ({ frames := 1364, cells := 0, slots := 0, locals := 36637 })).room s m #[.ref (a 0), .int (L0 1)] below meth c dC dI cy a A (qV dC dI cy a A below #[.ref (a 0), .int (L0 1)] s) 8 (x_beginCall k 15) (fun L => [(0, .ref (a 0)), (1, .int (L 1)), (2, .int (L 2)), (3, .int (L 3)), (4, .int (L 4)), (5, .int (L 5)), (6, .int (L 6))]) 251 (fun L => [])) ∧ (bT p l e (headSpec w_x_beginCall ({ frames := 1364, cells := 0, slots := 0, locals := 36637 })).room s m #[.ref (a 0), .int (L0 1)] below meth c dC dI cy a A (qV dC dI cy a A below #[.ref (a 0), .int (L0 1)] s) 8 (x_beginCall k 16) (fun L => [(0, .ref (a 0)), (1, .int (L 1)), (2, .int (L 2)), (3, .int (L 3)), (4, .int (L 4)), (5, .int (L 5)), (6, .int (L 6))]) 271 (fun L => [])) ∧ (bT p l e (headSpec w_x_beginCall ({ frames := 1364, cells := 0, slots := 0, locals := 36637 })).room s m #[.ref (a 0), .int (L0 1)] below meth c dC dI cy a A (qV dC dI cy a A below #[.ref (a 0), .int (L0 1)] s) 8 (x_beginCall k 17) (fun L => [(0, .ref (a 0)), (1, .int (L 1)), (2, .int (L 2)), (3, .int (L 3)), (4, .int (L 4)), (5, .int (L 5)), (6, .int (L 6)), (7, .int (L 7))]) 274 (fun L => [])) ∧ (bT p l e (headSpec w_x_beginCall ({ frames := 1364, cells := 0, slots := 0, locals := 36637 })).room s m #[.ref (a 0), .int (L0 1)] below meth c dC dI cy a A (qV dC dI cy a A below #[.ref (a 0), .int (L0 1)] s) 8 (x_beginCall k 18) (fun L => [(0, .ref (a 0)), (1, .int (L 1)), (2, .int (L 2)), (3, .int (L 3)), (4, .int (L 4)), (5, .int (L 5)), (6, .int (L 6)), (7, .int (L 7))]) 320 (fun L => [.int (L 100), .ref (a 30)])) ∧ (bT p l e (headSpec w_x_beginCall ({ frames := 1364, cells := 0, slots := 0, locals := 36637 })).room s m #[.ref (a 0), .int (L0 1)] below meth c dC dI cy a A (qV dC dI cy a A below #[.ref (a 0), .int (L0 1)] s) 8 (x_beginCall k 19) (fun L => [(0, .ref (a 0)), (1, .int (L 1)), (2, .int (L 2)), (3, .int (L 3)), (4, .int (L 4)), (5, .int (L 5)), (6, .int (L 6)), (7, .int (L 7))]) 321 (fun L => [.int (L 100), .int (L 101), .ref (a 30)])) ∧ (bT p l e (headSpec w_x_beginCall ({ frames := 1364, cells := 0, slots := 0, locals := 36637 })).room s m #[.ref (a 0), .int (L0 1)] below meth c dC dI cy a A (qV dC dI cy a A below #[.ref (a 0), .int (L0 1)] s) 8 (x_beginCall k 20) (fun L => [(0, .ref (a 0)), (1, .int (L 1)), (2, .int (L 2)), (3, .int (L 3)), (4, .int (L 4)), (5, .int (L 5)), (6, .int (L 6)), (7, .int (L 7))]) 322 (fun L => [])) ∧ (bT p l e (headSpec w_x_beginCall ({ frames := 1364, cells := 0, slots := 0, locals := 36637 })).room s m #[.ref (a 0), .int (L0 1)] below meth c dC dI cy a A (qV dC dI cy a A below #[.ref (a 0), .int (L0 1)] s) 8 (x_beginCall k 21) (fun L => [(0, .ref (a 0)), (1, .int (L 1)), (2, .int (L 2)), (3, .int (L 3)), (4, .int (L 4)), (5, .int (L 5)), (6, .int (L 6)), (7, .int (L 7))]) 328 (fun L => [])) ∧ (bT p l e (headSpec w_x_beginCall ({ frames := 1364, cells := 0, slots := 0, locals := 36637 })).room s m #[.ref (a 0), .int (L0 1)] below meth c dC dI cy a A (qV dC dI cy a A below #[.ref (a 0), .int (L0 1)] s) 8 (x_beginCall k 22) (fun L => [(0, .ref (a 0)), (1, .int (L 1)), (2, .int (L 2)), (3, .int (L 3)), (4, .int (L 4)), (5, .int (L 5)), (6, .int (L 6)), (7, .int (L 7))]) 333 (fun L => [])) ∧ (bT p l e (headSpec w_x_beginCall ({ frames := 1364, cells := 0, slots := 0, locals := 36637 })).room s m #[.ref (a 0), .int (L0 1)] below meth c dC dI cy a A (qV dC dI cy a A below #[.ref (a 0), .int (L0 1)] s) 8 (x_beginCall k 23) (fun L => [(0, .ref (a 0)), (1, .int (L 1)), (2, .int (L 2)), (3, .int (L 3)), (4, .int (L 4)), (5, .int (L 5)), (6, .int (L 6)), (7, .int (L 7))]) 343 (fun L => [])) := by
    intro k
    induction k with
    | zero => exact ⟨fun L σ r h => (by cases h), fun L σ r h => (by cases h), fun L σ r h => (by cases h), fun L σ r h => (by cases h), fun L σ r h => (by cases h), fun L σ r h => (by cases h), fun L σ r h => (by cases h), fun L σ r h => (by cases h), fun L σ r h => (by cases h), fun L σ r h => (by cases h), fun L σ r h => (by cases h), fun L σ r h => (by cases h), fun L σ r h => (by cases h), fun L σ r h => (by cases h), fun L σ r h => (by cases h), fun L σ r h => (by cases h), fun L σ r h => (by cases h), fun L σ r h => (by cases h), fun L σ r h => (by cases h), fun L σ r h => (by cases h), fun L σ r h => (by cases h), fun L σ r h => (by cases h), fun L σ r h => (by cases h), fun L σ r h => (by cases h)⟩
    | succ k ih =>
      refine ⟨?_, ?_, ?_, ?_, ?_, ?_, ?_, ?_, ?_, ?_, ?_, ?_, ?_, ?_, ?_, ?_, ?_, ?_, ?_, ?_, ?_, ?_, ?_, ?_⟩
      · intro L σ r h H locs ls hP hD hS hl
        rw [x_beginCall] at h
        refine lv_aload_n hx hb dX12_beginCall_0 rfl (lv_at hl 0 rfl) ?_
        refine ng_17 hx hb hts in_x_beginCall hown hK hP (hts _ (List.mem_cons_of_mem _ (List.mem_append_left _ (List.mem_append_left _ (List.mem_of_getElem? (i := 0) rfl))))) dX12_beginCall_1 ?_
        refine lv_iload_n hx hb dX12_beginCall_4 rfl (lv_at hl 1 rfl) ?_
        obtain ⟨q1, h⟩ := nb_ite1 h
        refine nl_7 hx hb hK hP q1 dX12_beginCall_5 ?_
        refine lv_istore_n (lv' := [(2, .int (σ.2.2 7 ((L 1)).toNatClampNeg)), (0, .ref (a 0)), (1, .int (L 1))]) hx hb dX12_beginCall_6 rfl hl (by decide) rfl (fun ls hl => ?_)
        refine lv_aload_n hx hb dX12_beginCall_7 rfl (lv_at hl 1 rfl) ?_
        refine ng_59 hx hb hts in_x_beginCall hown hK hP (hts _ (List.mem_cons_of_mem _ (List.mem_append_left _ (List.mem_append_left _ (List.mem_of_getElem? (i := 1) rfl))))) dX12_beginCall_8 ?_
        refine lv_istore_n (lv' := [(3, .int (σ.1 59)), (2, .int (σ.2.2 7 ((L 1)).toNatClampNeg)), (0, .ref (a 0)), (1, .int (L 1))]) hx hb dX12_beginCall_11 rfl hl (by decide) rfl (fun ls hl => ?_)
        refine lv_iconst (v := 0) hx hb dX12_beginCall_12 (by decide) ?_
        refine lv_istore (lv' := [(4, .int 0), (3, .int (σ.1 59)), (2, .int (σ.2.2 7 ((L 1)).toNatClampNeg)), (0, .ref (a 0)), (1, .int (L 1))]) hx hb dX12_beginCall_13 hl (by decide) rfl (fun ls hl => ?_)
        refine lv_aload_n hx hb dX12_beginCall_15 rfl (lv_at hl 3 rfl) ?_
        refine ng_16 hx hb hts in_x_beginCall hown hK hP (hts _ (List.mem_cons_of_mem _ (List.mem_append_left _ (List.mem_append_left _ (List.mem_of_getElem? (i := 2) rfl))))) dX12_beginCall_16 ?_
        refine lv_iload_n hx hb dX12_beginCall_19 rfl (lv_at hl 4 rfl) ?_
        obtain ⟨q2, h⟩ := nb_ite1 h
        refine nl_6 hx hb hK hP q2 dX12_beginCall_20 ?_
        refine lv_istore (lv' := [(5, .int (σ.2.2 6 ((L 1)).toNatClampNeg)), (4, .int 0), (3, .int (σ.1 59)), (2, .int (σ.2.2 7 ((L 1)).toNatClampNeg)), (0, .ref (a 0)), (1, .int (L 1))]) hx hb dX12_beginCall_21 hl (by decide) rfl (fun ls hl => ?_)
        exact ih.2.1 (upd (upd (upd (upd L 2 ((σ.2.2 7 ((L 1)).toNatClampNeg))) 3 ((σ.1 59))) 4 0) 5 ((σ.2.2 6 ((L 1)).toNatClampNeg))) σ r h H locs ls hP hD hS (lv_sub hl [4, 5, 3, 2, 1, 0] rfl)
      · intro L σ r h H locs ls hP hD hS hl
        rw [x_beginCall] at h
        refine lv_iload hx hb dX12_beginCall_23 (lv_at hl 5 rfl) ?_
        refine lv_iconst (v := (-1)) hx hb dX12_beginCall_25 (by decide) ?_
        refine lv_icmp_eq (tgt := 74) hx hb dX12_beginCall_26 (by decide) (fun c1 => ?_) (fun c1 => ?_)
        · rw [if_pos c1] at h
          exact ih.2.2.2.2.1 L σ r h H locs ls hP hD hS (lv_sub hl [0, 1, 2, 3, 4, 5] rfl)
        · rw [if_neg c1] at h
          refine lv_aload_n hx hb dX12_beginCall_29 rfl (lv_at hl 0 rfl) ?_
          refine ng_34 hx hb hts in_x_beginCall hown hK hP (hts _ (List.mem_cons_of_mem _ (List.mem_append_left _ (List.mem_append_left _ (List.mem_of_getElem? (i := 3) rfl))))) dX12_beginCall_30 ?_
          refine lv_bipush (v := 8) hx hb dX12_beginCall_33 (by decide) ?_
          refine lv_iload_n hx hb dX12_beginCall_35 rfl (lv_at hl 2 rfl) ?_
          refine lv_imul hx hb dX12_beginCall_36 ?_
          refine lv_iload hx hb dX12_beginCall_37 (lv_at hl 4 rfl) ?_
          refine lv_iadd hx hb dX12_beginCall_39 ?_
          obtain ⟨q2, h⟩ := nb_ite1 h
          refine nl_19 hx hb hK hP q2 dX12_beginCall_40 ?_
          refine lv_iconst (v := 1) hx hb dX12_beginCall_41 (by decide) ?_
          refine lv_icmp_eq (tgt := 54) hx hb dX12_beginCall_42 (by decide) (fun c3 => ?_) (fun c3 => ?_)
          · rw [if_pos c3] at h
            exact ih.2.2.1 L σ r h H locs ls hP hD hS (lv_sub hl [0, 1, 2, 3, 4, 5] rfl)
          · rw [if_neg c3] at h
            refine lv_aload_n hx hb dX12_beginCall_45 rfl (lv_at hl 0 rfl) ?_
            refine lv_iload hx hb dX12_beginCall_46 (lv_at hl 5 rfl) ?_
            obtain ⟨r4, hc4, h⟩ := ob_ex h
            refine nc_Vv (As := [.int (L 5)]) (rest := []) ⟨hx, hb, hml, hown, hts⟩ (c_x_eval l dC dI cy a k (upd (fun _ => 0) 1 ((L 5))) σ r4 hc4 H.size) (cwV 1 hts g_x_beginCall_eval_566 rfl rfl rfl hd_x_eval ⟨Nat.le_of_ble_eq_true rfl, Nat.le_of_ble_eq_true rfl⟩) hK hG hA hP hD hS rfl hl.1 rfl (Nat.le_of_ble_eq_true rfl) dX12_beginCall_48 ⟨Nat.le_refl _, Nat.le_refl _⟩ (fun H locs hP hD hS => ?_)
            refine lv_goto (tgt := 59) hx hb dX12_beginCall_51 (by decide) ?_
            exact ih.2.2.2.1 L r4.2 r h H locs ls hP hD hS (lv_sub hl [0, 1, 2, 3, 4, 5] rfl)
      · intro L σ r h H locs ls hP hD hS hl
        rw [x_beginCall] at h
        refine lv_aload_n hx hb dX12_beginCall_54 rfl (lv_at hl 0 rfl) ?_
        refine lv_iconst (v := 0) hx hb dX12_beginCall_55 (by decide) ?_
        obtain ⟨r1, hc1, h⟩ := ob_ex h
        refine nc_Vv (As := [.int 0]) (rest := []) ⟨hx, hb, hml, hown, hts⟩ (c_x_push l dC dI cy a k (upd (fun _ => 0) 1 0) σ r1 hc1 H.size) (cwV 1 hts g_x_beginCall_push_594 rfl rfl rfl hd_x_push ⟨Nat.le_of_ble_eq_true rfl, Nat.le_of_ble_eq_true rfl⟩) hK hG hA hP hD hS rfl hl.1 rfl (Nat.le_of_ble_eq_true rfl) dX12_beginCall_56 ⟨Nat.le_refl _, Nat.le_refl _⟩ (fun H locs hP hD hS => ?_)
        exact ih.2.2.2.1 L r1.2 r h H locs ls hP hD hS (lv_sub hl [0, 1, 2, 3, 4, 5] rfl)
      · intro L σ r h H locs ls hP hD hS hl
        rw [x_beginCall] at h
        refine lv_iinc (v := ((L 4)) + 1) (lv' := [(4, .int (((L 4)) + 1)), (0, .ref (a 0)), (1, .int (L 1)), (2, .int (L 2)), (3, .int (L 3)), (5, .int (L 5))]) hx hb dX12_beginCall_59 hl (k := 4) rfl rfl (by decide) rfl (fun ls hl => ?_)
        refine lv_aload_n hx hb dX12_beginCall_62 rfl (lv_at hl 1 rfl) ?_
        refine ng_19 hx hb hts in_x_beginCall hown hK hP (hts _ (List.mem_cons_of_mem _ (List.mem_append_left _ (List.mem_append_left _ (List.mem_of_getElem? (i := 11) rfl))))) dX12_beginCall_63 ?_
        refine lv_iload hx hb dX12_beginCall_66 (lv_at hl 5 rfl) ?_
        obtain ⟨q1, h⟩ := nb_ite1 h
        refine nl_9 hx hb hK hP q1 dX12_beginCall_68 ?_
        refine lv_istore (lv' := [(5, .int (σ.2.2 9 ((L 5)).toNatClampNeg)), (4, .int (((L 4)) + 1)), (0, .ref (a 0)), (1, .int (L 1)), (2, .int (L 2)), (3, .int (L 3))]) hx hb dX12_beginCall_69 hl (by decide) rfl (fun ls hl => ?_)
        refine lv_goto (tgt := 23) hx hb dX12_beginCall_71 (by decide) ?_
        exact ih.2.1 (upd (upd L 4 (((L 4)) + 1)) 5 ((σ.2.2 9 ((L 5)).toNatClampNeg))) σ r h H locs ls hP hD hS (lv_sub hl [2, 3, 4, 5, 1, 0] rfl)
      · intro L σ r h H locs ls hP hD hS hl
        rw [x_beginCall] at h
        refine lv_aload_n hx hb dX12_beginCall_74 rfl (lv_at hl 0 rfl) ?_
        refine ng_56 hx hb hts in_x_beginCall hown hK hP (hts _ (List.mem_cons_of_mem _ (List.mem_append_left _ (List.mem_append_left _ (List.mem_of_getElem? (i := 12) rfl))))) dX12_beginCall_75 ?_
        refine lv_if_le (tgt := 82) hx hb dX12_beginCall_78 (by decide) (fun c1 => ?_) (fun c1 => ?_)
        · rw [if_pos c1] at h
          exact ih.2.2.2.2.2.1 L σ r h H locs ls hP hD hS (lv_sub hl [0, 1, 2, 3, 4, 5] rfl)
        · rw [if_neg c1] at h
          cases h
          exact W.vret hx hb hr (fun t ht hW => ⟨⟨(), rfl, trivial, by rw [ht]; exact hP, va_K.moved hW.alike hK, hD⟩, hS.F ht⟩) hS.2.2 dX12_beginCall_81
      · intro L σ r h H locs ls hP hD hS hl
        rw [x_beginCall] at h
        refine lv_aload_n hx hb dX12_beginCall_82 rfl (lv_at hl 0 rfl) ?_
        refine ng_60 hx hb hts in_x_beginCall hown hK hP (hts _ (List.mem_cons_of_mem _ (List.mem_append_left _ (List.mem_append_left _ (List.mem_of_getElem? (i := 13) rfl))))) dX12_beginCall_83 ?_
        refine lv_iconst (v := 1) hx hb dX12_beginCall_86 (by decide) ?_
        obtain ⟨q1, h⟩ := nb_ite1 h
        refine nl_30 hx hb hK hP q1 dX12_beginCall_87 ?_
        refine lv_bipush (v := 50) hx hb dX12_beginCall_88 (by decide) ?_
        refine lv_icmp_ne (tgt := 100) hx hb dX12_beginCall_90 (by decide) (fun c2 => ?_) (fun c2 => ?_)
        · rw [if_neg c2] at h
          exact ih.2.2.2.2.2.2.1 L σ r h H locs ls hP hD hS (lv_sub hl [0, 1, 2, 3, 4, 5] rfl)
        · rw [if_pos c2] at h
          refine lv_aload_n hx hb dX12_beginCall_93 rfl (lv_at hl 0 rfl) ?_
          refine lv_bipush (v := 7) hx hb dX12_beginCall_94 (by decide) ?_
          obtain ⟨r3, hc3, h⟩ := ob_ex h
          refine nc_Vv (As := [.int 7]) (rest := []) ⟨hx, hb, hml, hown, hts⟩ (c_x_fail l dC dI cy a k (upd (fun _ => 0) 1 7) σ r3 hc3 H.size) (cwV 1 hts g_x_beginCall_fail_369 rfl rfl rfl hd_x_fail ⟨Nat.le_of_ble_eq_true rfl, Nat.le_of_ble_eq_true rfl⟩) hK hG hA hP hD hS rfl hl.1 rfl (Nat.le_of_ble_eq_true rfl) dX12_beginCall_96 ⟨Nat.le_refl _, Nat.le_refl _⟩ (fun H locs hP hD hS => ?_)
          cases h
          exact W.vret hx hb hr (fun t ht hW => ⟨⟨(), rfl, trivial, by rw [ht]; exact hP, va_K.moved hW.alike hK, hD⟩, hS.F ht⟩) hS.2.2 dX12_beginCall_99
      · intro L σ r h H locs ls hP hD hS hl
        rw [x_beginCall] at h
        refine lv_iconst (v := 0) hx hb dX12_beginCall_100 (by decide) ?_
        refine lv_istore (lv' := [(5, .int 0), (0, .ref (a 0)), (1, .int (L 1)), (2, .int (L 2)), (3, .int (L 3)), (4, .int (L 4))]) hx hb dX12_beginCall_101 hl (by decide) rfl (fun ls hl => ?_)
        refine lv_iconst (v := 0) hx hb dX12_beginCall_103 (by decide) ?_
        refine lv_istore (lv' := [(6, .int 0), (5, .int 0), (0, .ref (a 0)), (1, .int (L 1)), (2, .int (L 2)), (3, .int (L 3)), (4, .int (L 4))]) hx hb dX12_beginCall_104 hl (by decide) rfl (fun ls hl => ?_)
        exact ih.2.2.2.2.2.2.2.1 (upd (upd L 5 0) 6 0) σ r h H locs ls hP hD hS (lv_sub hl [2, 3, 4, 5, 6, 1, 0] rfl)
      · intro L σ r h H locs ls hP hD hS hl
        rw [x_beginCall] at h
        refine lv_iload hx hb dX12_beginCall_106 (lv_at hl 6 rfl) ?_
        refine lv_aload_n hx hb dX12_beginCall_108 rfl (lv_at hl 0 rfl) ?_
        refine ng_36 hx hb hts in_x_beginCall hown hK hP (hts _ (List.mem_cons_of_mem _ (List.mem_append_left _ (List.mem_append_left _ (List.mem_of_getElem? (i := 17) rfl))))) dX12_beginCall_109 ?_
        refine lv_iconst (v := 1) hx hb dX12_beginCall_112 (by decide) ?_
        refine lv_iload_n hx hb dX12_beginCall_113 rfl (lv_at hl 2 rfl) ?_
        refine lv_iadd hx hb dX12_beginCall_114 ?_
        obtain ⟨q1, h⟩ := nb_ite1 h
        refine nl_21 hx hb hK hP q1 dX12_beginCall_115 ?_
        refine lv_icmp_ge (tgt := 179) hx hb dX12_beginCall_116 (by decide) (fun c2 => ?_) (fun c2 => ?_)
        · rw [if_pos c2] at h
          exact ih.2.2.2.2.2.2.2.2.2.2.2.1 L σ r h H locs ls hP hD hS (lv_sub hl [0, 1, 2, 3, 4, 5, 6] rfl)
        · rw [if_neg c2] at h
          refine lv_iload hx hb dX12_beginCall_119 (lv_at hl 5 rfl) ?_
          refine lv_aload_n hx hb dX12_beginCall_121 rfl (lv_at hl 0 rfl) ?_
          refine ng_35 hx hb hts in_x_beginCall hown hK hP (hts _ (List.mem_cons_of_mem _ (List.mem_append_left _ (List.mem_append_left _ (List.mem_of_getElem? (i := 18) rfl))))) dX12_beginCall_122 ?_
          refine lv_bipush (v := 60) hx hb dX12_beginCall_125 (by decide) ?_
          refine lv_iconst (v := 1) hx hb dX12_beginCall_127 (by decide) ?_
          refine lv_iload_n hx hb dX12_beginCall_128 rfl (lv_at hl 2 rfl) ?_
          refine lv_iadd hx hb dX12_beginCall_129 ?_
          refine lv_imul hx hb dX12_beginCall_130 ?_
          refine lv_iload hx hb dX12_beginCall_131 (lv_at hl 6 rfl) ?_
          refine lv_iadd hx hb dX12_beginCall_133 ?_
          obtain ⟨q3, h⟩ := nb_ite1 h
          refine nl_20 hx hb hK hP q3 dX12_beginCall_134 ?_
          refine lv_if_eq (tgt := 169) hx hb dX12_beginCall_135 (by decide) (fun c4 => ?_) (fun c4 => ?_)
          · rw [if_pos c4] at h
            exact ih.2.2.2.2.2.2.2.2.2.1 (upd L 100 ((L 5))) σ r h H locs ls hP hD hS (lv_sub hl [0, 1, 2, 3, 4, 5, 6] rfl)
          · rw [if_neg c4] at h
            refine lv_iload hx hb dX12_beginCall_138 (lv_at hl 6 rfl) ?_
            refine lv_aload_n hx hb dX12_beginCall_140 rfl (lv_at hl 0 rfl) ?_
            refine ng_33 hx hb hts in_x_beginCall hown hK hP (hts _ (List.mem_cons_of_mem _ (List.mem_append_left _ (List.mem_append_left _ (List.mem_of_getElem? (i := 19) rfl))))) dX12_beginCall_141 ?_
            refine lv_iload_n hx hb dX12_beginCall_144 rfl (lv_at hl 2 rfl) ?_
            obtain ⟨q5, h⟩ := nb_ite1 h
            refine nl_18 hx hb hK hP q5 dX12_beginCall_145 ?_
            refine lv_icmp_ge (tgt := 165) hx hb dX12_beginCall_146 (by decide) (fun c6 => ?_) (fun c6 => ?_)
            · rw [if_pos c6] at h
              exact ih.2.2.2.2.2.2.2.2.1 (upd L 100 ((L 5))) σ r h H locs ls hP hD hS (lv_sub hl [0, 1, 2, 3, 4, 5, 6] rfl)
            · rw [if_neg c6] at h
              refine lv_aload_n hx hb dX12_beginCall_149 rfl (lv_at hl 0 rfl) ?_
              refine lv_aload_n hx hb dX12_beginCall_150 rfl (lv_at hl 0 rfl) ?_
              refine ng_58 hx hb hts in_x_beginCall hown hK hP (hts _ (List.mem_cons_of_mem _ (List.mem_append_left _ (List.mem_append_left _ (List.mem_of_getElem? (i := 20) rfl))))) dX12_beginCall_151 ?_
              refine lv_iload_n hx hb dX12_beginCall_154 rfl (lv_at hl 3 rfl) ?_
              refine lv_iload hx hb dX12_beginCall_155 (lv_at hl 6 rfl) ?_
              refine lv_iadd hx hb dX12_beginCall_157 ?_
              obtain ⟨q7, h⟩ := nb_ite1 h
              refine nl_29 hx hb hK hP q7 dX12_beginCall_158 ?_
              obtain ⟨r8, hc8, h⟩ := ob_ex h
              refine nc_Vi (As := [.int (σ.2.2 29 ((((L 3)) + ((L 6)))).toNatClampNeg)]) (rest := [.int (L 5)]) ⟨hx, hb, hml, hown, hts⟩ (c_x_size l dC dI cy a k (upd (fun _ => 0) 1 ((σ.2.2 29 ((((L 3)) + ((L 6)))).toNatClampNeg))) σ r8 hc8 H.size) (cwV 1 hts g_x_beginCall_size_432 rfl rfl rfl hd_x_size ⟨Nat.le_of_ble_eq_true rfl, Nat.le_of_ble_eq_true rfl⟩) hK hG hA hP hD hS rfl hl.1 rfl (Nat.le_of_ble_eq_true rfl) dX12_beginCall_159 ⟨Nat.le_refl _, Nat.le_refl _⟩ (fun H locs hP hD hS => ?_)
              refine lv_goto (tgt := 170) hx hb dX12_beginCall_162 (by decide) ?_
              exact ih.2.2.2.2.2.2.2.2.2.2.1 (upd (upd L 100 r8.1) 101 ((L 5))) r8.2 r h H locs ls hP hD hS (lv_sub hl [0, 1, 2, 3, 4, 5, 6] rfl)
      · intro L σ r h H locs ls hP hD hS hl
        rw [x_beginCall] at h
        refine lv_iconst (v := 1) hx hb dX12_beginCall_165 (by decide) ?_
        refine lv_goto (tgt := 170) hx hb dX12_beginCall_166 (by decide) ?_
        exact ih.2.2.2.2.2.2.2.2.2.2.1 (upd (upd L 100 1) 101 ((L 100))) σ r h H locs ls hP hD hS (lv_sub hl [0, 1, 2, 3, 4, 5, 6] rfl)
      · intro L σ r h H locs ls hP hD hS hl
        rw [x_beginCall] at h
        refine lv_iconst (v := 0) hx hb dX12_beginCall_169 (by decide) ?_
        exact ih.2.2.2.2.2.2.2.2.2.2.1 (upd (upd L 100 0) 101 ((L 100))) σ r h H locs ls hP hD hS (lv_sub hl [0, 1, 2, 3, 4, 5, 6] rfl)
      · intro L σ r h H locs ls hP hD hS hl
        rw [x_beginCall] at h
        refine lv_iadd hx hb dX12_beginCall_170 ?_
        refine lv_istore (lv' := [(5, .int (((L 101)) + ((L 100)))), (0, .ref (a 0)), (1, .int (L 1)), (2, .int (L 2)), (3, .int (L 3)), (4, .int (L 4)), (6, .int (L 6))]) hx hb dX12_beginCall_171 hl (by decide) rfl (fun ls hl => ?_)
        refine lv_iinc (v := ((L 6)) + 1) (lv' := [(6, .int (((L 6)) + 1)), (5, .int (((L 101)) + ((L 100)))), (0, .ref (a 0)), (1, .int (L 1)), (2, .int (L 2)), (3, .int (L 3)), (4, .int (L 4))]) hx hb dX12_beginCall_173 hl (k := 6) rfl rfl (by decide) rfl (fun ls hl => ?_)
        refine lv_goto (tgt := 106) hx hb dX12_beginCall_176 (by decide) ?_
        exact ih.2.2.2.2.2.2.2.1 (upd (upd L 5 ((((L 101)) + ((L 100))))) 6 (((L 6)) + 1)) σ r h H locs ls hP hD hS (lv_sub hl [2, 3, 4, 5, 6, 1, 0] rfl)
      · intro L σ r h H locs ls hP hD hS hl
        rw [x_beginCall] at h
        refine lv_aload_n hx hb dX12_beginCall_179 rfl (lv_at hl 0 rfl) ?_
        refine ng_64 hx hb hts in_x_beginCall hown hK hP (hts _ (List.mem_cons_of_mem _ (List.mem_append_left _ (List.mem_append_left _ (List.mem_of_getElem? (i := 24) rfl))))) dX12_beginCall_180 ?_
        refine lv_aload_n hx hb dX12_beginCall_183 rfl (lv_at hl 0 rfl) ?_
        refine ng_65 hx hb hts in_x_beginCall hown hK hP (hts _ (List.mem_cons_of_mem _ (List.mem_append_left _ (List.mem_append_left _ (List.mem_of_getElem? (i := 25) rfl))))) dX12_beginCall_184 ?_
        refine lv_iadd hx hb dX12_beginCall_187 ?_
        refine lv_iload hx hb dX12_beginCall_188 (lv_at hl 5 rfl) ?_
        refine lv_iadd hx hb dX12_beginCall_190 ?_
        refine lv_ldcw (v := 40000) hx hb hown (hts _ (List.mem_cons_of_mem _ (List.mem_append_left _ (List.mem_append_left _ (List.mem_of_getElem? (i := 26) rfl))))) dX12_beginCall_191 ?_
        refine lv_icmp_le (tgt := 204) hx hb dX12_beginCall_194 (by decide) (fun c1 => ?_) (fun c1 => ?_)
        · rw [if_pos c1] at h
          exact ih.2.2.2.2.2.2.2.2.2.2.2.2.1 L σ r h H locs ls hP hD hS (lv_sub hl [0, 1, 2, 3, 4, 5, 6] rfl)
        · rw [if_neg c1] at h
          refine lv_aload_n hx hb dX12_beginCall_197 rfl (lv_at hl 0 rfl) ?_
          refine lv_bipush (v := 6) hx hb dX12_beginCall_198 (by decide) ?_
          obtain ⟨r2, hc2, h⟩ := ob_ex h
          refine nc_Vv (As := [.int 6]) (rest := []) ⟨hx, hb, hml, hown, hts⟩ (c_x_fail l dC dI cy a k (upd (fun _ => 0) 1 6) σ r2 hc2 H.size) (cwV 1 hts g_x_beginCall_fail_369 rfl rfl rfl hd_x_fail ⟨Nat.le_of_ble_eq_true rfl, Nat.le_of_ble_eq_true rfl⟩) hK hG hA hP hD hS rfl hl.1 rfl (Nat.le_of_ble_eq_true rfl) dX12_beginCall_200 ⟨Nat.le_refl _, Nat.le_refl _⟩ (fun H locs hP hD hS => ?_)
          cases h
          exact W.vret hx hb hr (fun t ht hW => ⟨⟨(), rfl, trivial, by rw [ht]; exact hP, va_K.moved hW.alike hK, hD⟩, hS.F ht⟩) hS.2.2 dX12_beginCall_203
      · intro L σ r h H locs ls hP hD hS hl
        rw [x_beginCall] at h
        refine lv_aload_n hx hb dX12_beginCall_204 rfl (lv_at hl 0 rfl) ?_
        refine lv_dup hx hb dX12_beginCall_205 rfl ?_
        refine ng_64 hx hb hts in_x_beginCall hown hK hP (hts _ (List.mem_cons_of_mem _ (List.mem_append_left _ (List.mem_append_left _ (List.mem_of_getElem? (i := 24) rfl))))) dX12_beginCall_206 ?_
        refine lv_iload hx hb dX12_beginCall_209 (lv_at hl 5 rfl) ?_
        refine lv_iadd hx hb dX12_beginCall_211 ?_
        refine np_64 hx hb hts in_x_beginCall hown hK hP hD hS (hts _ (List.mem_cons_of_mem _ (List.mem_append_left _ (List.mem_append_left _ (List.mem_of_getElem? (i := 24) rfl))))) dX12_beginCall_212 (fun H locs hP hD hS => ?_)
        exact ih.2.2.2.2.2.2.2.2.2.2.2.2.2.1 L (upd σ.1 64 ((((σ.1 64)) + ((L 5)))), σ.2.1, σ.2.2) r h H locs ls hP hD hS (lv_sub hl [0, 1, 2, 3, 4, 5, 6] rfl)
      · intro L σ r h H locs ls hP hD hS hl
        rw [x_beginCall] at h
        refine lv_aload_n hx hb dX12_beginCall_215 rfl (lv_at hl 0 rfl) ?_
        refine ng_60 hx hb hts in_x_beginCall hown hK hP (hts _ (List.mem_cons_of_mem _ (List.mem_append_left _ (List.mem_append_left _ (List.mem_of_getElem? (i := 13) rfl))))) dX12_beginCall_216 ?_
        refine lv_iconst (v := 1) hx hb dX12_beginCall_219 (by decide) ?_
        obtain ⟨q1, h⟩ := nb_ite1 h
        refine nl_30 hx hb hK hP q1 dX12_beginCall_220 ?_
        refine lv_istore (lv' := [(6, .int (σ.2.2 30 (1 : Int32).toNatClampNeg)), (0, .ref (a 0)), (1, .int (L 1)), (2, .int (L 2)), (3, .int (L 3)), (4, .int (L 4)), (5, .int (L 5))]) hx hb dX12_beginCall_221 hl (by decide) rfl (fun ls hl => ?_)
        refine lv_aload_n hx hb dX12_beginCall_223 rfl (lv_at hl 1 rfl) ?_
        refine ng_60 hx hb hts in_x_beginCall hown hK hP (hts _ (List.mem_cons_of_mem _ (List.mem_append_left _ (List.mem_append_left _ (List.mem_of_getElem? (i := 13) rfl))))) dX12_beginCall_224 ?_
        refine lv_bipush (v := 64) hx hb dX12_beginCall_227 (by decide) ?_
        refine lv_iconst (v := 3) hx hb dX12_beginCall_229 (by decide) ?_
        refine lv_iload hx hb dX12_beginCall_230 (lv_at hl 0 rfl) ?_
        refine lv_imul hx hb dX12_beginCall_232 ?_
        refine lv_iadd hx hb dX12_beginCall_233 ?_
        refine lv_iload_n hx hb dX12_beginCall_234 rfl (lv_at hl 2 rfl) ?_
        obtain ⟨q2, h⟩ := nb_ite1 h
        refine ns_30 hx hb hK hP hD hS q2 dX12_beginCall_235 (fun H locs hP hD hS => ?_)
        exact ih.2.2.2.2.2.2.2.2.2.2.2.2.2.2.1 (upd L 6 ((σ.2.2 30 (1 : Int32).toNatClampNeg))) (σ.1, σ.2.1, updG σ.2.2 30 (upd (σ.2.2 30) ((64 + ((3 * ((σ.2.2 30 (1 : Int32).toNatClampNeg)))))).toNatClampNeg ((L 1)))) r h H locs ls hP hD hS (lv_sub hl [1, 2, 3, 4, 5, 6, 0] rfl)
      · intro L σ r h H locs ls hP hD hS hl
        rw [x_beginCall] at h
        refine lv_aload_n hx hb dX12_beginCall_236 rfl (lv_at hl 0 rfl) ?_
        refine ng_60 hx hb hts in_x_beginCall hown hK hP (hts _ (List.mem_cons_of_mem _ (List.mem_append_left _ (List.mem_append_left _ (List.mem_of_getElem? (i := 13) rfl))))) dX12_beginCall_237 ?_
        refine lv_bipush (v := 64) hx hb dX12_beginCall_240 (by decide) ?_
        refine lv_iconst (v := 3) hx hb dX12_beginCall_242 (by decide) ?_
        refine lv_iload hx hb dX12_beginCall_243 (lv_at hl 6 rfl) ?_
        refine lv_imul hx hb dX12_beginCall_245 ?_
        refine lv_iadd hx hb dX12_beginCall_246 ?_
        refine lv_iconst (v := 1) hx hb dX12_beginCall_247 (by decide) ?_
        refine lv_iadd hx hb dX12_beginCall_248 ?_
        refine lv_iload_n hx hb dX12_beginCall_249 rfl (lv_at hl 2 rfl) ?_
        obtain ⟨q1, h⟩ := nb_ite1 h
        refine ns_30 hx hb hK hP hD hS q1 dX12_beginCall_250 (fun H locs hP hD hS => ?_)
        exact ih.2.2.2.2.2.2.2.2.2.2.2.2.2.2.2.1 L (σ.1, σ.2.1, updG σ.2.2 30 (upd (σ.2.2 30) ((((64 + ((3 * ((L 6)))))) + 1)).toNatClampNeg ((L 2)))) r h H locs ls hP hD hS (lv_sub hl [0, 1, 2, 3, 4, 5, 6] rfl)
      · intro L σ r h H locs ls hP hD hS hl
        rw [x_beginCall] at h
        refine lv_aload_n hx hb dX12_beginCall_251 rfl (lv_at hl 0 rfl) ?_
        refine ng_60 hx hb hts in_x_beginCall hown hK hP (hts _ (List.mem_cons_of_mem _ (List.mem_append_left _ (List.mem_append_left _ (List.mem_of_getElem? (i := 13) rfl))))) dX12_beginCall_252 ?_
        refine lv_bipush (v := 64) hx hb dX12_beginCall_255 (by decide) ?_
        refine lv_iconst (v := 3) hx hb dX12_beginCall_257 (by decide) ?_
        refine lv_iload hx hb dX12_beginCall_258 (lv_at hl 6 rfl) ?_
        refine lv_imul hx hb dX12_beginCall_260 ?_
        refine lv_iadd hx hb dX12_beginCall_261 ?_
        refine lv_iconst (v := 2) hx hb dX12_beginCall_262 (by decide) ?_
        refine lv_iadd hx hb dX12_beginCall_263 ?_
        refine lv_aload_n hx hb dX12_beginCall_264 rfl (lv_at hl 0 rfl) ?_
        refine ng_60 hx hb hts in_x_beginCall hown hK hP (hts _ (List.mem_cons_of_mem _ (List.mem_append_left _ (List.mem_append_left _ (List.mem_of_getElem? (i := 13) rfl))))) dX12_beginCall_265 ?_
        refine lv_iconst (v := 2) hx hb dX12_beginCall_268 (by decide) ?_
        obtain ⟨q1, h⟩ := nb_ite1 h
        refine nl_30 hx hb hK hP q1 dX12_beginCall_269 ?_
        obtain ⟨q2, h⟩ := nb_ite1 h
        refine ns_30 hx hb hK hP hD hS q2 dX12_beginCall_270 (fun H locs hP hD hS => ?_)
        exact ih.2.2.2.2.2.2.2.2.2.2.2.2.2.2.2.2.1 L (σ.1, σ.2.1, updG σ.2.2 30 (upd (σ.2.2 30) ((((64 + ((3 * ((L 6)))))) + 2)).toNatClampNeg ((σ.2.2 30 (2 : Int32).toNatClampNeg)))) r h H locs ls hP hD hS (lv_sub hl [0, 1, 2, 3, 4, 5, 6] rfl)
      · intro L σ r h H locs ls hP hD hS hl
        rw [x_beginCall] at h
        refine lv_iconst (v := 0) hx hb dX12_beginCall_271 (by decide) ?_
        refine lv_istore (lv' := [(7, .int 0), (0, .ref (a 0)), (1, .int (L 1)), (2, .int (L 2)), (3, .int (L 3)), (4, .int (L 4)), (5, .int (L 5)), (6, .int (L 6))]) hx hb dX12_beginCall_272 hl (by decide) rfl (fun ls hl => ?_)
        exact ih.2.2.2.2.2.2.2.2.2.2.2.2.2.2.2.2.2.1 (upd L 7 0) σ r h H locs ls hP hD hS (lv_sub hl [1, 2, 3, 4, 5, 6, 7, 0] rfl)
      · intro L σ r h H locs ls hP hD hS hl
        rw [x_beginCall] at h
        refine lv_iload hx hb dX12_beginCall_274 (lv_at hl 7 rfl) ?_
        refine lv_bipush (v := 60) hx hb dX12_beginCall_276 (by decide) ?_
        refine lv_icmp_ge (tgt := 328) hx hb dX12_beginCall_278 (by decide) (fun c1 => ?_) (fun c1 => ?_)
        · rw [if_pos c1] at h
          exact ih.2.2.2.2.2.2.2.2.2.2.2.2.2.2.2.2.2.2.2.2.2.1 L σ r h H locs ls hP hD hS (lv_sub hl [0, 1, 2, 3, 4, 5, 6, 7] rfl)
        · rw [if_neg c1] at h
          refine lv_aload_n hx hb dX12_beginCall_281 rfl (lv_at hl 0 rfl) ?_
          refine ng_60 hx hb hts in_x_beginCall hown hK hP (hts _ (List.mem_cons_of_mem _ (List.mem_append_left _ (List.mem_append_left _ (List.mem_of_getElem? (i := 13) rfl))))) dX12_beginCall_282 ?_
          refine lv_sipush (v := 214) hx hb dX12_beginCall_285 (by decide) ?_
          refine lv_bipush (v := 60) hx hb dX12_beginCall_288 (by decide) ?_
          refine lv_iload hx hb dX12_beginCall_290 (lv_at hl 6 rfl) ?_
          refine lv_imul hx hb dX12_beginCall_292 ?_
          refine lv_iadd hx hb dX12_beginCall_293 ?_
          refine lv_iload hx hb dX12_beginCall_294 (lv_at hl 7 rfl) ?_
          refine lv_iadd hx hb dX12_beginCall_296 ?_
          refine lv_iload hx hb dX12_beginCall_297 (lv_at hl 7 rfl) ?_
          refine lv_aload_n hx hb dX12_beginCall_299 rfl (lv_at hl 0 rfl) ?_
          refine ng_33 hx hb hts in_x_beginCall hown hK hP (hts _ (List.mem_cons_of_mem _ (List.mem_append_left _ (List.mem_append_left _ (List.mem_of_getElem? (i := 19) rfl))))) dX12_beginCall_300 ?_
          refine lv_iload_n hx hb dX12_beginCall_303 rfl (lv_at hl 2 rfl) ?_
          obtain ⟨q2, h⟩ := nb_ite1 h
          refine nl_18 hx hb hK hP q2 dX12_beginCall_304 ?_
          refine lv_icmp_ge (tgt := 320) hx hb dX12_beginCall_305 (by decide) (fun c3 => ?_) (fun c3 => ?_)
          · rw [if_pos c3] at h
            exact ih.2.2.2.2.2.2.2.2.2.2.2.2.2.2.2.2.2.2.1 (upd L 100 ((((214 + ((60 * ((L 6)))))) + ((L 7))))) σ r h H locs ls hP hD hS (lv_sub hl [0, 1, 2, 3, 4, 5, 6, 7] rfl)
          · rw [if_neg c3] at h
            refine lv_aload_n hx hb dX12_beginCall_308 rfl (lv_at hl 0 rfl) ?_
            refine ng_58 hx hb hts in_x_beginCall hown hK hP (hts _ (List.mem_cons_of_mem _ (List.mem_append_left _ (List.mem_append_left _ (List.mem_of_getElem? (i := 20) rfl))))) dX12_beginCall_309 ?_
            refine lv_iload_n hx hb dX12_beginCall_312 rfl (lv_at hl 3 rfl) ?_
            refine lv_iload hx hb dX12_beginCall_313 (lv_at hl 7 rfl) ?_
            refine lv_iadd hx hb dX12_beginCall_315 ?_
            obtain ⟨q4, h⟩ := nb_ite1 h
            refine nl_29 hx hb hK hP q4 dX12_beginCall_316 ?_
            refine lv_goto (tgt := 321) hx hb dX12_beginCall_317 (by decide) ?_
            exact ih.2.2.2.2.2.2.2.2.2.2.2.2.2.2.2.2.2.2.2.1 (upd (upd L 100 ((σ.2.2 29 ((((L 3)) + ((L 7)))).toNatClampNeg))) 101 ((((214 + ((60 * ((L 6)))))) + ((L 7))))) σ r h H locs ls hP hD hS (lv_sub hl [0, 1, 2, 3, 4, 5, 6, 7] rfl)
      · intro L σ r h H locs ls hP hD hS hl
        rw [x_beginCall] at h
        refine lv_iconst (v := 0) hx hb dX12_beginCall_320 (by decide) ?_
        exact ih.2.2.2.2.2.2.2.2.2.2.2.2.2.2.2.2.2.2.2.1 (upd (upd L 100 0) 101 ((L 100))) σ r h H locs ls hP hD hS (lv_sub hl [0, 1, 2, 3, 4, 5, 6, 7] rfl)
      · intro L σ r h H locs ls hP hD hS hl
        rw [x_beginCall] at h
        obtain ⟨q1, h⟩ := nb_ite1 h
        refine ns_30 hx hb hK hP hD hS q1 dX12_beginCall_321 (fun H locs hP hD hS => ?_)
        exact ih.2.2.2.2.2.2.2.2.2.2.2.2.2.2.2.2.2.2.2.2.1 L (σ.1, σ.2.1, updG σ.2.2 30 (upd (σ.2.2 30) ((L 101)).toNatClampNeg ((L 100)))) r h H locs ls hP hD hS (lv_sub hl [0, 1, 2, 3, 4, 5, 6, 7] rfl)
      · intro L σ r h H locs ls hP hD hS hl
        rw [x_beginCall] at h
        refine lv_iinc (v := ((L 7)) + 1) (lv' := [(7, .int (((L 7)) + 1)), (0, .ref (a 0)), (1, .int (L 1)), (2, .int (L 2)), (3, .int (L 3)), (4, .int (L 4)), (5, .int (L 5)), (6, .int (L 6))]) hx hb dX12_beginCall_322 hl (k := 7) rfl rfl (by decide) rfl (fun ls hl => ?_)
        refine lv_goto (tgt := 274) hx hb dX12_beginCall_325 (by decide) ?_
        exact ih.2.2.2.2.2.2.2.2.2.2.2.2.2.2.2.2.2.1 (upd L 7 (((L 7)) + 1)) σ r h H locs ls hP hD hS (lv_sub hl [1, 2, 3, 4, 5, 6, 7, 0] rfl)
      · intro L σ r h H locs ls hP hD hS hl
        rw [x_beginCall] at h
        refine lv_aload_n hx hb dX12_beginCall_328 rfl (lv_at hl 0 rfl) ?_
        refine lv_iload_n hx hb dX12_beginCall_329 rfl (lv_at hl 3 rfl) ?_
        refine np_59 hx hb hts in_x_beginCall hown hK hP hD hS (hts _ (List.mem_cons_of_mem _ (List.mem_append_left _ (List.mem_append_left _ (List.mem_of_getElem? (i := 1) rfl))))) dX12_beginCall_330 (fun H locs hP hD hS => ?_)
        exact ih.2.2.2.2.2.2.2.2.2.2.2.2.2.2.2.2.2.2.2.2.2.2.1 L (upd σ.1 59 ((L 3)), σ.2.1, σ.2.2) r h H locs ls hP hD hS (lv_sub hl [0, 1, 2, 3, 4, 5, 6, 7] rfl)
      · intro L σ r h H locs ls hP hD hS hl
        rw [x_beginCall] at h
        refine lv_aload_n hx hb dX12_beginCall_333 rfl (lv_at hl 0 rfl) ?_
        refine ng_60 hx hb hts in_x_beginCall hown hK hP (hts _ (List.mem_cons_of_mem _ (List.mem_append_left _ (List.mem_append_left _ (List.mem_of_getElem? (i := 13) rfl))))) dX12_beginCall_334 ?_
        refine lv_iconst (v := 1) hx hb dX12_beginCall_337 (by decide) ?_
        refine lv_dup2_11 hx hb dX12_beginCall_338 rfl rfl ?_
        obtain ⟨q1, h⟩ := nb_ite1 h
        refine nl_30 hx hb hK hP q1 dX12_beginCall_339 ?_
        refine lv_iconst (v := 1) hx hb dX12_beginCall_340 (by decide) ?_
        refine lv_iadd hx hb dX12_beginCall_341 ?_
        obtain ⟨q2, h⟩ := nb_ite1 h
        refine ns_30 hx hb hK hP hD hS q2 dX12_beginCall_342 (fun H locs hP hD hS => ?_)
        exact ih.2.2.2.2.2.2.2.2.2.2.2.2.2.2.2.2.2.2.2.2.2.2.2 L (σ.1, σ.2.1, updG σ.2.2 30 (upd (σ.2.2 30) (1 : Int32).toNatClampNeg ((((σ.2.2 30 (1 : Int32).toNatClampNeg)) + 1)))) r h H locs ls hP hD hS (lv_sub hl [0, 1, 2, 3, 4, 5, 6, 7] rfl)
      · intro L σ r h H locs ls hP hD hS hl
        rw [x_beginCall] at h
        refine lv_aload_n hx hb dX12_beginCall_343 rfl (lv_at hl 0 rfl) ?_
        refine lv_aload_n hx hb dX12_beginCall_344 rfl (lv_at hl 0 rfl) ?_
        refine ng_32 hx hb hts in_x_beginCall hown hK hP (hts _ (List.mem_cons_of_mem _ (List.mem_append_left _ (List.mem_append_left _ (List.mem_of_getElem? (i := 27) rfl))))) dX12_beginCall_345 ?_
        refine lv_iload_n hx hb dX12_beginCall_348 rfl (lv_at hl 2 rfl) ?_
        obtain ⟨q1, h⟩ := nb_ite1 h
        refine nl_17 hx hb hK hP q1 dX12_beginCall_349 ?_
        refine lv_iconst (v := (-1)) hx hb dX12_beginCall_350 (by decide) ?_
        obtain ⟨r2, hc2, h⟩ := ob_ex h
        refine nc_Vv (As := [.int (σ.2.2 17 ((L 2)).toNatClampNeg), .int (-1)]) (rest := []) ⟨hx, hb, hml, hown, hts⟩ (c_x_enter l dC dI cy a k (upd (upd (fun _ => 0) 1 ((σ.2.2 17 ((L 2)).toNatClampNeg))) 2 ((-1))) σ r2 hc2 H.size) (cwV 2 hts g_x_beginCall_enter_895 rfl rfl rfl hd_x_enter ⟨Nat.le_of_ble_eq_true rfl, Nat.le_of_ble_eq_true rfl⟩) hK hG hA hP hD hS rfl hl.1 rfl (Nat.le_of_ble_eq_true rfl) dX12_beginCall_351 ⟨Nat.le_refl _, Nat.le_refl _⟩ (fun H locs hP hD hS => ?_)
        cases h
        exact W.vret hx hb hr (fun t ht hW => ⟨⟨(), rfl, trivial, by rw [ht]; exact hP, va_K.moved hW.alike hK, hD⟩, hS.F ht⟩) hS.2.2 dX12_beginCall_354
  exact (blk k0).1 L0 σ0 r0 h0 s.heap [] ls hP hD hS hl
/-! pass -/
def x_pass : Nat → Nat → (Nat → Int32) → MS → Option (Int32 × MS)
  | 0, _, _, _ => none
  | k + 1, 0, L, σ => if ((σ.1 56)) = 0 then (ob (x_goOnBehind k 0 (upd (fun _ => 0) 1 ((L 1))) σ) (fun r2 => x_pass k 1 L r2.2)) else (x_pass k 1 L σ)
  | k + 1, 1, L, σ => some (0, σ)
  | _ + 1, _ + 2, _, _ => none
def o_x_pass : List Cond := [.fieldLink RX12 362 "SetHouseModel" "err" "I", .methodLink RX12 874 yX12_goOnBehind, .instanceMethod yX12_goOnBehind, .selects RX12 yX12_goOnBehind yX12_goOnBehind, .initialized RX12]
theorem o_x_pass_good : o_x_pass.all goodWord = true := by decide +kernel
def p_x_pass : List Cond := o_x_pass ++ ((.code yX12_goOnBehind cX12_goOnBehind 2 none :: p_x_goOnBehind) ++ [])
theorem p_x_pass_good : p_x_pass.all goodWord = true := nb_all2 o_x_pass_good (nb_all2 (nb_allc (by decide +kernel) p_x_goOnBehind_good) rfl)
def w_x_pass : List Cond := .code yX12_pass cX12_pass 2 none :: (p_x_pass ++ fM)
theorem w_x_pass_good : w_x_pass.all goodWord = true := nb_allc (by decide +kernel) (nb_all2 p_x_pass_good fM_good)
theorem in_x_pass : ∀ w ∈ wsX120, w ∈ w_x_pass := fun _ h => List.mem_cons_of_mem _ (List.mem_append_right _ h)
theorem hd_x_pass : yX12_pass.cls = RX12 ∧ yX12_pass.cls ≠ "java/lang/invoke/MethodHandle" ∧ yX12_pass.cls ≠ "java/lang/invoke/VarHandle" ∧ (parseMethodDescriptor yX12_pass.desc).map (fun d => d.parameters.length) = some 1 := by decide +kernel
theorem gg_x_pass_goOnBehind : GoodIn w_x_pass w_x_goOnBehind := goodIn_sub (fun w h => (List.mem_cons.mp h).elim (fun e => (List.mem_cons_of_mem _ (List.mem_append_left _ (List.mem_append_right _ (List.mem_append_left _ (List.mem_cons.mpr (Or.inl e))))))) (fun h => (List.mem_append.mp h).elim (fun h => (List.mem_cons_of_mem _ (List.mem_append_left _ (List.mem_append_right _ (List.mem_append_left _ (List.mem_cons_of_mem _ h)))))) (fun h => List.mem_cons_of_mem _ (List.mem_append_right _ h)))) w_x_goOnBehind_good
theorem g_x_pass_goOnBehind_874 : GoodIn w_x_pass (wsV RX12 874 RX12 yX12_goOnBehind w_x_goOnBehind) := goodIn_app (nb_g4 (List.mem_cons_of_mem _ (List.mem_append_left _ (List.mem_append_left _ (List.mem_of_getElem? (i := 1) rfl)))) (List.mem_cons_of_mem _ (List.mem_append_left _ (List.mem_append_left _ (List.mem_of_getElem? (i := 2) rfl)))) (List.mem_cons_of_mem _ (List.mem_append_left _ (List.mem_append_left _ (List.mem_of_getElem? (i := 3) rfl)))) (List.mem_cons_of_mem _ (List.mem_append_left _ (List.mem_append_left _ (List.mem_of_getElem? (i := 4) rfl)))) (by decide +kernel)) gg_x_pass_goOnBehind
set_option maxHeartbeats 40000000 in
set_option maxRecDepth 100000 in
theorem c_x_pass (l : Launch) (dC : Nat → ClassId) (dI : Nat → Nat → Nat) (cy : Nat → ClassId) (a : Nat → Nat) (k0 : Nat) (L0 : Nat → Int32) (σ0 : MS) (r0 : Int32 × MS) (h0 : x_pass k0 0 L0 σ0 = some r0) (sz : Nat) : Met l yX12_pass w_x_pass ({ frames := 1364, cells := 0, slots := 0, locals := 36636 }) (va_Pc [.ref (a 0), .int (L0 1)] (nIn (dC, dI) cy sz (vM cy a σ0))) (va_Qv (fun _ : Unit => True) (fun _ t => nOut (dC, dI) cy (va_A (vM cy a σ0) sz) (vM cy a r0.2) t) (va_A (vM cy a σ0) sz)) 0 0 (va_A (vM cy a σ0) sz) := by
  refine Met.ofW (cc := cX12_pass) (maxL := 2) (ret := none) (by decide) rfl ?_
  intro p e s m args below meth c s₁ B hml hv
  obtain ⟨rfl, hsz, hP, hK, hD0, hG⟩ := hv
  have hx := B.exec
  have hb := B.bytes
  have hr := B.returns
  have hts := atoms_spec (ws := w_x_pass) B.pre
  have hown : s.vm.findClass RX12 = some m.cls := findClass_of_methodNamed B.named
  have hlocks := B.notSynchronized
  subst hsz
  have hD := hD0.self (sz := s.heap.size)
  generalize hAe : va_A (vM cy a σ0) s.heap.size = A at hD ⊢
  have hA : ∀ q : Nat, s.heap.size ≤ q → A q := fun q h => by rw [← hAe]; exact Or.inr h
  have hS : va_S A s.heap s.heap [] := va_S.rf
  have hl := lv_entry ([.ref (a 0), .int (L0 1)]) (n := 2) (Nat.le_of_ble_eq_true rfl)
  rw [lg_entry_eq]
  generalize (lg_sl ([.ref (a 0), .int (L0 1)]) ++ List.replicate (2 - (lg_sl ([.ref (a 0), .int (L0 1)])).length) Slot.unset).toArray = ls at hl ⊢
  have hl : lv_has ls 2 [(0, .ref (a 0)), (1, .int (L0 1))] := hl
  have blk : ∀ k : Nat, (bT p l e (headSpec w_x_pass ({ frames := 1364, cells := 0, slots := 0, locals := 36636 })).room s m #[.ref (a 0), .int (L0 1)] below meth c dC dI cy a A (qV dC dI cy a A below #[.ref (a 0), .int (L0 1)] s) 2 (x_pass k 0) (fun L => [(0, .ref (a 0)), (1, .int (L 1))]) 0 (fun L => [])) ∧ (bT p l e (headSpec w_x_pass ({ frames := 1364, cells := 0, slots := 0, locals := 36636 })).room s m #[.ref (a 0), .int (L0 1)] below meth c dC dI cy a A (qV dC dI cy a A below #[.ref (a 0), .int (L0 1)] s) 2 (x_pass k 1) (fun L => [(0, .ref (a 0)), (1, .int (L 1))]) 12 (fun L => [])) := by
    intro k
    induction k with
    | zero => exact ⟨fun L σ r h => (by cases h), fun L σ r h => (by cases h)⟩
    | succ k ih =>
      refine ⟨?_, ?_⟩
      · intro L σ r h H locs ls hP hD hS hl
        rw [x_pass] at h
        refine lv_aload_n hx hb dX12_pass_0 rfl (lv_at hl 0 rfl) ?_
        refine ng_56 hx hb hts in_x_pass hown hK hP (hts _ (List.mem_cons_of_mem _ (List.mem_append_left _ (List.mem_append_left _ (List.mem_of_getElem? (i := 0) rfl))))) dX12_pass_1 ?_
        refine lv_if_ne (tgt := 12) hx hb dX12_pass_4 (by decide) (fun c1 => ?_) (fun c1 => ?_)
        · rw [if_neg c1] at h
          exact ih.2 L σ r h H locs ls hP hD hS (lv_sub hl [0, 1] rfl)
        · rw [if_pos c1] at h
          refine lv_aload_n hx hb dX12_pass_7 rfl (lv_at hl 0 rfl) ?_
          refine lv_iload_n hx hb dX12_pass_8 rfl (lv_at hl 1 rfl) ?_
          obtain ⟨r2, hc2, h⟩ := ob_ex h
          refine nc_Vv (As := [.int (L 1)]) (rest := []) ⟨hx, hb, hml, hown, hts⟩ (c_x_goOnBehind l dC dI cy a k (upd (fun _ => 0) 1 ((L 1))) σ r2 hc2 H.size) (cwV 1 hts g_x_pass_goOnBehind_874 rfl rfl rfl hd_x_goOnBehind ⟨Nat.le_of_ble_eq_true rfl, Nat.le_of_ble_eq_true rfl⟩) hK hG hA hP hD hS rfl hl.1 rfl (Nat.le_of_ble_eq_true rfl) dX12_pass_9 ⟨Nat.le_refl _, Nat.le_refl _⟩ (fun H locs hP hD hS => ?_)
          exact ih.2 L r2.2 r h H locs ls hP hD hS (lv_sub hl [0, 1] rfl)
      · intro L σ r h H locs ls hP hD hS hl
        rw [x_pass] at h
        cases h
        exact W.vret hx hb hr (fun t ht hW => ⟨⟨(), rfl, trivial, by rw [ht]; exact hP, va_K.moved hW.alike hK, hD⟩, hS.F ht⟩) hS.2.2 dX12_pass_12
  exact (blk k0).1 L0 σ0 r0 h0 s.heap [] ls hP hD hS hl
/-! assignTo -/
def x_assignTo : Nat → Nat → (Nat → Int32) → MS → Option (Int32 × MS)
  | 0, _, _, _ => none
  | k + 1, 0, L, σ => if ¬ (((L 1)) < 0 ∨ 70000 ≤ ((L 1)).toNatClampNeg) then (ob (x_workParts k 0 (upd (fun _ => 0) 1 ((σ.2.2 5 ((L 1)).toNatClampNeg))) σ) (fun r2 => if ((r2.2.1 56)) = 0 then (if ¬ (((L 1)) < 0 ∨ 70000 ≤ ((L 1)).toNatClampNeg) then (ob (x_eval k 0 (upd (fun _ => 0) 1 ((r2.2.2.2 6 ((L 1)).toNatClampNeg))) r2.2) (fun r5 => x_assignTo k 1 (upd (upd L 2 ((σ.2.2 5 ((L 1)).toNatClampNeg))) 3 ((σ.1 59))) r5.2)) else none) else (x_assignTo k 1 (upd (upd L 2 ((σ.2.2 5 ((L 1)).toNatClampNeg))) 3 ((σ.1 59))) r2.2))) else none
  | k + 1, 1, L, σ => if ((σ.1 56)) ≤ 0 then (x_assignTo k 2 L σ) else (some (0, σ))
  | k + 1, 2, L, σ => if ¬ (((L 1)) < 0 ∨ 70000 ≤ ((L 1)).toNatClampNeg) then (if ((σ.2.2 4 ((L 1)).toNatClampNeg)) = 41 then (ob (x_readParts k 0 (upd (upd (upd (fun _ => 0) 1 ((L 2))) 2 ((L 3))) 3 1) σ) (fun r3 => if ((r3.2.1 56)) = 0 then (ob (x_sweep k 0 (upd (fun _ => 0) 1 780000) r3.2) (fun r5 => if ¬ (((L 1)) < 0 ∨ 70000 ≤ ((L 1)).toNatClampNeg) then (if ¬ (((((r5.2.1 59)) - 1)) < 0 ∨ 185000 ≤ ((((r5.2.1 59)) - 1)).toNatClampNeg) then (if ¬ (((((σ.1 59)) - 1)) < 0 ∨ 185000 ≤ ((((σ.1 59)) - 1)).toNatClampNeg) then (ob (x_operate k 0 (upd (upd (upd (fun _ => 0) 1 ((r5.2.2.2 7 ((L 1)).toNatClampNeg))) 2 ((r5.2.2.2 29 ((((r5.2.1 59)) - 1)).toNatClampNeg))) 3 ((r5.2.2.2 29 ((((σ.1 59)) - 1)).toNatClampNeg))) r5.2) (fun r9 => ob (x_answer k 0 (upd (fun _ => 0) 1 r9.1) r9.2) (fun r10 => if ¬ (((((σ.1 59)) - 1)) < 0 ∨ 185000 ≤ ((((σ.1 59)) - 1)).toNatClampNeg) then (x_assignTo k 3 (upd L 4 ((((σ.1 59)) - 1))) (r10.2.1, r10.2.2.1, updG r10.2.2.2 29 (upd (r10.2.2.2 29) ((((σ.1 59)) - 1)).toNatClampNeg r10.1))) else none))) else none) else none) else none)) else (x_assignTo k 3 (upd L 4 ((((σ.1 59)) - 1))) r3.2))) else (x_assignTo k 4 (upd L 4 ((((σ.1 59)) - 1))) σ)) else none
  | k + 1, 3, L, σ => x_assignTo k 4 L (upd σ.1 59 ((((L 4)) + 1)), σ.2.1, σ.2.2)
  | k + 1, 4, L, σ => ob (x_write k 0 (upd (upd (upd (fun _ => 0) 1 ((L 2))) 2 ((L 3))) 3 ((L 4))) σ) (fun r1 => ob (x_pass k 0 (upd (fun _ => 0) 1 ((L 1))) r1.2) (fun r2 => some (0, r2.2)))
  | _ + 1, _ + 5, _, _ => none
def o_x_assignTo : List Cond := [.fieldLink RX12 86 "SetHouseModel" "x1" "[I", .fieldLink RX12 385 "SetHouseModel" "top" "I", .methodLink RX12 901 yX12_workParts, .instanceMethod yX12_workParts, .selects RX12 yX12_workParts yX12_workParts, .initialized RX12, .fieldLink RX12 362 "SetHouseModel" "err" "I", .fieldLink RX12 89 "SetHouseModel" "x2" "[I", .methodLink RX12 566 yX12_eval, .instanceMethod yX12_eval, .selects RX12 yX12_eval yX12_eval, .fieldLink RX12 83 "SetHouseModel" "op" "[I", .methodLink RX12 824 yX12_readParts, .instanceMethod yX12_readParts, .selects RX12 yX12_readParts yX12_readParts, .constant RX12 584 (780000), .methodLink RX12 585 yX12_sweep, .instanceMethod yX12_sweep, .selects RX12 yX12_sweep yX12_sweep, .fieldLink RX12 382 "SetHouseModel" "pile" "[I", .fieldLink RX12 92 "SetHouseModel" "x3" "[I", .methodLink RX12 659 yX12_operate, .instanceMethod yX12_operate, .selects RX12 yX12_operate yX12_operate, .methodLink RX12 591 yX12_answer, .instanceMethod yX12_answer, .selects RX12 yX12_answer yX12_answer, .methodLink RX12 904 yX12_write, .instanceMethod yX12_write, .selects RX12 yX12_write yX12_write, .methodLink RX12 926 yX12_pass, .instanceMethod yX12_pass, .selects RX12 yX12_pass yX12_pass]
theorem o_x_assignTo_good : o_x_assignTo.all goodWord = true := by decide +kernel
def p_x_assignTo : List Cond := o_x_assignTo ++ ((.code yX12_workParts cX12_workParts 3 none :: p_x_workParts) ++ ((.code yX12_eval cX12_eval 3 none :: p_x_GV) ++ ((.code yX12_readParts cX12_readParts 7 none :: p_x_readParts) ++ ((.code yX12_sweep cX12_sweep 5 none :: p_x_sweep) ++ ((.code yX12_operate cX12_operate 8 (some .int) :: p_x_operate) ++ ((.code yX12_answer cX12_answer 2 (some .int) :: p_x_answer) ++ ((.code yX12_write cX12_write 10 none :: p_x_write) ++ ((.code yX12_pass cX12_pass 2 none :: p_x_pass) ++ []))))))))
theorem p_x_assignTo_good : p_x_assignTo.all goodWord = true := nb_all2 o_x_assignTo_good (nb_all2 (nb_allc (by decide +kernel) p_x_workParts_good) (nb_all2 (nb_allc (by decide +kernel) p_x_GV_good) (nb_all2 (nb_allc (by decide +kernel) p_x_readParts_good) (nb_all2 (nb_allc (by decide +kernel) p_x_sweep_good) (nb_all2 (nb_allc (by decide +kernel) p_x_operate_good) (nb_all2 (nb_allc (by decide +kernel) p_x_answer_good) (nb_all2 (nb_allc (by decide +kernel) p_x_write_good) (nb_all2 (nb_allc (by decide +kernel) p_x_pass_good) rfl))))))))
def w_x_assignTo : List Cond := .code yX12_assignTo cX12_assignTo 5 none :: (p_x_assignTo ++ fM)
theorem w_x_assignTo_good : w_x_assignTo.all goodWord = true := nb_allc (by decide +kernel) (nb_all2 p_x_assignTo_good fM_good)
theorem in_x_assignTo : ∀ w ∈ wsX120, w ∈ w_x_assignTo := fun _ h => List.mem_cons_of_mem _ (List.mem_append_right _ h)
theorem hd_x_assignTo : yX12_assignTo.cls = RX12 ∧ yX12_assignTo.cls ≠ "java/lang/invoke/MethodHandle" ∧ yX12_assignTo.cls ≠ "java/lang/invoke/VarHandle" ∧ (parseMethodDescriptor yX12_assignTo.desc).map (fun d => d.parameters.length) = some 1 := by decide +kernel
theorem gg_x_assignTo_answer : GoodIn w_x_assignTo w_x_answer := goodIn_sub (fun w h => (List.mem_cons.mp h).elim (fun e => (List.mem_cons_of_mem _ (List.mem_append_left _ (List.mem_append_right _ (List.mem_append_right _ (List.mem_append_right _ (List.mem_append_right _ (List.mem_append_right _ (List.mem_append_right _ (List.mem_append_left _ (List.mem_cons.mpr (Or.inl e)))))))))))) (fun h => (List.mem_append.mp h).elim (fun h => (List.mem_cons_of_mem _ (List.mem_append_left _ (List.mem_append_right _ (List.mem_append_right _ (List.mem_append_right _ (List.mem_append_right _ (List.mem_append_right _ (List.mem_append_right _ (List.mem_append_left _ (List.mem_cons_of_mem _ h))))))))))) (fun h => List.mem_cons_of_mem _ (List.mem_append_right _ h)))) w_x_answer_good
theorem g_x_assignTo_answer_591 : GoodIn w_x_assignTo (wsV RX12 591 RX12 yX12_answer w_x_answer) := goodIn_app (nb_g4 (List.mem_cons_of_mem _ (List.mem_append_left _ (List.mem_append_left _ (List.mem_of_getElem? (i := 24) rfl)))) (List.mem_cons_of_mem _ (List.mem_append_left _ (List.mem_append_left _ (List.mem_of_getElem? (i := 25) rfl)))) (List.mem_cons_of_mem _ (List.mem_append_left _ (List.mem_append_left _ (List.mem_of_getElem? (i := 26) rfl)))) (List.mem_cons_of_mem _ (List.mem_append_left _ (List.mem_append_left _ (List.mem_of_getElem? (i := 5) rfl)))) (by decide +kernel)) gg_x_assignTo_answer
theorem gg_x_assignTo_eval : GoodIn w_x_assignTo w_x_eval := goodIn_sub (fun w h => (List.mem_cons.mp h).elim (fun e => (List.mem_cons_of_mem _ (List.mem_append_left _ (List.mem_append_right _ (List.mem_append_right _ (List.mem_append_left _ (List.mem_cons.mpr (Or.inl e)))))))) (fun h => (List.mem_append.mp h).elim (fun h => (List.mem_cons_of_mem _ (List.mem_append_left _ (List.mem_append_right _ (List.mem_append_right _ (List.mem_append_left _ (List.mem_cons_of_mem _ h))))))) (fun h => List.mem_cons_of_mem _ (List.mem_append_right _ h)))) w_x_eval_good
theorem g_x_assignTo_eval_566 : GoodIn w_x_assignTo (wsV RX12 566 RX12 yX12_eval w_x_eval) := goodIn_app (nb_g4 (List.mem_cons_of_mem _ (List.mem_append_left _ (List.mem_append_left _ (List.mem_of_getElem? (i := 8) rfl)))) (List.mem_cons_of_mem _ (List.mem_append_left _ (List.mem_append_left _ (List.mem_of_getElem? (i := 9) rfl)))) (List.mem_cons_of_mem _ (List.mem_append_left _ (List.mem_append_left _ (List.mem_of_getElem? (i := 10) rfl)))) (List.mem_cons_of_mem _ (List.mem_append_left _ (List.mem_append_left _ (List.mem_of_getElem? (i := 5) rfl)))) (by decide +kernel)) gg_x_assignTo_eval
theorem gg_x_assignTo_operate : GoodIn w_x_assignTo w_x_operate := goodIn_sub (fun w h => (List.mem_cons.mp h).elim (fun e => (List.mem_cons_of_mem _ (List.mem_append_left _ (List.mem_append_right _ (List.mem_append_right _ (List.mem_append_right _ (List.mem_append_right _ (List.mem_append_right _ (List.mem_append_left _ (List.mem_cons.mpr (Or.inl e))))))))))) (fun h => (List.mem_append.mp h).elim (fun h => (List.mem_cons_of_mem _ (List.mem_append_left _ (List.mem_append_right _ (List.mem_append_right _ (List.mem_append_right _ (List.mem_append_right _ (List.mem_append_right _ (List.mem_append_left _ (List.mem_cons_of_mem _ h)))))))))) (fun h => List.mem_cons_of_mem _ (List.mem_append_right _ h)))) w_x_operate_good
theorem g_x_assignTo_operate_659 : GoodIn w_x_assignTo (wsV RX12 659 RX12 yX12_operate w_x_operate) := goodIn_app (nb_g4 (List.mem_cons_of_mem _ (List.mem_append_left _ (List.mem_append_left _ (List.mem_of_getElem? (i := 21) rfl)))) (List.mem_cons_of_mem _ (List.mem_append_left _ (List.mem_append_left _ (List.mem_of_getElem? (i := 22) rfl)))) (List.mem_cons_of_mem _ (List.mem_append_left _ (List.mem_append_left _ (List.mem_of_getElem? (i := 23) rfl)))) (List.mem_cons_of_mem _ (List.mem_append_left _ (List.mem_append_left _ (List.mem_of_getElem? (i := 5) rfl)))) (by decide +kernel)) gg_x_assignTo_operate
theorem gg_x_assignTo_pass : GoodIn w_x_assignTo w_x_pass := goodIn_sub (fun w h => (List.mem_cons.mp h).elim (fun e => (List.mem_cons_of_mem _ (List.mem_append_left _ (List.mem_append_right _ (List.mem_append_right _ (List.mem_append_right _ (List.mem_append_right _ (List.mem_append_right _ (List.mem_append_right _ (List.mem_append_right _ (List.mem_append_right _ (List.mem_append_left _ (List.mem_cons.mpr (Or.inl e)))))))))))))) (fun h => (List.mem_append.mp h).elim (fun h => (List.mem_cons_of_mem _ (List.mem_append_left _ (List.mem_append_right _ (List.mem_append_right _ (List.mem_append_right _ (List.mem_append_right _ (List.mem_append_right _ (List.mem_append_right _ (List.mem_append_right _ (List.mem_append_right _ (List.mem_append_left _ (List.mem_cons_of_mem _ h))))))))))))) (fun h => List.mem_cons_of_mem _ (List.mem_append_right _ h)))) w_x_pass_good
theorem g_x_assignTo_pass_926 : GoodIn w_x_assignTo (wsV RX12 926 RX12 yX12_pass w_x_pass) := goodIn_app (nb_g4 (List.mem_cons_of_mem _ (List.mem_append_left _ (List.mem_append_left _ (List.mem_of_getElem? (i := 30) rfl)))) (List.mem_cons_of_mem _ (List.mem_append_left _ (List.mem_append_left _ (List.mem_of_getElem? (i := 31) rfl)))) (List.mem_cons_of_mem _ (List.mem_append_left _ (List.mem_append_left _ (List.mem_of_getElem? (i := 32) rfl)))) (List.mem_cons_of_mem _ (List.mem_append_left _ (List.mem_append_left _ (List.mem_of_getElem? (i := 5) rfl)))) (by decide +kernel)) gg_x_assignTo_pass
theorem gg_x_assignTo_readParts : GoodIn w_x_assignTo w_x_readParts := goodIn_sub (fun w h => (List.mem_cons.mp h).elim (fun e => (List.mem_cons_of_mem _ (List.mem_append_left _ (List.mem_append_right _ (List.mem_append_right _ (List.mem_append_right _ (List.mem_append_left _ (List.mem_cons.mpr (Or.inl e))))))))) (fun h => (List.mem_append.mp h).elim (fun h => (List.mem_cons_of_mem _ (List.mem_append_left _ (List.mem_append_right _ (List.mem_append_right _ (List.mem_append_right _ (List.mem_append_left _ (List.mem_cons_of_mem _ h)))))))) (fun h => List.mem_cons_of_mem _ (List.mem_append_right _ h)))) w_x_readParts_good
theorem g_x_assignTo_readParts_824 : GoodIn w_x_assignTo (wsV RX12 824 RX12 yX12_readParts w_x_readParts) := goodIn_app (nb_g4 (List.mem_cons_of_mem _ (List.mem_append_left _ (List.mem_append_left _ (List.mem_of_getElem? (i := 12) rfl)))) (List.mem_cons_of_mem _ (List.mem_append_left _ (List.mem_append_left _ (List.mem_of_getElem? (i := 13) rfl)))) (List.mem_cons_of_mem _ (List.mem_append_left _ (List.mem_append_left _ (List.mem_of_getElem? (i := 14) rfl)))) (List.mem_cons_of_mem _ (List.mem_append_left _ (List.mem_append_left _ (List.mem_of_getElem? (i := 5) rfl)))) (by decide +kernel)) gg_x_assignTo_readParts
theorem gg_x_assignTo_sweep : GoodIn w_x_assignTo w_x_sweep := goodIn_sub (fun w h => (List.mem_cons.mp h).elim (fun e => (List.mem_cons_of_mem _ (List.mem_append_left _ (List.mem_append_right _ (List.mem_append_right _ (List.mem_append_right _ (List.mem_append_right _ (List.mem_append_left _ (List.mem_cons.mpr (Or.inl e)))))))))) (fun h => (List.mem_append.mp h).elim (fun h => (List.mem_cons_of_mem _ (List.mem_append_left _ (List.mem_append_right _ (List.mem_append_right _ (List.mem_append_right _ (List.mem_append_right _ (List.mem_append_left _ (List.mem_cons_of_mem _ h))))))))) (fun h => List.mem_cons_of_mem _ (List.mem_append_right _ h)))) w_x_sweep_good
theorem g_x_assignTo_sweep_585 : GoodIn w_x_assignTo (wsV RX12 585 RX12 yX12_sweep w_x_sweep) := goodIn_app (nb_g4 (List.mem_cons_of_mem _ (List.mem_append_left _ (List.mem_append_left _ (List.mem_of_getElem? (i := 16) rfl)))) (List.mem_cons_of_mem _ (List.mem_append_left _ (List.mem_append_left _ (List.mem_of_getElem? (i := 17) rfl)))) (List.mem_cons_of_mem _ (List.mem_append_left _ (List.mem_append_left _ (List.mem_of_getElem? (i := 18) rfl)))) (List.mem_cons_of_mem _ (List.mem_append_left _ (List.mem_append_left _ (List.mem_of_getElem? (i := 5) rfl)))) (by decide +kernel)) gg_x_assignTo_sweep
theorem gg_x_assignTo_workParts : GoodIn w_x_assignTo w_x_workParts := goodIn_sub (fun w h => (List.mem_cons.mp h).elim (fun e => (List.mem_cons_of_mem _ (List.mem_append_left _ (List.mem_append_right _ (List.mem_append_left _ (List.mem_cons.mpr (Or.inl e))))))) (fun h => (List.mem_append.mp h).elim (fun h => (List.mem_cons_of_mem _ (List.mem_append_left _ (List.mem_append_right _ (List.mem_append_left _ (List.mem_cons_of_mem _ h)))))) (fun h => List.mem_cons_of_mem _ (List.mem_append_right _ h)))) w_x_workParts_good
theorem g_x_assignTo_workParts_901 : GoodIn w_x_assignTo (wsV RX12 901 RX12 yX12_workParts w_x_workParts) := goodIn_app (nb_g4 (List.mem_cons_of_mem _ (List.mem_append_left _ (List.mem_append_left _ (List.mem_of_getElem? (i := 2) rfl)))) (List.mem_cons_of_mem _ (List.mem_append_left _ (List.mem_append_left _ (List.mem_of_getElem? (i := 3) rfl)))) (List.mem_cons_of_mem _ (List.mem_append_left _ (List.mem_append_left _ (List.mem_of_getElem? (i := 4) rfl)))) (List.mem_cons_of_mem _ (List.mem_append_left _ (List.mem_append_left _ (List.mem_of_getElem? (i := 5) rfl)))) (by decide +kernel)) gg_x_assignTo_workParts
theorem gg_x_assignTo_write : GoodIn w_x_assignTo w_x_write := goodIn_sub (fun w h => (List.mem_cons.mp h).elim (fun e => (List.mem_cons_of_mem _ (List.mem_append_left _ (List.mem_append_right _ (List.mem_append_right _ (List.mem_append_right _ (List.mem_append_right _ (List.mem_append_right _ (List.mem_append_right _ (List.mem_append_right _ (List.mem_append_left _ (List.mem_cons.mpr (Or.inl e))))))))))))) (fun h => (List.mem_append.mp h).elim (fun h => (List.mem_cons_of_mem _ (List.mem_append_left _ (List.mem_append_right _ (List.mem_append_right _ (List.mem_append_right _ (List.mem_append_right _ (List.mem_append_right _ (List.mem_append_right _ (List.mem_append_right _ (List.mem_append_left _ (List.mem_cons_of_mem _ h)))))))))))) (fun h => List.mem_cons_of_mem _ (List.mem_append_right _ h)))) w_x_write_good
theorem g_x_assignTo_write_904 : GoodIn w_x_assignTo (wsV RX12 904 RX12 yX12_write w_x_write) := goodIn_app (nb_g4 (List.mem_cons_of_mem _ (List.mem_append_left _ (List.mem_append_left _ (List.mem_of_getElem? (i := 27) rfl)))) (List.mem_cons_of_mem _ (List.mem_append_left _ (List.mem_append_left _ (List.mem_of_getElem? (i := 28) rfl)))) (List.mem_cons_of_mem _ (List.mem_append_left _ (List.mem_append_left _ (List.mem_of_getElem? (i := 29) rfl)))) (List.mem_cons_of_mem _ (List.mem_append_left _ (List.mem_append_left _ (List.mem_of_getElem? (i := 5) rfl)))) (by decide +kernel)) gg_x_assignTo_write
set_option maxHeartbeats 40000000 in
set_option maxRecDepth 100000 in
theorem c_x_assignTo (l : Launch) (dC : Nat → ClassId) (dI : Nat → Nat → Nat) (cy : Nat → ClassId) (a : Nat → Nat) (k0 : Nat) (L0 : Nat → Int32) (σ0 : MS) (r0 : Int32 × MS) (h0 : x_assignTo k0 0 L0 σ0 = some r0) (sz : Nat) : Met l yX12_assignTo w_x_assignTo ({ frames := 1365, cells := 0, slots := 0, locals := 36657 }) (va_Pc [.ref (a 0), .int (L0 1)] (nIn (dC, dI) cy sz (vM cy a σ0))) (va_Qv (fun _ : Unit => True) (fun _ t => nOut (dC, dI) cy (va_A (vM cy a σ0) sz) (vM cy a r0.2) t) (va_A (vM cy a σ0) sz)) 0 0 (va_A (vM cy a σ0) sz) := by
  refine Met.ofW (cc := cX12_assignTo) (maxL := 5) (ret := none) (by decide) rfl ?_
  intro p e s m args below meth c s₁ B hml hv
  obtain ⟨rfl, hsz, hP, hK, hD0, hG⟩ := hv
  have hx := B.exec
  have hb := B.bytes
  have hr := B.returns
  have hts := atoms_spec (ws := w_x_assignTo) B.pre
  have hown : s.vm.findClass RX12 = some m.cls := findClass_of_methodNamed B.named
  have hlocks := B.notSynchronized
  subst hsz
  have hD := hD0.self (sz := s.heap.size)
  generalize hAe : va_A (vM cy a σ0) s.heap.size = A at hD ⊢
  have hA : ∀ q : Nat, s.heap.size ≤ q → A q := fun q h => by rw [← hAe]; exact Or.inr h
  have hS : va_S A s.heap s.heap [] := va_S.rf
  have hl := lv_entry ([.ref (a 0), .int (L0 1)]) (n := 5) (Nat.le_of_ble_eq_true rfl)
  rw [lg_entry_eq]
  generalize (lg_sl ([.ref (a 0), .int (L0 1)]) ++ List.replicate (5 - (lg_sl ([.ref (a 0), .int (L0 1)])).length) Slot.unset).toArray = ls at hl ⊢
  have hl : lv_has ls 5 [(0, .ref (a 0)), (1, .int (L0 1))] := hl
  have blk : ∀ k : Nat, (bT p l e (headSpec w_x_assignTo ({ frames := 1365, cells := 0, slots := 0, locals := 36657 })).room s m #[.ref (a 0), .int (L0 1)] below meth c dC dI cy a A (qV dC dI cy a A below #[.ref (a 0), .int (L0 1)] s) 5 (x_assignTo k 0) (fun L => [(0, .ref (a 0)), (1, .int (L 1))]) 0 (fun L => [])) ∧ (bT p l e (headSpec w_x_assignTo ({ frames := 1365, cells := 0, slots := 0, locals := 36657 })).room s m #[.ref (a 0), .int (L0 1)] below meth c dC dI cy a A (qV dC dI cy a A below #[.ref (a 0), .int (L0 1)] s) 5 (x_assignTo k 1) (fun L => [(0, .ref (a 0)), (1, .int (L 1)), (2, .int (L 2)), (3, .int (L 3))]) 34 (fun L => [])) ∧ (bT p l e (headSpec w_x_assignTo ({ frames := 1365, cells := 0, slots := 0, locals := 36657 })).room s m #[.ref (a 0), .int (L0 1)] below meth c dC dI cy a A (qV dC dI cy a A below #[.ref (a 0), .int (L0 1)] s) 5 (x_assignTo k 2) (fun L => [(0, .ref (a 0)), (1, .int (L 1)), (2, .int (L 2)), (3, .int (L 3))]) 42 (fun L => [])) ∧ (bT p l e (headSpec w_x_assignTo ({ frames := 1365, cells := 0, slots := 0, locals := 36657 })).room s m #[.ref (a 0), .int (L0 1)] below meth c dC dI cy a A (qV dC dI cy a A below #[.ref (a 0), .int (L0 1)] s) 5 (x_assignTo k 3) (fun L => [(0, .ref (a 0)), (1, .int (L 1)), (2, .int (L 2)), (3, .int (L 3)), (4, .int (L 4))]) 121 (fun L => [])) ∧ (bT p l e (headSpec w_x_assignTo ({ frames := 1365, cells := 0, slots := 0, locals := 36657 })).room s m #[.ref (a 0), .int (L0 1)] below meth c dC dI cy a A (qV dC dI cy a A below #[.ref (a 0), .int (L0 1)] s) 5 (x_assignTo k 4) (fun L => [(0, .ref (a 0)), (1, .int (L 1)), (2, .int (L 2)), (3, .int (L 3)), (4, .int (L 4))]) 129 (fun L => [])) := by
    intro k
    induction k with
    | zero => exact ⟨fun L σ r h => (by cases h), fun L σ r h => (by cases h), fun L σ r h => (by cases h), fun L σ r h => (by cases h), fun L σ r h => (by cases h)⟩
    | succ k ih =>
      refine ⟨?_, ?_, ?_, ?_, ?_⟩
      · intro L σ r h H locs ls hP hD hS hl
        rw [x_assignTo] at h
        refine lv_aload_n hx hb dX12_assignTo_0 rfl (lv_at hl 0 rfl) ?_
        refine ng_15 hx hb hts in_x_assignTo hown hK hP (hts _ (List.mem_cons_of_mem _ (List.mem_append_left _ (List.mem_append_left _ (List.mem_of_getElem? (i := 0) rfl))))) dX12_assignTo_1 ?_
        refine lv_iload_n hx hb dX12_assignTo_4 rfl (lv_at hl 1 rfl) ?_
        obtain ⟨q1, h⟩ := nb_ite1 h
        refine nl_5 hx hb hK hP q1 dX12_assignTo_5 ?_
        refine lv_istore_n (lv' := [(2, .int (σ.2.2 5 ((L 1)).toNatClampNeg)), (0, .ref (a 0)), (1, .int (L 1))]) hx hb dX12_assignTo_6 rfl hl (by decide) rfl (fun ls hl => ?_)
        refine lv_aload_n hx hb dX12_assignTo_7 rfl (lv_at hl 1 rfl) ?_
        refine ng_59 hx hb hts in_x_assignTo hown hK hP (hts _ (List.mem_cons_of_mem _ (List.mem_append_left _ (List.mem_append_left _ (List.mem_of_getElem? (i := 1) rfl))))) dX12_assignTo_8 ?_
        refine lv_istore_n (lv' := [(3, .int (σ.1 59)), (2, .int (σ.2.2 5 ((L 1)).toNatClampNeg)), (0, .ref (a 0)), (1, .int (L 1))]) hx hb dX12_assignTo_11 rfl hl (by decide) rfl (fun ls hl => ?_)
        refine lv_aload_n hx hb dX12_assignTo_12 rfl (lv_at hl 2 rfl) ?_
        refine lv_iload_n hx hb dX12_assignTo_13 rfl (lv_at hl 1 rfl) ?_
        obtain ⟨r2, hc2, h⟩ := ob_ex h
        refine nc_Vv (As := [.int (σ.2.2 5 ((L 1)).toNatClampNeg)]) (rest := []) ⟨hx, hb, hml, hown, hts⟩ (c_x_workParts l dC dI cy a k (upd (fun _ => 0) 1 ((σ.2.2 5 ((L 1)).toNatClampNeg))) σ r2 hc2 H.size) (cwV 1 hts g_x_assignTo_workParts_901 rfl rfl rfl hd_x_workParts ⟨Nat.le_of_ble_eq_true rfl, Nat.le_of_ble_eq_true rfl⟩) hK hG hA hP hD hS rfl hl.1 rfl (Nat.le_of_ble_eq_true rfl) dX12_assignTo_14 ⟨Nat.le_refl _, Nat.le_refl _⟩ (fun H locs hP hD hS => ?_)
        refine lv_aload_n hx hb dX12_assignTo_17 rfl (lv_at hl 2 rfl) ?_
        refine ng_56 hx hb hts in_x_assignTo hown hK hP (hts _ (List.mem_cons_of_mem _ (List.mem_append_left _ (List.mem_append_left _ (List.mem_of_getElem? (i := 6) rfl))))) dX12_assignTo_18 ?_
        refine lv_if_ne (tgt := 34) hx hb dX12_assignTo_21 (by decide) (fun c3 => ?_) (fun c3 => ?_)
        · rw [if_neg c3] at h
          exact ih.2.1 (upd (upd L 2 ((σ.2.2 5 ((L 1)).toNatClampNeg))) 3 ((σ.1 59))) r2.2 r h H locs ls hP hD hS (lv_sub hl [2, 3, 1, 0] rfl)
        · rw [if_pos c3] at h
          refine lv_aload_n hx hb dX12_assignTo_24 rfl (lv_at hl 2 rfl) ?_
          refine lv_aload_n hx hb dX12_assignTo_25 rfl (lv_at hl 2 rfl) ?_
          refine ng_16 hx hb hts in_x_assignTo hown hK hP (hts _ (List.mem_cons_of_mem _ (List.mem_append_left _ (List.mem_append_left _ (List.mem_of_getElem? (i := 7) rfl))))) dX12_assignTo_26 ?_
          refine lv_iload_n hx hb dX12_assignTo_29 rfl (lv_at hl 3 rfl) ?_
          obtain ⟨q4, h⟩ := nb_ite1 h
          refine nl_6 hx hb hK hP q4 dX12_assignTo_30 ?_
          obtain ⟨r5, hc5, h⟩ := ob_ex h
          refine nc_Vv (As := [.int (r2.2.2.2 6 ((L 1)).toNatClampNeg)]) (rest := []) ⟨hx, hb, hml, hown, hts⟩ (c_x_eval l dC dI cy a k (upd (fun _ => 0) 1 ((r2.2.2.2 6 ((L 1)).toNatClampNeg))) r2.2 r5 hc5 H.size) (cwV 1 hts g_x_assignTo_eval_566 rfl rfl rfl hd_x_eval ⟨Nat.le_of_ble_eq_true rfl, Nat.le_of_ble_eq_true rfl⟩) hK hG hA hP hD hS rfl hl.1 rfl (Nat.le_of_ble_eq_true rfl) dX12_assignTo_31 ⟨Nat.le_refl _, Nat.le_refl _⟩ (fun H locs hP hD hS => ?_)
          exact ih.2.1 (upd (upd L 2 ((σ.2.2 5 ((L 1)).toNatClampNeg))) 3 ((σ.1 59))) r5.2 r h H locs ls hP hD hS (lv_sub hl [2, 3, 1, 0] rfl)
      · intro L σ r h H locs ls hP hD hS hl
        rw [x_assignTo] at h
        refine lv_aload_n hx hb dX12_assignTo_34 rfl (lv_at hl 0 rfl) ?_
        refine ng_56 hx hb hts in_x_assignTo hown hK hP (hts _ (List.mem_cons_of_mem _ (List.mem_append_left _ (List.mem_append_left _ (List.mem_of_getElem? (i := 6) rfl))))) dX12_assignTo_35 ?_
        refine lv_if_le (tgt := 42) hx hb dX12_assignTo_38 (by decide) (fun c1 => ?_) (fun c1 => ?_)
        · rw [if_pos c1] at h
          exact ih.2.2.1 L σ r h H locs ls hP hD hS (lv_sub hl [0, 1, 2, 3] rfl)
        · rw [if_neg c1] at h
          cases h
          exact W.vret hx hb hr (fun t ht hW => ⟨⟨(), rfl, trivial, by rw [ht]; exact hP, va_K.moved hW.alike hK, hD⟩, hS.F ht⟩) hS.2.2 dX12_assignTo_41
      · intro L σ r h H locs ls hP hD hS hl
        rw [x_assignTo] at h
        refine lv_aload_n hx hb dX12_assignTo_42 rfl (lv_at hl 0 rfl) ?_
        refine ng_59 hx hb hts in_x_assignTo hown hK hP (hts _ (List.mem_cons_of_mem _ (List.mem_append_left _ (List.mem_append_left _ (List.mem_of_getElem? (i := 1) rfl))))) dX12_assignTo_43 ?_
        refine lv_iconst (v := 1) hx hb dX12_assignTo_46 (by decide) ?_
        refine lv_isub hx hb dX12_assignTo_47 ?_
        refine lv_istore (lv' := [(4, .int (((σ.1 59)) - 1)), (0, .ref (a 0)), (1, .int (L 1)), (2, .int (L 2)), (3, .int (L 3))]) hx hb dX12_assignTo_48 hl (by decide) rfl (fun ls hl => ?_)
        refine lv_aload_n hx hb dX12_assignTo_50 rfl (lv_at hl 1 rfl) ?_
        refine ng_14 hx hb hts in_x_assignTo hown hK hP (hts _ (List.mem_cons_of_mem _ (List.mem_append_left _ (List.mem_append_left _ (List.mem_of_getElem? (i := 11) rfl))))) dX12_assignTo_51 ?_
        refine lv_iload_n hx hb dX12_assignTo_54 rfl (lv_at hl 2 rfl) ?_
        obtain ⟨q1, h⟩ := nb_ite1 h
        refine nl_4 hx hb hK hP q1 dX12_assignTo_55 ?_
        refine lv_bipush (v := 41) hx hb dX12_assignTo_56 (by decide) ?_
        refine lv_icmp_ne (tgt := 129) hx hb dX12_assignTo_58 (by decide) (fun c2 => ?_) (fun c2 => ?_)
        · rw [if_neg c2] at h
          exact ih.2.2.2.2 (upd L 4 ((((σ.1 59)) - 1))) σ r h H locs ls hP hD hS (lv_sub hl [1, 2, 3, 4, 0] rfl)
        · rw [if_pos c2] at h
          refine lv_aload_n hx hb dX12_assignTo_61 rfl (lv_at hl 1 rfl) ?_
          refine lv_iload_n hx hb dX12_assignTo_62 rfl (lv_at hl 3 rfl) ?_
          refine lv_iload_n hx hb dX12_assignTo_63 rfl (lv_at hl 4 rfl) ?_
          refine lv_iconst (v := 1) hx hb dX12_assignTo_64 (by decide) ?_
          obtain ⟨r3, hc3, h⟩ := ob_ex h
          refine nc_Vv (As := [.int (L 2), .int (L 3), .int 1]) (rest := []) ⟨hx, hb, hml, hown, hts⟩ (c_x_readParts l dC dI cy a k (upd (upd (upd (fun _ => 0) 1 ((L 2))) 2 ((L 3))) 3 1) σ r3 hc3 H.size) (cwV 3 hts g_x_assignTo_readParts_824 rfl rfl rfl hd_x_readParts ⟨Nat.le_of_ble_eq_true rfl, Nat.le_of_ble_eq_true rfl⟩) hK hG hA hP hD hS rfl hl.1 rfl (Nat.le_of_ble_eq_true rfl) dX12_assignTo_65 ⟨Nat.le_refl _, Nat.le_refl _⟩ (fun H locs hP hD hS => ?_)
          refine lv_aload_n hx hb dX12_assignTo_68 rfl (lv_at hl 1 rfl) ?_
          refine ng_56 hx hb hts in_x_assignTo hown hK hP (hts _ (List.mem_cons_of_mem _ (List.mem_append_left _ (List.mem_append_left _ (List.mem_of_getElem? (i := 6) rfl))))) dX12_assignTo_69 ?_
          refine lv_if_ne (tgt := 121) hx hb dX12_assignTo_72 (by decide) (fun c4 => ?_) (fun c4 => ?_)
          · rw [if_neg c4] at h
            exact ih.2.2.2.1 (upd L 4 ((((σ.1 59)) - 1))) r3.2 r h H locs ls hP hD hS (lv_sub hl [1, 2, 3, 4, 0] rfl)
          · rw [if_pos c4] at h
            refine lv_aload_n hx hb dX12_assignTo_75 rfl (lv_at hl 1 rfl) ?_
            refine lv_ldcw (v := 780000) hx hb hown (hts _ (List.mem_cons_of_mem _ (List.mem_append_left _ (List.mem_append_left _ (List.mem_of_getElem? (i := 15) rfl))))) dX12_assignTo_76 ?_
            obtain ⟨r5, hc5, h⟩ := ob_ex h
            refine nc_Vv (As := [.int 780000]) (rest := []) ⟨hx, hb, hml, hown, hts⟩ (c_x_sweep l dC dI cy a k (upd (fun _ => 0) 1 780000) r3.2 r5 hc5 H.size) (cwV 1 hts g_x_assignTo_sweep_585 rfl rfl rfl hd_x_sweep ⟨Nat.le_of_ble_eq_true rfl, Nat.le_of_ble_eq_true rfl⟩) hK hG hA hP hD hS rfl hl.1 rfl (Nat.le_of_ble_eq_true rfl) dX12_assignTo_79 ⟨Nat.le_refl _, Nat.le_refl _⟩ (fun H locs hP hD hS => ?_)
            refine lv_aload_n hx hb dX12_assignTo_82 rfl (lv_at hl 1 rfl) ?_
            refine ng_58 hx hb hts in_x_assignTo hown hK hP (hts _ (List.mem_cons_of_mem _ (List.mem_append_left _ (List.mem_append_left _ (List.mem_of_getElem? (i := 19) rfl))))) dX12_assignTo_83 ?_
            refine lv_iload hx hb dX12_assignTo_86 (lv_at hl 0 rfl) ?_
            refine lv_aload_n hx hb dX12_assignTo_88 rfl (lv_at hl 1 rfl) ?_
            refine lv_aload_n hx hb dX12_assignTo_89 rfl (lv_at hl 1 rfl) ?_
            refine lv_aload_n hx hb dX12_assignTo_90 rfl (lv_at hl 1 rfl) ?_
            refine ng_17 hx hb hts in_x_assignTo hown hK hP (hts _ (List.mem_cons_of_mem _ (List.mem_append_left _ (List.mem_append_left _ (List.mem_of_getElem? (i := 20) rfl))))) dX12_assignTo_91 ?_
            refine lv_iload_n hx hb dX12_assignTo_94 rfl (lv_at hl 2 rfl) ?_
            obtain ⟨q6, h⟩ := nb_ite1 h
            refine nl_7 hx hb hK hP q6 dX12_assignTo_95 ?_
            refine lv_aload_n hx hb dX12_assignTo_96 rfl (lv_at hl 1 rfl) ?_
            refine ng_58 hx hb hts in_x_assignTo hown hK hP (hts _ (List.mem_cons_of_mem _ (List.mem_append_left _ (List.mem_append_left _ (List.mem_of_getElem? (i := 19) rfl))))) dX12_assignTo_97 ?_
            refine lv_aload_n hx hb dX12_assignTo_100 rfl (lv_at hl 1 rfl) ?_
            refine ng_59 hx hb hts in_x_assignTo hown hK hP (hts _ (List.mem_cons_of_mem _ (List.mem_append_left _ (List.mem_append_left _ (List.mem_of_getElem? (i := 1) rfl))))) dX12_assignTo_101 ?_
            refine lv_iconst (v := 1) hx hb dX12_assignTo_104 (by decide) ?_
            refine lv_isub hx hb dX12_assignTo_105 ?_
            obtain ⟨q7, h⟩ := nb_ite1 h
            refine nl_29 hx hb hK hP q7 dX12_assignTo_106 ?_
            refine lv_aload_n hx hb dX12_assignTo_107 rfl (lv_at hl 1 rfl) ?_
            refine ng_58 hx hb hts in_x_assignTo hown hK hP (hts _ (List.mem_cons_of_mem _ (List.mem_append_left _ (List.mem_append_left _ (List.mem_of_getElem? (i := 19) rfl))))) dX12_assignTo_108 ?_
            refine lv_iload hx hb dX12_assignTo_111 (lv_at hl 0 rfl) ?_
            obtain ⟨q8, h⟩ := nb_ite1 h
            refine nl_29 hx hb hK hP q8 dX12_assignTo_113 ?_
            obtain ⟨r9, hc9, h⟩ := ob_ex h
            refine nc_Vi (As := [.int (r5.2.2.2 7 ((L 1)).toNatClampNeg), .int (r5.2.2.2 29 ((((r5.2.1 59)) - 1)).toNatClampNeg), .int (r5.2.2.2 29 ((((σ.1 59)) - 1)).toNatClampNeg)]) (rest := [.ref (a 0), .int (((σ.1 59)) - 1), .ref (a 29)]) ⟨hx, hb, hml, hown, hts⟩ (c_x_operate l dC dI cy a k (upd (upd (upd (fun _ => 0) 1 ((r5.2.2.2 7 ((L 1)).toNatClampNeg))) 2 ((r5.2.2.2 29 ((((r5.2.1 59)) - 1)).toNatClampNeg))) 3 ((r5.2.2.2 29 ((((σ.1 59)) - 1)).toNatClampNeg))) r5.2 r9 hc9 H.size) (cwV 3 hts g_x_assignTo_operate_659 rfl rfl rfl hd_x_operate ⟨Nat.le_of_ble_eq_true rfl, Nat.le_of_ble_eq_true rfl⟩) hK hG hA hP hD hS rfl hl.1 rfl (Nat.le_of_ble_eq_true rfl) dX12_assignTo_114 ⟨Nat.le_refl _, Nat.le_refl _⟩ (fun H locs hP hD hS => ?_)
            obtain ⟨r10, hc10, h⟩ := ob_ex h
            refine nc_Vi (As := [.int r9.1]) (rest := [.int (((σ.1 59)) - 1), .ref (a 29)]) ⟨hx, hb, hml, hown, hts⟩ (c_x_answer l dC dI cy a k (upd (fun _ => 0) 1 r9.1) r9.2 r10 hc10 H.size) (cwV 1 hts g_x_assignTo_answer_591 rfl rfl rfl hd_x_answer ⟨Nat.le_of_ble_eq_true rfl, Nat.le_of_ble_eq_true rfl⟩) hK hG hA hP hD hS rfl hl.1 rfl (Nat.le_of_ble_eq_true rfl) dX12_assignTo_117 ⟨Nat.le_refl _, Nat.le_refl _⟩ (fun H locs hP hD hS => ?_)
            obtain ⟨q11, h⟩ := nb_ite1 h
            refine ns_29 hx hb hK hP hD hS q11 dX12_assignTo_120 (fun H locs hP hD hS => ?_)
            exact ih.2.2.2.1 (upd L 4 ((((σ.1 59)) - 1))) (r10.2.1, r10.2.2.1, updG r10.2.2.2 29 (upd (r10.2.2.2 29) ((((σ.1 59)) - 1)).toNatClampNeg r10.1)) r h H locs ls hP hD hS (lv_sub hl [1, 2, 3, 4, 0] rfl)
      · intro L σ r h H locs ls hP hD hS hl
        rw [x_assignTo] at h
        refine lv_aload_n hx hb dX12_assignTo_121 rfl (lv_at hl 0 rfl) ?_
        refine lv_iload hx hb dX12_assignTo_122 (lv_at hl 4 rfl) ?_
        refine lv_iconst (v := 1) hx hb dX12_assignTo_124 (by decide) ?_
        refine lv_iadd hx hb dX12_assignTo_125 ?_
        refine np_59 hx hb hts in_x_assignTo hown hK hP hD hS (hts _ (List.mem_cons_of_mem _ (List.mem_append_left _ (List.mem_append_left _ (List.mem_of_getElem? (i := 1) rfl))))) dX12_assignTo_126 (fun H locs hP hD hS => ?_)
        exact ih.2.2.2.2 L (upd σ.1 59 ((((L 4)) + 1)), σ.2.1, σ.2.2) r h H locs ls hP hD hS (lv_sub hl [0, 1, 2, 3, 4] rfl)
      · intro L σ r h H locs ls hP hD hS hl
        rw [x_assignTo] at h
        refine lv_aload_n hx hb dX12_assignTo_129 rfl (lv_at hl 0 rfl) ?_
        refine lv_iload_n hx hb dX12_assignTo_130 rfl (lv_at hl 2 rfl) ?_
        refine lv_iload_n hx hb dX12_assignTo_131 rfl (lv_at hl 3 rfl) ?_
        refine lv_iload hx hb dX12_assignTo_132 (lv_at hl 4 rfl) ?_
        obtain ⟨r1, hc1, h⟩ := ob_ex h
        refine nc_Vv (As := [.int (L 2), .int (L 3), .int (L 4)]) (rest := []) ⟨hx, hb, hml, hown, hts⟩ (c_x_write l dC dI cy a k (upd (upd (upd (fun _ => 0) 1 ((L 2))) 2 ((L 3))) 3 ((L 4))) σ r1 hc1 H.size) (cwV 3 hts g_x_assignTo_write_904 rfl rfl rfl hd_x_write ⟨Nat.le_of_ble_eq_true rfl, Nat.le_of_ble_eq_true rfl⟩) hK hG hA hP hD hS rfl hl.1 rfl (Nat.le_of_ble_eq_true rfl) dX12_assignTo_134 ⟨Nat.le_refl _, Nat.le_refl _⟩ (fun H locs hP hD hS => ?_)
        refine lv_aload_n hx hb dX12_assignTo_137 rfl (lv_at hl 0 rfl) ?_
        refine lv_iload_n hx hb dX12_assignTo_138 rfl (lv_at hl 1 rfl) ?_
        obtain ⟨r2, hc2, h⟩ := ob_ex h
        refine nc_Vv (As := [.int (L 1)]) (rest := []) ⟨hx, hb, hml, hown, hts⟩ (c_x_pass l dC dI cy a k (upd (fun _ => 0) 1 ((L 1))) r1.2 r2 hc2 H.size) (cwV 1 hts g_x_assignTo_pass_926 rfl rfl rfl hd_x_pass ⟨Nat.le_of_ble_eq_true rfl, Nat.le_of_ble_eq_true rfl⟩) hK hG hA hP hD hS rfl hl.1 rfl (Nat.le_of_ble_eq_true rfl) dX12_assignTo_139 ⟨Nat.le_refl _, Nat.le_refl _⟩ (fun H locs hP hD hS => ?_)
        cases h
        exact W.vret hx hb hr (fun t ht hW => ⟨⟨(), rfl, trivial, by rw [ht]; exact hP, va_K.moved hW.alike hK, hD⟩, hS.F ht⟩) hS.2.2 dX12_assignTo_142
  exact (blk k0).1 L0 σ0 r0 h0 s.heap [] ls hP hD hS hl
/-! makePoint -/
def x_makePoint : Nat → Nat → (Nat → Int32) → MS → Option (Int32 × MS)
  | 0, _, _, _ => none
  | k + 1, 0, L, σ => if ((σ.1 63)) = 20 then (x_makePoint k 1 L σ) else (if ((((((σ.1 64)) + ((σ.1 65)))) + ((σ.1 64)))) ≤ 40000 then (x_makePoint k 2 L σ) else (x_makePoint k 1 L σ))
  | k + 1, 1, L, σ => ob (x_fail k 0 (upd (fun _ => 0) 1 6) σ) (fun r1 => some (0, r1.2))
  | k + 1, 2, L, σ => if ¬ ((0 : Int32) < 0 ∨ 11514 ≤ (0 : Int32).toNatClampNeg) then (x_makePoint k 3 L (σ.1, σ.2.1, updG σ.2.2 30 (upd (σ.2.2 30) (0 : Int32).toNatClampNeg ((L 1))))) else none
  | k + 1, 3, L, σ => x_makePoint k 4 (upd L 2 0) σ
  | k + 1, 4, L, σ => if 11514 ≤ ((L 2)) then (x_makePoint k 6 L σ) else (if ¬ (((L 2)) < 0 ∨ 11514 ≤ ((L 2)).toNatClampNeg) then (if ¬ (((((11514 * ((σ.1 63)))) + ((L 2)))) < 0 ∨ 230280 ≤ ((((11514 * ((σ.1 63)))) + ((L 2)))).toNatClampNeg) then (x_makePoint k 5 L (σ.1, σ.2.1, updG σ.2.2 31 (upd (σ.2.2 31) ((((11514 * ((σ.1 63)))) + ((L 2)))).toNatClampNeg ((σ.2.2 30 ((L 2)).toNatClampNeg))))) else none) else none)
  | k + 1, 5, L, σ => x_makePoint k 4 (upd L 2 (((L 2)) + 1)) σ
  | k + 1, 6, L, σ => if ¬ (((σ.1 63)) < 0 ∨ 20 ≤ ((σ.1 63)).toNatClampNeg) then (x_makePoint k 7 L (σ.1, σ.2.1, updG σ.2.2 32 (upd (σ.2.2 32) ((σ.1 63)).toNatClampNeg ((σ.1 64))))) else none
  | k + 1, 7, L, σ => x_makePoint k 8 L (upd σ.1 65 ((((σ.1 65)) + ((σ.1 64)))), σ.2.1, σ.2.2)
  | k + 1, 8, L, σ => some (0, (upd σ.1 63 ((((σ.1 63)) + 1)), σ.2.1, σ.2.2))
  | _ + 1, _ + 9, _, _ => none
def o_x_makePoint : List Cond := [.fieldLink RX12 402 "SetHouseModel" "points" "I", .fieldLink RX12 852 "SetHouseModel" "total" "I", .fieldLink RX12 855 "SetHouseModel" "pointsTotal" "I", .constant RX12 858 (40000), .methodLink RX12 369 yX12_fail, .instanceMethod yX12_fail, .selects RX12 yX12_fail yX12_fail, .initialized RX12, .fieldLink RX12 395 "SetHouseModel" "st" "[I", .fieldLink RX12 405 "SetHouseModel" "saved" "[I", .fieldLink RX12 968 "SetHouseModel" "savedTotal" "[I"]
theorem o_x_makePoint_good : o_x_makePoint.all goodWord = true := by decide +kernel
def p_x_makePoint : List Cond := o_x_makePoint ++ ((.code yX12_fail cX12_fail 2 none :: p_x_fail) ++ [])
theorem p_x_makePoint_good : p_x_makePoint.all goodWord = true := nb_all2 o_x_makePoint_good (nb_all2 (nb_allc (by decide +kernel) p_x_fail_good) rfl)
def w_x_makePoint : List Cond := .code yX12_makePoint cX12_makePoint 3 none :: (p_x_makePoint ++ fM)
theorem w_x_makePoint_good : w_x_makePoint.all goodWord = true := nb_allc (by decide +kernel) (nb_all2 p_x_makePoint_good fM_good)
theorem in_x_makePoint : ∀ w ∈ wsX120, w ∈ w_x_makePoint := fun _ h => List.mem_cons_of_mem _ (List.mem_append_right _ h)
theorem hd_x_makePoint : yX12_makePoint.cls = RX12 ∧ yX12_makePoint.cls ≠ "java/lang/invoke/MethodHandle" ∧ yX12_makePoint.cls ≠ "java/lang/invoke/VarHandle" ∧ (parseMethodDescriptor yX12_makePoint.desc).map (fun d => d.parameters.length) = some 1 := by decide +kernel
theorem gg_x_makePoint_fail : GoodIn w_x_makePoint w_x_fail := goodIn_sub (fun w h => (List.mem_cons.mp h).elim (fun e => (List.mem_cons_of_mem _ (List.mem_append_left _ (List.mem_append_right _ (List.mem_append_left _ (List.mem_cons.mpr (Or.inl e))))))) (fun h => (List.mem_append.mp h).elim (fun h => (List.mem_cons_of_mem _ (List.mem_append_left _ (List.mem_append_right _ (List.mem_append_left _ (List.mem_cons_of_mem _ h)))))) (fun h => List.mem_cons_of_mem _ (List.mem_append_right _ h)))) w_x_fail_good
theorem g_x_makePoint_fail_369 : GoodIn w_x_makePoint (wsV RX12 369 RX12 yX12_fail w_x_fail) := goodIn_app (nb_g4 (List.mem_cons_of_mem _ (List.mem_append_left _ (List.mem_append_left _ (List.mem_of_getElem? (i := 4) rfl)))) (List.mem_cons_of_mem _ (List.mem_append_left _ (List.mem_append_left _ (List.mem_of_getElem? (i := 5) rfl)))) (List.mem_cons_of_mem _ (List.mem_append_left _ (List.mem_append_left _ (List.mem_of_getElem? (i := 6) rfl)))) (List.mem_cons_of_mem _ (List.mem_append_left _ (List.mem_append_left _ (List.mem_of_getElem? (i := 7) rfl)))) (by decide +kernel)) gg_x_makePoint_fail
set_option maxHeartbeats 40000000 in
set_option maxRecDepth 100000 in
theorem c_x_makePoint (l : Launch) (dC : Nat → ClassId) (dI : Nat → Nat → Nat) (cy : Nat → ClassId) (a : Nat → Nat) (k0 : Nat) (L0 : Nat → Int32) (σ0 : MS) (r0 : Int32 × MS) (h0 : x_makePoint k0 0 L0 σ0 = some r0) (sz : Nat) : Met l yX12_makePoint w_x_makePoint ({ frames := 1, cells := 0, slots := 0, locals := 21 }) (va_Pc [.ref (a 0), .int (L0 1)] (nIn (dC, dI) cy sz (vM cy a σ0))) (va_Qv (fun _ : Unit => True) (fun _ t => nOut (dC, dI) cy (va_A (vM cy a σ0) sz) (vM cy a r0.2) t) (va_A (vM cy a σ0) sz)) 0 0 (va_A (vM cy a σ0) sz) := by
  refine Met.ofW (cc := cX12_makePoint) (maxL := 3) (ret := none) (by decide) rfl ?_
  intro p e s m args below meth c s₁ B hml hv
  obtain ⟨rfl, hsz, hP, hK, hD0, hG⟩ := hv
  have hx := B.exec
  have hb := B.bytes
  have hr := B.returns
  have hts := atoms_spec (ws := w_x_makePoint) B.pre
  have hown : s.vm.findClass RX12 = some m.cls := findClass_of_methodNamed B.named
  have hlocks := B.notSynchronized
  subst hsz
  have hD := hD0.self (sz := s.heap.size)
  generalize hAe : va_A (vM cy a σ0) s.heap.size = A at hD ⊢
  have hA : ∀ q : Nat, s.heap.size ≤ q → A q := fun q h => by rw [← hAe]; exact Or.inr h
  have hS : va_S A s.heap s.heap [] := va_S.rf
  have hl := lv_entry ([.ref (a 0), .int (L0 1)]) (n := 3) (Nat.le_of_ble_eq_true rfl)
  rw [lg_entry_eq]
  generalize (lg_sl ([.ref (a 0), .int (L0 1)]) ++ List.replicate (3 - (lg_sl ([.ref (a 0), .int (L0 1)])).length) Slot.unset).toArray = ls at hl ⊢
  have hl : lv_has ls 3 [(0, .ref (a 0)), (1, .int (L0 1))] := hl
  have blk : ∀ k : Nat, (bT p l e (headSpec w_x_makePoint ({ frames := 1, cells := 0, slots := 0, locals := 21 })).room s m #[.ref (a 0), .int (L0 1)] below meth c dC dI cy a A (qV dC dI cy a A below #[.ref (a 0), .int (L0 1)] s) 3 (x_makePoint k 0) (fun L => [(0, .ref (a 0)), (1, .int (L 1))]) 0 (fun L => [])) ∧ (bT p l e (headSpec w_x_makePoint ({ frames := 1, cells := 0, slots := 0, locals := 21 })).room s m #[.ref (a 0), .int (L0 1)] below meth c dC dI cy a A (qV dC dI cy a A below #[.ref (a 0), .int (L0 1)] s) 3 (x_makePoint k 1) (fun L => [(0, .ref (a 0)), (1, .int (L 1))]) 29 (fun L => [])) ∧ (bT p l e (headSpec w_x_makePoint ({ frames := 1, cells := 0, slots := 0, locals := 21 })).room s m #[.ref (a 0), .int (L0 1)] below meth c dC dI cy a A (qV dC dI cy a A below #[.ref (a 0), .int (L0 1)] s) 3 (x_makePoint k 2) (fun L => [(0, .ref (a 0)), (1, .int (L 1))]) 36 (fun L => [])) ∧ (bT p l e (headSpec w_x_makePoint ({ frames := 1, cells := 0, slots := 0, locals := 21 })).room s m #[.ref (a 0), .int (L0 1)] below meth c dC dI cy a A (qV dC dI cy a A below #[.ref (a 0), .int (L0 1)] s) 3 (x_makePoint k 3) (fun L => [(0, .ref (a 0)), (1, .int (L 1))]) 43 (fun L => [])) ∧ (bT p l e (headSpec w_x_makePoint ({ frames := 1, cells := 0, slots := 0, locals := 21 })).room s m #[.ref (a 0), .int (L0 1)] below meth c dC dI cy a A (qV dC dI cy a A below #[.ref (a 0), .int (L0 1)] s) 3 (x_makePoint k 4) (fun L => [(0, .ref (a 0)), (1, .int (L 1)), (2, .int (L 2))]) 45 (fun L => [])) ∧ (bT p l e (headSpec w_x_makePoint ({ frames := 1, cells := 0, slots := 0, locals := 21 })).room s m #[.ref (a 0), .int (L0 1)] below meth c dC dI cy a A (qV dC dI cy a A below #[.ref (a 0), .int (L0 1)] s) 3 (x_makePoint k 5) (fun L => [(0, .ref (a 0)), (1, .int (L 1)), (2, .int (L 2))]) 73 (fun L => [])) ∧ (bT p l e (headSpec w_x_makePoint ({ frames := 1, cells := 0, slots := 0, locals := 21 })).room s m #[.ref (a 0), .int (L0 1)] below meth c dC dI cy a A (qV dC dI cy a A below #[.ref (a 0), .int (L0 1)] s) 3 (x_makePoint k 6) (fun L => [(0, .ref (a 0)), (1, .int (L 1)), (2, .int (L 2))]) 79 (fun L => [])) ∧ (bT p l e (headSpec w_x_makePoint ({ frames := 1, cells := 0, slots := 0, locals := 21 })).room s m #[.ref (a 0), .int (L0 1)] below meth c dC dI cy a A (qV dC dI cy a A below #[.ref (a 0), .int (L0 1)] s) 3 (x_makePoint k 7) (fun L => [(0, .ref (a 0)), (1, .int (L 1)), (2, .int (L 2))]) 92 (fun L => [])) ∧ (bT p l e (headSpec w_x_makePoint ({ frames := 1, cells := 0, slots := 0, locals := 21 })).room s m #[.ref (a 0), .int (L0 1)] below meth c dC dI cy a A (qV dC dI cy a A below #[.ref (a 0), .int (L0 1)] s) 3 (x_makePoint k 8) (fun L => [(0, .ref (a 0)), (1, .int (L 1)), (2, .int (L 2))]) 105 (fun L => [])) := by
    intro k
    induction k with
    | zero => exact ⟨fun L σ r h => (by cases h), fun L σ r h => (by cases h), fun L σ r h => (by cases h), fun L σ r h => (by cases h), fun L σ r h => (by cases h), fun L σ r h => (by cases h), fun L σ r h => (by cases h), fun L σ r h => (by cases h), fun L σ r h => (by cases h)⟩
    | succ k ih =>
      refine ⟨?_, ?_, ?_, ?_, ?_, ?_, ?_, ?_, ?_⟩
      · intro L σ r h H locs ls hP hD hS hl
        rw [x_makePoint] at h
        refine lv_aload_n hx hb dX12_makePoint_0 rfl (lv_at hl 0 rfl) ?_
        refine ng_63 hx hb hts in_x_makePoint hown hK hP (hts _ (List.mem_cons_of_mem _ (List.mem_append_left _ (List.mem_append_left _ (List.mem_of_getElem? (i := 0) rfl))))) dX12_makePoint_1 ?_
        refine lv_bipush (v := 20) hx hb dX12_makePoint_4 (by decide) ?_
        refine lv_icmp_eq (tgt := 29) hx hb dX12_makePoint_6 (by decide) (fun c1 => ?_) (fun c1 => ?_)
        · rw [if_pos c1] at h
          exact ih.2.1 L σ r h H locs ls hP hD hS (lv_sub hl [0, 1] rfl)
        · rw [if_neg c1] at h
          refine lv_aload_n hx hb dX12_makePoint_9 rfl (lv_at hl 0 rfl) ?_
          refine ng_64 hx hb hts in_x_makePoint hown hK hP (hts _ (List.mem_cons_of_mem _ (List.mem_append_left _ (List.mem_append_left _ (List.mem_of_getElem? (i := 1) rfl))))) dX12_makePoint_10 ?_
          refine lv_aload_n hx hb dX12_makePoint_13 rfl (lv_at hl 0 rfl) ?_
          refine ng_65 hx hb hts in_x_makePoint hown hK hP (hts _ (List.mem_cons_of_mem _ (List.mem_append_left _ (List.mem_append_left _ (List.mem_of_getElem? (i := 2) rfl))))) dX12_makePoint_14 ?_
          refine lv_iadd hx hb dX12_makePoint_17 ?_
          refine lv_aload_n hx hb dX12_makePoint_18 rfl (lv_at hl 0 rfl) ?_
          refine ng_64 hx hb hts in_x_makePoint hown hK hP (hts _ (List.mem_cons_of_mem _ (List.mem_append_left _ (List.mem_append_left _ (List.mem_of_getElem? (i := 1) rfl))))) dX12_makePoint_19 ?_
          refine lv_iadd hx hb dX12_makePoint_22 ?_
          refine lv_ldcw (v := 40000) hx hb hown (hts _ (List.mem_cons_of_mem _ (List.mem_append_left _ (List.mem_append_left _ (List.mem_of_getElem? (i := 3) rfl))))) dX12_makePoint_23 ?_
          refine lv_icmp_le (tgt := 36) hx hb dX12_makePoint_26 (by decide) (fun c2 => ?_) (fun c2 => ?_)
          · rw [if_pos c2] at h
            exact ih.2.2.1 L σ r h H locs ls hP hD hS (lv_sub hl [0, 1] rfl)
          · rw [if_neg c2] at h
            exact ih.2.1 L σ r h H locs ls hP hD hS (lv_sub hl [0, 1] rfl)
      · intro L σ r h H locs ls hP hD hS hl
        rw [x_makePoint] at h
        refine lv_aload_n hx hb dX12_makePoint_29 rfl (lv_at hl 0 rfl) ?_
        refine lv_bipush (v := 6) hx hb dX12_makePoint_30 (by decide) ?_
        obtain ⟨r1, hc1, h⟩ := ob_ex h
        refine nc_Vv (As := [.int 6]) (rest := []) ⟨hx, hb, hml, hown, hts⟩ (c_x_fail l dC dI cy a k (upd (fun _ => 0) 1 6) σ r1 hc1 H.size) (cwV 1 hts g_x_makePoint_fail_369 rfl rfl rfl hd_x_fail ⟨Nat.le_of_ble_eq_true rfl, Nat.le_of_ble_eq_true rfl⟩) hK hG hA hP hD hS rfl hl.1 rfl (Nat.le_of_ble_eq_true rfl) dX12_makePoint_32 ⟨Nat.le_refl _, Nat.le_refl _⟩ (fun H locs hP hD hS => ?_)
        cases h
        exact W.vret hx hb hr (fun t ht hW => ⟨⟨(), rfl, trivial, by rw [ht]; exact hP, va_K.moved hW.alike hK, hD⟩, hS.F ht⟩) hS.2.2 dX12_makePoint_35
      · intro L σ r h H locs ls hP hD hS hl
        rw [x_makePoint] at h
        refine lv_aload_n hx hb dX12_makePoint_36 rfl (lv_at hl 0 rfl) ?_
        refine ng_60 hx hb hts in_x_makePoint hown hK hP (hts _ (List.mem_cons_of_mem _ (List.mem_append_left _ (List.mem_append_left _ (List.mem_of_getElem? (i := 8) rfl))))) dX12_makePoint_37 ?_
        refine lv_iconst (v := 0) hx hb dX12_makePoint_40 (by decide) ?_
        refine lv_iload_n hx hb dX12_makePoint_41 rfl (lv_at hl 1 rfl) ?_
        obtain ⟨q1, h⟩ := nb_ite1 h
        refine ns_30 hx hb hK hP hD hS q1 dX12_makePoint_42 (fun H locs hP hD hS => ?_)
        exact ih.2.2.2.1 L (σ.1, σ.2.1, updG σ.2.2 30 (upd (σ.2.2 30) (0 : Int32).toNatClampNeg ((L 1)))) r h H locs ls hP hD hS (lv_sub hl [0, 1] rfl)
      · intro L σ r h H locs ls hP hD hS hl
        rw [x_makePoint] at h
        refine lv_iconst (v := 0) hx hb dX12_makePoint_43 (by decide) ?_
        refine lv_istore_n (lv' := [(2, .int 0), (0, .ref (a 0)), (1, .int (L 1))]) hx hb dX12_makePoint_44 rfl hl (by decide) rfl (fun ls hl => ?_)
        exact ih.2.2.2.2.1 (upd L 2 0) σ r h H locs ls hP hD hS (lv_sub hl [1, 2, 0] rfl)
      · intro L σ r h H locs ls hP hD hS hl
        rw [x_makePoint] at h
        refine lv_iload_n hx hb dX12_makePoint_45 rfl (lv_at hl 2 rfl) ?_
        refine lv_sipush (v := 11514) hx hb dX12_makePoint_46 (by decide) ?_
        refine lv_icmp_ge (tgt := 79) hx hb dX12_makePoint_49 (by decide) (fun c1 => ?_) (fun c1 => ?_)
        · rw [if_pos c1] at h
          exact ih.2.2.2.2.2.2.1 L σ r h H locs ls hP hD hS (lv_sub hl [0, 1, 2] rfl)
        · rw [if_neg c1] at h
          refine lv_aload_n hx hb dX12_makePoint_52 rfl (lv_at hl 0 rfl) ?_
          refine ng_61 hx hb hts in_x_makePoint hown hK hP (hts _ (List.mem_cons_of_mem _ (List.mem_append_left _ (List.mem_append_left _ (List.mem_of_getElem? (i := 9) rfl))))) dX12_makePoint_53 ?_
          refine lv_sipush (v := 11514) hx hb dX12_makePoint_56 (by decide) ?_
          refine lv_aload_n hx hb dX12_makePoint_59 rfl (lv_at hl 0 rfl) ?_
          refine ng_63 hx hb hts in_x_makePoint hown hK hP (hts _ (List.mem_cons_of_mem _ (List.mem_append_left _ (List.mem_append_left _ (List.mem_of_getElem? (i := 0) rfl))))) dX12_makePoint_60 ?_
          refine lv_imul hx hb dX12_makePoint_63 ?_
          refine lv_iload_n hx hb dX12_makePoint_64 rfl (lv_at hl 2 rfl) ?_
          refine lv_iadd hx hb dX12_makePoint_65 ?_
          refine lv_aload_n hx hb dX12_makePoint_66 rfl (lv_at hl 0 rfl) ?_
          refine ng_60 hx hb hts in_x_makePoint hown hK hP (hts _ (List.mem_cons_of_mem _ (List.mem_append_left _ (List.mem_append_left _ (List.mem_of_getElem? (i := 8) rfl))))) dX12_makePoint_67 ?_
          refine lv_iload_n hx hb dX12_makePoint_70 rfl (lv_at hl 2 rfl) ?_
          obtain ⟨q2, h⟩ := nb_ite1 h
          refine nl_30 hx hb hK hP q2 dX12_makePoint_71 ?_
          obtain ⟨q3, h⟩ := nb_ite1 h
          refine ns_31 hx hb hK hP hD hS q3 dX12_makePoint_72 (fun H locs hP hD hS => ?_)
          exact ih.2.2.2.2.2.1 L (σ.1, σ.2.1, updG σ.2.2 31 (upd (σ.2.2 31) ((((11514 * ((σ.1 63)))) + ((L 2)))).toNatClampNeg ((σ.2.2 30 ((L 2)).toNatClampNeg)))) r h H locs ls hP hD hS (lv_sub hl [0, 1, 2] rfl)
      · intro L σ r h H locs ls hP hD hS hl
        rw [x_makePoint] at h
        refine lv_iinc (v := ((L 2)) + 1) (lv' := [(2, .int (((L 2)) + 1)), (0, .ref (a 0)), (1, .int (L 1))]) hx hb dX12_makePoint_73 hl (k := 2) rfl rfl (by decide) rfl (fun ls hl => ?_)
        refine lv_goto (tgt := 45) hx hb dX12_makePoint_76 (by decide) ?_
        exact ih.2.2.2.2.1 (upd L 2 (((L 2)) + 1)) σ r h H locs ls hP hD hS (lv_sub hl [1, 2, 0] rfl)
      · intro L σ r h H locs ls hP hD hS hl
        rw [x_makePoint] at h
        refine lv_aload_n hx hb dX12_makePoint_79 rfl (lv_at hl 0 rfl) ?_
        refine ng_62 hx hb hts in_x_makePoint hown hK hP (hts _ (List.mem_cons_of_mem _ (List.mem_append_left _ (List.mem_append_left _ (List.mem_of_getElem? (i := 10) rfl))))) dX12_makePoint_80 ?_
        refine lv_aload_n hx hb dX12_makePoint_83 rfl (lv_at hl 0 rfl) ?_
        refine ng_63 hx hb hts in_x_makePoint hown hK hP (hts _ (List.mem_cons_of_mem _ (List.mem_append_left _ (List.mem_append_left _ (List.mem_of_getElem? (i := 0) rfl))))) dX12_makePoint_84 ?_
        refine lv_aload_n hx hb dX12_makePoint_87 rfl (lv_at hl 0 rfl) ?_
        refine ng_64 hx hb hts in_x_makePoint hown hK hP (hts _ (List.mem_cons_of_mem _ (List.mem_append_left _ (List.mem_append_left _ (List.mem_of_getElem? (i := 1) rfl))))) dX12_makePoint_88 ?_
        obtain ⟨q1, h⟩ := nb_ite1 h
        refine ns_32 hx hb hK hP hD hS q1 dX12_makePoint_91 (fun H locs hP hD hS => ?_)
        exact ih.2.2.2.2.2.2.2.1 L (σ.1, σ.2.1, updG σ.2.2 32 (upd (σ.2.2 32) ((σ.1 63)).toNatClampNeg ((σ.1 64)))) r h H locs ls hP hD hS (lv_sub hl [0, 1, 2] rfl)
      · intro L σ r h H locs ls hP hD hS hl
        rw [x_makePoint] at h
        refine lv_aload_n hx hb dX12_makePoint_92 rfl (lv_at hl 0 rfl) ?_
        refine lv_dup hx hb dX12_makePoint_93 rfl ?_
        refine ng_65 hx hb hts in_x_makePoint hown hK hP (hts _ (List.mem_cons_of_mem _ (List.mem_append_left _ (List.mem_append_left _ (List.mem_of_getElem? (i := 2) rfl))))) dX12_makePoint_94 ?_
        refine lv_aload_n hx hb dX12_makePoint_97 rfl (lv_at hl 0 rfl) ?_
        refine ng_64 hx hb hts in_x_makePoint hown hK hP (hts _ (List.mem_cons_of_mem _ (List.mem_append_left _ (List.mem_append_left _ (List.mem_of_getElem? (i := 1) rfl))))) dX12_makePoint_98 ?_
        refine lv_iadd hx hb dX12_makePoint_101 ?_
        refine np_65 hx hb hts in_x_makePoint hown hK hP hD hS (hts _ (List.mem_cons_of_mem _ (List.mem_append_left _ (List.mem_append_left _ (List.mem_of_getElem? (i := 2) rfl))))) dX12_makePoint_102 (fun H locs hP hD hS => ?_)
        exact ih.2.2.2.2.2.2.2.2 L (upd σ.1 65 ((((σ.1 65)) + ((σ.1 64)))), σ.2.1, σ.2.2) r h H locs ls hP hD hS (lv_sub hl [0, 1, 2] rfl)
      · intro L σ r h H locs ls hP hD hS hl
        rw [x_makePoint] at h
        refine lv_aload_n hx hb dX12_makePoint_105 rfl (lv_at hl 0 rfl) ?_
        refine lv_dup hx hb dX12_makePoint_106 rfl ?_
        refine ng_63 hx hb hts in_x_makePoint hown hK hP (hts _ (List.mem_cons_of_mem _ (List.mem_append_left _ (List.mem_append_left _ (List.mem_of_getElem? (i := 0) rfl))))) dX12_makePoint_107 ?_
        refine lv_iconst (v := 1) hx hb dX12_makePoint_110 (by decide) ?_
        refine lv_iadd hx hb dX12_makePoint_111 ?_
        refine np_63 hx hb hts in_x_makePoint hown hK hP hD hS (hts _ (List.mem_cons_of_mem _ (List.mem_append_left _ (List.mem_append_left _ (List.mem_of_getElem? (i := 0) rfl))))) dX12_makePoint_112 (fun H locs hP hD hS => ?_)
        cases h
        exact W.vret hx hb hr (fun t ht hW => ⟨⟨(), rfl, trivial, by rw [ht]; exact hP, va_K.moved hW.alike hK, hD⟩, hS.F ht⟩) hS.2.2 dX12_makePoint_115
  exact (blk k0).1 L0 σ0 r0 h0 s.heap [] ls hP hD hS hl
/-! decide -/
def x_decide : Nat → Nat → (Nat → Int32) → MS → Option (Int32 × MS)
  | 0, _, _, _ => none
  | k + 1, 0, L, σ => x_decide k 1 (upd L 3 ((L 2))) σ
  | k + 1, 1, L, σ => if ((L 3)) = ((-1)) then (x_decide k 8 L σ) else (if ((σ.1 56)) = 0 then (if ¬ (((L 3)) < 0 ∨ 70000 ≤ ((L 3)).toNatClampNeg) then (if ((σ.2.2 5 ((L 3)).toNatClampNeg)) = ((-2)) then (x_decide k 3 (upd L 100 1) σ) else (x_decide k 2 L σ)) else none) else (x_decide k 8 L σ))
  | k + 1, 2, L, σ => x_decide k 3 (upd L 100 0) σ
  | k + 1, 3, L, σ => if ¬ (((L 3)) < 0 ∨ 70000 ≤ ((L 3)).toNatClampNeg) then (if ((σ.2.2 5 ((L 3)).toNatClampNeg)) = ((-3)) then (ob (x_makePoint k 0 (upd (fun _ => 0) 1 ((L 1))) σ) (fun r3 => x_decide k 5 (upd L 4 1) r3.2)) else (x_decide k 4 (upd L 4 ((L 100))) σ)) else none
  | k + 1, 4, L, σ => if ((L 4)) = 0 then (if ¬ (((L 3)) < 0 ∨ 70000 ≤ ((L 3)).toNatClampNeg) then (ob (x_holds k 0 (upd (fun _ => 0) 1 ((σ.2.2 5 ((L 3)).toNatClampNeg))) σ) (fun r3 => x_decide k 5 (upd L 4 r3.1) r3.2)) else none) else (x_decide k 5 L σ)
  | k + 1, 5, L, σ => if ((σ.1 56)) ≤ 0 then (x_decide k 6 L σ) else (some (0, σ))
  | k + 1, 6, L, σ => if ((L 4)) = 0 then (x_decide k 7 L σ) else (if ¬ (((L 3)) < 0 ∨ 70000 ≤ ((L 3)).toNatClampNeg) then (ob (x_enter k 0 (upd (upd (fun _ => 0) 1 ((σ.2.2 6 ((L 3)).toNatClampNeg))) 2 ((L 1))) σ) (fun r3 => some (0, r3.2))) else none)
  | k + 1, 7, L, σ => if ¬ (((L 3)) < 0 ∨ 70000 ≤ ((L 3)).toNatClampNeg) then (x_decide k 1 (upd L 3 ((σ.2.2 9 ((L 3)).toNatClampNeg))) σ) else none
  | k + 1, 8, L, σ => ob (x_pass k 0 (upd (fun _ => 0) 1 ((L 1))) σ) (fun r1 => some (0, r1.2))
  | _ + 1, _ + 9, _, _ => none
def o_x_decide : List Cond := [.fieldLink RX12 362 "SetHouseModel" "err" "I", .fieldLink RX12 86 "SetHouseModel" "x1" "[I", .methodLink RX12 923 yX12_makePoint, .instanceMethod yX12_makePoint, .selects RX12 yX12_makePoint yX12_makePoint, .initialized RX12, .methodLink RX12 672 yX12_holds, .instanceMethod yX12_holds, .selects RX12 yX12_holds yX12_holds, .fieldLink RX12 89 "SetHouseModel" "x2" "[I", .methodLink RX12 895 yX12_enter, .instanceMethod yX12_enter, .selects RX12 yX12_enter yX12_enter, .fieldLink RX12 98 "SetHouseModel" "next" "[I", .methodLink RX12 926 yX12_pass, .instanceMethod yX12_pass, .selects RX12 yX12_pass yX12_pass]
theorem o_x_decide_good : o_x_decide.all goodWord = true := by decide +kernel
def p_x_decide : List Cond := o_x_decide ++ ((.code yX12_makePoint cX12_makePoint 3 none :: p_x_makePoint) ++ ((.code yX12_holds cX12_holds 2 (some .boolean) :: p_x_GV) ++ ((.code yX12_enter cX12_enter 3 none :: p_x_enter) ++ ((.code yX12_pass cX12_pass 2 none :: p_x_pass) ++ []))))
theorem p_x_decide_good : p_x_decide.all goodWord = true := nb_all2 o_x_decide_good (nb_all2 (nb_allc (by decide +kernel) p_x_makePoint_good) (nb_all2 (nb_allc (by decide +kernel) p_x_GV_good) (nb_all2 (nb_allc (by decide +kernel) p_x_enter_good) (nb_all2 (nb_allc (by decide +kernel) p_x_pass_good) rfl))))
def w_x_decide : List Cond := .code yX12_decide cX12_decide 5 none :: (p_x_decide ++ fM)
theorem w_x_decide_good : w_x_decide.all goodWord = true := nb_allc (by decide +kernel) (nb_all2 p_x_decide_good fM_good)
theorem in_x_decide : ∀ w ∈ wsX120, w ∈ w_x_decide := fun _ h => List.mem_cons_of_mem _ (List.mem_append_right _ h)
theorem hd_x_decide : yX12_decide.cls = RX12 ∧ yX12_decide.cls ≠ "java/lang/invoke/MethodHandle" ∧ yX12_decide.cls ≠ "java/lang/invoke/VarHandle" ∧ (parseMethodDescriptor yX12_decide.desc).map (fun d => d.parameters.length) = some 2 := by decide +kernel
theorem gg_x_decide_enter : GoodIn w_x_decide w_x_enter := goodIn_sub (fun w h => (List.mem_cons.mp h).elim (fun e => (List.mem_cons_of_mem _ (List.mem_append_left _ (List.mem_append_right _ (List.mem_append_right _ (List.mem_append_right _ (List.mem_append_left _ (List.mem_cons.mpr (Or.inl e))))))))) (fun h => (List.mem_append.mp h).elim (fun h => (List.mem_cons_of_mem _ (List.mem_append_left _ (List.mem_append_right _ (List.mem_append_right _ (List.mem_append_right _ (List.mem_append_left _ (List.mem_cons_of_mem _ h)))))))) (fun h => List.mem_cons_of_mem _ (List.mem_append_right _ h)))) w_x_enter_good
theorem g_x_decide_enter_895 : GoodIn w_x_decide (wsV RX12 895 RX12 yX12_enter w_x_enter) := goodIn_app (nb_g4 (List.mem_cons_of_mem _ (List.mem_append_left _ (List.mem_append_left _ (List.mem_of_getElem? (i := 10) rfl)))) (List.mem_cons_of_mem _ (List.mem_append_left _ (List.mem_append_left _ (List.mem_of_getElem? (i := 11) rfl)))) (List.mem_cons_of_mem _ (List.mem_append_left _ (List.mem_append_left _ (List.mem_of_getElem? (i := 12) rfl)))) (List.mem_cons_of_mem _ (List.mem_append_left _ (List.mem_append_left _ (List.mem_of_getElem? (i := 5) rfl)))) (by decide +kernel)) gg_x_decide_enter
theorem gg_x_decide_holds : GoodIn w_x_decide w_x_holds := goodIn_sub (fun w h => (List.mem_cons.mp h).elim (fun e => (List.mem_cons_of_mem _ (List.mem_append_left _ (List.mem_append_right _ (List.mem_append_right _ (List.mem_append_left _ (List.mem_cons.mpr (Or.inl e)))))))) (fun h => (List.mem_append.mp h).elim (fun h => (List.mem_cons_of_mem _ (List.mem_append_left _ (List.mem_append_right _ (List.mem_append_right _ (List.mem_append_left _ (List.mem_cons_of_mem _ h))))))) (fun h => List.mem_cons_of_mem _ (List.mem_append_right _ h)))) w_x_holds_good
theorem g_x_decide_holds_672 : GoodIn w_x_decide (wsV RX12 672 RX12 yX12_holds w_x_holds) := goodIn_app (nb_g4 (List.mem_cons_of_mem _ (List.mem_append_left _ (List.mem_append_left _ (List.mem_of_getElem? (i := 6) rfl)))) (List.mem_cons_of_mem _ (List.mem_append_left _ (List.mem_append_left _ (List.mem_of_getElem? (i := 7) rfl)))) (List.mem_cons_of_mem _ (List.mem_append_left _ (List.mem_append_left _ (List.mem_of_getElem? (i := 8) rfl)))) (List.mem_cons_of_mem _ (List.mem_append_left _ (List.mem_append_left _ (List.mem_of_getElem? (i := 5) rfl)))) (by decide +kernel)) gg_x_decide_holds
theorem gg_x_decide_makePoint : GoodIn w_x_decide w_x_makePoint := goodIn_sub (fun w h => (List.mem_cons.mp h).elim (fun e => (List.mem_cons_of_mem _ (List.mem_append_left _ (List.mem_append_right _ (List.mem_append_left _ (List.mem_cons.mpr (Or.inl e))))))) (fun h => (List.mem_append.mp h).elim (fun h => (List.mem_cons_of_mem _ (List.mem_append_left _ (List.mem_append_right _ (List.mem_append_left _ (List.mem_cons_of_mem _ h)))))) (fun h => List.mem_cons_of_mem _ (List.mem_append_right _ h)))) w_x_makePoint_good
theorem g_x_decide_makePoint_923 : GoodIn w_x_decide (wsV RX12 923 RX12 yX12_makePoint w_x_makePoint) := goodIn_app (nb_g4 (List.mem_cons_of_mem _ (List.mem_append_left _ (List.mem_append_left _ (List.mem_of_getElem? (i := 2) rfl)))) (List.mem_cons_of_mem _ (List.mem_append_left _ (List.mem_append_left _ (List.mem_of_getElem? (i := 3) rfl)))) (List.mem_cons_of_mem _ (List.mem_append_left _ (List.mem_append_left _ (List.mem_of_getElem? (i := 4) rfl)))) (List.mem_cons_of_mem _ (List.mem_append_left _ (List.mem_append_left _ (List.mem_of_getElem? (i := 5) rfl)))) (by decide +kernel)) gg_x_decide_makePoint
theorem gg_x_decide_pass : GoodIn w_x_decide w_x_pass := goodIn_sub (fun w h => (List.mem_cons.mp h).elim (fun e => (List.mem_cons_of_mem _ (List.mem_append_left _ (List.mem_append_right _ (List.mem_append_right _ (List.mem_append_right _ (List.mem_append_right _ (List.mem_append_left _ (List.mem_cons.mpr (Or.inl e)))))))))) (fun h => (List.mem_append.mp h).elim (fun h => (List.mem_cons_of_mem _ (List.mem_append_left _ (List.mem_append_right _ (List.mem_append_right _ (List.mem_append_right _ (List.mem_append_right _ (List.mem_append_left _ (List.mem_cons_of_mem _ h))))))))) (fun h => List.mem_cons_of_mem _ (List.mem_append_right _ h)))) w_x_pass_good
theorem g_x_decide_pass_926 : GoodIn w_x_decide (wsV RX12 926 RX12 yX12_pass w_x_pass) := goodIn_app (nb_g4 (List.mem_cons_of_mem _ (List.mem_append_left _ (List.mem_append_left _ (List.mem_of_getElem? (i := 14) rfl)))) (List.mem_cons_of_mem _ (List.mem_append_left _ (List.mem_append_left _ (List.mem_of_getElem? (i := 15) rfl)))) (List.mem_cons_of_mem _ (List.mem_append_left _ (List.mem_append_left _ (List.mem_of_getElem? (i := 16) rfl)))) (List.mem_cons_of_mem _ (List.mem_append_left _ (List.mem_append_left _ (List.mem_of_getElem? (i := 5) rfl)))) (by decide +kernel)) gg_x_decide_pass
set_option maxHeartbeats 40000000 in
set_option maxRecDepth 100000 in
theorem c_x_decide (l : Launch) (dC : Nat → ClassId) (dI : Nat → Nat → Nat) (cy : Nat → ClassId) (a : Nat → Nat) (k0 : Nat) (L0 : Nat → Int32) (σ0 : MS) (r0 : Int32 × MS) (h0 : x_decide k0 0 L0 σ0 = some r0) (sz : Nat) : Met l yX12_decide w_x_decide ({ frames := 1365, cells := 0, slots := 0, locals := 36657 }) (va_Pc [.ref (a 0), .int (L0 1), .int (L0 2)] (nIn (dC, dI) cy sz (vM cy a σ0))) (va_Qv (fun _ : Unit => True) (fun _ t => nOut (dC, dI) cy (va_A (vM cy a σ0) sz) (vM cy a r0.2) t) (va_A (vM cy a σ0) sz)) 0 0 (va_A (vM cy a σ0) sz) := by
  refine Met.ofW (cc := cX12_decide) (maxL := 5) (ret := none) (by decide) rfl ?_
  intro p e s m args below meth c s₁ B hml hv
  obtain ⟨rfl, hsz, hP, hK, hD0, hG⟩ := hv
  have hx := B.exec
  have hb := B.bytes
  have hr := B.returns
  have hts := atoms_spec (ws := w_x_decide) B.pre
  have hown : s.vm.findClass RX12 = some m.cls := findClass_of_methodNamed B.named
  have hlocks := B.notSynchronized
  subst hsz
  have hD := hD0.self (sz := s.heap.size)
  generalize hAe : va_A (vM cy a σ0) s.heap.size = A at hD ⊢
  have hA : ∀ q : Nat, s.heap.size ≤ q → A q := fun q h => by rw [← hAe]; exact Or.inr h
  have hS : va_S A s.heap s.heap [] := va_S.rf
  have hl := lv_entry ([.ref (a 0), .int (L0 1), .int (L0 2)]) (n := 5) (Nat.le_of_ble_eq_true rfl)
  rw [lg_entry_eq]
  generalize (lg_sl ([.ref (a 0), .int (L0 1), .int (L0 2)]) ++ List.replicate (5 - (lg_sl ([.ref (a 0), .int (L0 1), .int (L0 2)])).length) Slot.unset).toArray = ls at hl ⊢
  have hl : lv_has ls 5 [(0, .ref (a 0)), (1, .int (L0 1)), (2, .int (L0 2))] := hl
  have blk : ∀ k : Nat, (bT p l e (headSpec w_x_decide ({ frames := 1365, cells := 0, slots := 0, locals := 36657 })).room s m #[.ref (a 0), .int (L0 1), .int (L0 2)] below meth c dC dI cy a A (qV dC dI cy a A below #[.ref (a 0), .int (L0 1), .int (L0 2)] s) 5 (x_decide k 0) (fun L => [(0, .ref (a 0)), (1, .int (L 1)), (2, .int (L 2))]) 0 (fun L => [])) ∧ (bT p l e (headSpec w_x_decide ({ frames := 1365, cells := 0, slots := 0, locals := 36657 })).room s m #[.ref (a 0), .int (L0 1), .int (L0 2)] below meth c dC dI cy a A (qV dC dI cy a A below #[.ref (a 0), .int (L0 1), .int (L0 2)] s) 5 (x_decide k 1) (fun L => [(0, .ref (a 0)), (1, .int (L 1)), (2, .int (L 2)), (3, .int (L 3))]) 2 (fun L => [])) ∧ (bT p l e (headSpec w_x_decide ({ frames := 1365, cells := 0, slots := 0, locals := 36657 })).room s m #[.ref (a 0), .int (L0 1), .int (L0 2)] below meth c dC dI cy a A (qV dC dI cy a A below #[.ref (a 0), .int (L0 1), .int (L0 2)] s) 5 (x_decide k 2) (fun L => [(0, .ref (a 0)), (1, .int (L 1)), (2, .int (L 2)), (3, .int (L 3))]) 29 (fun L => [])) ∧ (bT p l e (headSpec w_x_decide ({ frames := 1365, cells := 0, slots := 0, locals := 36657 })).room s m #[.ref (a 0), .int (L0 1), .int (L0 2)] below meth c dC dI cy a A (qV dC dI cy a A below #[.ref (a 0), .int (L0 1), .int (L0 2)] s) 5 (x_decide k 3) (fun L => [(0, .ref (a 0)), (1, .int (L 1)), (2, .int (L 2)), (3, .int (L 3))]) 30 (fun L => [.int (L 100)])) ∧ (bT p l e (headSpec w_x_decide ({ frames := 1365, cells := 0, slots := 0, locals := 36657 })).room s m #[.ref (a 0), .int (L0 1), .int (L0 2)] below meth c dC dI cy a A (qV dC dI cy a A below #[.ref (a 0), .int (L0 1), .int (L0 2)] s) 5 (x_decide k 4) (fun L => [(0, .ref (a 0)), (1, .int (L 1)), (2, .int (L 2)), (3, .int (L 3)), (4, .int (L 4))]) 54 (fun L => [])) ∧ (bT p l e (headSpec w_x_decide ({ frames := 1365, cells := 0, slots := 0, locals := 36657 })).room s m #[.ref (a 0), .int (L0 1), .int (L0 2)] below meth c dC dI cy a A (qV dC dI cy a A below #[.ref (a 0), .int (L0 1), .int (L0 2)] s) 5 (x_decide k 5) (fun L => [(0, .ref (a 0)), (1, .int (L 1)), (2, .int (L 2)), (3, .int (L 3)), (4, .int (L 4))]) 71 (fun L => [])) ∧ (bT p l e (headSpec w_x_decide ({ frames := 1365, cells := 0, slots := 0, locals := 36657 })).room s m #[.ref (a 0), .int (L0 1), .int (L0 2)] below meth c dC dI cy a A (qV dC dI cy a A below #[.ref (a 0), .int (L0 1), .int (L0 2)] s) 5 (x_decide k 6) (fun L => [(0, .ref (a 0)), (1, .int (L 1)), (2, .int (L 2)), (3, .int (L 3)), (4, .int (L 4))]) 79 (fun L => [])) ∧ (bT p l e (headSpec w_x_decide ({ frames := 1365, cells := 0, slots := 0, locals := 36657 })).room s m #[.ref (a 0), .int (L0 1), .int (L0 2)] below meth c dC dI cy a A (qV dC dI cy a A below #[.ref (a 0), .int (L0 1), .int (L0 2)] s) 5 (x_decide k 7) (fun L => [(0, .ref (a 0)), (1, .int (L 1)), (2, .int (L 2)), (3, .int (L 3)), (4, .int (L 4))]) 96 (fun L => [])) ∧ (bT p l e (headSpec w_x_decide ({ frames := 1365, cells := 0, slots := 0, locals := 36657 })).room s m #[.ref (a 0), .int (L0 1), .int (L0 2)] below meth c dC dI cy a A (qV dC dI cy a A below #[.ref (a 0), .int (L0 1), .int (L0 2)] s) 5 (x_decide k 8) (fun L => [(0, .ref (a 0)), (1, .int (L 1)), (2, .int (L 2)), (3, .int (L 3))]) 106 (fun L => [])) := by
    intro k
    induction k with
    | zero => exact ⟨fun L σ r h => (by cases h), fun L σ r h => (by cases h), fun L σ r h => (by cases h), fun L σ r h => (by cases h), fun L σ r h => (by cases h), fun L σ r h => (by cases h), fun L σ r h => (by cases h), fun L σ r h => (by cases h), fun L σ r h => (by cases h)⟩
    | succ k ih =>
      refine ⟨?_, ?_, ?_, ?_, ?_, ?_, ?_, ?_, ?_⟩
      · intro L σ r h H locs ls hP hD hS hl
        rw [x_decide] at h
        refine lv_iload_n hx hb dX12_decide_0 rfl (lv_at hl 2 rfl) ?_
        refine lv_istore_n (lv' := [(3, .int (L 2)), (0, .ref (a 0)), (1, .int (L 1)), (2, .int (L 2))]) hx hb dX12_decide_1 rfl hl (by decide) rfl (fun ls hl => ?_)
        exact ih.2.1 (upd L 3 ((L 2))) σ r h H locs ls hP hD hS (lv_sub hl [1, 2, 3, 0] rfl)
      · intro L σ r h H locs ls hP hD hS hl
        rw [x_decide] at h
        refine lv_iload_n hx hb dX12_decide_2 rfl (lv_at hl 3 rfl) ?_
        refine lv_iconst (v := (-1)) hx hb dX12_decide_3 (by decide) ?_
        refine lv_icmp_eq (tgt := 106) hx hb dX12_decide_4 (by decide) (fun c1 => ?_) (fun c1 => ?_)
        · rw [if_pos c1] at h
          exact ih.2.2.2.2.2.2.2.2 L σ r h H locs ls hP hD hS (lv_sub hl [0, 1, 2, 3] rfl)
        · rw [if_neg c1] at h
          refine lv_aload_n hx hb dX12_decide_7 rfl (lv_at hl 0 rfl) ?_
          refine ng_56 hx hb hts in_x_decide hown hK hP (hts _ (List.mem_cons_of_mem _ (List.mem_append_left _ (List.mem_append_left _ (List.mem_of_getElem? (i := 0) rfl))))) dX12_decide_8 ?_
          refine lv_if_ne (tgt := 106) hx hb dX12_decide_11 (by decide) (fun c2 => ?_) (fun c2 => ?_)
          · rw [if_neg c2] at h
            exact ih.2.2.2.2.2.2.2.2 L σ r h H locs ls hP hD hS (lv_sub hl [0, 1, 2, 3] rfl)
          · rw [if_pos c2] at h
            refine lv_aload_n hx hb dX12_decide_14 rfl (lv_at hl 0 rfl) ?_
            refine ng_15 hx hb hts in_x_decide hown hK hP (hts _ (List.mem_cons_of_mem _ (List.mem_append_left _ (List.mem_append_left _ (List.mem_of_getElem? (i := 1) rfl))))) dX12_decide_15 ?_
            refine lv_iload_n hx hb dX12_decide_18 rfl (lv_at hl 3 rfl) ?_
            obtain ⟨q3, h⟩ := nb_ite1 h
            refine nl_5 hx hb hK hP q3 dX12_decide_19 ?_
            refine lv_bipush (v := (-2)) hx hb dX12_decide_20 (by decide) ?_
            refine lv_icmp_ne (tgt := 29) hx hb dX12_decide_22 (by decide) (fun c4 => ?_) (fun c4 => ?_)
            · rw [if_neg c4] at h
              exact ih.2.2.1 L σ r h H locs ls hP hD hS (lv_sub hl [0, 1, 2, 3] rfl)
            · rw [if_pos c4] at h
              refine lv_iconst (v := 1) hx hb dX12_decide_25 (by decide) ?_
              refine lv_goto (tgt := 30) hx hb dX12_decide_26 (by decide) ?_
              exact ih.2.2.2.1 (upd L 100 1) σ r h H locs ls hP hD hS (lv_sub hl [0, 1, 2, 3] rfl)
      · intro L σ r h H locs ls hP hD hS hl
        rw [x_decide] at h
        refine lv_iconst (v := 0) hx hb dX12_decide_29 (by decide) ?_
        exact ih.2.2.2.1 (upd L 100 0) σ r h H locs ls hP hD hS (lv_sub hl [0, 1, 2, 3] rfl)
      · intro L σ r h H locs ls hP hD hS hl
        rw [x_decide] at h
        refine lv_istore (lv' := [(4, .int (L 100)), (0, .ref (a 0)), (1, .int (L 1)), (2, .int (L 2)), (3, .int (L 3))]) hx hb dX12_decide_30 hl (by decide) rfl (fun ls hl => ?_)
        refine lv_aload_n hx hb dX12_decide_32 rfl (lv_at hl 1 rfl) ?_
        refine ng_15 hx hb hts in_x_decide hown hK hP (hts _ (List.mem_cons_of_mem _ (List.mem_append_left _ (List.mem_append_left _ (List.mem_of_getElem? (i := 1) rfl))))) dX12_decide_33 ?_
        refine lv_iload_n hx hb dX12_decide_36 rfl (lv_at hl 4 rfl) ?_
        obtain ⟨q1, h⟩ := nb_ite1 h
        refine nl_5 hx hb hK hP q1 dX12_decide_37 ?_
        refine lv_bipush (v := (-3)) hx hb dX12_decide_38 (by decide) ?_
        refine lv_icmp_ne (tgt := 54) hx hb dX12_decide_40 (by decide) (fun c2 => ?_) (fun c2 => ?_)
        · rw [if_neg c2] at h
          exact ih.2.2.2.2.1 (upd L 4 ((L 100))) σ r h H locs ls hP hD hS (lv_sub hl [1, 2, 3, 4, 0] rfl)
        · rw [if_pos c2] at h
          refine lv_aload_n hx hb dX12_decide_43 rfl (lv_at hl 1 rfl) ?_
          refine lv_iload_n hx hb dX12_decide_44 rfl (lv_at hl 2 rfl) ?_
          obtain ⟨r3, hc3, h⟩ := ob_ex h
          refine nc_Vv (As := [.int (L 1)]) (rest := []) ⟨hx, hb, hml, hown, hts⟩ (c_x_makePoint l dC dI cy a k (upd (fun _ => 0) 1 ((L 1))) σ r3 hc3 H.size) (cwV 1 hts g_x_decide_makePoint_923 rfl rfl rfl hd_x_makePoint ⟨Nat.le_of_ble_eq_true rfl, Nat.le_of_ble_eq_true rfl⟩) hK hG hA hP hD hS rfl hl.1 rfl (Nat.le_of_ble_eq_true rfl) dX12_decide_45 ⟨Nat.le_refl _, Nat.le_refl _⟩ (fun H locs hP hD hS => ?_)
          refine lv_iconst (v := 1) hx hb dX12_decide_48 (by decide) ?_
          refine lv_istore (lv' := [(4, .int 1), (0, .ref (a 0)), (1, .int (L 1)), (2, .int (L 2)), (3, .int (L 3))]) hx hb dX12_decide_49 hl (by decide) rfl (fun ls hl => ?_)
          refine lv_goto (tgt := 71) hx hb dX12_decide_51 (by decide) ?_
          exact ih.2.2.2.2.2.1 (upd L 4 1) r3.2 r h H locs ls hP hD hS (lv_sub hl [1, 2, 3, 4, 0] rfl)
      · intro L σ r h H locs ls hP hD hS hl
        rw [x_decide] at h
        refine lv_iload hx hb dX12_decide_54 (lv_at hl 4 rfl) ?_
        refine lv_if_ne (tgt := 71) hx hb dX12_decide_56 (by decide) (fun c1 => ?_) (fun c1 => ?_)
        · rw [if_neg c1] at h
          exact ih.2.2.2.2.2.1 L σ r h H locs ls hP hD hS (lv_sub hl [0, 1, 2, 3, 4] rfl)
        · rw [if_pos c1] at h
          refine lv_aload_n hx hb dX12_decide_59 rfl (lv_at hl 0 rfl) ?_
          refine lv_aload_n hx hb dX12_decide_60 rfl (lv_at hl 0 rfl) ?_
          refine ng_15 hx hb hts in_x_decide hown hK hP (hts _ (List.mem_cons_of_mem _ (List.mem_append_left _ (List.mem_append_left _ (List.mem_of_getElem? (i := 1) rfl))))) dX12_decide_61 ?_
          refine lv_iload_n hx hb dX12_decide_64 rfl (lv_at hl 3 rfl) ?_
          obtain ⟨q2, h⟩ := nb_ite1 h
          refine nl_5 hx hb hK hP q2 dX12_decide_65 ?_
          obtain ⟨r3, hc3, h⟩ := ob_ex h
          refine nc_Vi (As := [.int (σ.2.2 5 ((L 3)).toNatClampNeg)]) (rest := []) ⟨hx, hb, hml, hown, hts⟩ (c_x_holds l dC dI cy a k (upd (fun _ => 0) 1 ((σ.2.2 5 ((L 3)).toNatClampNeg))) σ r3 hc3 H.size) (cwV 1 hts g_x_decide_holds_672 rfl rfl rfl hd_x_holds ⟨Nat.le_of_ble_eq_true rfl, Nat.le_of_ble_eq_true rfl⟩) hK hG hA hP hD hS rfl hl.1 rfl (Nat.le_of_ble_eq_true rfl) dX12_decide_66 ⟨Nat.le_refl _, Nat.le_refl _⟩ (fun H locs hP hD hS => ?_)
          refine lv_istore (lv' := [(4, .int r3.1), (0, .ref (a 0)), (1, .int (L 1)), (2, .int (L 2)), (3, .int (L 3))]) hx hb dX12_decide_69 hl (by decide) rfl (fun ls hl => ?_)
          exact ih.2.2.2.2.2.1 (upd L 4 r3.1) r3.2 r h H locs ls hP hD hS (lv_sub hl [1, 2, 3, 4, 0] rfl)
      · intro L σ r h H locs ls hP hD hS hl
        rw [x_decide] at h
        refine lv_aload_n hx hb dX12_decide_71 rfl (lv_at hl 0 rfl) ?_
        refine ng_56 hx hb hts in_x_decide hown hK hP (hts _ (List.mem_cons_of_mem _ (List.mem_append_left _ (List.mem_append_left _ (List.mem_of_getElem? (i := 0) rfl))))) dX12_decide_72 ?_
        refine lv_if_le (tgt := 79) hx hb dX12_decide_75 (by decide) (fun c1 => ?_) (fun c1 => ?_)
        · rw [if_pos c1] at h
          exact ih.2.2.2.2.2.2.1 L σ r h H locs ls hP hD hS (lv_sub hl [0, 1, 2, 3, 4] rfl)
        · rw [if_neg c1] at h
          cases h
          exact W.vret hx hb hr (fun t ht hW => ⟨⟨(), rfl, trivial, by rw [ht]; exact hP, va_K.moved hW.alike hK, hD⟩, hS.F ht⟩) hS.2.2 dX12_decide_78
      · intro L σ r h H locs ls hP hD hS hl
        rw [x_decide] at h
        refine lv_iload hx hb dX12_decide_79 (lv_at hl 4 rfl) ?_
        refine lv_if_eq (tgt := 96) hx hb dX12_decide_81 (by decide) (fun c1 => ?_) (fun c1 => ?_)
        · rw [if_pos c1] at h
          exact ih.2.2.2.2.2.2.2.1 L σ r h H locs ls hP hD hS (lv_sub hl [0, 1, 2, 3, 4] rfl)
        · rw [if_neg c1] at h
          refine lv_aload_n hx hb dX12_decide_84 rfl (lv_at hl 0 rfl) ?_
          refine lv_aload_n hx hb dX12_decide_85 rfl (lv_at hl 0 rfl) ?_
          refine ng_16 hx hb hts in_x_decide hown hK hP (hts _ (List.mem_cons_of_mem _ (List.mem_append_left _ (List.mem_append_left _ (List.mem_of_getElem? (i := 9) rfl))))) dX12_decide_86 ?_
          refine lv_iload_n hx hb dX12_decide_89 rfl (lv_at hl 3 rfl) ?_
          obtain ⟨q2, h⟩ := nb_ite1 h
          refine nl_6 hx hb hK hP q2 dX12_decide_90 ?_
          refine lv_iload_n hx hb dX12_decide_91 rfl (lv_at hl 1 rfl) ?_
          obtain ⟨r3, hc3, h⟩ := ob_ex h
          refine nc_Vv (As := [.int (σ.2.2 6 ((L 3)).toNatClampNeg), .int (L 1)]) (rest := []) ⟨hx, hb, hml, hown, hts⟩ (c_x_enter l dC dI cy a k (upd (upd (fun _ => 0) 1 ((σ.2.2 6 ((L 3)).toNatClampNeg))) 2 ((L 1))) σ r3 hc3 H.size) (cwV 2 hts g_x_decide_enter_895 rfl rfl rfl hd_x_enter ⟨Nat.le_of_ble_eq_true rfl, Nat.le_of_ble_eq_true rfl⟩) hK hG hA hP hD hS rfl hl.1 rfl (Nat.le_of_ble_eq_true rfl) dX12_decide_92 ⟨Nat.le_refl _, Nat.le_refl _⟩ (fun H locs hP hD hS => ?_)
          cases h
          exact W.vret hx hb hr (fun t ht hW => ⟨⟨(), rfl, trivial, by rw [ht]; exact hP, va_K.moved hW.alike hK, hD⟩, hS.F ht⟩) hS.2.2 dX12_decide_95
      · intro L σ r h H locs ls hP hD hS hl
        rw [x_decide] at h
        refine lv_aload_n hx hb dX12_decide_96 rfl (lv_at hl 0 rfl) ?_
        refine ng_19 hx hb hts in_x_decide hown hK hP (hts _ (List.mem_cons_of_mem _ (List.mem_append_left _ (List.mem_append_left _ (List.mem_of_getElem? (i := 13) rfl))))) dX12_decide_97 ?_
        refine lv_iload_n hx hb dX12_decide_100 rfl (lv_at hl 3 rfl) ?_
        obtain ⟨q1, h⟩ := nb_ite1 h
        refine nl_9 hx hb hK hP q1 dX12_decide_101 ?_
        refine lv_istore_n (lv' := [(3, .int (σ.2.2 9 ((L 3)).toNatClampNeg)), (0, .ref (a 0)), (1, .int (L 1)), (2, .int (L 2)), (4, .int (L 4))]) hx hb dX12_decide_102 rfl hl (by decide) rfl (fun ls hl => ?_)
        refine lv_goto (tgt := 2) hx hb dX12_decide_103 (by decide) ?_
        exact ih.2.1 (upd L 3 ((σ.2.2 9 ((L 3)).toNatClampNeg))) σ r h H locs ls hP hD hS (lv_sub hl [1, 2, 3, 0] rfl)
      · intro L σ r h H locs ls hP hD hS hl
        rw [x_decide] at h
        refine lv_aload_n hx hb dX12_decide_106 rfl (lv_at hl 0 rfl) ?_
        refine lv_iload_n hx hb dX12_decide_107 rfl (lv_at hl 1 rfl) ?_
        obtain ⟨r1, hc1, h⟩ := ob_ex h
        refine nc_Vv (As := [.int (L 1)]) (rest := []) ⟨hx, hb, hml, hown, hts⟩ (c_x_pass l dC dI cy a k (upd (fun _ => 0) 1 ((L 1))) σ r1 hc1 H.size) (cwV 1 hts g_x_decide_pass_926 rfl rfl rfl hd_x_pass ⟨Nat.le_of_ble_eq_true rfl, Nat.le_of_ble_eq_true rfl⟩) hK hG hA hP hD hS rfl hl.1 rfl (Nat.le_of_ble_eq_true rfl) dX12_decide_108 ⟨Nat.le_refl _, Nat.le_refl _⟩ (fun H locs hP hD hS => ?_)
        cases h
        exact W.vret hx hb hr (fun t ht hW => ⟨⟨(), rfl, trivial, by rw [ht]; exact hP, va_K.moved hW.alike hK, hD⟩, hS.F ht⟩) hS.2.2 dX12_decide_111
  exact (blk k0).1 L0 σ0 r0 h0 s.heap [] ls hP hD hS hl

/-! out -/
def x_out : Nat → Nat → (Nat → Int32) → MS → Option (Int32 × MS)
  | 0, _, _, _ => none
  | k + 1, 0, L, σ => if ((σ.1 112)) = 0 then (x_out k 1 L σ) else (if ((L 1)) < 0 then (x_out k 1 L σ) else (if ((σ.1 106)) ≤ ((L 1)) then (x_out k 1 L σ) else (if ((L 1)) < 60000 then (x_out k 2 L σ) else (x_out k 1 L σ))))
  | k + 1, 1, L, σ => x_out k 3 (upd L 100 1) σ
  | k + 1, 2, L, σ => x_out k 3 (upd L 100 0) σ
  | k + 1, 3, L, σ => ob (x_good k 0 (upd (fun _ => 0) 1 ((L 100))) σ) (fun r1 => if r1.1 = 0 then (x_out k 4 L r1.2) else (if ¬ (((L 1)) < 0 ∨ 60000 ≤ ((L 1)).toNatClampNeg) then (x_out k 5 (upd L 100 ((r1.2.2.2 52 ((L 1)).toNatClampNeg))) r1.2) else none))
  | k + 1, 4, L, σ => x_out k 5 (upd L 100 0) σ
  | k + 1, 5, L, σ => some ((L 100), σ)
  | _ + 1, _ + 6, _, _ => none
def o_x_out : List Cond := [.fieldLink RX12 1044 "SetHouseModel" "isRun" "Z", .fieldLink RX12 977 "SetHouseModel" "outSize" "I", .constant RX12 368 (60000), .methodLink RX12 1050 yX12_good, .instanceMethod yX12_good, .selects RX12 yX12_good yX12_good, .initialized RX12, .fieldLink RX12 980 "SetHouseModel" "out" "[I"]
theorem o_x_out_good : o_x_out.all goodWord = true := by decide +kernel
def p_x_out : List Cond := o_x_out ++ ((.code yX12_good cX12_good 2 (some .boolean) :: p_x_good) ++ [])
theorem p_x_out_good : p_x_out.all goodWord = true := nb_all2 o_x_out_good (nb_all2 (nb_allc (by decide +kernel) p_x_good_good) rfl)
def w_x_out : List Cond := .code yX12_out cX12_out 2 (some .int) :: (p_x_out ++ fM)
theorem w_x_out_good : w_x_out.all goodWord = true := nb_allc (by decide +kernel) (nb_all2 p_x_out_good fM_good)
theorem in_x_out : ∀ w ∈ wsX120, w ∈ w_x_out := fun _ h => List.mem_cons_of_mem _ (List.mem_append_right _ h)
theorem hd_x_out : yX12_out.cls = RX12 ∧ yX12_out.cls ≠ "java/lang/invoke/MethodHandle" ∧ yX12_out.cls ≠ "java/lang/invoke/VarHandle" ∧ (parseMethodDescriptor yX12_out.desc).map (fun d => d.parameters.length) = some 1 := by decide +kernel
theorem gg_x_out_good : GoodIn w_x_out w_x_good := goodIn_sub (fun w h => (List.mem_cons.mp h).elim (fun e => (List.mem_cons_of_mem _ (List.mem_append_left _ (List.mem_append_right _ (List.mem_append_left _ (List.mem_cons.mpr (Or.inl e))))))) (fun h => (List.mem_append.mp h).elim (fun h => (List.mem_cons_of_mem _ (List.mem_append_left _ (List.mem_append_right _ (List.mem_append_left _ (List.mem_cons_of_mem _ h)))))) (fun h => List.mem_cons_of_mem _ (List.mem_append_right _ h)))) w_x_good_good
theorem g_x_out_good_1050 : GoodIn w_x_out (wsV RX12 1050 RX12 yX12_good w_x_good) := goodIn_app (nb_g4 (List.mem_cons_of_mem _ (List.mem_append_left _ (List.mem_append_left _ (List.mem_of_getElem? (i := 3) rfl)))) (List.mem_cons_of_mem _ (List.mem_append_left _ (List.mem_append_left _ (List.mem_of_getElem? (i := 4) rfl)))) (List.mem_cons_of_mem _ (List.mem_append_left _ (List.mem_append_left _ (List.mem_of_getElem? (i := 5) rfl)))) (List.mem_cons_of_mem _ (List.mem_append_left _ (List.mem_append_left _ (List.mem_of_getElem? (i := 6) rfl)))) (by decide +kernel)) gg_x_out_good
set_option maxHeartbeats 40000000 in
set_option maxRecDepth 100000 in
theorem c_x_out (l : Launch) (dC : Nat → ClassId) (dI : Nat → Nat → Nat) (cy : Nat → ClassId) (a : Nat → Nat) (k0 : Nat) (L0 : Nat → Int32) (σ0 : MS) (r0 : Int32 × MS) (h0 : x_out k0 0 L0 σ0 = some r0) (sz : Nat) : Met l yX12_out w_x_out ({ frames := 1, cells := 0, slots := 0, locals := 21 }) (va_Pc [.ref (a 0), .int (L0 1)] (nIn (dC, dI) cy sz (vM cy a σ0))) (va_Qi (fun (z : Int32) (_ : Unit) => z = r0.1) (fun _ t => nOut (dC, dI) cy (va_A (vM cy a σ0) sz) (vM cy a r0.2) t) (va_A (vM cy a σ0) sz)) 0 0 (va_A (vM cy a σ0) sz) := by
  refine Met.ofW (cc := cX12_out) (maxL := 2) (ret := (some .int)) (by decide) rfl ?_
  intro p e s m args below meth c s₁ B hml hv
  obtain ⟨rfl, hsz, hP, hK, hD0, hG⟩ := hv
  have hx := B.exec
  have hb := B.bytes
  have hr := B.returns
  have hts := atoms_spec (ws := w_x_out) B.pre
  have hown : s.vm.findClass RX12 = some m.cls := findClass_of_methodNamed B.named
  have hlocks := B.notSynchronized
  subst hsz
  have hD := hD0.self (sz := s.heap.size)
  generalize hAe : va_A (vM cy a σ0) s.heap.size = A at hD ⊢
  have hA : ∀ q : Nat, s.heap.size ≤ q → A q := fun q h => by rw [← hAe]; exact Or.inr h
  have hS : va_S A s.heap s.heap [] := va_S.rf
  have hl := lv_entry ([.ref (a 0), .int (L0 1)]) (n := 2) (Nat.le_of_ble_eq_true rfl)
  rw [lg_entry_eq]
  generalize (lg_sl ([.ref (a 0), .int (L0 1)]) ++ List.replicate (2 - (lg_sl ([.ref (a 0), .int (L0 1)])).length) Slot.unset).toArray = ls at hl ⊢
  have hl : lv_has ls 2 [(0, .ref (a 0)), (1, .int (L0 1))] := hl
  have blk : ∀ k : Nat, (bT p l e (headSpec w_x_out ({ frames := 1, cells := 0, slots := 0, locals := 21 })).room s m #[.ref (a 0), .int (L0 1)] below meth c dC dI cy a A (qI dC dI cy a A below #[.ref (a 0), .int (L0 1)] s) 2 (x_out k 0) (fun L => [(0, .ref (a 0)), (1, .int (L 1))]) 0 (fun L => [])) ∧ (bT p l e (headSpec w_x_out ({ frames := 1, cells := 0, slots := 0, locals := 21 })).room s m #[.ref (a 0), .int (L0 1)] below meth c dC dI cy a A (qI dC dI cy a A below #[.ref (a 0), .int (L0 1)] s) 2 (x_out k 1) (fun L => [(0, .ref (a 0)), (1, .int (L 1))]) 27 (fun L => [.ref (a 0)])) ∧ (bT p l e (headSpec w_x_out ({ frames := 1, cells := 0, slots := 0, locals := 21 })).room s m #[.ref (a 0), .int (L0 1)] below meth c dC dI cy a A (qI dC dI cy a A below #[.ref (a 0), .int (L0 1)] s) 2 (x_out k 2) (fun L => [(0, .ref (a 0)), (1, .int (L 1))]) 31 (fun L => [.ref (a 0)])) ∧ (bT p l e (headSpec w_x_out ({ frames := 1, cells := 0, slots := 0, locals := 21 })).room s m #[.ref (a 0), .int (L0 1)] below meth c dC dI cy a A (qI dC dI cy a A below #[.ref (a 0), .int (L0 1)] s) 2 (x_out k 3) (fun L => [(0, .ref (a 0)), (1, .int (L 1))]) 32 (fun L => [.int (L 100), .ref (a 0)])) ∧ (bT p l e (headSpec w_x_out ({ frames := 1, cells := 0, slots := 0, locals := 21 })).room s m #[.ref (a 0), .int (L0 1)] below meth c dC dI cy a A (qI dC dI cy a A below #[.ref (a 0), .int (L0 1)] s) 2 (x_out k 4) (fun L => [(0, .ref (a 0)), (1, .int (L 1))]) 47 (fun L => [])) ∧ (bT p l e (headSpec w_x_out ({ frames := 1, cells := 0, slots := 0, locals := 21 })).room s m #[.ref (a 0), .int (L0 1)] below meth c dC dI cy a A (qI dC dI cy a A below #[.ref (a 0), .int (L0 1)] s) 2 (x_out k 5) (fun L => [(0, .ref (a 0)), (1, .int (L 1))]) 48 (fun L => [.int (L 100)])) := by
    intro k
    induction k with
    | zero => exact ⟨fun L σ r h => (by cases h), fun L σ r h => (by cases h), fun L σ r h => (by cases h), fun L σ r h => (by cases h), fun L σ r h => (by cases h), fun L σ r h => (by cases h)⟩
    | succ k ih =>
      refine ⟨?_, ?_, ?_, ?_, ?_, ?_⟩
      · intro L σ r h H locs ls hP hD hS hl
        rw [x_out] at h
        refine lv_aload_n hx hb dX12_out_0 rfl (lv_at hl 0 rfl) ?_
        refine lv_aload_n hx hb dX12_out_1 rfl (lv_at hl 0 rfl) ?_
        refine ng_112 hx hb hts in_x_out hown hK hP (hts _ (List.mem_cons_of_mem _ (List.mem_append_left _ (List.mem_append_left _ (List.mem_of_getElem? (i := 0) rfl))))) dX12_out_2 ?_
        refine lv_if_eq (tgt := 27) hx hb dX12_out_5 (by decide) (fun c1 => ?_) (fun c1 => ?_)
        · rw [if_pos c1] at h
          exact ih.2.1 L σ r h H locs ls hP hD hS (lv_sub hl [0, 1] rfl)
        · rw [if_neg c1] at h
          refine lv_iload_n hx hb dX12_out_8 rfl (lv_at hl 1 rfl) ?_
          refine lv_if_lt (tgt := 27) hx hb dX12_out_9 (by decide) (fun c2 => ?_) (fun c2 => ?_)
          · rw [if_pos c2] at h
            exact ih.2.1 L σ r h H locs ls hP hD hS (lv_sub hl [0, 1] rfl)
          · rw [if_neg c2] at h
            refine lv_iload_n hx hb dX12_out_12 rfl (lv_at hl 1 rfl) ?_
            refine lv_aload_n hx hb dX12_out_13 rfl (lv_at hl 0 rfl) ?_
            refine ng_106 hx hb hts in_x_out hown hK hP (hts _ (List.mem_cons_of_mem _ (List.mem_append_left _ (List.mem_append_left _ (List.mem_of_getElem? (i := 1) rfl))))) dX12_out_14 ?_
            refine lv_icmp_ge (tgt := 27) hx hb dX12_out_17 (by decide) (fun c3 => ?_) (fun c3 => ?_)
            · rw [if_pos c3] at h
              exact ih.2.1 L σ r h H locs ls hP hD hS (lv_sub hl [0, 1] rfl)
            · rw [if_neg c3] at h
              refine lv_iload_n hx hb dX12_out_20 rfl (lv_at hl 1 rfl) ?_
              refine lv_ldcw (v := 60000) hx hb hown (hts _ (List.mem_cons_of_mem _ (List.mem_append_left _ (List.mem_append_left _ (List.mem_of_getElem? (i := 2) rfl))))) dX12_out_21 ?_
              refine lv_icmp_lt (tgt := 31) hx hb dX12_out_24 (by decide) (fun c4 => ?_) (fun c4 => ?_)
              · rw [if_pos c4] at h
                exact ih.2.2.1 L σ r h H locs ls hP hD hS (lv_sub hl [0, 1] rfl)
              · rw [if_neg c4] at h
                exact ih.2.1 L σ r h H locs ls hP hD hS (lv_sub hl [0, 1] rfl)
      · intro L σ r h H locs ls hP hD hS hl
        rw [x_out] at h
        refine lv_iconst (v := 1) hx hb dX12_out_27 (by decide) ?_
        refine lv_goto (tgt := 32) hx hb dX12_out_28 (by decide) ?_
        exact ih.2.2.2.1 (upd L 100 1) σ r h H locs ls hP hD hS (lv_sub hl [0, 1] rfl)
      · intro L σ r h H locs ls hP hD hS hl
        rw [x_out] at h
        refine lv_iconst (v := 0) hx hb dX12_out_31 (by decide) ?_
        exact ih.2.2.2.1 (upd L 100 0) σ r h H locs ls hP hD hS (lv_sub hl [0, 1] rfl)
      · intro L σ r h H locs ls hP hD hS hl
        rw [x_out] at h
        obtain ⟨r1, hc1, h⟩ := ob_ex h
        refine nc_Vi (As := [.int (L 100)]) (rest := []) ⟨hx, hb, hml, hown, hts⟩ (c_x_good l dC dI cy a k (upd (fun _ => 0) 1 ((L 100))) σ r1 hc1 H.size) (cwV 1 hts g_x_out_good_1050 rfl rfl rfl hd_x_good ⟨Nat.le_of_ble_eq_true rfl, Nat.le_of_ble_eq_true rfl⟩) hK hG hA hP hD hS rfl hl.1 rfl (Nat.le_of_ble_eq_true rfl) dX12_out_32 ⟨Nat.le_refl _, Nat.le_refl _⟩ (fun H locs hP hD hS => ?_)
        refine lv_if_eq (tgt := 47) hx hb dX12_out_35 (by decide) (fun c2 => ?_) (fun c2 => ?_)
        · rw [if_pos c2] at h
          exact ih.2.2.2.2.1 L r1.2 r h H locs ls hP hD hS (lv_sub hl [0, 1] rfl)
        · rw [if_neg c2] at h
          refine lv_aload_n hx hb dX12_out_38 rfl (lv_at hl 0 rfl) ?_
          refine ng_107 hx hb hts in_x_out hown hK hP (hts _ (List.mem_cons_of_mem _ (List.mem_append_left _ (List.mem_append_left _ (List.mem_of_getElem? (i := 7) rfl))))) dX12_out_39 ?_
          refine lv_iload_n hx hb dX12_out_42 rfl (lv_at hl 1 rfl) ?_
          obtain ⟨q3, h⟩ := nb_ite1 h
          refine nl_52 hx hb hK hP q3 dX12_out_43 ?_
          refine lv_goto (tgt := 48) hx hb dX12_out_44 (by decide) ?_
          exact ih.2.2.2.2.2 (upd L 100 ((r1.2.2.2 52 ((L 1)).toNatClampNeg))) r1.2 r h H locs ls hP hD hS (lv_sub hl [0, 1] rfl)
      · intro L σ r h H locs ls hP hD hS hl
        rw [x_out] at h
        refine lv_iconst (v := 0) hx hb dX12_out_47 (by decide) ?_
        exact ih.2.2.2.2.2 (upd L 100 0) σ r h H locs ls hP hD hS (lv_sub hl [0, 1] rfl)
      · intro L σ r h H locs ls hP hD hS hl
        rw [x_out] at h
        cases h
        exact W.iret (v := (L 100)) hx hb hr (fun t ht hW => ⟨⟨(L 100), (), rfl, rfl, by rw [ht]; exact hP, va_K.moved hW.alike hK, hD⟩, hS.F ht⟩) hS.2.2 dX12_out_48
  exact (blk k0).1 L0 σ0 r0 h0 s.heap [] ls hP hD hS hl
/-! show -/
def x_show : Nat → Nat → (Nat → Int32) → MS → Option (Int32 × MS)
  | 0, _, _, _ => none
  | k + 1, 0, L, σ => if ¬ ((0 : Int32) < 0 ∨ 2 ≤ (0 : Int32).toNatClampNeg) then (if ¬ ((1 : Int32) < 0 ∨ 2 ≤ (1 : Int32).toNatClampNeg) then (x_show k 1 L (σ.1, σ.2.1, updG σ.2.2 40 (upd (σ.2.2 40) (1 : Int32).toNatClampNeg ((σ.2.2 40 (0 : Int32).toNatClampNeg))))) else none) else none
  | k + 1, 1, L, σ => if ¬ ((0 : Int32) < 0 ∨ 2 ≤ (0 : Int32).toNatClampNeg) then (x_show k 2 L (σ.1, σ.2.1, updG σ.2.2 40 (upd (σ.2.2 40) (0 : Int32).toNatClampNeg ((L 1))))) else none
  | k + 1, 2, L, σ => x_show k 3 L (upd σ.1 79 ((((σ.1 79)) + 1)), σ.2.1, σ.2.2)
  | k + 1, 3, L, σ => x_show k 4 L (upd σ.1 93 0, σ.2.1, σ.2.2)
  | k + 1, 4, L, σ => ob (x_print k 0 (upd (upd (fun _ => 0) 1 ((L 1))) 2 0) σ) (fun r1 => x_show k 5 L (upd r1.2.1 120 ((r1.2.1 93)), r1.2.2.1, r1.2.2.2))
  | k + 1, 5, L, σ => x_show k 6 (upd L 2 0) σ
  | k + 1, 6, L, σ => if ((σ.1 93)) ≤ ((L 2)) then (x_show k 8 L σ) else (if ¬ (((L 2)) < 0 ∨ 12000 ≤ ((L 2)).toNatClampNeg) then (if ¬ (((L 2)) < 0 ∨ 12000 ≤ ((L 2)).toNatClampNeg) then (x_show k 7 L (σ.1, σ.2.1, updG σ.2.2 57 (upd (σ.2.2 57) ((L 2)).toNatClampNeg ((σ.2.2 48 ((L 2)).toNatClampNeg))))) else none) else none)
  | k + 1, 7, L, σ => x_show k 6 (upd L 2 (((L 2)) + 1)) σ
  | k + 1, 8, L, σ => some ((σ.1 120), σ)
  | _ + 1, _ + 9, _, _ => none
def o_x_show : List Cond := [.fieldLink RX12 426 "SetHouseModel" "showns" "[I", .fieldLink RX12 1032 "SetHouseModel" "shownCount" "I", .fieldLink RX12 530 "SetHouseModel" "printed" "I", .methodLink RX12 554 yX12_print, .instanceMethod yX12_print, .selects RX12 yX12_print yX12_print, .initialized RX12, .fieldLink RX12 1038 "SetHouseModel" "shownSize" "I", .fieldLink RX12 1023 "SetHouseModel" "shownText" "[I", .fieldLink RX12 527 "SetHouseModel" "text" "[I"]
theorem o_x_show_good : o_x_show.all goodWord = true := by decide +kernel
def p_x_show : List Cond := o_x_show ++ ((.code yX12_print cX12_print 5 none :: p_x_GP) ++ [])
theorem p_x_show_good : p_x_show.all goodWord = true := nb_all2 o_x_show_good (nb_all2 (nb_allc (by decide +kernel) p_x_GP_good) rfl)
def w_x_show : List Cond := .code yX12_show cX12_show 3 (some .int) :: (p_x_show ++ fM)
theorem w_x_show_good : w_x_show.all goodWord = true := nb_allc (by decide +kernel) (nb_all2 p_x_show_good fM_good)
theorem in_x_show : ∀ w ∈ wsX120, w ∈ w_x_show := fun _ h => List.mem_cons_of_mem _ (List.mem_append_right _ h)
theorem hd_x_show : yX12_show.cls = RX12 ∧ yX12_show.cls ≠ "java/lang/invoke/MethodHandle" ∧ yX12_show.cls ≠ "java/lang/invoke/VarHandle" ∧ (parseMethodDescriptor yX12_show.desc).map (fun d => d.parameters.length) = some 1 := by decide +kernel
theorem gg_x_show_print : GoodIn w_x_show w_x_print := goodIn_sub (fun w h => (List.mem_cons.mp h).elim (fun e => (List.mem_cons_of_mem _ (List.mem_append_left _ (List.mem_append_right _ (List.mem_append_left _ (List.mem_cons.mpr (Or.inl e))))))) (fun h => (List.mem_append.mp h).elim (fun h => (List.mem_cons_of_mem _ (List.mem_append_left _ (List.mem_append_right _ (List.mem_append_left _ (List.mem_cons_of_mem _ h)))))) (fun h => List.mem_cons_of_mem _ (List.mem_append_right _ h)))) w_x_print_good
theorem g_x_show_print_554 : GoodIn w_x_show (wsV RX12 554 RX12 yX12_print w_x_print) := goodIn_app (nb_g4 (List.mem_cons_of_mem _ (List.mem_append_left _ (List.mem_append_left _ (List.mem_of_getElem? (i := 3) rfl)))) (List.mem_cons_of_mem _ (List.mem_append_left _ (List.mem_append_left _ (List.mem_of_getElem? (i := 4) rfl)))) (List.mem_cons_of_mem _ (List.mem_append_left _ (List.mem_append_left _ (List.mem_of_getElem? (i := 5) rfl)))) (List.mem_cons_of_mem _ (List.mem_append_left _ (List.mem_append_left _ (List.mem_of_getElem? (i := 6) rfl)))) (by decide +kernel)) gg_x_show_print
set_option maxHeartbeats 40000000 in
set_option maxRecDepth 100000 in
theorem c_x_show (l : Launch) (dC : Nat → ClassId) (dI : Nat → Nat → Nat) (cy : Nat → ClassId) (a : Nat → Nat) (k0 : Nat) (L0 : Nat → Int32) (σ0 : MS) (r0 : Int32 × MS) (h0 : x_show k0 0 L0 σ0 = some r0) (sz : Nat) : Met l yX12_show w_x_show ({ frames := 55, cells := 0, slots := 0, locals := 1278 }) (va_Pc [.ref (a 0), .int (L0 1)] (nIn (dC, dI) cy sz (vM cy a σ0))) (va_Qi (fun (z : Int32) (_ : Unit) => z = r0.1) (fun _ t => nOut (dC, dI) cy (va_A (vM cy a σ0) sz) (vM cy a r0.2) t) (va_A (vM cy a σ0) sz)) 0 0 (va_A (vM cy a σ0) sz) := by
  refine Met.ofW (cc := cX12_show) (maxL := 3) (ret := (some .int)) (by decide) rfl ?_
  intro p e s m args below meth c s₁ B hml hv
  obtain ⟨rfl, hsz, hP, hK, hD0, hG⟩ := hv
  have hx := B.exec
  have hb := B.bytes
  have hr := B.returns
  have hts := atoms_spec (ws := w_x_show) B.pre
  have hown : s.vm.findClass RX12 = some m.cls := findClass_of_methodNamed B.named
  have hlocks := B.notSynchronized
  subst hsz
  have hD := hD0.self (sz := s.heap.size)
  generalize hAe : va_A (vM cy a σ0) s.heap.size = A at hD ⊢
  have hA : ∀ q : Nat, s.heap.size ≤ q → A q := fun q h => by rw [← hAe]; exact Or.inr h
  have hS : va_S A s.heap s.heap [] := va_S.rf
  have hl := lv_entry ([.ref (a 0), .int (L0 1)]) (n := 3) (Nat.le_of_ble_eq_true rfl)
  rw [lg_entry_eq]
  generalize (lg_sl ([.ref (a 0), .int (L0 1)]) ++ List.replicate (3 - (lg_sl ([.ref (a 0), .int (L0 1)])).length) Slot.unset).toArray = ls at hl ⊢
  have hl : lv_has ls 3 [(0, .ref (a 0)), (1, .int (L0 1))] := hl
  have blk : ∀ k : Nat, (bT p l e (headSpec w_x_show ({ frames := 55, cells := 0, slots := 0, locals := 1278 })).room s m #[.ref (a 0), .int (L0 1)] below meth c dC dI cy a A (qI dC dI cy a A below #[.ref (a 0), .int (L0 1)] s) 3 (x_show k 0) (fun L => [(0, .ref (a 0)), (1, .int (L 1))]) 0 (fun L => [])) ∧ (bT p l e (headSpec w_x_show ({ frames := 55, cells := 0, slots := 0, locals := 1278 })).room s m #[.ref (a 0), .int (L0 1)] below meth c dC dI cy a A (qI dC dI cy a A below #[.ref (a 0), .int (L0 1)] s) 3 (x_show k 1) (fun L => [(0, .ref (a 0)), (1, .int (L 1))]) 12 (fun L => [])) ∧ (bT p l e (headSpec w_x_show ({ frames := 55, cells := 0, slots := 0, locals := 1278 })).room s m #[.ref (a 0), .int (L0 1)] below meth c dC dI cy a A (qI dC dI cy a A below #[.ref (a 0), .int (L0 1)] s) 3 (x_show k 2) (fun L => [(0, .ref (a 0)), (1, .int (L 1))]) 19 (fun L => [])) ∧ (bT p l e (headSpec w_x_show ({ frames := 55, cells := 0, slots := 0, locals := 1278 })).room s m #[.ref (a 0), .int (L0 1)] below meth c dC dI cy a A (qI dC dI cy a A below #[.ref (a 0), .int (L0 1)] s) 3 (x_show k 3) (fun L => [(0, .ref (a 0)), (1, .int (L 1))]) 29 (fun L => [])) ∧ (bT p l e (headSpec w_x_show ({ frames := 55, cells := 0, slots := 0, locals := 1278 })).room s m #[.ref (a 0), .int (L0 1)] below meth c dC dI cy a A (qI dC dI cy a A below #[.ref (a 0), .int (L0 1)] s) 3 (x_show k 4) (fun L => [(0, .ref (a 0)), (1, .int (L 1))]) 34 (fun L => [])) ∧ (bT p l e (headSpec w_x_show ({ frames := 55, cells := 0, slots := 0, locals := 1278 })).room s m #[.ref (a 0), .int (L0 1)] below meth c dC dI cy a A (qI dC dI cy a A below #[.ref (a 0), .int (L0 1)] s) 3 (x_show k 5) (fun L => [(0, .ref (a 0)), (1, .int (L 1))]) 48 (fun L => [])) ∧ (bT p l e (headSpec w_x_show ({ frames := 55, cells := 0, slots := 0, locals := 1278 })).room s m #[.ref (a 0), .int (L0 1)] below meth c dC dI cy a A (qI dC dI cy a A below #[.ref (a 0), .int (L0 1)] s) 3 (x_show k 6) (fun L => [(0, .ref (a 0)), (1, .int (L 1)), (2, .int (L 2))]) 50 (fun L => [])) ∧ (bT p l e (headSpec w_x_show ({ frames := 55, cells := 0, slots := 0, locals := 1278 })).room s m #[.ref (a 0), .int (L0 1)] below meth c dC dI cy a A (qI dC dI cy a A below #[.ref (a 0), .int (L0 1)] s) 3 (x_show k 7) (fun L => [(0, .ref (a 0)), (1, .int (L 1)), (2, .int (L 2))]) 70 (fun L => [])) ∧ (bT p l e (headSpec w_x_show ({ frames := 55, cells := 0, slots := 0, locals := 1278 })).room s m #[.ref (a 0), .int (L0 1)] below meth c dC dI cy a A (qI dC dI cy a A below #[.ref (a 0), .int (L0 1)] s) 3 (x_show k 8) (fun L => [(0, .ref (a 0)), (1, .int (L 1)), (2, .int (L 2))]) 76 (fun L => [])) := by
    intro k
    induction k with
    | zero => exact ⟨fun L σ r h => (by cases h), fun L σ r h => (by cases h), fun L σ r h => (by cases h), fun L σ r h => (by cases h), fun L σ r h => (by cases h), fun L σ r h => (by cases h), fun L σ r h => (by cases h), fun L σ r h => (by cases h), fun L σ r h => (by cases h)⟩
    | succ k ih =>
      refine ⟨?_, ?_, ?_, ?_, ?_, ?_, ?_, ?_, ?_⟩
      · intro L σ r h H locs ls hP hD hS hl
        rw [x_show] at h
        refine lv_aload_n hx hb dX12_show_0 rfl (lv_at hl 0 rfl) ?_
        refine ng_78 hx hb hts in_x_show hown hK hP (hts _ (List.mem_cons_of_mem _ (List.mem_append_left _ (List.mem_append_left _ (List.mem_of_getElem? (i := 0) rfl))))) dX12_show_1 ?_
        refine lv_iconst (v := 1) hx hb dX12_show_4 (by decide) ?_
        refine lv_aload_n hx hb dX12_show_5 rfl (lv_at hl 0 rfl) ?_
        refine ng_78 hx hb hts in_x_show hown hK hP (hts _ (List.mem_cons_of_mem _ (List.mem_append_left _ (List.mem_append_left _ (List.mem_of_getElem? (i := 0) rfl))))) dX12_show_6 ?_
        refine lv_iconst (v := 0) hx hb dX12_show_9 (by decide) ?_
        obtain ⟨q1, h⟩ := nb_ite1 h
        refine nl_40 hx hb hK hP q1 dX12_show_10 ?_
        obtain ⟨q2, h⟩ := nb_ite1 h
        refine ns_40 hx hb hK hP hD hS q2 dX12_show_11 (fun H locs hP hD hS => ?_)
        exact ih.2.1 L (σ.1, σ.2.1, updG σ.2.2 40 (upd (σ.2.2 40) (1 : Int32).toNatClampNeg ((σ.2.2 40 (0 : Int32).toNatClampNeg)))) r h H locs ls hP hD hS (lv_sub hl [0, 1] rfl)
      · intro L σ r h H locs ls hP hD hS hl
        rw [x_show] at h
        refine lv_aload_n hx hb dX12_show_12 rfl (lv_at hl 0 rfl) ?_
        refine ng_78 hx hb hts in_x_show hown hK hP (hts _ (List.mem_cons_of_mem _ (List.mem_append_left _ (List.mem_append_left _ (List.mem_of_getElem? (i := 0) rfl))))) dX12_show_13 ?_
        refine lv_iconst (v := 0) hx hb dX12_show_16 (by decide) ?_
        refine lv_iload_n hx hb dX12_show_17 rfl (lv_at hl 1 rfl) ?_
        obtain ⟨q1, h⟩ := nb_ite1 h
        refine ns_40 hx hb hK hP hD hS q1 dX12_show_18 (fun H locs hP hD hS => ?_)
        exact ih.2.2.1 L (σ.1, σ.2.1, updG σ.2.2 40 (upd (σ.2.2 40) (0 : Int32).toNatClampNeg ((L 1)))) r h H locs ls hP hD hS (lv_sub hl [0, 1] rfl)
      · intro L σ r h H locs ls hP hD hS hl
        rw [x_show] at h
        refine lv_aload_n hx hb dX12_show_19 rfl (lv_at hl 0 rfl) ?_
        refine lv_dup hx hb dX12_show_20 rfl ?_
        refine ng_79 hx hb hts in_x_show hown hK hP (hts _ (List.mem_cons_of_mem _ (List.mem_append_left _ (List.mem_append_left _ (List.mem_of_getElem? (i := 1) rfl))))) dX12_show_21 ?_
        refine lv_iconst (v := 1) hx hb dX12_show_24 (by decide) ?_
        refine lv_iadd hx hb dX12_show_25 ?_
        refine np_79 hx hb hts in_x_show hown hK hP hD hS (hts _ (List.mem_cons_of_mem _ (List.mem_append_left _ (List.mem_append_left _ (List.mem_of_getElem? (i := 1) rfl))))) dX12_show_26 (fun H locs hP hD hS => ?_)
        exact ih.2.2.2.1 L (upd σ.1 79 ((((σ.1 79)) + 1)), σ.2.1, σ.2.2) r h H locs ls hP hD hS (lv_sub hl [0, 1] rfl)
      · intro L σ r h H locs ls hP hD hS hl
        rw [x_show] at h
        refine lv_aload_n hx hb dX12_show_29 rfl (lv_at hl 0 rfl) ?_
        refine lv_iconst (v := 0) hx hb dX12_show_30 (by decide) ?_
        refine np_93 hx hb hts in_x_show hown hK hP hD hS (hts _ (List.mem_cons_of_mem _ (List.mem_append_left _ (List.mem_append_left _ (List.mem_of_getElem? (i := 2) rfl))))) dX12_show_31 (fun H locs hP hD hS => ?_)
        exact ih.2.2.2.2.1 L (upd σ.1 93 0, σ.2.1, σ.2.2) r h H locs ls hP hD hS (lv_sub hl [0, 1] rfl)
      · intro L σ r h H locs ls hP hD hS hl
        rw [x_show] at h
        refine lv_aload_n hx hb dX12_show_34 rfl (lv_at hl 0 rfl) ?_
        refine lv_iload_n hx hb dX12_show_35 rfl (lv_at hl 1 rfl) ?_
        refine lv_iconst (v := 0) hx hb dX12_show_36 (by decide) ?_
        obtain ⟨r1, hc1, h⟩ := ob_ex h
        refine nc_Vv (As := [.int (L 1), .int 0]) (rest := []) ⟨hx, hb, hml, hown, hts⟩ (c_x_print l dC dI cy a k (upd (upd (fun _ => 0) 1 ((L 1))) 2 0) σ r1 hc1 H.size) (cwV 2 hts g_x_show_print_554 rfl rfl rfl hd_x_print ⟨Nat.le_of_ble_eq_true rfl, Nat.le_of_ble_eq_true rfl⟩) hK hG hA hP hD hS rfl hl.1 rfl (Nat.le_of_ble_eq_true rfl) dX12_show_37 ⟨Nat.le_refl _, Nat.le_refl _⟩ (fun H locs hP hD hS => ?_)
        refine lv_aload_n hx hb dX12_show_40 rfl (lv_at hl 0 rfl) ?_
        refine lv_aload_n hx hb dX12_show_41 rfl (lv_at hl 0 rfl) ?_
        refine ng_93 hx hb hts in_x_show hown hK hP (hts _ (List.mem_cons_of_mem _ (List.mem_append_left _ (List.mem_append_left _ (List.mem_of_getElem? (i := 2) rfl))))) dX12_show_42 ?_
        refine np_120 hx hb hts in_x_show hown hK hP hD hS (hts _ (List.mem_cons_of_mem _ (List.mem_append_left _ (List.mem_append_left _ (List.mem_of_getElem? (i := 7) rfl))))) dX12_show_45 (fun H locs hP hD hS => ?_)
        exact ih.2.2.2.2.2.1 L (upd r1.2.1 120 ((r1.2.1 93)), r1.2.2.1, r1.2.2.2) r h H locs ls hP hD hS (lv_sub hl [0, 1] rfl)
      · intro L σ r h H locs ls hP hD hS hl
        rw [x_show] at h
        refine lv_iconst (v := 0) hx hb dX12_show_48 (by decide) ?_
        refine lv_istore_n (lv' := [(2, .int 0), (0, .ref (a 0)), (1, .int (L 1))]) hx hb dX12_show_49 rfl hl (by decide) rfl (fun ls hl => ?_)
        exact ih.2.2.2.2.2.2.1 (upd L 2 0) σ r h H locs ls hP hD hS (lv_sub hl [1, 2, 0] rfl)
      · intro L σ r h H locs ls hP hD hS hl
        rw [x_show] at h
        refine lv_iload_n hx hb dX12_show_50 rfl (lv_at hl 2 rfl) ?_
        refine lv_aload_n hx hb dX12_show_51 rfl (lv_at hl 0 rfl) ?_
        refine ng_93 hx hb hts in_x_show hown hK hP (hts _ (List.mem_cons_of_mem _ (List.mem_append_left _ (List.mem_append_left _ (List.mem_of_getElem? (i := 2) rfl))))) dX12_show_52 ?_
        refine lv_icmp_ge (tgt := 76) hx hb dX12_show_55 (by decide) (fun c1 => ?_) (fun c1 => ?_)
        · rw [if_pos c1] at h
          exact ih.2.2.2.2.2.2.2.2 L σ r h H locs ls hP hD hS (lv_sub hl [0, 1, 2] rfl)
        · rw [if_neg c1] at h
          refine lv_aload_n hx hb dX12_show_58 rfl (lv_at hl 0 rfl) ?_
          refine ng_119 hx hb hts in_x_show hown hK hP (hts _ (List.mem_cons_of_mem _ (List.mem_append_left _ (List.mem_append_left _ (List.mem_of_getElem? (i := 8) rfl))))) dX12_show_59 ?_
          refine lv_iload_n hx hb dX12_show_62 rfl (lv_at hl 2 rfl) ?_
          refine lv_aload_n hx hb dX12_show_63 rfl (lv_at hl 0 rfl) ?_
          refine ng_92 hx hb hts in_x_show hown hK hP (hts _ (List.mem_cons_of_mem _ (List.mem_append_left _ (List.mem_append_left _ (List.mem_of_getElem? (i := 9) rfl))))) dX12_show_64 ?_
          refine lv_iload_n hx hb dX12_show_67 rfl (lv_at hl 2 rfl) ?_
          obtain ⟨q2, h⟩ := nb_ite1 h
          refine nl_48 hx hb hK hP q2 dX12_show_68 ?_
          obtain ⟨q3, h⟩ := nb_ite1 h
          refine ns_57 hx hb hK hP hD hS q3 dX12_show_69 (fun H locs hP hD hS => ?_)
          exact ih.2.2.2.2.2.2.2.1 L (σ.1, σ.2.1, updG σ.2.2 57 (upd (σ.2.2 57) ((L 2)).toNatClampNeg ((σ.2.2 48 ((L 2)).toNatClampNeg)))) r h H locs ls hP hD hS (lv_sub hl [0, 1, 2] rfl)
      · intro L σ r h H locs ls hP hD hS hl
        rw [x_show] at h
        refine lv_iinc (v := ((L 2)) + 1) (lv' := [(2, .int (((L 2)) + 1)), (0, .ref (a 0)), (1, .int (L 1))]) hx hb dX12_show_70 hl (k := 2) rfl rfl (by decide) rfl (fun ls hl => ?_)
        refine lv_goto (tgt := 50) hx hb dX12_show_73 (by decide) ?_
        exact ih.2.2.2.2.2.2.1 (upd L 2 (((L 2)) + 1)) σ r h H locs ls hP hD hS (lv_sub hl [1, 2, 0] rfl)
      · intro L σ r h H locs ls hP hD hS hl
        rw [x_show] at h
        refine lv_aload_n hx hb dX12_show_76 rfl (lv_at hl 0 rfl) ?_
        refine ng_120 hx hb hts in_x_show hown hK hP (hts _ (List.mem_cons_of_mem _ (List.mem_append_left _ (List.mem_append_left _ (List.mem_of_getElem? (i := 7) rfl))))) dX12_show_77 ?_
        cases h
        exact W.iret (v := (σ.1 120)) hx hb hr (fun t ht hW => ⟨⟨(σ.1 120), (), rfl, rfl, by rw [ht]; exact hP, va_K.moved hW.alike hK, hD⟩, hS.F ht⟩) hS.2.2 dX12_show_80
  exact (blk k0).1 L0 σ0 r0 h0 s.heap [] ls hP hD hS hl
/-! value -/
def x_value : Nat → Nat → (Nat → Int32) → MS → Option (Int32 × MS)
  | 0, _, _, _ => none
  | k + 1, 0, L, σ => if ((σ.1 112)) = 0 then (x_value k 1 L σ) else (x_value k 2 (upd L 100 0) σ)
  | k + 1, 1, L, σ => x_value k 2 (upd L 100 1) σ
  | k + 1, 2, L, σ => ob (x_good k 0 (upd (fun _ => 0) 1 ((L 100))) σ) (fun r1 => if r1.1 = 0 then (some (0, r1.2)) else (x_value k 3 L r1.2))
  | k + 1, 3, L, σ => x_value k 4 L (upd σ.1 8 0, σ.2.1, σ.2.2)
  | k + 1, 4, L, σ => x_value k 5 L (upd σ.1 9 ((σ.1 4)), σ.2.1, σ.2.2)
  | k + 1, 5, L, σ => x_value k 6 (upd L 1 0) σ
  | k + 1, 6, L, σ => if ((σ.1 25)) ≤ ((L 1)) then (x_value k 9 L σ) else (if ¬ (((L 1)) < 0 ∨ 200 ≤ ((L 1)).toNatClampNeg) then (if ((σ.2.2 13 ((L 1)).toNatClampNeg)) = 1 then (if ¬ (((L 1)) < 0 ∨ 200 ≤ ((L 1)).toNatClampNeg) then (if ¬ (((L 1)) < 0 ∨ 200 ≤ ((L 1)).toNatClampNeg) then (ob (x_isNamed k 0 (upd (upd (fun _ => 0) 1 ((σ.2.2 14 ((L 1)).toNatClampNeg))) 2 ((σ.2.2 15 ((L 1)).toNatClampNeg))) σ) (fun r6 => if r6.1 = 0 then (x_value k 8 L r6.2) else (x_value k 7 L (upd r6.2.1 4 0, r6.2.2.1, r6.2.2.2)))) else none) else none) else (x_value k 8 L σ)) else none)
  | k + 1, 7, L, σ => if ¬ (((L 1)) < 0 ∨ 200 ≤ ((L 1)).toNatClampNeg) then (if ¬ (((4 + ((σ.2.2 16 ((L 1)).toNatClampNeg)))) < 0 ∨ 11514 ≤ ((4 + ((σ.2.2 16 ((L 1)).toNatClampNeg)))).toNatClampNeg) then (ob (x_show k 0 (upd (fun _ => 0) 1 ((σ.2.2 30 ((4 + ((σ.2.2 16 ((L 1)).toNatClampNeg)))).toNatClampNeg))) σ) (fun r3 => some (r3.1, r3.2))) else none) else none
  | k + 1, 8, L, σ => x_value k 6 (upd L 1 (((L 1)) + 1)) σ
  | k + 1, 9, L, σ => x_value k 10 L (upd σ.1 2 2, σ.2.1, σ.2.2)
  | k + 1, 10, L, σ => some (0, σ)
  | _ + 1, _ + 11, _, _ => none
def o_x_value : List Cond := [.fieldLink RX12 1044 "SetHouseModel" "isRun" "Z", .methodLink RX12 1050 yX12_good, .instanceMethod yX12_good, .selects RX12 yX12_good yX12_good, .initialized RX12, .fieldLink RX12 32 "SetHouseModel" "tFrom" "I", .fieldLink RX12 1 "SetHouseModel" "taped" "I", .fieldLink RX12 55 "SetHouseModel" "tTo" "I", .fieldLink RX12 139 "SetHouseModel" "entities" "I", .fieldLink RX12 148 "SetHouseModel" "eKind" "[I", .fieldLink RX12 142 "SetHouseModel" "eFrom" "[I", .fieldLink RX12 145 "SetHouseModel" "eSize" "[I", .methodLink RX12 123 yX12_isNamed, .instanceMethod yX12_isNamed, .selects RX12 yX12_isNamed yX12_isNamed, .fieldLink RX12 395 "SetHouseModel" "st" "[I", .fieldLink RX12 151 "SetHouseModel" "eNumber" "[I", .methodLink RX12 1071 yX12_show, .instanceMethod yX12_show, .selects RX12 yX12_show yX12_show, .fieldLink RX12 993 "SetHouseModel" "code" "I"]
theorem o_x_value_good : o_x_value.all goodWord = true := by decide +kernel
def p_x_value : List Cond := o_x_value ++ ((.code yX12_good cX12_good 2 (some .boolean) :: p_x_good) ++ ((.code yX12_isNamed cX12_isNamed 4 (some .boolean) :: p_x_isNamed) ++ ((.code yX12_show cX12_show 3 (some .int) :: p_x_show) ++ [])))
theorem p_x_value_good : p_x_value.all goodWord = true := nb_all2 o_x_value_good (nb_all2 (nb_allc (by decide +kernel) p_x_good_good) (nb_all2 (nb_allc (by decide +kernel) p_x_isNamed_good) (nb_all2 (nb_allc (by decide +kernel) p_x_show_good) rfl)))
def w_x_value : List Cond := .code yX12_value cX12_value 2 (some .int) :: (p_x_value ++ fM)
theorem w_x_value_good : w_x_value.all goodWord = true := nb_allc (by decide +kernel) (nb_all2 p_x_value_good fM_good)
theorem in_x_value : ∀ w ∈ wsX120, w ∈ w_x_value := fun _ h => List.mem_cons_of_mem _ (List.mem_append_right _ h)
theorem hd_x_value : yX12_value.cls = RX12 ∧ yX12_value.cls ≠ "java/lang/invoke/MethodHandle" ∧ yX12_value.cls ≠ "java/lang/invoke/VarHandle" ∧ (parseMethodDescriptor yX12_value.desc).map (fun d => d.parameters.length) = some 0 := by decide +kernel
theorem gg_x_value_good : GoodIn w_x_value w_x_good := goodIn_sub (fun w h => (List.mem_cons.mp h).elim (fun e => (List.mem_cons_of_mem _ (List.mem_append_left _ (List.mem_append_right _ (List.mem_append_left _ (List.mem_cons.mpr (Or.inl e))))))) (fun h => (List.mem_append.mp h).elim (fun h => (List.mem_cons_of_mem _ (List.mem_append_left _ (List.mem_append_right _ (List.mem_append_left _ (List.mem_cons_of_mem _ h)))))) (fun h => List.mem_cons_of_mem _ (List.mem_append_right _ h)))) w_x_good_good
theorem g_x_value_good_1050 : GoodIn w_x_value (wsV RX12 1050 RX12 yX12_good w_x_good) := goodIn_app (nb_g4 (List.mem_cons_of_mem _ (List.mem_append_left _ (List.mem_append_left _ (List.mem_of_getElem? (i := 1) rfl)))) (List.mem_cons_of_mem _ (List.mem_append_left _ (List.mem_append_left _ (List.mem_of_getElem? (i := 2) rfl)))) (List.mem_cons_of_mem _ (List.mem_append_left _ (List.mem_append_left _ (List.mem_of_getElem? (i := 3) rfl)))) (List.mem_cons_of_mem _ (List.mem_append_left _ (List.mem_append_left _ (List.mem_of_getElem? (i := 4) rfl)))) (by decide +kernel)) gg_x_value_good
theorem gg_x_value_isNamed : GoodIn w_x_value w_x_isNamed := goodIn_sub (fun w h => (List.mem_cons.mp h).elim (fun e => (List.mem_cons_of_mem _ (List.mem_append_left _ (List.mem_append_right _ (List.mem_append_right _ (List.mem_append_left _ (List.mem_cons.mpr (Or.inl e)))))))) (fun h => (List.mem_append.mp h).elim (fun h => (List.mem_cons_of_mem _ (List.mem_append_left _ (List.mem_append_right _ (List.mem_append_right _ (List.mem_append_left _ (List.mem_cons_of_mem _ h))))))) (fun h => List.mem_cons_of_mem _ (List.mem_append_right _ h)))) w_x_isNamed_good
theorem g_x_value_isNamed_123 : GoodIn w_x_value (wsV RX12 123 RX12 yX12_isNamed w_x_isNamed) := goodIn_app (nb_g4 (List.mem_cons_of_mem _ (List.mem_append_left _ (List.mem_append_left _ (List.mem_of_getElem? (i := 12) rfl)))) (List.mem_cons_of_mem _ (List.mem_append_left _ (List.mem_append_left _ (List.mem_of_getElem? (i := 13) rfl)))) (List.mem_cons_of_mem _ (List.mem_append_left _ (List.mem_append_left _ (List.mem_of_getElem? (i := 14) rfl)))) (List.mem_cons_of_mem _ (List.mem_append_left _ (List.mem_append_left _ (List.mem_of_getElem? (i := 4) rfl)))) (by decide +kernel)) gg_x_value_isNamed
theorem gg_x_value_show : GoodIn w_x_value w_x_show := goodIn_sub (fun w h => (List.mem_cons.mp h).elim (fun e => (List.mem_cons_of_mem _ (List.mem_append_left _ (List.mem_append_right _ (List.mem_append_right _ (List.mem_append_right _ (List.mem_append_left _ (List.mem_cons.mpr (Or.inl e))))))))) (fun h => (List.mem_append.mp h).elim (fun h => (List.mem_cons_of_mem _ (List.mem_append_left _ (List.mem_append_right _ (List.mem_append_right _ (List.mem_append_right _ (List.mem_append_left _ (List.mem_cons_of_mem _ h)))))))) (fun h => List.mem_cons_of_mem _ (List.mem_append_right _ h)))) w_x_show_good
theorem g_x_value_show_1071 : GoodIn w_x_value (wsV RX12 1071 RX12 yX12_show w_x_show) := goodIn_app (nb_g4 (List.mem_cons_of_mem _ (List.mem_append_left _ (List.mem_append_left _ (List.mem_of_getElem? (i := 17) rfl)))) (List.mem_cons_of_mem _ (List.mem_append_left _ (List.mem_append_left _ (List.mem_of_getElem? (i := 18) rfl)))) (List.mem_cons_of_mem _ (List.mem_append_left _ (List.mem_append_left _ (List.mem_of_getElem? (i := 19) rfl)))) (List.mem_cons_of_mem _ (List.mem_append_left _ (List.mem_append_left _ (List.mem_of_getElem? (i := 4) rfl)))) (by decide +kernel)) gg_x_value_show
set_option maxHeartbeats 40000000 in
set_option maxRecDepth 100000 in
theorem c_x_value (l : Launch) (dC : Nat → ClassId) (dI : Nat → Nat → Nat) (cy : Nat → ClassId) (a : Nat → Nat) (k0 : Nat) (L0 : Nat → Int32) (σ0 : MS) (r0 : Int32 × MS) (h0 : x_value k0 0 L0 σ0 = some r0) (sz : Nat) : Met l yX12_value w_x_value ({ frames := 56, cells := 0, slots := 0, locals := 1300 }) (va_Pc [.ref (a 0)] (nIn (dC, dI) cy sz (vM cy a σ0))) (va_Qi (fun (z : Int32) (_ : Unit) => z = r0.1) (fun _ t => nOut (dC, dI) cy (va_A (vM cy a σ0) sz) (vM cy a r0.2) t) (va_A (vM cy a σ0) sz)) 0 0 (va_A (vM cy a σ0) sz) := by
  refine Met.ofW (cc := cX12_value) (maxL := 2) (ret := (some .int)) (by decide) rfl ?_
  intro p e s m args below meth c s₁ B hml hv
  obtain ⟨rfl, hsz, hP, hK, hD0, hG⟩ := hv
  have hx := B.exec
  have hb := B.bytes
  have hr := B.returns
  have hts := atoms_spec (ws := w_x_value) B.pre
  have hown : s.vm.findClass RX12 = some m.cls := findClass_of_methodNamed B.named
  have hlocks := B.notSynchronized
  subst hsz
  have hD := hD0.self (sz := s.heap.size)
  generalize hAe : va_A (vM cy a σ0) s.heap.size = A at hD ⊢
  have hA : ∀ q : Nat, s.heap.size ≤ q → A q := fun q h => by rw [← hAe]; exact Or.inr h
  have hS : va_S A s.heap s.heap [] := va_S.rf
  have hl := lv_entry ([.ref (a 0)]) (n := 2) (Nat.le_of_ble_eq_true rfl)
  rw [lg_entry_eq]
  generalize (lg_sl ([.ref (a 0)]) ++ List.replicate (2 - (lg_sl ([.ref (a 0)])).length) Slot.unset).toArray = ls at hl ⊢
  have hl : lv_has ls 2 [(0, .ref (a 0))] := hl
  have blk : ∀ k : Nat, (bT p l e (headSpec w_x_value ({ frames := 56, cells := 0, slots := 0, locals := 1300 })).room s m #[.ref (a 0)] below meth c dC dI cy a A (qI dC dI cy a A below #[.ref (a 0)] s) 2 (x_value k 0) (fun L => [(0, .ref (a 0))]) 0 (fun L => [])) ∧ (bT p l e (headSpec w_x_value ({ frames := 56, cells := 0, slots := 0, locals := 1300 })).room s m #[.ref (a 0)] below meth c dC dI cy a A (qI dC dI cy a A below #[.ref (a 0)] s) 2 (x_value k 1) (fun L => [(0, .ref (a 0))]) 12 (fun L => [.ref (a 0)])) ∧ (bT p l e (headSpec w_x_value ({ frames := 56, cells := 0, slots := 0, locals := 1300 })).room s m #[.ref (a 0)] below meth c dC dI cy a A (qI dC dI cy a A below #[.ref (a 0)] s) 2 (x_value k 2) (fun L => [(0, .ref (a 0))]) 13 (fun L => [.int (L 100), .ref (a 0)])) ∧ (bT p l e (headSpec w_x_value ({ frames := 56, cells := 0, slots := 0, locals := 1300 })).room s m #[.ref (a 0)] below meth c dC dI cy a A (qI dC dI cy a A below #[.ref (a 0)] s) 2 (x_value k 3) (fun L => [(0, .ref (a 0))]) 21 (fun L => [])) ∧ (bT p l e (headSpec w_x_value ({ frames := 56, cells := 0, slots := 0, locals := 1300 })).room s m #[.ref (a 0)] below meth c dC dI cy a A (qI dC dI cy a A below #[.ref (a 0)] s) 2 (x_value k 4) (fun L => [(0, .ref (a 0))]) 26 (fun L => [])) ∧ (bT p l e (headSpec w_x_value ({ frames := 56, cells := 0, slots := 0, locals := 1300 })).room s m #[.ref (a 0)] below meth c dC dI cy a A (qI dC dI cy a A below #[.ref (a 0)] s) 2 (x_value k 5) (fun L => [(0, .ref (a 0))]) 34 (fun L => [])) ∧ (bT p l e (headSpec w_x_value ({ frames := 56, cells := 0, slots := 0, locals := 1300 })).room s m #[.ref (a 0)] below meth c dC dI cy a A (qI dC dI cy a A below #[.ref (a 0)] s) 2 (x_value k 6) (fun L => [(0, .ref (a 0)), (1, .int (L 1))]) 36 (fun L => [])) ∧ (bT p l e (headSpec w_x_value ({ frames := 56, cells := 0, slots := 0, locals := 1300 })).room s m #[.ref (a 0)] below meth c dC dI cy a A (qI dC dI cy a A below #[.ref (a 0)] s) 2 (x_value k 7) (fun L => [(0, .ref (a 0)), (1, .int (L 1))]) 78 (fun L => [])) ∧ (bT p l e (headSpec w_x_value ({ frames := 56, cells := 0, slots := 0, locals := 1300 })).room s m #[.ref (a 0)] below meth c dC dI cy a A (qI dC dI cy a A below #[.ref (a 0)] s) 2 (x_value k 8) (fun L => [(0, .ref (a 0)), (1, .int (L 1))]) 96 (fun L => [])) ∧ (bT p l e (headSpec w_x_value ({ frames := 56, cells := 0, slots := 0, locals := 1300 })).room s m #[.ref (a 0)] below meth c dC dI cy a A (qI dC dI cy a A below #[.ref (a 0)] s) 2 (x_value k 9) (fun L => [(0, .ref (a 0)), (1, .int (L 1))]) 102 (fun L => [])) ∧ (bT p l e (headSpec w_x_value ({ frames := 56, cells := 0, slots := 0, locals := 1300 })).room s m #[.ref (a 0)] below meth c dC dI cy a A (qI dC dI cy a A below #[.ref (a 0)] s) 2 (x_value k 10) (fun L => [(0, .ref (a 0)), (1, .int (L 1))]) 107 (fun L => [])) := by
    intro k
    induction k with
    | zero => exact ⟨fun L σ r h => (by cases h), fun L σ r h => (by cases h), fun L σ r h => (by cases h), fun L σ r h => (by cases h), fun L σ r h => (by cases h), fun L σ r h => (by cases h), fun L σ r h => (by cases h), fun L σ r h => (by cases h), fun L σ r h => (by cases h), fun L σ r h => (by cases h), fun L σ r h => (by cases h)⟩
    | succ k ih =>
      refine ⟨?_, ?_, ?_, ?_, ?_, ?_, ?_, ?_, ?_, ?_, ?_⟩
      · intro L σ r h H locs ls hP hD hS hl
        rw [x_value] at h
        refine lv_aload_n hx hb dX12_value_0 rfl (lv_at hl 0 rfl) ?_
        refine lv_aload_n hx hb dX12_value_1 rfl (lv_at hl 0 rfl) ?_
        refine ng_112 hx hb hts in_x_value hown hK hP (hts _ (List.mem_cons_of_mem _ (List.mem_append_left _ (List.mem_append_left _ (List.mem_of_getElem? (i := 0) rfl))))) dX12_value_2 ?_
        refine lv_if_eq (tgt := 12) hx hb dX12_value_5 (by decide) (fun c1 => ?_) (fun c1 => ?_)
        · rw [if_pos c1] at h
          exact ih.2.1 L σ r h H locs ls hP hD hS (lv_sub hl [0] rfl)
        · rw [if_neg c1] at h
          refine lv_iconst (v := 0) hx hb dX12_value_8 (by decide) ?_
          refine lv_goto (tgt := 13) hx hb dX12_value_9 (by decide) ?_
          exact ih.2.2.1 (upd L 100 0) σ r h H locs ls hP hD hS (lv_sub hl [0] rfl)
      · intro L σ r h H locs ls hP hD hS hl
        rw [x_value] at h
        refine lv_iconst (v := 1) hx hb dX12_value_12 (by decide) ?_
        exact ih.2.2.1 (upd L 100 1) σ r h H locs ls hP hD hS (lv_sub hl [0] rfl)
      · intro L σ r h H locs ls hP hD hS hl
        rw [x_value] at h
        obtain ⟨r1, hc1, h⟩ := ob_ex h
        refine nc_Vi (As := [.int (L 100)]) (rest := []) ⟨hx, hb, hml, hown, hts⟩ (c_x_good l dC dI cy a k (upd (fun _ => 0) 1 ((L 100))) σ r1 hc1 H.size) (cwV 1 hts g_x_value_good_1050 rfl rfl rfl hd_x_good ⟨Nat.le_of_ble_eq_true rfl, Nat.le_of_ble_eq_true rfl⟩) hK hG hA hP hD hS rfl hl.1 rfl (Nat.le_of_ble_eq_true rfl) dX12_value_13 ⟨Nat.le_refl _, Nat.le_refl _⟩ (fun H locs hP hD hS => ?_)
        refine lv_if_ne (tgt := 21) hx hb dX12_value_16 (by decide) (fun c2 => ?_) (fun c2 => ?_)
        · rw [if_neg c2] at h
          exact ih.2.2.2.1 L r1.2 r h H locs ls hP hD hS (lv_sub hl [0] rfl)
        · rw [if_pos c2] at h
          refine lv_iconst (v := 0) hx hb dX12_value_19 (by decide) ?_
          cases h
          exact W.iret (v := 0) hx hb hr (fun t ht hW => ⟨⟨0, (), rfl, rfl, by rw [ht]; exact hP, va_K.moved hW.alike hK, hD⟩, hS.F ht⟩) hS.2.2 dX12_value_20
      · intro L σ r h H locs ls hP hD hS hl
        rw [x_value] at h
        refine lv_aload_n hx hb dX12_value_21 rfl (lv_at hl 0 rfl) ?_
        refine lv_iconst (v := 0) hx hb dX12_value_22 (by decide) ?_
        refine np_8 hx hb hts in_x_value hown hK hP hD hS (hts _ (List.mem_cons_of_mem _ (List.mem_append_left _ (List.mem_append_left _ (List.mem_of_getElem? (i := 5) rfl))))) dX12_value_23 (fun H locs hP hD hS => ?_)
        exact ih.2.2.2.2.1 L (upd σ.1 8 0, σ.2.1, σ.2.2) r h H locs ls hP hD hS (lv_sub hl [0] rfl)
      · intro L σ r h H locs ls hP hD hS hl
        rw [x_value] at h
        refine lv_aload_n hx hb dX12_value_26 rfl (lv_at hl 0 rfl) ?_
        refine lv_aload_n hx hb dX12_value_27 rfl (lv_at hl 0 rfl) ?_
        refine ng_4 hx hb hts in_x_value hown hK hP (hts _ (List.mem_cons_of_mem _ (List.mem_append_left _ (List.mem_append_left _ (List.mem_of_getElem? (i := 6) rfl))))) dX12_value_28 ?_
        refine np_9 hx hb hts in_x_value hown hK hP hD hS (hts _ (List.mem_cons_of_mem _ (List.mem_append_left _ (List.mem_append_left _ (List.mem_of_getElem? (i := 7) rfl))))) dX12_value_31 (fun H locs hP hD hS => ?_)
        exact ih.2.2.2.2.2.1 L (upd σ.1 9 ((σ.1 4)), σ.2.1, σ.2.2) r h H locs ls hP hD hS (lv_sub hl [0] rfl)
      · intro L σ r h H locs ls hP hD hS hl
        rw [x_value] at h
        refine lv_iconst (v := 0) hx hb dX12_value_34 (by decide) ?_
        refine lv_istore_n (lv' := [(1, .int 0), (0, .ref (a 0))]) hx hb dX12_value_35 rfl hl (by decide) rfl (fun ls hl => ?_)
        exact ih.2.2.2.2.2.2.1 (upd L 1 0) σ r h H locs ls hP hD hS (lv_sub hl [1, 0] rfl)
      · intro L σ r h H locs ls hP hD hS hl
        rw [x_value] at h
        refine lv_iload_n hx hb dX12_value_36 rfl (lv_at hl 1 rfl) ?_
        refine lv_aload_n hx hb dX12_value_37 rfl (lv_at hl 0 rfl) ?_
        refine ng_25 hx hb hts in_x_value hown hK hP (hts _ (List.mem_cons_of_mem _ (List.mem_append_left _ (List.mem_append_left _ (List.mem_of_getElem? (i := 8) rfl))))) dX12_value_38 ?_
        refine lv_icmp_ge (tgt := 102) hx hb dX12_value_41 (by decide) (fun c1 => ?_) (fun c1 => ?_)
        · rw [if_pos c1] at h
          exact ih.2.2.2.2.2.2.2.2.2.1 L σ r h H locs ls hP hD hS (lv_sub hl [0, 1] rfl)
        · rw [if_neg c1] at h
          refine lv_aload_n hx hb dX12_value_44 rfl (lv_at hl 0 rfl) ?_
          refine ng_26 hx hb hts in_x_value hown hK hP (hts _ (List.mem_cons_of_mem _ (List.mem_append_left _ (List.mem_append_left _ (List.mem_of_getElem? (i := 9) rfl))))) dX12_value_45 ?_
          refine lv_iload_n hx hb dX12_value_48 rfl (lv_at hl 1 rfl) ?_
          obtain ⟨q2, h⟩ := nb_ite1 h
          refine nl_13 hx hb hK hP q2 dX12_value_49 ?_
          refine lv_iconst (v := 1) hx hb dX12_value_50 (by decide) ?_
          refine lv_icmp_ne (tgt := 96) hx hb dX12_value_51 (by decide) (fun c3 => ?_) (fun c3 => ?_)
          · rw [if_neg c3] at h
            exact ih.2.2.2.2.2.2.2.2.1 L σ r h H locs ls hP hD hS (lv_sub hl [0, 1] rfl)
          · rw [if_pos c3] at h
            refine lv_aload_n hx hb dX12_value_54 rfl (lv_at hl 0 rfl) ?_
            refine lv_aload_n hx hb dX12_value_55 rfl (lv_at hl 0 rfl) ?_
            refine ng_27 hx hb hts in_x_value hown hK hP (hts _ (List.mem_cons_of_mem _ (List.mem_append_left _ (List.mem_append_left _ (List.mem_of_getElem? (i := 10) rfl))))) dX12_value_56 ?_
            refine lv_iload_n hx hb dX12_value_59 rfl (lv_at hl 1 rfl) ?_
            obtain ⟨q4, h⟩ := nb_ite1 h
            refine nl_14 hx hb hK hP q4 dX12_value_60 ?_
            refine lv_aload_n hx hb dX12_value_61 rfl (lv_at hl 0 rfl) ?_
            refine ng_28 hx hb hts in_x_value hown hK hP (hts _ (List.mem_cons_of_mem _ (List.mem_append_left _ (List.mem_append_left _ (List.mem_of_getElem? (i := 11) rfl))))) dX12_value_62 ?_
            refine lv_iload_n hx hb dX12_value_65 rfl (lv_at hl 1 rfl) ?_
            obtain ⟨q5, h⟩ := nb_ite1 h
            refine nl_15 hx hb hK hP q5 dX12_value_66 ?_
            obtain ⟨r6, hc6, h⟩ := ob_ex h
            refine nc_Vi (As := [.int (σ.2.2 14 ((L 1)).toNatClampNeg), .int (σ.2.2 15 ((L 1)).toNatClampNeg)]) (rest := []) ⟨hx, hb, hml, hown, hts⟩ (c_x_isNamed l dC dI cy a k (upd (upd (fun _ => 0) 1 ((σ.2.2 14 ((L 1)).toNatClampNeg))) 2 ((σ.2.2 15 ((L 1)).toNatClampNeg))) σ r6 hc6 H.size) (cwV 2 hts g_x_value_isNamed_123 rfl rfl rfl hd_x_isNamed ⟨Nat.le_of_ble_eq_true rfl, Nat.le_of_ble_eq_true rfl⟩) hK hG hA hP hD hS rfl hl.1 rfl (Nat.le_of_ble_eq_true rfl) dX12_value_67 ⟨Nat.le_refl _, Nat.le_refl _⟩ (fun H locs hP hD hS => ?_)
            refine lv_if_eq (tgt := 96) hx hb dX12_value_70 (by decide) (fun c7 => ?_) (fun c7 => ?_)
            · rw [if_pos c7] at h
              exact ih.2.2.2.2.2.2.2.2.1 L r6.2 r h H locs ls hP hD hS (lv_sub hl [0, 1] rfl)
            · rw [if_neg c7] at h
              refine lv_aload_n hx hb dX12_value_73 rfl (lv_at hl 0 rfl) ?_
              refine lv_iconst (v := 0) hx hb dX12_value_74 (by decide) ?_
              refine np_4 hx hb hts in_x_value hown hK hP hD hS (hts _ (List.mem_cons_of_mem _ (List.mem_append_left _ (List.mem_append_left _ (List.mem_of_getElem? (i := 6) rfl))))) dX12_value_75 (fun H locs hP hD hS => ?_)
              exact ih.2.2.2.2.2.2.2.1 L (upd r6.2.1 4 0, r6.2.2.1, r6.2.2.2) r h H locs ls hP hD hS (lv_sub hl [0, 1] rfl)
      · intro L σ r h H locs ls hP hD hS hl
        rw [x_value] at h
        refine lv_aload_n hx hb dX12_value_78 rfl (lv_at hl 0 rfl) ?_
        refine lv_aload_n hx hb dX12_value_79 rfl (lv_at hl 0 rfl) ?_
        refine ng_60 hx hb hts in_x_value hown hK hP (hts _ (List.mem_cons_of_mem _ (List.mem_append_left _ (List.mem_append_left _ (List.mem_of_getElem? (i := 15) rfl))))) dX12_value_80 ?_
        refine lv_iconst (v := 4) hx hb dX12_value_83 (by decide) ?_
        refine lv_aload_n hx hb dX12_value_84 rfl (lv_at hl 0 rfl) ?_
        refine ng_29 hx hb hts in_x_value hown hK hP (hts _ (List.mem_cons_of_mem _ (List.mem_append_left _ (List.mem_append_left _ (List.mem_of_getElem? (i := 16) rfl))))) dX12_value_85 ?_
        refine lv_iload_n hx hb dX12_value_88 rfl (lv_at hl 1 rfl) ?_
        obtain ⟨q1, h⟩ := nb_ite1 h
        refine nl_16 hx hb hK hP q1 dX12_value_89 ?_
        refine lv_iadd hx hb dX12_value_90 ?_
        obtain ⟨q2, h⟩ := nb_ite1 h
        refine nl_30 hx hb hK hP q2 dX12_value_91 ?_
        obtain ⟨r3, hc3, h⟩ := ob_ex h
        refine nc_Vi (As := [.int (σ.2.2 30 ((4 + ((σ.2.2 16 ((L 1)).toNatClampNeg)))).toNatClampNeg)]) (rest := []) ⟨hx, hb, hml, hown, hts⟩ (c_x_show l dC dI cy a k (upd (fun _ => 0) 1 ((σ.2.2 30 ((4 + ((σ.2.2 16 ((L 1)).toNatClampNeg)))).toNatClampNeg))) σ r3 hc3 H.size) (cwV 1 hts g_x_value_show_1071 rfl rfl rfl hd_x_show ⟨Nat.le_of_ble_eq_true rfl, Nat.le_of_ble_eq_true rfl⟩) hK hG hA hP hD hS rfl hl.1 rfl (Nat.le_of_ble_eq_true rfl) dX12_value_92 ⟨Nat.le_refl _, Nat.le_refl _⟩ (fun H locs hP hD hS => ?_)
        cases h
        exact W.iret (v := r3.1) hx hb hr (fun t ht hW => ⟨⟨r3.1, (), rfl, rfl, by rw [ht]; exact hP, va_K.moved hW.alike hK, hD⟩, hS.F ht⟩) hS.2.2 dX12_value_95
      · intro L σ r h H locs ls hP hD hS hl
        rw [x_value] at h
        refine lv_iinc (v := ((L 1)) + 1) (lv' := [(1, .int (((L 1)) + 1)), (0, .ref (a 0))]) hx hb dX12_value_96 hl (k := 1) rfl rfl (by decide) rfl (fun ls hl => ?_)
        refine lv_goto (tgt := 36) hx hb dX12_value_99 (by decide) ?_
        exact ih.2.2.2.2.2.2.1 (upd L 1 (((L 1)) + 1)) σ r h H locs ls hP hD hS (lv_sub hl [1, 0] rfl)
      · intro L σ r h H locs ls hP hD hS hl
        rw [x_value] at h
        refine lv_aload_n hx hb dX12_value_102 rfl (lv_at hl 0 rfl) ?_
        refine lv_iconst (v := 2) hx hb dX12_value_103 (by decide) ?_
        refine np_2 hx hb hts in_x_value hown hK hP hD hS (hts _ (List.mem_cons_of_mem _ (List.mem_append_left _ (List.mem_append_left _ (List.mem_of_getElem? (i := 20) rfl))))) dX12_value_104 (fun H locs hP hD hS => ?_)
        exact ih.2.2.2.2.2.2.2.2.2.2 L (upd σ.1 2 2, σ.2.1, σ.2.2) r h H locs ls hP hD hS (lv_sub hl [0, 1] rfl)
      · intro L σ r h H locs ls hP hD hS hl
        rw [x_value] at h
        refine lv_iconst (v := 0) hx hb dX12_value_107 (by decide) ?_
        cases h
        exact W.iret (v := 0) hx hb hr (fun t ht hW => ⟨⟨0, (), rfl, rfl, by rw [ht]; exact hP, va_K.moved hW.alike hK, hD⟩, hS.F ht⟩) hS.2.2 dX12_value_108
  exact (blk k0).1 L0 σ0 r0 h0 s.heap [] ls hP hD hS hl
/-! workAlone -/
def x_workAlone : Nat → Nat → (Nat → Int32) → MS → Option (Int32 × MS)
  | 0, _, _, _ => none
  | k + 1, 0, L, σ => x_workAlone k 1 L (upd σ.1 59 0, σ.2.1, σ.2.2)
  | k + 1, 1, L, σ => x_workAlone k 2 L (upd σ.1 72 0, σ.2.1, σ.2.2)
  | k + 1, 2, L, σ => x_workAlone k 3 L (upd σ.1 57 0, σ.2.1, σ.2.2)
  | k + 1, 3, L, σ => x_workAlone k 4 L (upd σ.1 56 0, σ.2.1, σ.2.2)
  | k + 1, 4, L, σ => x_workAlone k 5 L (upd σ.1 67 0, σ.2.1, σ.2.2)
  | k + 1, 5, L, σ => x_workAlone k 6 L (upd σ.1 97 0, σ.2.1, σ.2.2)
  | k + 1, 6, L, σ => x_workAlone k 7 L (upd σ.1 68 0, σ.2.1, σ.2.2)
  | k + 1, 7, L, σ => x_workAlone k 8 L (upd σ.1 69 1, σ.2.1, σ.2.2)
  | k + 1, 8, L, σ => ob (x_sweep k 0 (upd (fun _ => 0) 1 400000) σ) (fun r1 => ob (x_eval k 0 (upd (fun _ => 0) 1 ((L 1))) r1.2) (fun r2 => x_workAlone k 9 L (upd r2.2.1 69 0, r2.2.2.1, r2.2.2.2)))
  | k + 1, 9, L, σ => if ((σ.1 56)) ≤ 0 then (x_workAlone k 10 L σ) else (ob (x_forget k 0 (fun _ => 0) σ) (fun r2 => x_workAlone k 10 L r2.2))
  | k + 1, 10, L, σ => some (0, σ)
  | _ + 1, _ + 11, _, _ => none
def o_x_workAlone : List Cond := [.fieldLink RX12 385 "SetHouseModel" "top" "I", .fieldLink RX12 414 "SetHouseModel" "evTop" "I", .fieldLink RX12 365 "SetHouseModel" "work" "I", .fieldLink RX12 362 "SetHouseModel" "err" "I", .fieldLink RX12 685 "SetHouseModel" "funcs" "I", .fieldLink RX12 688 "SetHouseModel" "deep" "I", .fieldLink RX12 560 "SetHouseModel" "localBase" "I", .fieldLink RX12 557 "SetHouseModel" "inFrames" "Z", .constant RX12 913 (400000), .methodLink RX12 585 yX12_sweep, .instanceMethod yX12_sweep, .selects RX12 yX12_sweep yX12_sweep, .initialized RX12, .methodLink RX12 566 yX12_eval, .instanceMethod yX12_eval, .selects RX12 yX12_eval yX12_eval, .methodLink RX12 962 yX12_forget, .instanceMethod yX12_forget, .selects RX12 yX12_forget yX12_forget]
theorem o_x_workAlone_good : o_x_workAlone.all goodWord = true := by decide +kernel
def p_x_workAlone : List Cond := o_x_workAlone ++ ((.code yX12_sweep cX12_sweep 5 none :: p_x_sweep) ++ ((.code yX12_eval cX12_eval 3 none :: p_x_GV) ++ ((.code yX12_forget cX12_forget 4 none :: p_x_forget) ++ [])))
theorem p_x_workAlone_good : p_x_workAlone.all goodWord = true := nb_all2 o_x_workAlone_good (nb_all2 (nb_allc (by decide +kernel) p_x_sweep_good) (nb_all2 (nb_allc (by decide +kernel) p_x_GV_good) (nb_all2 (nb_allc (by decide +kernel) p_x_forget_good) rfl)))
def w_x_workAlone : List Cond := .code yX12_workAlone cX12_workAlone 2 none :: (p_x_workAlone ++ fM)
theorem w_x_workAlone_good : w_x_workAlone.all goodWord = true := nb_allc (by decide +kernel) (nb_all2 p_x_workAlone_good fM_good)
theorem in_x_workAlone : ∀ w ∈ wsX120, w ∈ w_x_workAlone := fun _ h => List.mem_cons_of_mem _ (List.mem_append_right _ h)
theorem hd_x_workAlone : yX12_workAlone.cls = RX12 ∧ yX12_workAlone.cls ≠ "java/lang/invoke/MethodHandle" ∧ yX12_workAlone.cls ≠ "java/lang/invoke/VarHandle" ∧ (parseMethodDescriptor yX12_workAlone.desc).map (fun d => d.parameters.length) = some 1 := by decide +kernel
theorem gg_x_workAlone_eval : GoodIn w_x_workAlone w_x_eval := goodIn_sub (fun w h => (List.mem_cons.mp h).elim (fun e => (List.mem_cons_of_mem _ (List.mem_append_left _ (List.mem_append_right _ (List.mem_append_right _ (List.mem_append_left _ (List.mem_cons.mpr (Or.inl e)))))))) (fun h => (List.mem_append.mp h).elim (fun h => (List.mem_cons_of_mem _ (List.mem_append_left _ (List.mem_append_right _ (List.mem_append_right _ (List.mem_append_left _ (List.mem_cons_of_mem _ h))))))) (fun h => List.mem_cons_of_mem _ (List.mem_append_right _ h)))) w_x_eval_good
theorem g_x_workAlone_eval_566 : GoodIn w_x_workAlone (wsV RX12 566 RX12 yX12_eval w_x_eval) := goodIn_app (nb_g4 (List.mem_cons_of_mem _ (List.mem_append_left _ (List.mem_append_left _ (List.mem_of_getElem? (i := 13) rfl)))) (List.mem_cons_of_mem _ (List.mem_append_left _ (List.mem_append_left _ (List.mem_of_getElem? (i := 14) rfl)))) (List.mem_cons_of_mem _ (List.mem_append_left _ (List.mem_append_left _ (List.mem_of_getElem? (i := 15) rfl)))) (List.mem_cons_of_mem _ (List.mem_append_left _ (List.mem_append_left _ (List.mem_of_getElem? (i := 12) rfl)))) (by decide +kernel)) gg_x_workAlone_eval
theorem gg_x_workAlone_forget : GoodIn w_x_workAlone w_x_forget := goodIn_sub (fun w h => (List.mem_cons.mp h).elim (fun e => (List.mem_cons_of_mem _ (List.mem_append_left _ (List.mem_append_right _ (List.mem_append_right _ (List.mem_append_right _ (List.mem_append_left _ (List.mem_cons.mpr (Or.inl e))))))))) (fun h => (List.mem_append.mp h).elim (fun h => (List.mem_cons_of_mem _ (List.mem_append_left _ (List.mem_append_right _ (List.mem_append_right _ (List.mem_append_right _ (List.mem_append_left _ (List.mem_cons_of_mem _ h)))))))) (fun h => List.mem_cons_of_mem _ (List.mem_append_right _ h)))) w_x_forget_good
theorem g_x_workAlone_forget_962 : GoodIn w_x_workAlone (wsV RX12 962 RX12 yX12_forget w_x_forget) := goodIn_app (nb_g4 (List.mem_cons_of_mem _ (List.mem_append_left _ (List.mem_append_left _ (List.mem_of_getElem? (i := 16) rfl)))) (List.mem_cons_of_mem _ (List.mem_append_left _ (List.mem_append_left _ (List.mem_of_getElem? (i := 17) rfl)))) (List.mem_cons_of_mem _ (List.mem_append_left _ (List.mem_append_left _ (List.mem_of_getElem? (i := 18) rfl)))) (List.mem_cons_of_mem _ (List.mem_append_left _ (List.mem_append_left _ (List.mem_of_getElem? (i := 12) rfl)))) (by decide +kernel)) gg_x_workAlone_forget
theorem gg_x_workAlone_sweep : GoodIn w_x_workAlone w_x_sweep := goodIn_sub (fun w h => (List.mem_cons.mp h).elim (fun e => (List.mem_cons_of_mem _ (List.mem_append_left _ (List.mem_append_right _ (List.mem_append_left _ (List.mem_cons.mpr (Or.inl e))))))) (fun h => (List.mem_append.mp h).elim (fun h => (List.mem_cons_of_mem _ (List.mem_append_left _ (List.mem_append_right _ (List.mem_append_left _ (List.mem_cons_of_mem _ h)))))) (fun h => List.mem_cons_of_mem _ (List.mem_append_right _ h)))) w_x_sweep_good
theorem g_x_workAlone_sweep_585 : GoodIn w_x_workAlone (wsV RX12 585 RX12 yX12_sweep w_x_sweep) := goodIn_app (nb_g4 (List.mem_cons_of_mem _ (List.mem_append_left _ (List.mem_append_left _ (List.mem_of_getElem? (i := 9) rfl)))) (List.mem_cons_of_mem _ (List.mem_append_left _ (List.mem_append_left _ (List.mem_of_getElem? (i := 10) rfl)))) (List.mem_cons_of_mem _ (List.mem_append_left _ (List.mem_append_left _ (List.mem_of_getElem? (i := 11) rfl)))) (List.mem_cons_of_mem _ (List.mem_append_left _ (List.mem_append_left _ (List.mem_of_getElem? (i := 12) rfl)))) (by decide +kernel)) gg_x_workAlone_sweep
set_option maxHeartbeats 40000000 in
set_option maxRecDepth 100000 in
theorem c_x_workAlone (l : Launch) (dC : Nat → ClassId) (dI : Nat → Nat → Nat) (cy : Nat → ClassId) (a : Nat → Nat) (k0 : Nat) (L0 : Nat → Int32) (σ0 : MS) (r0 : Int32 × MS) (h0 : x_workAlone k0 0 L0 σ0 = some r0) (sz : Nat) : Met l yX12_workAlone w_x_workAlone ({ frames := 1358, cells := 0, slots := 0, locals := 36497 }) (va_Pc [.ref (a 0), .int (L0 1)] (nIn (dC, dI) cy sz (vM cy a σ0))) (va_Qv (fun _ : Unit => True) (fun _ t => nOut (dC, dI) cy (va_A (vM cy a σ0) sz) (vM cy a r0.2) t) (va_A (vM cy a σ0) sz)) 0 0 (va_A (vM cy a σ0) sz) := by
  refine Met.ofW (cc := cX12_workAlone) (maxL := 2) (ret := none) (by decide) rfl ?_
  intro p e s m args below meth c s₁ B hml hv
  obtain ⟨rfl, hsz, hP, hK, hD0, hG⟩ := hv
  have hx := B.exec
  have hb := B.bytes
  have hr := B.returns
  have hts := atoms_spec (ws := w_x_workAlone) B.pre
  have hown : s.vm.findClass RX12 = some m.cls := findClass_of_methodNamed B.named
  have hlocks := B.notSynchronized
  subst hsz
  have hD := hD0.self (sz := s.heap.size)
  generalize hAe : va_A (vM cy a σ0) s.heap.size = A at hD ⊢
  have hA : ∀ q : Nat, s.heap.size ≤ q → A q := fun q h => by rw [← hAe]; exact Or.inr h
  have hS : va_S A s.heap s.heap [] := va_S.rf
  have hl := lv_entry ([.ref (a 0), .int (L0 1)]) (n := 2) (Nat.le_of_ble_eq_true rfl)
  rw [lg_entry_eq]
  generalize (lg_sl ([.ref (a 0), .int (L0 1)]) ++ List.replicate (2 - (lg_sl ([.ref (a 0), .int (L0 1)])).length) Slot.unset).toArray = ls at hl ⊢
  have hl : lv_has ls 2 [(0, .ref (a 0)), (1, .int (L0 1))] := hl
  have blk : ∀ k : Nat, (bT p l e (headSpec w_x_workAlone ({ frames := 1358, cells := 0, slots := 0, locals := 36497 })).room s m #[.ref (a 0), .int (L0 1)] below meth c dC dI cy a A (qV dC dI cy a A below #[.ref (a 0), .int (L0 1)] s) 2 (x_workAlone k 0) (fun L => [(0, .ref (a 0)), (1, .int (L 1))]) 0 (fun L => [])) ∧ (bT p l e (headSpec w_x_workAlone ({ frames := 1358, cells := 0, slots := 0, locals := 36497 })).room s m #[.ref (a 0), .int (L0 1)] below meth c dC dI cy a A (qV dC dI cy a A below #[.ref (a 0), .int (L0 1)] s) 2 (x_workAlone k 1) (fun L => [(0, .ref (a 0)), (1, .int (L 1))]) 5 (fun L => [])) ∧ (bT p l e (headSpec w_x_workAlone ({ frames := 1358, cells := 0, slots := 0, locals := 36497 })).room s m #[.ref (a 0), .int (L0 1)] below meth c dC dI cy a A (qV dC dI cy a A below #[.ref (a 0), .int (L0 1)] s) 2 (x_workAlone k 2) (fun L => [(0, .ref (a 0)), (1, .int (L 1))]) 10 (fun L => [])) ∧ (bT p l e (headSpec w_x_workAlone ({ frames := 1358, cells := 0, slots := 0, locals := 36497 })).room s m #[.ref (a 0), .int (L0 1)] below meth c dC dI cy a A (qV dC dI cy a A below #[.ref (a 0), .int (L0 1)] s) 2 (x_workAlone k 3) (fun L => [(0, .ref (a 0)), (1, .int (L 1))]) 15 (fun L => [])) ∧ (bT p l e (headSpec w_x_workAlone ({ frames := 1358, cells := 0, slots := 0, locals := 36497 })).room s m #[.ref (a 0), .int (L0 1)] below meth c dC dI cy a A (qV dC dI cy a A below #[.ref (a 0), .int (L0 1)] s) 2 (x_workAlone k 4) (fun L => [(0, .ref (a 0)), (1, .int (L 1))]) 20 (fun L => [])) ∧ (bT p l e (headSpec w_x_workAlone ({ frames := 1358, cells := 0, slots := 0, locals := 36497 })).room s m #[.ref (a 0), .int (L0 1)] below meth c dC dI cy a A (qV dC dI cy a A below #[.ref (a 0), .int (L0 1)] s) 2 (x_workAlone k 5) (fun L => [(0, .ref (a 0)), (1, .int (L 1))]) 25 (fun L => [])) ∧ (bT p l e (headSpec w_x_workAlone ({ frames := 1358, cells := 0, slots := 0, locals := 36497 })).room s m #[.ref (a 0), .int (L0 1)] below meth c dC dI cy a A (qV dC dI cy a A below #[.ref (a 0), .int (L0 1)] s) 2 (x_workAlone k 6) (fun L => [(0, .ref (a 0)), (1, .int (L 1))]) 30 (fun L => [])) ∧ (bT p l e (headSpec w_x_workAlone ({ frames := 1358, cells := 0, slots := 0, locals := 36497 })).room s m #[.ref (a 0), .int (L0 1)] below meth c dC dI cy a A (qV dC dI cy a A below #[.ref (a 0), .int (L0 1)] s) 2 (x_workAlone k 7) (fun L => [(0, .ref (a 0)), (1, .int (L 1))]) 35 (fun L => [])) ∧ (bT p l e (headSpec w_x_workAlone ({ frames := 1358, cells := 0, slots := 0, locals := 36497 })).room s m #[.ref (a 0), .int (L0 1)] below meth c dC dI cy a A (qV dC dI cy a A below #[.ref (a 0), .int (L0 1)] s) 2 (x_workAlone k 8) (fun L => [(0, .ref (a 0)), (1, .int (L 1))]) 40 (fun L => [])) ∧ (bT p l e (headSpec w_x_workAlone ({ frames := 1358, cells := 0, slots := 0, locals := 36497 })).room s m #[.ref (a 0), .int (L0 1)] below meth c dC dI cy a A (qV dC dI cy a A below #[.ref (a 0), .int (L0 1)] s) 2 (x_workAlone k 9) (fun L => [(0, .ref (a 0)), (1, .int (L 1))]) 57 (fun L => [])) ∧ (bT p l e (headSpec w_x_workAlone ({ frames := 1358, cells := 0, slots := 0, locals := 36497 })).room s m #[.ref (a 0), .int (L0 1)] below meth c dC dI cy a A (qV dC dI cy a A below #[.ref (a 0), .int (L0 1)] s) 2 (x_workAlone k 10) (fun L => [(0, .ref (a 0)), (1, .int (L 1))]) 68 (fun L => [])) := by
    intro k
    induction k with
    | zero => exact ⟨fun L σ r h => (by cases h), fun L σ r h => (by cases h), fun L σ r h => (by cases h), fun L σ r h => (by cases h), fun L σ r h => (by cases h), fun L σ r h => (by cases h), fun L σ r h => (by cases h), fun L σ r h => (by cases h), fun L σ r h => (by cases h), fun L σ r h => (by cases h), fun L σ r h => (by cases h)⟩
    | succ k ih =>
      refine ⟨?_, ?_, ?_, ?_, ?_, ?_, ?_, ?_, ?_, ?_, ?_⟩
      · intro L σ r h H locs ls hP hD hS hl
        rw [x_workAlone] at h
        refine lv_aload_n hx hb dX12_workAlone_0 rfl (lv_at hl 0 rfl) ?_
        refine lv_iconst (v := 0) hx hb dX12_workAlone_1 (by decide) ?_
        refine np_59 hx hb hts in_x_workAlone hown hK hP hD hS (hts _ (List.mem_cons_of_mem _ (List.mem_append_left _ (List.mem_append_left _ (List.mem_of_getElem? (i := 0) rfl))))) dX12_workAlone_2 (fun H locs hP hD hS => ?_)
        exact ih.2.1 L (upd σ.1 59 0, σ.2.1, σ.2.2) r h H locs ls hP hD hS (lv_sub hl [0, 1] rfl)
      · intro L σ r h H locs ls hP hD hS hl
        rw [x_workAlone] at h
        refine lv_aload_n hx hb dX12_workAlone_5 rfl (lv_at hl 0 rfl) ?_
        refine lv_iconst (v := 0) hx hb dX12_workAlone_6 (by decide) ?_
        refine np_72 hx hb hts in_x_workAlone hown hK hP hD hS (hts _ (List.mem_cons_of_mem _ (List.mem_append_left _ (List.mem_append_left _ (List.mem_of_getElem? (i := 1) rfl))))) dX12_workAlone_7 (fun H locs hP hD hS => ?_)
        exact ih.2.2.1 L (upd σ.1 72 0, σ.2.1, σ.2.2) r h H locs ls hP hD hS (lv_sub hl [0, 1] rfl)
      · intro L σ r h H locs ls hP hD hS hl
        rw [x_workAlone] at h
        refine lv_aload_n hx hb dX12_workAlone_10 rfl (lv_at hl 0 rfl) ?_
        refine lv_iconst (v := 0) hx hb dX12_workAlone_11 (by decide) ?_
        refine np_57 hx hb hts in_x_workAlone hown hK hP hD hS (hts _ (List.mem_cons_of_mem _ (List.mem_append_left _ (List.mem_append_left _ (List.mem_of_getElem? (i := 2) rfl))))) dX12_workAlone_12 (fun H locs hP hD hS => ?_)
        exact ih.2.2.2.1 L (upd σ.1 57 0, σ.2.1, σ.2.2) r h H locs ls hP hD hS (lv_sub hl [0, 1] rfl)
      · intro L σ r h H locs ls hP hD hS hl
        rw [x_workAlone] at h
        refine lv_aload_n hx hb dX12_workAlone_15 rfl (lv_at hl 0 rfl) ?_
        refine lv_iconst (v := 0) hx hb dX12_workAlone_16 (by decide) ?_
        refine np_56 hx hb hts in_x_workAlone hown hK hP hD hS (hts _ (List.mem_cons_of_mem _ (List.mem_append_left _ (List.mem_append_left _ (List.mem_of_getElem? (i := 3) rfl))))) dX12_workAlone_17 (fun H locs hP hD hS => ?_)
        exact ih.2.2.2.2.1 L (upd σ.1 56 0, σ.2.1, σ.2.2) r h H locs ls hP hD hS (lv_sub hl [0, 1] rfl)
      · intro L σ r h H locs ls hP hD hS hl
        rw [x_workAlone] at h
        refine lv_aload_n hx hb dX12_workAlone_20 rfl (lv_at hl 0 rfl) ?_
        refine lv_iconst (v := 0) hx hb dX12_workAlone_21 (by decide) ?_
        refine np_67 hx hb hts in_x_workAlone hown hK hP hD hS (hts _ (List.mem_cons_of_mem _ (List.mem_append_left _ (List.mem_append_left _ (List.mem_of_getElem? (i := 4) rfl))))) dX12_workAlone_22 (fun H locs hP hD hS => ?_)
        exact ih.2.2.2.2.2.1 L (upd σ.1 67 0, σ.2.1, σ.2.2) r h H locs ls hP hD hS (lv_sub hl [0, 1] rfl)
      · intro L σ r h H locs ls hP hD hS hl
        rw [x_workAlone] at h
        refine lv_aload_n hx hb dX12_workAlone_25 rfl (lv_at hl 0 rfl) ?_
        refine lv_iconst (v := 0) hx hb dX12_workAlone_26 (by decide) ?_
        refine np_97 hx hb hts in_x_workAlone hown hK hP hD hS (hts _ (List.mem_cons_of_mem _ (List.mem_append_left _ (List.mem_append_left _ (List.mem_of_getElem? (i := 5) rfl))))) dX12_workAlone_27 (fun H locs hP hD hS => ?_)
        exact ih.2.2.2.2.2.2.1 L (upd σ.1 97 0, σ.2.1, σ.2.2) r h H locs ls hP hD hS (lv_sub hl [0, 1] rfl)
      · intro L σ r h H locs ls hP hD hS hl
        rw [x_workAlone] at h
        refine lv_aload_n hx hb dX12_workAlone_30 rfl (lv_at hl 0 rfl) ?_
        refine lv_iconst (v := 0) hx hb dX12_workAlone_31 (by decide) ?_
        refine np_68 hx hb hts in_x_workAlone hown hK hP hD hS (hts _ (List.mem_cons_of_mem _ (List.mem_append_left _ (List.mem_append_left _ (List.mem_of_getElem? (i := 6) rfl))))) dX12_workAlone_32 (fun H locs hP hD hS => ?_)
        exact ih.2.2.2.2.2.2.2.1 L (upd σ.1 68 0, σ.2.1, σ.2.2) r h H locs ls hP hD hS (lv_sub hl [0, 1] rfl)
      · intro L σ r h H locs ls hP hD hS hl
        rw [x_workAlone] at h
        refine lv_aload_n hx hb dX12_workAlone_35 rfl (lv_at hl 0 rfl) ?_
        refine lv_iconst (v := 1) hx hb dX12_workAlone_36 (by decide) ?_
        refine np_69 hx hb hts in_x_workAlone hown hK hP hD hS (hts _ (List.mem_cons_of_mem _ (List.mem_append_left _ (List.mem_append_left _ (List.mem_of_getElem? (i := 7) rfl))))) (Or.inr rfl) dX12_workAlone_37 (fun H locs hP hD hS => ?_)
        exact ih.2.2.2.2.2.2.2.2.1 L (upd σ.1 69 1, σ.2.1, σ.2.2) r h H locs ls hP hD hS (lv_sub hl [0, 1] rfl)
      · intro L σ r h H locs ls hP hD hS hl
        rw [x_workAlone] at h
        refine lv_aload_n hx hb dX12_workAlone_40 rfl (lv_at hl 0 rfl) ?_
        refine lv_ldcw (v := 400000) hx hb hown (hts _ (List.mem_cons_of_mem _ (List.mem_append_left _ (List.mem_append_left _ (List.mem_of_getElem? (i := 8) rfl))))) dX12_workAlone_41 ?_
        obtain ⟨r1, hc1, h⟩ := ob_ex h
        refine nc_Vv (As := [.int 400000]) (rest := []) ⟨hx, hb, hml, hown, hts⟩ (c_x_sweep l dC dI cy a k (upd (fun _ => 0) 1 400000) σ r1 hc1 H.size) (cwV 1 hts g_x_workAlone_sweep_585 rfl rfl rfl hd_x_sweep ⟨Nat.le_of_ble_eq_true rfl, Nat.le_of_ble_eq_true rfl⟩) hK hG hA hP hD hS rfl hl.1 rfl (Nat.le_of_ble_eq_true rfl) dX12_workAlone_44 ⟨Nat.le_refl _, Nat.le_refl _⟩ (fun H locs hP hD hS => ?_)
        refine lv_aload_n hx hb dX12_workAlone_47 rfl (lv_at hl 0 rfl) ?_
        refine lv_iload_n hx hb dX12_workAlone_48 rfl (lv_at hl 1 rfl) ?_
        obtain ⟨r2, hc2, h⟩ := ob_ex h
        refine nc_Vv (As := [.int (L 1)]) (rest := []) ⟨hx, hb, hml, hown, hts⟩ (c_x_eval l dC dI cy a k (upd (fun _ => 0) 1 ((L 1))) r1.2 r2 hc2 H.size) (cwV 1 hts g_x_workAlone_eval_566 rfl rfl rfl hd_x_eval ⟨Nat.le_of_ble_eq_true rfl, Nat.le_of_ble_eq_true rfl⟩) hK hG hA hP hD hS rfl hl.1 rfl (Nat.le_of_ble_eq_true rfl) dX12_workAlone_49 ⟨Nat.le_refl _, Nat.le_refl _⟩ (fun H locs hP hD hS => ?_)
        refine lv_aload_n hx hb dX12_workAlone_52 rfl (lv_at hl 0 rfl) ?_
        refine lv_iconst (v := 0) hx hb dX12_workAlone_53 (by decide) ?_
        refine np_69 hx hb hts in_x_workAlone hown hK hP hD hS (hts _ (List.mem_cons_of_mem _ (List.mem_append_left _ (List.mem_append_left _ (List.mem_of_getElem? (i := 7) rfl))))) (Or.inl rfl) dX12_workAlone_54 (fun H locs hP hD hS => ?_)
        exact ih.2.2.2.2.2.2.2.2.2.1 L (upd r2.2.1 69 0, r2.2.2.1, r2.2.2.2) r h H locs ls hP hD hS (lv_sub hl [0, 1] rfl)
      · intro L σ r h H locs ls hP hD hS hl
        rw [x_workAlone] at h
        refine lv_aload_n hx hb dX12_workAlone_57 rfl (lv_at hl 0 rfl) ?_
        refine ng_56 hx hb hts in_x_workAlone hown hK hP (hts _ (List.mem_cons_of_mem _ (List.mem_append_left _ (List.mem_append_left _ (List.mem_of_getElem? (i := 3) rfl))))) dX12_workAlone_58 ?_
        refine lv_if_le (tgt := 68) hx hb dX12_workAlone_61 (by decide) (fun c1 => ?_) (fun c1 => ?_)
        · rw [if_pos c1] at h
          exact ih.2.2.2.2.2.2.2.2.2.2 L σ r h H locs ls hP hD hS (lv_sub hl [0, 1] rfl)
        · rw [if_neg c1] at h
          refine lv_aload_n hx hb dX12_workAlone_64 rfl (lv_at hl 0 rfl) ?_
          obtain ⟨r2, hc2, h⟩ := ob_ex h
          refine nc_Vv (As := []) (rest := []) ⟨hx, hb, hml, hown, hts⟩ (c_x_forget l dC dI cy a k (fun _ => 0) σ r2 hc2 H.size) (cwV 0 hts g_x_workAlone_forget_962 rfl rfl rfl hd_x_forget ⟨Nat.le_of_ble_eq_true rfl, Nat.le_of_ble_eq_true rfl⟩) hK hG hA hP hD hS rfl hl.1 rfl (Nat.le_of_ble_eq_true rfl) dX12_workAlone_65 ⟨Nat.le_refl _, Nat.le_refl _⟩ (fun H locs hP hD hS => ?_)
          exact ih.2.2.2.2.2.2.2.2.2.2 L r2.2 r h H locs ls hP hD hS (lv_sub hl [0, 1] rfl)
      · intro L σ r h H locs ls hP hD hS hl
        rw [x_workAlone] at h
        cases h
        exact W.vret hx hb hr (fun t ht hW => ⟨⟨(), rfl, trivial, by rw [ht]; exact hP, va_K.moved hW.alike hK, hD⟩, hS.F ht⟩) hS.2.2 dX12_workAlone_68
  exact (blk k0).1 L0 σ0 r0 h0 s.heap [] ls hP hD hS hl
/-! work -/
def x_work : Nat → Nat → (Nat → Int32) → (Nat → Int64) → MS → Option (Int32 × MS)
  | 0, _, _, _, _ => none
  | k + 1, 0, L, J, σ => if ((σ.1 112)) = 0 then (x_work k 1 L J σ) else (x_work k 2 (upd L 100 0) J σ)
  | k + 1, 1, L, J, σ => x_work k 2 (upd L 100 1) J σ
  | k + 1, 2, L, J, σ => ob (x_good k 0 (upd (fun _ => 0) 1 ((L 100))) σ) (fun r1 => if r1.1 = 0 then (some (0, r1.2)) else (x_work k 3 L J r1.2))
  | k + 1, 3, L, J, σ => x_work k 4 (upd (upd L 1 ((σ.1 22))) 2 ((σ.1 24))) J (upd σ.1 11 0, σ.2.1, σ.2.2)
  | k + 1, 4, L, J, σ => ob (x_readExp k 0 (upd (fun _ => 0) 1 1) σ) (fun r1 => x_work k 5 (upd L 3 r1.1) J (upd r1.2.1 4 0, r1.2.2.1, r1.2.2.2))
  | k + 1, 5, L, J, σ => x_work k 6 L J (upd σ.1 109 0, σ.2.1, σ.2.2)
  | k + 1, 6, L, J, σ => if ((σ.1 10)) = 0 then (x_work k 7 (upd L 4 0) J σ) else (x_work k 12 (upd L 4 ((((-100)) - ((σ.1 12))))) J σ)
  | k + 1, 7, L, J, σ => ob (x_workAlone k 0 (upd (fun _ => 0) 1 ((L 3))) σ) (fun r1 => x_work k 8 L (updW J 5 ((σ.2.1 96))) (upd r1.2.1 109 ((r1.2.1 57)), r1.2.2.1, r1.2.2.2))
  | k + 1, 8, L, J, σ => x_work k 9 L J (σ.1, updW σ.2.1 96 ((J 5)), σ.2.2)
  | k + 1, 9, L, J, σ => if ((σ.1 56)) ≤ 0 then (x_work k 10 L J σ) else (x_work k 11 (upd L 100 ((((-1)) - ((σ.1 56))))) J σ)
  | k + 1, 10, L, J, σ => ob (x_pop k 0 (fun _ => 0) σ) (fun r1 => ob (x_show k 0 (upd (fun _ => 0) 1 r1.1) r1.2) (fun r2 => x_work k 11 (upd L 100 r2.1) J r2.2))
  | k + 1, 11, L, J, σ => x_work k 12 (upd L 4 ((L 100))) J (upd σ.1 56 0, σ.2.1, σ.2.2)
  | k + 1, 12, L, J, σ => x_work k 13 L J (upd σ.1 22 ((L 1)), σ.2.1, σ.2.2)
  | k + 1, 13, L, J, σ => x_work k 14 L J (upd σ.1 24 ((L 2)), σ.2.1, σ.2.2)
  | k + 1, 14, L, J, σ => some ((L 4), σ)
  | _ + 1, _ + 15, _, _, _ => none
def o_x_work : List Cond := [.fieldLink RX12 1044 "SetHouseModel" "isRun" "Z", .methodLink RX12 1050 yX12_good, .instanceMethod yX12_good, .selects RX12 yX12_good yX12_good, .initialized RX12, .fieldLink RX12 80 "SetHouseModel" "nodes" "I", .fieldLink RX12 105 "SetHouseModel" "pooled" "I", .fieldLink RX12 15 "SetHouseModel" "faultCode" "I", .methodLink RX12 1074 yX12_readExp, .instanceMethod yX12_readExp, .selects RX12 yX12_readExp yX12_readExp, .fieldLink RX12 1 "SetHouseModel" "taped" "I", .fieldLink RX12 1035 "SetHouseModel" "workOfExp" "I", .fieldLink RX12 11 "SetHouseModel" "bad" "Z", .fieldLink RX12 18 "SetHouseModel" "faultPlace" "I", .fieldLink RX12 791 "SetHouseModel" "seed" "J", .methodLink RX12 1077 yX12_workAlone, .instanceMethod yX12_workAlone, .selects RX12 yX12_workAlone yX12_workAlone, .fieldLink RX12 365 "SetHouseModel" "work" "I", .fieldLink RX12 362 "SetHouseModel" "err" "I", .methodLink RX12 572 yX12_pop, .instanceMethod yX12_pop, .selects RX12 yX12_pop yX12_pop, .methodLink RX12 1071 yX12_show, .instanceMethod yX12_show, .selects RX12 yX12_show yX12_show]
theorem o_x_work_good : o_x_work.all goodWord = true := by decide +kernel
def p_x_work : List Cond := o_x_work ++ ((.code yX12_good cX12_good 2 (some .boolean) :: p_x_good) ++ ((.code yX12_readExp cX12_readExp 3 (some .int) :: p_x_readExp) ++ ((.code yX12_workAlone cX12_workAlone 2 none :: p_x_workAlone) ++ ((.code yX12_pop cX12_pop 1 (some .int) :: p_x_pop) ++ ((.code yX12_show cX12_show 3 (some .int) :: p_x_show) ++ [])))))
theorem p_x_work_good : p_x_work.all goodWord = true := nb_all2 o_x_work_good (nb_all2 (nb_allc (by decide +kernel) p_x_good_good) (nb_all2 (nb_allc (by decide +kernel) p_x_readExp_good) (nb_all2 (nb_allc (by decide +kernel) p_x_workAlone_good) (nb_all2 (nb_allc (by decide +kernel) p_x_pop_good) (nb_all2 (nb_allc (by decide +kernel) p_x_show_good) rfl)))))
def w_x_work : List Cond := .code yX12_work cX12_work 7 (some .int) :: (p_x_work ++ fM)
theorem w_x_work_good : w_x_work.all goodWord = true := nb_allc (by decide +kernel) (nb_all2 p_x_work_good fM_good)
theorem in_x_work : ∀ w ∈ wsX120, w ∈ w_x_work := fun _ h => List.mem_cons_of_mem _ (List.mem_append_right _ h)
theorem hd_x_work : yX12_work.cls = RX12 ∧ yX12_work.cls ≠ "java/lang/invoke/MethodHandle" ∧ yX12_work.cls ≠ "java/lang/invoke/VarHandle" ∧ (parseMethodDescriptor yX12_work.desc).map (fun d => d.parameters.length) = some 0 := by decide +kernel
theorem gg_x_work_good : GoodIn w_x_work w_x_good := goodIn_sub (fun w h => (List.mem_cons.mp h).elim (fun e => (List.mem_cons_of_mem _ (List.mem_append_left _ (List.mem_append_right _ (List.mem_append_left _ (List.mem_cons.mpr (Or.inl e))))))) (fun h => (List.mem_append.mp h).elim (fun h => (List.mem_cons_of_mem _ (List.mem_append_left _ (List.mem_append_right _ (List.mem_append_left _ (List.mem_cons_of_mem _ h)))))) (fun h => List.mem_cons_of_mem _ (List.mem_append_right _ h)))) w_x_good_good
theorem g_x_work_good_1050 : GoodIn w_x_work (wsV RX12 1050 RX12 yX12_good w_x_good) := goodIn_app (nb_g4 (List.mem_cons_of_mem _ (List.mem_append_left _ (List.mem_append_left _ (List.mem_of_getElem? (i := 1) rfl)))) (List.mem_cons_of_mem _ (List.mem_append_left _ (List.mem_append_left _ (List.mem_of_getElem? (i := 2) rfl)))) (List.mem_cons_of_mem _ (List.mem_append_left _ (List.mem_append_left _ (List.mem_of_getElem? (i := 3) rfl)))) (List.mem_cons_of_mem _ (List.mem_append_left _ (List.mem_append_left _ (List.mem_of_getElem? (i := 4) rfl)))) (by decide +kernel)) gg_x_work_good
theorem gg_x_work_pop : GoodIn w_x_work w_x_pop := goodIn_sub (fun w h => (List.mem_cons.mp h).elim (fun e => (List.mem_cons_of_mem _ (List.mem_append_left _ (List.mem_append_right _ (List.mem_append_right _ (List.mem_append_right _ (List.mem_append_right _ (List.mem_append_left _ (List.mem_cons.mpr (Or.inl e)))))))))) (fun h => (List.mem_append.mp h).elim (fun h => (List.mem_cons_of_mem _ (List.mem_append_left _ (List.mem_append_right _ (List.mem_append_right _ (List.mem_append_right _ (List.mem_append_right _ (List.mem_append_left _ (List.mem_cons_of_mem _ h))))))))) (fun h => List.mem_cons_of_mem _ (List.mem_append_right _ h)))) w_x_pop_good
theorem g_x_work_pop_572 : GoodIn w_x_work (wsV RX12 572 RX12 yX12_pop w_x_pop) := goodIn_app (nb_g4 (List.mem_cons_of_mem _ (List.mem_append_left _ (List.mem_append_left _ (List.mem_of_getElem? (i := 21) rfl)))) (List.mem_cons_of_mem _ (List.mem_append_left _ (List.mem_append_left _ (List.mem_of_getElem? (i := 22) rfl)))) (List.mem_cons_of_mem _ (List.mem_append_left _ (List.mem_append_left _ (List.mem_of_getElem? (i := 23) rfl)))) (List.mem_cons_of_mem _ (List.mem_append_left _ (List.mem_append_left _ (List.mem_of_getElem? (i := 4) rfl)))) (by decide +kernel)) gg_x_work_pop
theorem gg_x_work_readExp : GoodIn w_x_work w_x_readExp := goodIn_sub (fun w h => (List.mem_cons.mp h).elim (fun e => (List.mem_cons_of_mem _ (List.mem_append_left _ (List.mem_append_right _ (List.mem_append_right _ (List.mem_append_left _ (List.mem_cons.mpr (Or.inl e)))))))) (fun h => (List.mem_append.mp h).elim (fun h => (List.mem_cons_of_mem _ (List.mem_append_left _ (List.mem_append_right _ (List.mem_append_right _ (List.mem_append_left _ (List.mem_cons_of_mem _ h))))))) (fun h => List.mem_cons_of_mem _ (List.mem_append_right _ h)))) w_x_readExp_good
theorem g_x_work_readExp_1074 : GoodIn w_x_work (wsV RX12 1074 RX12 yX12_readExp w_x_readExp) := goodIn_app (nb_g4 (List.mem_cons_of_mem _ (List.mem_append_left _ (List.mem_append_left _ (List.mem_of_getElem? (i := 8) rfl)))) (List.mem_cons_of_mem _ (List.mem_append_left _ (List.mem_append_left _ (List.mem_of_getElem? (i := 9) rfl)))) (List.mem_cons_of_mem _ (List.mem_append_left _ (List.mem_append_left _ (List.mem_of_getElem? (i := 10) rfl)))) (List.mem_cons_of_mem _ (List.mem_append_left _ (List.mem_append_left _ (List.mem_of_getElem? (i := 4) rfl)))) (by decide +kernel)) gg_x_work_readExp
theorem gg_x_work_show : GoodIn w_x_work w_x_show := goodIn_sub (fun w h => (List.mem_cons.mp h).elim (fun e => (List.mem_cons_of_mem _ (List.mem_append_left _ (List.mem_append_right _ (List.mem_append_right _ (List.mem_append_right _ (List.mem_append_right _ (List.mem_append_right _ (List.mem_append_left _ (List.mem_cons.mpr (Or.inl e))))))))))) (fun h => (List.mem_append.mp h).elim (fun h => (List.mem_cons_of_mem _ (List.mem_append_left _ (List.mem_append_right _ (List.mem_append_right _ (List.mem_append_right _ (List.mem_append_right _ (List.mem_append_right _ (List.mem_append_left _ (List.mem_cons_of_mem _ h)))))))))) (fun h => List.mem_cons_of_mem _ (List.mem_append_right _ h)))) w_x_show_good
theorem g_x_work_show_1071 : GoodIn w_x_work (wsV RX12 1071 RX12 yX12_show w_x_show) := goodIn_app (nb_g4 (List.mem_cons_of_mem _ (List.mem_append_left _ (List.mem_append_left _ (List.mem_of_getElem? (i := 24) rfl)))) (List.mem_cons_of_mem _ (List.mem_append_left _ (List.mem_append_left _ (List.mem_of_getElem? (i := 25) rfl)))) (List.mem_cons_of_mem _ (List.mem_append_left _ (List.mem_append_left _ (List.mem_of_getElem? (i := 26) rfl)))) (List.mem_cons_of_mem _ (List.mem_append_left _ (List.mem_append_left _ (List.mem_of_getElem? (i := 4) rfl)))) (by decide +kernel)) gg_x_work_show
theorem gg_x_work_workAlone : GoodIn w_x_work w_x_workAlone := goodIn_sub (fun w h => (List.mem_cons.mp h).elim (fun e => (List.mem_cons_of_mem _ (List.mem_append_left _ (List.mem_append_right _ (List.mem_append_right _ (List.mem_append_right _ (List.mem_append_left _ (List.mem_cons.mpr (Or.inl e))))))))) (fun h => (List.mem_append.mp h).elim (fun h => (List.mem_cons_of_mem _ (List.mem_append_left _ (List.mem_append_right _ (List.mem_append_right _ (List.mem_append_right _ (List.mem_append_left _ (List.mem_cons_of_mem _ h)))))))) (fun h => List.mem_cons_of_mem _ (List.mem_append_right _ h)))) w_x_workAlone_good
theorem g_x_work_workAlone_1077 : GoodIn w_x_work (wsV RX12 1077 RX12 yX12_workAlone w_x_workAlone) := goodIn_app (nb_g4 (List.mem_cons_of_mem _ (List.mem_append_left _ (List.mem_append_left _ (List.mem_of_getElem? (i := 16) rfl)))) (List.mem_cons_of_mem _ (List.mem_append_left _ (List.mem_append_left _ (List.mem_of_getElem? (i := 17) rfl)))) (List.mem_cons_of_mem _ (List.mem_append_left _ (List.mem_append_left _ (List.mem_of_getElem? (i := 18) rfl)))) (List.mem_cons_of_mem _ (List.mem_append_left _ (List.mem_append_left _ (List.mem_of_getElem? (i := 4) rfl)))) (by decide +kernel)) gg_x_work_workAlone
set_option maxHeartbeats 40000000 in
set_option maxRecDepth 100000 in
theorem c_x_work (l : Launch) (dC : Nat → ClassId) (dI : Nat → Nat → Nat) (cy : Nat → ClassId) (a : Nat → Nat) (k0 : Nat) (L0 : Nat → Int32) (J0 : Nat → Int64) (σ0 : MS) (r0 : Int32 × MS) (h0 : x_work k0 0 L0 J0 σ0 = some r0) (sz : Nat) : Met l yX12_work w_x_work ({ frames := 1359, cells := 0, slots := 0, locals := 36518 }) (va_Pc [.ref (a 0)] (nIn (dC, dI) cy sz (vM cy a σ0))) (va_Qi (fun (z : Int32) (_ : Unit) => z = r0.1) (fun _ t => nOut (dC, dI) cy (va_A (vM cy a σ0) sz) (vM cy a r0.2) t) (va_A (vM cy a σ0) sz)) 0 0 (va_A (vM cy a σ0) sz) := by
  refine Met.ofW (cc := cX12_work) (maxL := 7) (ret := (some .int)) (by decide) rfl ?_
  intro p e s m args below meth c s₁ B hml hv
  obtain ⟨rfl, hsz, hP, hK, hD0, hG⟩ := hv
  have hx := B.exec
  have hb := B.bytes
  have hr := B.returns
  have hts := atoms_spec (ws := w_x_work) B.pre
  have hown : s.vm.findClass RX12 = some m.cls := findClass_of_methodNamed B.named
  have hlocks := B.notSynchronized
  subst hsz
  have hD := hD0.self (sz := s.heap.size)
  generalize hAe : va_A (vM cy a σ0) s.heap.size = A at hD ⊢
  have hA : ∀ q : Nat, s.heap.size ≤ q → A q := fun q h => by rw [← hAe]; exact Or.inr h
  have hS : va_S A s.heap s.heap [] := va_S.rf
  have hl := lv_entry ([.ref (a 0)]) (n := 7) (Nat.le_of_ble_eq_true rfl)
  rw [lg_entry_eq]
  generalize (lg_sl ([.ref (a 0)]) ++ List.replicate (7 - (lg_sl ([.ref (a 0)])).length) Slot.unset).toArray = ls at hl ⊢
  have hl : lv_has ls 7 [(0, .ref (a 0))] := hl
  have blk : ∀ k : Nat, (bTJ p l e (headSpec w_x_work ({ frames := 1359, cells := 0, slots := 0, locals := 36518 })).room s m #[.ref (a 0)] below meth c dC dI cy a A (qI dC dI cy a A below #[.ref (a 0)] s) 7 (x_work k 0) (fun L J => [(0, .ref (a 0))]) 0 (fun L J => [])) ∧ (bTJ p l e (headSpec w_x_work ({ frames := 1359, cells := 0, slots := 0, locals := 36518 })).room s m #[.ref (a 0)] below meth c dC dI cy a A (qI dC dI cy a A below #[.ref (a 0)] s) 7 (x_work k 1) (fun L J => [(0, .ref (a 0))]) 12 (fun L J => [.ref (a 0)])) ∧ (bTJ p l e (headSpec w_x_work ({ frames := 1359, cells := 0, slots := 0, locals := 36518 })).room s m #[.ref (a 0)] below meth c dC dI cy a A (qI dC dI cy a A below #[.ref (a 0)] s) 7 (x_work k 2) (fun L J => [(0, .ref (a 0))]) 13 (fun L J => [.int (L 100), .ref (a 0)])) ∧ (bTJ p l e (headSpec w_x_work ({ frames := 1359, cells := 0, slots := 0, locals := 36518 })).room s m #[.ref (a 0)] below meth c dC dI cy a A (qI dC dI cy a A below #[.ref (a 0)] s) 7 (x_work k 3) (fun L J => [(0, .ref (a 0))]) 21 (fun L J => [])) ∧ (bTJ p l e (headSpec w_x_work ({ frames := 1359, cells := 0, slots := 0, locals := 36518 })).room s m #[.ref (a 0)] below meth c dC dI cy a A (qI dC dI cy a A below #[.ref (a 0)] s) 7 (x_work k 4) (fun L J => [(0, .ref (a 0)), (1, .int (L 1)), (2, .int (L 2))]) 36 (fun L J => [])) ∧ (bTJ p l e (headSpec w_x_work ({ frames := 1359, cells := 0, slots := 0, locals := 36518 })).room s m #[.ref (a 0)] below meth c dC dI cy a A (qI dC dI cy a A below #[.ref (a 0)] s) 7 (x_work k 5) (fun L J => [(0, .ref (a 0)), (1, .int (L 1)), (2, .int (L 2)), (3, .int (L 3))]) 47 (fun L J => [])) ∧ (bTJ p l e (headSpec w_x_work ({ frames := 1359, cells := 0, slots := 0, locals := 36518 })).room s m #[.ref (a 0)] below meth c dC dI cy a A (qI dC dI cy a A below #[.ref (a 0)] s) 7 (x_work k 6) (fun L J => [(0, .ref (a 0)), (1, .int (L 1)), (2, .int (L 2)), (3, .int (L 3))]) 52 (fun L J => [])) ∧ (bTJ p l e (headSpec w_x_work ({ frames := 1359, cells := 0, slots := 0, locals := 36518 })).room s m #[.ref (a 0)] below meth c dC dI cy a A (qI dC dI cy a A below #[.ref (a 0)] s) 7 (x_work k 7) (fun L J => [(0, .ref (a 0)), (1, .int (L 1)), (2, .int (L 2)), (3, .int (L 3)), (4, .int (L 4))]) 74 (fun L J => [])) ∧ (bTJ p l e (headSpec w_x_work ({ frames := 1359, cells := 0, slots := 0, locals := 36518 })).room s m #[.ref (a 0)] below meth c dC dI cy a A (qI dC dI cy a A below #[.ref (a 0)] s) 7 (x_work k 8) (fun L J => [(0, .ref (a 0)), (1, .int (L 1)), (2, .int (L 2)), (3, .int (L 3)), (4, .int (L 4)), (5, .long (J 5))]) 93 (fun L J => [])) ∧ (bTJ p l e (headSpec w_x_work ({ frames := 1359, cells := 0, slots := 0, locals := 36518 })).room s m #[.ref (a 0)] below meth c dC dI cy a A (qI dC dI cy a A below #[.ref (a 0)] s) 7 (x_work k 9) (fun L J => [(0, .ref (a 0)), (1, .int (L 1)), (2, .int (L 2)), (3, .int (L 3)), (4, .int (L 4)), (5, .long (J 5))]) 99 (fun L J => [])) ∧ (bTJ p l e (headSpec w_x_work ({ frames := 1359, cells := 0, slots := 0, locals := 36518 })).room s m #[.ref (a 0)] below meth c dC dI cy a A (qI dC dI cy a A below #[.ref (a 0)] s) 7 (x_work k 10) (fun L J => [(0, .ref (a 0)), (1, .int (L 1)), (2, .int (L 2)), (3, .int (L 3)), (4, .int (L 4)), (5, .long (J 5))]) 115 (fun L J => [])) ∧ (bTJ p l e (headSpec w_x_work ({ frames := 1359, cells := 0, slots := 0, locals := 36518 })).room s m #[.ref (a 0)] below meth c dC dI cy a A (qI dC dI cy a A below #[.ref (a 0)] s) 7 (x_work k 11) (fun L J => [(0, .ref (a 0)), (1, .int (L 1)), (2, .int (L 2)), (3, .int (L 3)), (4, .int (L 4)), (5, .long (J 5))]) 123 (fun L J => [.int (L 100)])) ∧ (bTJ p l e (headSpec w_x_work ({ frames := 1359, cells := 0, slots := 0, locals := 36518 })).room s m #[.ref (a 0)] below meth c dC dI cy a A (qI dC dI cy a A below #[.ref (a 0)] s) 7 (x_work k 12) (fun L J => [(0, .ref (a 0)), (1, .int (L 1)), (2, .int (L 2)), (3, .int (L 3)), (4, .int (L 4))]) 130 (fun L J => [])) ∧ (bTJ p l e (headSpec w_x_work ({ frames := 1359, cells := 0, slots := 0, locals := 36518 })).room s m #[.ref (a 0)] below meth c dC dI cy a A (qI dC dI cy a A below #[.ref (a 0)] s) 7 (x_work k 13) (fun L J => [(0, .ref (a 0)), (1, .int (L 1)), (2, .int (L 2)), (3, .int (L 3)), (4, .int (L 4))]) 135 (fun L J => [])) ∧ (bTJ p l e (headSpec w_x_work ({ frames := 1359, cells := 0, slots := 0, locals := 36518 })).room s m #[.ref (a 0)] below meth c dC dI cy a A (qI dC dI cy a A below #[.ref (a 0)] s) 7 (x_work k 14) (fun L J => [(0, .ref (a 0)), (1, .int (L 1)), (2, .int (L 2)), (3, .int (L 3)), (4, .int (L 4))]) 140 (fun L J => [])) := by
    intro k
    induction k with
    | zero => exact ⟨fun L J σ r h => (by cases h), fun L J σ r h => (by cases h), fun L J σ r h => (by cases h), fun L J σ r h => (by cases h), fun L J σ r h => (by cases h), fun L J σ r h => (by cases h), fun L J σ r h => (by cases h), fun L J σ r h => (by cases h), fun L J σ r h => (by cases h), fun L J σ r h => (by cases h), fun L J σ r h => (by cases h), fun L J σ r h => (by cases h), fun L J σ r h => (by cases h), fun L J σ r h => (by cases h), fun L J σ r h => (by cases h)⟩
    | succ k ih =>
      refine ⟨?_, ?_, ?_, ?_, ?_, ?_, ?_, ?_, ?_, ?_, ?_, ?_, ?_, ?_, ?_⟩
      · intro L J σ r h H locs ls hP hD hS hl
        rw [x_work] at h
        refine lv_aload_n hx hb dX12_work_0 rfl (lv_at hl 0 rfl) ?_
        refine lv_aload_n hx hb dX12_work_1 rfl (lv_at hl 0 rfl) ?_
        refine ng_112 hx hb hts in_x_work hown hK hP (hts _ (List.mem_cons_of_mem _ (List.mem_append_left _ (List.mem_append_left _ (List.mem_of_getElem? (i := 0) rfl))))) dX12_work_2 ?_
        refine lv_if_eq (tgt := 12) hx hb dX12_work_5 (by decide) (fun c1 => ?_) (fun c1 => ?_)
        · rw [if_pos c1] at h
          exact ih.2.1 L J σ r h H locs ls hP hD hS (lv_sub hl [0] rfl)
        · rw [if_neg c1] at h
          refine lv_iconst (v := 0) hx hb dX12_work_8 (by decide) ?_
          refine lv_goto (tgt := 13) hx hb dX12_work_9 (by decide) ?_
          exact ih.2.2.1 (upd L 100 0) J σ r h H locs ls hP hD hS (lv_sub hl [0] rfl)
      · intro L J σ r h H locs ls hP hD hS hl
        rw [x_work] at h
        refine lv_iconst (v := 1) hx hb dX12_work_12 (by decide) ?_
        exact ih.2.2.1 (upd L 100 1) J σ r h H locs ls hP hD hS (lv_sub hl [0] rfl)
      · intro L J σ r h H locs ls hP hD hS hl
        rw [x_work] at h
        obtain ⟨r1, hc1, h⟩ := ob_ex h
        refine nc_Vi (As := [.int (L 100)]) (rest := []) ⟨hx, hb, hml, hown, hts⟩ (c_x_good l dC dI cy a k (upd (fun _ => 0) 1 ((L 100))) σ r1 hc1 H.size) (cwV 1 hts g_x_work_good_1050 rfl rfl rfl hd_x_good ⟨Nat.le_of_ble_eq_true rfl, Nat.le_of_ble_eq_true rfl⟩) hK hG hA hP hD hS rfl hl.1 rfl (Nat.le_of_ble_eq_true rfl) dX12_work_13 ⟨Nat.le_refl _, Nat.le_refl _⟩ (fun H locs hP hD hS => ?_)
        refine lv_if_ne (tgt := 21) hx hb dX12_work_16 (by decide) (fun c2 => ?_) (fun c2 => ?_)
        · rw [if_neg c2] at h
          exact ih.2.2.2.1 L J r1.2 r h H locs ls hP hD hS (lv_sub hl [0] rfl)
        · rw [if_pos c2] at h
          refine lv_iconst (v := 0) hx hb dX12_work_19 (by decide) ?_
          cases h
          exact W.iret (v := 0) hx hb hr (fun t ht hW => ⟨⟨0, (), rfl, rfl, by rw [ht]; exact hP, va_K.moved hW.alike hK, hD⟩, hS.F ht⟩) hS.2.2 dX12_work_20
      · intro L J σ r h H locs ls hP hD hS hl
        rw [x_work] at h
        refine lv_aload_n hx hb dX12_work_21 rfl (lv_at hl 0 rfl) ?_
        refine ng_22 hx hb hts in_x_work hown hK hP (hts _ (List.mem_cons_of_mem _ (List.mem_append_left _ (List.mem_append_left _ (List.mem_of_getElem? (i := 5) rfl))))) dX12_work_22 ?_
        refine lv_istore_n (lv' := [(1, .int (σ.1 22)), (0, .ref (a 0))]) hx hb dX12_work_25 rfl hl (by decide) rfl (fun ls hl => ?_)
        refine lv_aload_n hx hb dX12_work_26 rfl (lv_at hl 1 rfl) ?_
        refine ng_24 hx hb hts in_x_work hown hK hP (hts _ (List.mem_cons_of_mem _ (List.mem_append_left _ (List.mem_append_left _ (List.mem_of_getElem? (i := 6) rfl))))) dX12_work_27 ?_
        refine lv_istore_n (lv' := [(2, .int (σ.1 24)), (1, .int (σ.1 22)), (0, .ref (a 0))]) hx hb dX12_work_30 rfl hl (by decide) rfl (fun ls hl => ?_)
        refine lv_aload_n hx hb dX12_work_31 rfl (lv_at hl 2 rfl) ?_
        refine lv_iconst (v := 0) hx hb dX12_work_32 (by decide) ?_
        refine np_11 hx hb hts in_x_work hown hK hP hD hS (hts _ (List.mem_cons_of_mem _ (List.mem_append_left _ (List.mem_append_left _ (List.mem_of_getElem? (i := 7) rfl))))) dX12_work_33 (fun H locs hP hD hS => ?_)
        exact ih.2.2.2.2.1 (upd (upd L 1 ((σ.1 22))) 2 ((σ.1 24))) J (upd σ.1 11 0, σ.2.1, σ.2.2) r h H locs ls hP hD hS (lv_sub hl [2, 1, 0] rfl)
      · intro L J σ r h H locs ls hP hD hS hl
        rw [x_work] at h
        refine lv_aload_n hx hb dX12_work_36 rfl (lv_at hl 0 rfl) ?_
        refine lv_iconst (v := 1) hx hb dX12_work_37 (by decide) ?_
        obtain ⟨r1, hc1, h⟩ := ob_ex h
        refine nc_Vi (As := [.int 1]) (rest := []) ⟨hx, hb, hml, hown, hts⟩ (c_x_readExp l dC dI cy a k (upd (fun _ => 0) 1 1) σ r1 hc1 H.size) (cwV 1 hts g_x_work_readExp_1074 rfl rfl rfl hd_x_readExp ⟨Nat.le_of_ble_eq_true rfl, Nat.le_of_ble_eq_true rfl⟩) hK hG hA hP hD hS rfl hl.1 rfl (Nat.le_of_ble_eq_true rfl) dX12_work_38 ⟨Nat.le_refl _, Nat.le_refl _⟩ (fun H locs hP hD hS => ?_)
        refine lv_istore_n (lv' := [(3, .int r1.1), (0, .ref (a 0)), (1, .int (L 1)), (2, .int (L 2))]) hx hb dX12_work_41 rfl hl (by decide) rfl (fun ls hl => ?_)
        refine lv_aload_n hx hb dX12_work_42 rfl (lv_at hl 1 rfl) ?_
        refine lv_iconst (v := 0) hx hb dX12_work_43 (by decide) ?_
        refine np_4 hx hb hts in_x_work hown hK hP hD hS (hts _ (List.mem_cons_of_mem _ (List.mem_append_left _ (List.mem_append_left _ (List.mem_of_getElem? (i := 11) rfl))))) dX12_work_44 (fun H locs hP hD hS => ?_)
        exact ih.2.2.2.2.2.1 (upd L 3 r1.1) J (upd r1.2.1 4 0, r1.2.2.1, r1.2.2.2) r h H locs ls hP hD hS (lv_sub hl [1, 2, 3, 0] rfl)
      · intro L J σ r h H locs ls hP hD hS hl
        rw [x_work] at h
        refine lv_aload_n hx hb dX12_work_47 rfl (lv_at hl 0 rfl) ?_
        refine lv_iconst (v := 0) hx hb dX12_work_48 (by decide) ?_
        refine np_109 hx hb hts in_x_work hown hK hP hD hS (hts _ (List.mem_cons_of_mem _ (List.mem_append_left _ (List.mem_append_left _ (List.mem_of_getElem? (i := 12) rfl))))) dX12_work_49 (fun H locs hP hD hS => ?_)
        exact ih.2.2.2.2.2.2.1 L J (upd σ.1 109 0, σ.2.1, σ.2.2) r h H locs ls hP hD hS (lv_sub hl [0, 1, 2, 3] rfl)
      · intro L J σ r h H locs ls hP hD hS hl
        rw [x_work] at h
        refine lv_iconst (v := 0) hx hb dX12_work_52 (by decide) ?_
        refine lv_istore (lv' := [(4, .int 0), (0, .ref (a 0)), (1, .int (L 1)), (2, .int (L 2)), (3, .int (L 3))]) hx hb dX12_work_53 hl (by decide) rfl (fun ls hl => ?_)
        refine lv_aload_n hx hb dX12_work_55 rfl (lv_at hl 1 rfl) ?_
        refine ng_10 hx hb hts in_x_work hown hK hP (hts _ (List.mem_cons_of_mem _ (List.mem_append_left _ (List.mem_append_left _ (List.mem_of_getElem? (i := 13) rfl))))) dX12_work_56 ?_
        refine lv_if_eq (tgt := 74) hx hb dX12_work_59 (by decide) (fun c1 => ?_) (fun c1 => ?_)
        · rw [if_pos c1] at h
          exact ih.2.2.2.2.2.2.2.1 (upd L 4 0) J σ r h H locs ls hP hD hS (lv_sub hl [1, 2, 3, 4, 0] rfl)
        · rw [if_neg c1] at h
          refine lv_bipush (v := (-100)) hx hb dX12_work_62 (by decide) ?_
          refine lv_aload_n hx hb dX12_work_64 rfl (lv_at hl 1 rfl) ?_
          refine ng_12 hx hb hts in_x_work hown hK hP (hts _ (List.mem_cons_of_mem _ (List.mem_append_left _ (List.mem_append_left _ (List.mem_of_getElem? (i := 14) rfl))))) dX12_work_65 ?_
          refine lv_isub hx hb dX12_work_68 ?_
          refine lv_istore (lv' := [(4, .int (((-100)) - ((σ.1 12)))), (0, .ref (a 0)), (1, .int (L 1)), (2, .int (L 2)), (3, .int (L 3))]) hx hb dX12_work_69 hl (by decide) rfl (fun ls hl => ?_)
          refine lv_goto (tgt := 130) hx hb dX12_work_71 (by decide) ?_
          exact ih.2.2.2.2.2.2.2.2.2.2.2.2.1 (upd L 4 ((((-100)) - ((σ.1 12))))) J σ r h H locs ls hP hD hS (lv_sub hl [1, 2, 3, 4, 0] rfl)
      · intro L J σ r h H locs ls hP hD hS hl
        rw [x_work] at h
        refine lv_aload_n hx hb dX12_work_74 rfl (lv_at hl 0 rfl) ?_
        refine ng_96 hx hb hts in_x_work hown hK hP (hts _ (List.mem_cons_of_mem _ (List.mem_append_left _ (List.mem_append_left _ (List.mem_of_getElem? (i := 15) rfl))))) dX12_work_75 ?_
        refine lv_lstore (lv' := [(5, .long (σ.2.1 96)), (0, .ref (a 0)), (1, .int (L 1)), (2, .int (L 2)), (3, .int (L 3)), (4, .int (L 4))]) hx hb dX12_work_78 hl (by decide) rfl (fun ls hl => ?_)
        refine lv_aload_n hx hb dX12_work_80 rfl (lv_at hl 1 rfl) ?_
        refine lv_iload_n hx hb dX12_work_81 rfl (lv_at hl 4 rfl) ?_
        obtain ⟨r1, hc1, h⟩ := ob_ex h
        refine nc_Vv (As := [.int (L 3)]) (rest := []) ⟨hx, hb, hml, hown, hts⟩ (c_x_workAlone l dC dI cy a k (upd (fun _ => 0) 1 ((L 3))) σ r1 hc1 H.size) (cwV 1 hts g_x_work_workAlone_1077 rfl rfl rfl hd_x_workAlone ⟨Nat.le_of_ble_eq_true rfl, Nat.le_of_ble_eq_true rfl⟩) hK hG hA hP hD hS rfl hl.1 rfl (Nat.le_of_ble_eq_true rfl) dX12_work_82 ⟨Nat.le_refl _, Nat.le_refl _⟩ (fun H locs hP hD hS => ?_)
        refine lv_aload_n hx hb dX12_work_85 rfl (lv_at hl 1 rfl) ?_
        refine lv_aload_n hx hb dX12_work_86 rfl (lv_at hl 1 rfl) ?_
        refine ng_57 hx hb hts in_x_work hown hK hP (hts _ (List.mem_cons_of_mem _ (List.mem_append_left _ (List.mem_append_left _ (List.mem_of_getElem? (i := 19) rfl))))) dX12_work_87 ?_
        refine np_109 hx hb hts in_x_work hown hK hP hD hS (hts _ (List.mem_cons_of_mem _ (List.mem_append_left _ (List.mem_append_left _ (List.mem_of_getElem? (i := 12) rfl))))) dX12_work_90 (fun H locs hP hD hS => ?_)
        exact ih.2.2.2.2.2.2.2.2.1 L (updW J 5 ((σ.2.1 96))) (upd r1.2.1 109 ((r1.2.1 57)), r1.2.2.1, r1.2.2.2) r h H locs ls hP hD hS (lv_sub hl [1, 2, 3, 4, 5, 0] rfl)
      · intro L J σ r h H locs ls hP hD hS hl
        rw [x_work] at h
        refine lv_aload_n hx hb dX12_work_93 rfl (lv_at hl 0 rfl) ?_
        refine lv_lload hx hb dX12_work_94 (lv_at hl 5 rfl) ?_
        refine np_96 hx hb hts in_x_work hown hK hP hD hS (hts _ (List.mem_cons_of_mem _ (List.mem_append_left _ (List.mem_append_left _ (List.mem_of_getElem? (i := 15) rfl))))) dX12_work_96 (fun H locs hP hD hS => ?_)
        exact ih.2.2.2.2.2.2.2.2.2.1 L J (σ.1, updW σ.2.1 96 ((J 5)), σ.2.2) r h H locs ls hP hD hS (lv_sub hl [0, 1, 2, 3, 4, 5] rfl)
      · intro L J σ r h H locs ls hP hD hS hl
        rw [x_work] at h
        refine lv_aload_n hx hb dX12_work_99 rfl (lv_at hl 0 rfl) ?_
        refine ng_56 hx hb hts in_x_work hown hK hP (hts _ (List.mem_cons_of_mem _ (List.mem_append_left _ (List.mem_append_left _ (List.mem_of_getElem? (i := 20) rfl))))) dX12_work_100 ?_
        refine lv_if_le (tgt := 115) hx hb dX12_work_103 (by decide) (fun c1 => ?_) (fun c1 => ?_)
        · rw [if_pos c1] at h
          exact ih.2.2.2.2.2.2.2.2.2.2.1 L J σ r h H locs ls hP hD hS (lv_sub hl [0, 1, 2, 3, 4, 5] rfl)
        · rw [if_neg c1] at h
          refine lv_iconst (v := (-1)) hx hb dX12_work_106 (by decide) ?_
          refine lv_aload_n hx hb dX12_work_107 rfl (lv_at hl 0 rfl) ?_
          refine ng_56 hx hb hts in_x_work hown hK hP (hts _ (List.mem_cons_of_mem _ (List.mem_append_left _ (List.mem_append_left _ (List.mem_of_getElem? (i := 20) rfl))))) dX12_work_108 ?_
          refine lv_isub hx hb dX12_work_111 ?_
          refine lv_goto (tgt := 123) hx hb dX12_work_112 (by decide) ?_
          exact ih.2.2.2.2.2.2.2.2.2.2.2.1 (upd L 100 ((((-1)) - ((σ.1 56))))) J σ r h H locs ls hP hD hS (lv_sub hl [0, 1, 2, 3, 4, 5] rfl)
      · intro L J σ r h H locs ls hP hD hS hl
        rw [x_work] at h
        refine lv_aload_n hx hb dX12_work_115 rfl (lv_at hl 0 rfl) ?_
        refine lv_aload_n hx hb dX12_work_116 rfl (lv_at hl 0 rfl) ?_
        obtain ⟨r1, hc1, h⟩ := ob_ex h
        refine nc_Vi (As := []) (rest := [.ref (a 0)]) ⟨hx, hb, hml, hown, hts⟩ (c_x_pop l dC dI cy a k (fun _ => 0) σ r1 hc1 H.size) (cwV 0 hts g_x_work_pop_572 rfl rfl rfl hd_x_pop ⟨Nat.le_of_ble_eq_true rfl, Nat.le_of_ble_eq_true rfl⟩) hK hG hA hP hD hS rfl hl.1 rfl (Nat.le_of_ble_eq_true rfl) dX12_work_117 ⟨Nat.le_refl _, Nat.le_refl _⟩ (fun H locs hP hD hS => ?_)
        obtain ⟨r2, hc2, h⟩ := ob_ex h
        refine nc_Vi (As := [.int r1.1]) (rest := []) ⟨hx, hb, hml, hown, hts⟩ (c_x_show l dC dI cy a k (upd (fun _ => 0) 1 r1.1) r1.2 r2 hc2 H.size) (cwV 1 hts g_x_work_show_1071 rfl rfl rfl hd_x_show ⟨Nat.le_of_ble_eq_true rfl, Nat.le_of_ble_eq_true rfl⟩) hK hG hA hP hD hS rfl hl.1 rfl (Nat.le_of_ble_eq_true rfl) dX12_work_120 ⟨Nat.le_refl _, Nat.le_refl _⟩ (fun H locs hP hD hS => ?_)
        exact ih.2.2.2.2.2.2.2.2.2.2.2.1 (upd L 100 r2.1) J r2.2 r h H locs ls hP hD hS (lv_sub hl [0, 1, 2, 3, 4, 5] rfl)
      · intro L J σ r h H locs ls hP hD hS hl
        rw [x_work] at h
        refine lv_istore (lv' := [(4, .int (L 100)), (0, .ref (a 0)), (1, .int (L 1)), (2, .int (L 2)), (3, .int (L 3)), (5, .long (J 5))]) hx hb dX12_work_123 hl (by decide) rfl (fun ls hl => ?_)
        refine lv_aload_n hx hb dX12_work_125 rfl (lv_at hl 1 rfl) ?_
        refine lv_iconst (v := 0) hx hb dX12_work_126 (by decide) ?_
        refine np_56 hx hb hts in_x_work hown hK hP hD hS (hts _ (List.mem_cons_of_mem _ (List.mem_append_left _ (List.mem_append_left _ (List.mem_of_getElem? (i := 20) rfl))))) dX12_work_127 (fun H locs hP hD hS => ?_)
        exact ih.2.2.2.2.2.2.2.2.2.2.2.2.1 (upd L 4 ((L 100))) J (upd σ.1 56 0, σ.2.1, σ.2.2) r h H locs ls hP hD hS (lv_sub hl [1, 2, 3, 4, 0] rfl)
      · intro L J σ r h H locs ls hP hD hS hl
        rw [x_work] at h
        refine lv_aload_n hx hb dX12_work_130 rfl (lv_at hl 0 rfl) ?_
        refine lv_iload_n hx hb dX12_work_131 rfl (lv_at hl 1 rfl) ?_
        refine np_22 hx hb hts in_x_work hown hK hP hD hS (hts _ (List.mem_cons_of_mem _ (List.mem_append_left _ (List.mem_append_left _ (List.mem_of_getElem? (i := 5) rfl))))) dX12_work_132 (fun H locs hP hD hS => ?_)
        exact ih.2.2.2.2.2.2.2.2.2.2.2.2.2.1 L J (upd σ.1 22 ((L 1)), σ.2.1, σ.2.2) r h H locs ls hP hD hS (lv_sub hl [0, 1, 2, 3, 4] rfl)
      · intro L J σ r h H locs ls hP hD hS hl
        rw [x_work] at h
        refine lv_aload_n hx hb dX12_work_135 rfl (lv_at hl 0 rfl) ?_
        refine lv_iload_n hx hb dX12_work_136 rfl (lv_at hl 2 rfl) ?_
        refine np_24 hx hb hts in_x_work hown hK hP hD hS (hts _ (List.mem_cons_of_mem _ (List.mem_append_left _ (List.mem_append_left _ (List.mem_of_getElem? (i := 6) rfl))))) dX12_work_137 (fun H locs hP hD hS => ?_)
        exact ih.2.2.2.2.2.2.2.2.2.2.2.2.2.2 L J (upd σ.1 24 ((L 2)), σ.2.1, σ.2.2) r h H locs ls hP hD hS (lv_sub hl [0, 1, 2, 3, 4] rfl)
      · intro L J σ r h H locs ls hP hD hS hl
        rw [x_work] at h
        refine lv_iload hx hb dX12_work_140 (lv_at hl 4 rfl) ?_
        cases h
        exact W.iret (v := (L 4)) hx hb hr (fun t ht hW => ⟨⟨(L 4), (), rfl, rfl, by rw [ht]; exact hP, va_K.moved hW.alike hK, hD⟩, hS.F ht⟩) hS.2.2 dX12_work_142
  exact (blk k0).1 L0 J0 σ0 r0 h0 s.heap [] ls hP hD hS hl
/-! view -/
def x_view : Nat → Nat → (Nat → Int32) → MS → Option (Int32 × MS)
  | 0, _, _, _ => none
  | k + 1, 0, L, σ => if ((σ.1 111)) = 0 then (x_view k 3 (upd L 100 1) σ) else (x_view k 1 L σ)
  | k + 1, 1, L, σ => if ((σ.1 73)) = 8 then (x_view k 3 (upd L 100 2) σ) else (x_view k 2 L σ)
  | k + 1, 2, L, σ => x_view k 3 (upd L 100 0) σ
  | k + 1, 3, L, σ => ob (x_good k 0 (upd (fun _ => 0) 1 ((L 100))) σ) (fun r1 => if r1.1 = 0 then (some (0, r1.2)) else (x_view k 4 L r1.2))
  | k + 1, 4, L, σ => x_view k 5 (upd (upd L 1 ((σ.1 22))) 2 ((σ.1 24))) (upd σ.1 11 0, σ.2.1, σ.2.2)
  | k + 1, 5, L, σ => ob (x_readExp k 0 (upd (fun _ => 0) 1 0) σ) (fun r1 => x_view k 6 (upd L 3 ((σ.1 4))) (upd r1.2.1 22 ((L 1)), r1.2.2.1, r1.2.2.2))
  | k + 1, 6, L, σ => x_view k 7 L (upd σ.1 24 ((L 2)), σ.2.1, σ.2.2)
  | k + 1, 7, L, σ => if ((σ.1 10)) = 0 then (x_view k 9 L σ) else (x_view k 8 L (upd σ.1 4 0, σ.2.1, σ.2.2))
  | k + 1, 8, L, σ => some ((((-1)) - ((σ.1 12))), σ)
  | k + 1, 9, L, σ => x_view k 10 (upd L 4 0) σ
  | k + 1, 10, L, σ => if ((L 3)) ≤ ((L 4)) then (x_view k 12 L σ) else (if ¬ (((L 4)) < 0 ∨ 32768 ≤ ((L 4)).toNatClampNeg) then (if ¬ (((((32768 * ((σ.1 73)))) + ((L 4)))) < 0 ∨ 262144 ≤ ((((32768 * ((σ.1 73)))) + ((L 4)))).toNatClampNeg) then (x_view k 11 L (σ.1, σ.2.1, updG σ.2.2 54 (upd (σ.2.2 54) ((((32768 * ((σ.1 73)))) + ((L 4)))).toNatClampNeg ((σ.2.2 3 ((L 4)).toNatClampNeg))))) else none) else none)
  | k + 1, 11, L, σ => x_view k 10 (upd L 4 (((L 4)) + 1)) σ
  | k + 1, 12, L, σ => if ¬ (((σ.1 73)) < 0 ∨ 8 ≤ ((σ.1 73)).toNatClampNeg) then (x_view k 13 L (σ.1, σ.2.1, updG σ.2.2 55 (upd (σ.2.2 55) ((σ.1 73)).toNatClampNeg ((L 3))))) else none
  | k + 1, 13, L, σ => if ¬ (((σ.1 73)) < 0 ∨ 8 ≤ ((σ.1 73)).toNatClampNeg) then (x_view k 14 L (σ.1, σ.2.1, updG σ.2.2 36 (upd (σ.2.2 36) ((σ.1 73)).toNatClampNeg 0))) else none
  | k + 1, 14, L, σ => if ¬ (((σ.1 73)) < 0 ∨ 8 ≤ ((σ.1 73)).toNatClampNeg) then (x_view k 15 L (σ.1, σ.2.1, updG σ.2.2 37 (upd (σ.2.2 37) ((σ.1 73)).toNatClampNeg 0))) else none
  | k + 1, 15, L, σ => if ¬ (((σ.1 73)) < 0 ∨ 8 ≤ ((σ.1 73)).toNatClampNeg) then (x_view k 16 L (σ.1, σ.2.1, updG σ.2.2 38 (upd (σ.2.2 38) ((σ.1 73)).toNatClampNeg 0))) else none
  | k + 1, 16, L, σ => if ¬ (((σ.1 73)) < 0 ∨ 8 ≤ ((σ.1 73)).toNatClampNeg) then (x_view k 17 L (σ.1, σ.2.1, updG σ.2.2 39 (upd (σ.2.2 39) ((σ.1 73)).toNatClampNeg (vp_nar .boolean 0)))) else none
  | k + 1, 17, L, σ => x_view k 18 L (upd σ.1 4 0, σ.2.1, σ.2.2)
  | k + 1, 18, L, σ => x_view k 19 L (upd σ.1 73 ((((σ.1 73)) + 1)), σ.2.1, σ.2.2)
  | k + 1, 19, L, σ => some ((((σ.1 73)) - 1), σ)
  | _ + 1, _ + 20, _, _ => none
def o_x_view : List Cond := [.fieldLink RX12 1041 "SetHouseModel" "isProgram" "Z", .fieldLink RX12 1029 "SetHouseModel" "views" "I", .methodLink RX12 1050 yX12_good, .instanceMethod yX12_good, .selects RX12 yX12_good yX12_good, .initialized RX12, .fieldLink RX12 80 "SetHouseModel" "nodes" "I", .fieldLink RX12 105 "SetHouseModel" "pooled" "I", .fieldLink RX12 15 "SetHouseModel" "faultCode" "I", .fieldLink RX12 1 "SetHouseModel" "taped" "I", .methodLink RX12 1074 yX12_readExp, .instanceMethod yX12_readExp, .selects RX12 yX12_readExp yX12_readExp, .fieldLink RX12 11 "SetHouseModel" "bad" "Z", .fieldLink RX12 18 "SetHouseModel" "faultPlace" "I", .fieldLink RX12 1014 "SetHouseModel" "viewTexts" "[I", .constant RX12 1001 (32768), .fieldLink RX12 7 "SetHouseModel" "tape" "[I", .fieldLink RX12 1017 "SetHouseModel" "viewSizes" "[I", .fieldLink RX12 417 "SetHouseModel" "viewValue" "[I", .fieldLink RX12 420 "SetHouseModel" "viewCame" "[I", .fieldLink RX12 423 "SetHouseModel" "viewWent" "[I", .fieldLink RX12 1006 "SetHouseModel" "viewed" "[Z"]
theorem o_x_view_good : o_x_view.all goodWord = true := by decide +kernel
def p_x_view : List Cond := o_x_view ++ ((.code yX12_good cX12_good 2 (some .boolean) :: p_x_good) ++ ((.code yX12_readExp cX12_readExp 3 (some .int) :: p_x_readExp) ++ []))
theorem p_x_view_good : p_x_view.all goodWord = true := nb_all2 o_x_view_good (nb_all2 (nb_allc (by decide +kernel) p_x_good_good) (nb_all2 (nb_allc (by decide +kernel) p_x_readExp_good) rfl))
def w_x_view : List Cond := .code yX12_view cX12_view 5 (some .int) :: (p_x_view ++ fM)
theorem w_x_view_good : w_x_view.all goodWord = true := nb_allc (by decide +kernel) (nb_all2 p_x_view_good fM_good)
theorem in_x_view : ∀ w ∈ wsX120, w ∈ w_x_view := fun _ h => List.mem_cons_of_mem _ (List.mem_append_right _ h)
theorem hd_x_view : yX12_view.cls = RX12 ∧ yX12_view.cls ≠ "java/lang/invoke/MethodHandle" ∧ yX12_view.cls ≠ "java/lang/invoke/VarHandle" ∧ (parseMethodDescriptor yX12_view.desc).map (fun d => d.parameters.length) = some 0 := by decide +kernel
theorem gg_x_view_good : GoodIn w_x_view w_x_good := goodIn_sub (fun w h => (List.mem_cons.mp h).elim (fun e => (List.mem_cons_of_mem _ (List.mem_append_left _ (List.mem_append_right _ (List.mem_append_left _ (List.mem_cons.mpr (Or.inl e))))))) (fun h => (List.mem_append.mp h).elim (fun h => (List.mem_cons_of_mem _ (List.mem_append_left _ (List.mem_append_right _ (List.mem_append_left _ (List.mem_cons_of_mem _ h)))))) (fun h => List.mem_cons_of_mem _ (List.mem_append_right _ h)))) w_x_good_good
theorem g_x_view_good_1050 : GoodIn w_x_view (wsV RX12 1050 RX12 yX12_good w_x_good) := goodIn_app (nb_g4 (List.mem_cons_of_mem _ (List.mem_append_left _ (List.mem_append_left _ (List.mem_of_getElem? (i := 2) rfl)))) (List.mem_cons_of_mem _ (List.mem_append_left _ (List.mem_append_left _ (List.mem_of_getElem? (i := 3) rfl)))) (List.mem_cons_of_mem _ (List.mem_append_left _ (List.mem_append_left _ (List.mem_of_getElem? (i := 4) rfl)))) (List.mem_cons_of_mem _ (List.mem_append_left _ (List.mem_append_left _ (List.mem_of_getElem? (i := 5) rfl)))) (by decide +kernel)) gg_x_view_good
theorem gg_x_view_readExp : GoodIn w_x_view w_x_readExp := goodIn_sub (fun w h => (List.mem_cons.mp h).elim (fun e => (List.mem_cons_of_mem _ (List.mem_append_left _ (List.mem_append_right _ (List.mem_append_right _ (List.mem_append_left _ (List.mem_cons.mpr (Or.inl e)))))))) (fun h => (List.mem_append.mp h).elim (fun h => (List.mem_cons_of_mem _ (List.mem_append_left _ (List.mem_append_right _ (List.mem_append_right _ (List.mem_append_left _ (List.mem_cons_of_mem _ h))))))) (fun h => List.mem_cons_of_mem _ (List.mem_append_right _ h)))) w_x_readExp_good
theorem g_x_view_readExp_1074 : GoodIn w_x_view (wsV RX12 1074 RX12 yX12_readExp w_x_readExp) := goodIn_app (nb_g4 (List.mem_cons_of_mem _ (List.mem_append_left _ (List.mem_append_left _ (List.mem_of_getElem? (i := 10) rfl)))) (List.mem_cons_of_mem _ (List.mem_append_left _ (List.mem_append_left _ (List.mem_of_getElem? (i := 11) rfl)))) (List.mem_cons_of_mem _ (List.mem_append_left _ (List.mem_append_left _ (List.mem_of_getElem? (i := 12) rfl)))) (List.mem_cons_of_mem _ (List.mem_append_left _ (List.mem_append_left _ (List.mem_of_getElem? (i := 5) rfl)))) (by decide +kernel)) gg_x_view_readExp
set_option maxHeartbeats 40000000 in
set_option maxRecDepth 100000 in
theorem c_x_view (l : Launch) (dC : Nat → ClassId) (dI : Nat → Nat → Nat) (cy : Nat → ClassId) (a : Nat → Nat) (k0 : Nat) (L0 : Nat → Int32) (σ0 : MS) (r0 : Int32 × MS) (h0 : x_view k0 0 L0 σ0 = some r0) (sz : Nat) : Met l yX12_view w_x_view ({ frames := 327, cells := 0, slots := 0, locals := 10076 }) (va_Pc [.ref (a 0)] (nIn (dC, dI) cy sz (vM cy a σ0))) (va_Qi (fun (z : Int32) (_ : Unit) => z = r0.1) (fun _ t => nOut (dC, dI) cy (va_A (vM cy a σ0) sz) (vM cy a r0.2) t) (va_A (vM cy a σ0) sz)) 0 0 (va_A (vM cy a σ0) sz) := by
  refine Met.ofW (cc := cX12_view) (maxL := 5) (ret := (some .int)) (by decide) rfl ?_
  intro p e s m args below meth c s₁ B hml hv
  obtain ⟨rfl, hsz, hP, hK, hD0, hG⟩ := hv
  have hx := B.exec
  have hb := B.bytes
  have hr := B.returns
  have hts := atoms_spec (ws := w_x_view) B.pre
  have hown : s.vm.findClass RX12 = some m.cls := findClass_of_methodNamed B.named
  have hlocks := B.notSynchronized
  subst hsz
  have hD := hD0.self (sz := s.heap.size)
  generalize hAe : va_A (vM cy a σ0) s.heap.size = A at hD ⊢
  have hA : ∀ q : Nat, s.heap.size ≤ q → A q := fun q h => by rw [← hAe]; exact Or.inr h
  have hS : va_S A s.heap s.heap [] := va_S.rf
  have hl := lv_entry ([.ref (a 0)]) (n := 5) (Nat.le_of_ble_eq_true rfl)
  rw [lg_entry_eq]
  generalize (lg_sl ([.ref (a 0)]) ++ List.replicate (5 - (lg_sl ([.ref (a 0)])).length) Slot.unset).toArray = ls at hl ⊢
  have hl : lv_has ls 5 [(0, .ref (a 0))] := hl
  have blk : ∀ k : Nat, (bT p l e (headSpec w_x_view ({ frames := 327, cells := 0, slots := 0, locals := 10076 })).room s m #[.ref (a 0)] below meth c dC dI cy a A (qI dC dI cy a A below #[.ref (a 0)] s) 5 (x_view k 0) (fun L => [(0, .ref (a 0))]) 0 (fun L => [])) ∧ (bT p l e (headSpec w_x_view ({ frames := 327, cells := 0, slots := 0, locals := 10076 })).room s m #[.ref (a 0)] below meth c dC dI cy a A (qI dC dI cy a A below #[.ref (a 0)] s) 5 (x_view k 1) (fun L => [(0, .ref (a 0))]) 12 (fun L => [.ref (a 0)])) ∧ (bT p l e (headSpec w_x_view ({ frames := 327, cells := 0, slots := 0, locals := 10076 })).room s m #[.ref (a 0)] below meth c dC dI cy a A (qI dC dI cy a A below #[.ref (a 0)] s) 5 (x_view k 2) (fun L => [(0, .ref (a 0))]) 25 (fun L => [.ref (a 0)])) ∧ (bT p l e (headSpec w_x_view ({ frames := 327, cells := 0, slots := 0, locals := 10076 })).room s m #[.ref (a 0)] below meth c dC dI cy a A (qI dC dI cy a A below #[.ref (a 0)] s) 5 (x_view k 3) (fun L => [(0, .ref (a 0))]) 26 (fun L => [.int (L 100), .ref (a 0)])) ∧ (bT p l e (headSpec w_x_view ({ frames := 327, cells := 0, slots := 0, locals := 10076 })).room s m #[.ref (a 0)] below meth c dC dI cy a A (qI dC dI cy a A below #[.ref (a 0)] s) 5 (x_view k 4) (fun L => [(0, .ref (a 0))]) 34 (fun L => [])) ∧ (bT p l e (headSpec w_x_view ({ frames := 327, cells := 0, slots := 0, locals := 10076 })).room s m #[.ref (a 0)] below meth c dC dI cy a A (qI dC dI cy a A below #[.ref (a 0)] s) 5 (x_view k 5) (fun L => [(0, .ref (a 0)), (1, .int (L 1)), (2, .int (L 2))]) 49 (fun L => [])) ∧ (bT p l e (headSpec w_x_view ({ frames := 327, cells := 0, slots := 0, locals := 10076 })).room s m #[.ref (a 0)] below meth c dC dI cy a A (qI dC dI cy a A below #[.ref (a 0)] s) 5 (x_view k 6) (fun L => [(0, .ref (a 0)), (1, .int (L 1)), (2, .int (L 2)), (3, .int (L 3))]) 65 (fun L => [])) ∧ (bT p l e (headSpec w_x_view ({ frames := 327, cells := 0, slots := 0, locals := 10076 })).room s m #[.ref (a 0)] below meth c dC dI cy a A (qI dC dI cy a A below #[.ref (a 0)] s) 5 (x_view k 7) (fun L => [(0, .ref (a 0)), (1, .int (L 1)), (2, .int (L 2)), (3, .int (L 3))]) 70 (fun L => [])) ∧ (bT p l e (headSpec w_x_view ({ frames := 327, cells := 0, slots := 0, locals := 10076 })).room s m #[.ref (a 0)] below meth c dC dI cy a A (qI dC dI cy a A below #[.ref (a 0)] s) 5 (x_view k 8) (fun L => [(0, .ref (a 0)), (1, .int (L 1)), (2, .int (L 2)), (3, .int (L 3))]) 82 (fun L => [])) ∧ (bT p l e (headSpec w_x_view ({ frames := 327, cells := 0, slots := 0, locals := 10076 })).room s m #[.ref (a 0)] below meth c dC dI cy a A (qI dC dI cy a A below #[.ref (a 0)] s) 5 (x_view k 9) (fun L => [(0, .ref (a 0)), (1, .int (L 1)), (2, .int (L 2)), (3, .int (L 3))]) 89 (fun L => [])) ∧ (bT p l e (headSpec w_x_view ({ frames := 327, cells := 0, slots := 0, locals := 10076 })).room s m #[.ref (a 0)] below meth c dC dI cy a A (qI dC dI cy a A below #[.ref (a 0)] s) 5 (x_view k 10) (fun L => [(0, .ref (a 0)), (1, .int (L 1)), (2, .int (L 2)), (3, .int (L 3)), (4, .int (L 4))]) 92 (fun L => [])) ∧ (bT p l e (headSpec w_x_view ({ frames := 327, cells := 0, slots := 0, locals := 10076 })).room s m #[.ref (a 0)] below meth c dC dI cy a A (qI dC dI cy a A below #[.ref (a 0)] s) 5 (x_view k 11) (fun L => [(0, .ref (a 0)), (1, .int (L 1)), (2, .int (L 2)), (3, .int (L 3)), (4, .int (L 4))]) 121 (fun L => [])) ∧ (bT p l e (headSpec w_x_view ({ frames := 327, cells := 0, slots := 0, locals := 10076 })).room s m #[.ref (a 0)] below meth c dC dI cy a A (qI dC dI cy a A below #[.ref (a 0)] s) 5 (x_view k 12) (fun L => [(0, .ref (a 0)), (1, .int (L 1)), (2, .int (L 2)), (3, .int (L 3)), (4, .int (L 4))]) 127 (fun L => [])) ∧ (bT p l e (headSpec w_x_view ({ frames := 327, cells := 0, slots := 0, locals := 10076 })).room s m #[.ref (a 0)] below meth c dC dI cy a A (qI dC dI cy a A below #[.ref (a 0)] s) 5 (x_view k 13) (fun L => [(0, .ref (a 0)), (1, .int (L 1)), (2, .int (L 2)), (3, .int (L 3)), (4, .int (L 4))]) 137 (fun L => [])) ∧ (bT p l e (headSpec w_x_view ({ frames := 327, cells := 0, slots := 0, locals := 10076 })).room s m #[.ref (a 0)] below meth c dC dI cy a A (qI dC dI cy a A below #[.ref (a 0)] s) 5 (x_view k 14) (fun L => [(0, .ref (a 0)), (1, .int (L 1)), (2, .int (L 2)), (3, .int (L 3)), (4, .int (L 4))]) 147 (fun L => [])) ∧ (bT p l e (headSpec w_x_view ({ frames := 327, cells := 0, slots := 0, locals := 10076 })).room s m #[.ref (a 0)] below meth c dC dI cy a A (qI dC dI cy a A below #[.ref (a 0)] s) 5 (x_view k 15) (fun L => [(0, .ref (a 0)), (1, .int (L 1)), (2, .int (L 2)), (3, .int (L 3)), (4, .int (L 4))]) 157 (fun L => [])) ∧ (bT p l e (headSpec w_x_view ({ frames := 327, cells := 0, slots := 0, locals := 10076 })).room s m #[.ref (a 0)] below meth c dC dI cy a A (qI dC dI cy a A below #[.ref (a 0)] s) 5 (x_view k 16) (fun L => [(0, .ref (a 0)), (1, .int (L 1)), (2, .int (L 2)), (3, .int (L 3)), (4, .int (L 4))]) 167 (fun L => [])) ∧ (bT p l e (headSpec w_x_view ({ frames := 327, cells := 0, slots := 0, locals := 10076 })).room s m #[.ref (a 0)] below meth c dC dI cy a A (qI dC dI cy a A below #[.ref (a 0)] s) 5 (x_view k 17) (fun L => [(0, .ref (a 0)), (1, .int (L 1)), (2, .int (L 2)), (3, .int (L 3)), (4, .int (L 4))]) 177 (fun L => [])) ∧ (bT p l e (headSpec w_x_view ({ frames := 327, cells := 0, slots := 0, locals := 10076 })).room s m #[.ref (a 0)] below meth c dC dI cy a A (qI dC dI cy a A below #[.ref (a 0)] s) 5 (x_view k 18) (fun L => [(0, .ref (a 0)), (1, .int (L 1)), (2, .int (L 2)), (3, .int (L 3)), (4, .int (L 4))]) 182 (fun L => [])) ∧ (bT p l e (headSpec w_x_view ({ frames := 327, cells := 0, slots := 0, locals := 10076 })).room s m #[.ref (a 0)] below meth c dC dI cy a A (qI dC dI cy a A below #[.ref (a 0)] s) 5 (x_view k 19) (fun L => [(0, .ref (a 0)), (1, .int (L 1)), (2, .int (L 2)), (3, .int (L 3)), (4, .int (L 4))]) 192 (fun L => [])) := by
    intro k
    induction k with
    | zero => exact ⟨fun L σ r h => (by cases h), fun L σ r h => (by cases h), fun L σ r h => (by cases h), fun L σ r h => (by cases h), fun L σ r h => (by cases h), fun L σ r h => (by cases h), fun L σ r h => (by cases h), fun L σ r h => (by cases h), fun L σ r h => (by cases h), fun L σ r h => (by cases h), fun L σ r h => (by cases h), fun L σ r h => (by cases h), fun L σ r h => (by cases h), fun L σ r h => (by cases h), fun L σ r h => (by cases h), fun L σ r h => (by cases h), fun L σ r h => (by cases h), fun L σ r h => (by cases h), fun L σ r h => (by cases h), fun L σ r h => (by cases h)⟩
    | succ k ih =>
      refine ⟨?_, ?_, ?_, ?_, ?_, ?_, ?_, ?_, ?_, ?_, ?_, ?_, ?_, ?_, ?_, ?_, ?_, ?_, ?_, ?_⟩
      · intro L σ r h H locs ls hP hD hS hl
        rw [x_view] at h
        refine lv_aload_n hx hb dX12_view_0 rfl (lv_at hl 0 rfl) ?_
        refine lv_aload_n hx hb dX12_view_1 rfl (lv_at hl 0 rfl) ?_
        refine ng_111 hx hb hts in_x_view hown hK hP (hts _ (List.mem_cons_of_mem _ (List.mem_append_left _ (List.mem_append_left _ (List.mem_of_getElem? (i := 0) rfl))))) dX12_view_2 ?_
        refine lv_if_ne (tgt := 12) hx hb dX12_view_5 (by decide) (fun c1 => ?_) (fun c1 => ?_)
        · rw [if_neg c1] at h
          exact ih.2.1 L σ r h H locs ls hP hD hS (lv_sub hl [0] rfl)
        · rw [if_pos c1] at h
          refine lv_iconst (v := 1) hx hb dX12_view_8 (by decide) ?_
          refine lv_goto (tgt := 26) hx hb dX12_view_9 (by decide) ?_
          exact ih.2.2.2.1 (upd L 100 1) σ r h H locs ls hP hD hS (lv_sub hl [0] rfl)
      · intro L σ r h H locs ls hP hD hS hl
        rw [x_view] at h
        refine lv_aload_n hx hb dX12_view_12 rfl (lv_at hl 0 rfl) ?_
        refine ng_73 hx hb hts in_x_view hown hK hP (hts _ (List.mem_cons_of_mem _ (List.mem_append_left _ (List.mem_append_left _ (List.mem_of_getElem? (i := 1) rfl))))) dX12_view_13 ?_
        refine lv_bipush (v := 8) hx hb dX12_view_16 (by decide) ?_
        refine lv_icmp_ne (tgt := 25) hx hb dX12_view_18 (by decide) (fun c1 => ?_) (fun c1 => ?_)
        · rw [if_neg c1] at h
          exact ih.2.2.1 L σ r h H locs ls hP hD hS (lv_sub hl [0] rfl)
        · rw [if_pos c1] at h
          refine lv_iconst (v := 2) hx hb dX12_view_21 (by decide) ?_
          refine lv_goto (tgt := 26) hx hb dX12_view_22 (by decide) ?_
          exact ih.2.2.2.1 (upd L 100 2) σ r h H locs ls hP hD hS (lv_sub hl [0] rfl)
      · intro L σ r h H locs ls hP hD hS hl
        rw [x_view] at h
        refine lv_iconst (v := 0) hx hb dX12_view_25 (by decide) ?_
        exact ih.2.2.2.1 (upd L 100 0) σ r h H locs ls hP hD hS (lv_sub hl [0] rfl)
      · intro L σ r h H locs ls hP hD hS hl
        rw [x_view] at h
        obtain ⟨r1, hc1, h⟩ := ob_ex h
        refine nc_Vi (As := [.int (L 100)]) (rest := []) ⟨hx, hb, hml, hown, hts⟩ (c_x_good l dC dI cy a k (upd (fun _ => 0) 1 ((L 100))) σ r1 hc1 H.size) (cwV 1 hts g_x_view_good_1050 rfl rfl rfl hd_x_good ⟨Nat.le_of_ble_eq_true rfl, Nat.le_of_ble_eq_true rfl⟩) hK hG hA hP hD hS rfl hl.1 rfl (Nat.le_of_ble_eq_true rfl) dX12_view_26 ⟨Nat.le_refl _, Nat.le_refl _⟩ (fun H locs hP hD hS => ?_)
        refine lv_if_ne (tgt := 34) hx hb dX12_view_29 (by decide) (fun c2 => ?_) (fun c2 => ?_)
        · rw [if_neg c2] at h
          exact ih.2.2.2.2.1 L r1.2 r h H locs ls hP hD hS (lv_sub hl [0] rfl)
        · rw [if_pos c2] at h
          refine lv_iconst (v := 0) hx hb dX12_view_32 (by decide) ?_
          cases h
          exact W.iret (v := 0) hx hb hr (fun t ht hW => ⟨⟨0, (), rfl, rfl, by rw [ht]; exact hP, va_K.moved hW.alike hK, hD⟩, hS.F ht⟩) hS.2.2 dX12_view_33
      · intro L σ r h H locs ls hP hD hS hl
        rw [x_view] at h
        refine lv_aload_n hx hb dX12_view_34 rfl (lv_at hl 0 rfl) ?_
        refine ng_22 hx hb hts in_x_view hown hK hP (hts _ (List.mem_cons_of_mem _ (List.mem_append_left _ (List.mem_append_left _ (List.mem_of_getElem? (i := 6) rfl))))) dX12_view_35 ?_
        refine lv_istore_n (lv' := [(1, .int (σ.1 22)), (0, .ref (a 0))]) hx hb dX12_view_38 rfl hl (by decide) rfl (fun ls hl => ?_)
        refine lv_aload_n hx hb dX12_view_39 rfl (lv_at hl 1 rfl) ?_
        refine ng_24 hx hb hts in_x_view hown hK hP (hts _ (List.mem_cons_of_mem _ (List.mem_append_left _ (List.mem_append_left _ (List.mem_of_getElem? (i := 7) rfl))))) dX12_view_40 ?_
        refine lv_istore_n (lv' := [(2, .int (σ.1 24)), (1, .int (σ.1 22)), (0, .ref (a 0))]) hx hb dX12_view_43 rfl hl (by decide) rfl (fun ls hl => ?_)
        refine lv_aload_n hx hb dX12_view_44 rfl (lv_at hl 2 rfl) ?_
        refine lv_iconst (v := 0) hx hb dX12_view_45 (by decide) ?_
        refine np_11 hx hb hts in_x_view hown hK hP hD hS (hts _ (List.mem_cons_of_mem _ (List.mem_append_left _ (List.mem_append_left _ (List.mem_of_getElem? (i := 8) rfl))))) dX12_view_46 (fun H locs hP hD hS => ?_)
        exact ih.2.2.2.2.2.1 (upd (upd L 1 ((σ.1 22))) 2 ((σ.1 24))) (upd σ.1 11 0, σ.2.1, σ.2.2) r h H locs ls hP hD hS (lv_sub hl [2, 1, 0] rfl)
      · intro L σ r h H locs ls hP hD hS hl
        rw [x_view] at h
        refine lv_aload_n hx hb dX12_view_49 rfl (lv_at hl 0 rfl) ?_
        refine ng_4 hx hb hts in_x_view hown hK hP (hts _ (List.mem_cons_of_mem _ (List.mem_append_left _ (List.mem_append_left _ (List.mem_of_getElem? (i := 9) rfl))))) dX12_view_50 ?_
        refine lv_istore_n (lv' := [(3, .int (σ.1 4)), (0, .ref (a 0)), (1, .int (L 1)), (2, .int (L 2))]) hx hb dX12_view_53 rfl hl (by decide) rfl (fun ls hl => ?_)
        refine lv_aload_n hx hb dX12_view_54 rfl (lv_at hl 1 rfl) ?_
        refine lv_iconst (v := 0) hx hb dX12_view_55 (by decide) ?_
        obtain ⟨r1, hc1, h⟩ := ob_ex h
        refine nc_Vi (As := [.int 0]) (rest := []) ⟨hx, hb, hml, hown, hts⟩ (c_x_readExp l dC dI cy a k (upd (fun _ => 0) 1 0) σ r1 hc1 H.size) (cwV 1 hts g_x_view_readExp_1074 rfl rfl rfl hd_x_readExp ⟨Nat.le_of_ble_eq_true rfl, Nat.le_of_ble_eq_true rfl⟩) hK hG hA hP hD hS rfl hl.1 rfl (Nat.le_of_ble_eq_true rfl) dX12_view_56 ⟨Nat.le_refl _, Nat.le_refl _⟩ (fun H locs hP hD hS => ?_)
        refine lv_pop hx hb dX12_view_59 rfl ?_
        refine lv_aload_n hx hb dX12_view_60 rfl (lv_at hl 1 rfl) ?_
        refine lv_iload_n hx hb dX12_view_61 rfl (lv_at hl 2 rfl) ?_
        refine np_22 hx hb hts in_x_view hown hK hP hD hS (hts _ (List.mem_cons_of_mem _ (List.mem_append_left _ (List.mem_append_left _ (List.mem_of_getElem? (i := 6) rfl))))) dX12_view_62 (fun H locs hP hD hS => ?_)
        exact ih.2.2.2.2.2.2.1 (upd L 3 ((σ.1 4))) (upd r1.2.1 22 ((L 1)), r1.2.2.1, r1.2.2.2) r h H locs ls hP hD hS (lv_sub hl [1, 2, 3, 0] rfl)
      · intro L σ r h H locs ls hP hD hS hl
        rw [x_view] at h
        refine lv_aload_n hx hb dX12_view_65 rfl (lv_at hl 0 rfl) ?_
        refine lv_iload_n hx hb dX12_view_66 rfl (lv_at hl 2 rfl) ?_
        refine np_24 hx hb hts in_x_view hown hK hP hD hS (hts _ (List.mem_cons_of_mem _ (List.mem_append_left _ (List.mem_append_left _ (List.mem_of_getElem? (i := 7) rfl))))) dX12_view_67 (fun H locs hP hD hS => ?_)
        exact ih.2.2.2.2.2.2.2.1 L (upd σ.1 24 ((L 2)), σ.2.1, σ.2.2) r h H locs ls hP hD hS (lv_sub hl [0, 1, 2, 3] rfl)
      · intro L σ r h H locs ls hP hD hS hl
        rw [x_view] at h
        refine lv_aload_n hx hb dX12_view_70 rfl (lv_at hl 0 rfl) ?_
        refine ng_10 hx hb hts in_x_view hown hK hP (hts _ (List.mem_cons_of_mem _ (List.mem_append_left _ (List.mem_append_left _ (List.mem_of_getElem? (i := 13) rfl))))) dX12_view_71 ?_
        refine lv_if_eq (tgt := 89) hx hb dX12_view_74 (by decide) (fun c1 => ?_) (fun c1 => ?_)
        · rw [if_pos c1] at h
          exact ih.2.2.2.2.2.2.2.2.2.1 L σ r h H locs ls hP hD hS (lv_sub hl [0, 1, 2, 3] rfl)
        · rw [if_neg c1] at h
          refine lv_aload_n hx hb dX12_view_77 rfl (lv_at hl 0 rfl) ?_
          refine lv_iconst (v := 0) hx hb dX12_view_78 (by decide) ?_
          refine np_4 hx hb hts in_x_view hown hK hP hD hS (hts _ (List.mem_cons_of_mem _ (List.mem_append_left _ (List.mem_append_left _ (List.mem_of_getElem? (i := 9) rfl))))) dX12_view_79 (fun H locs hP hD hS => ?_)
          exact ih.2.2.2.2.2.2.2.2.1 L (upd σ.1 4 0, σ.2.1, σ.2.2) r h H locs ls hP hD hS (lv_sub hl [0, 1, 2, 3] rfl)
      · intro L σ r h H locs ls hP hD hS hl
        rw [x_view] at h
        refine lv_iconst (v := (-1)) hx hb dX12_view_82 (by decide) ?_
        refine lv_aload_n hx hb dX12_view_83 rfl (lv_at hl 0 rfl) ?_
        refine ng_12 hx hb hts in_x_view hown hK hP (hts _ (List.mem_cons_of_mem _ (List.mem_append_left _ (List.mem_append_left _ (List.mem_of_getElem? (i := 14) rfl))))) dX12_view_84 ?_
        refine lv_isub hx hb dX12_view_87 ?_
        obtain rfl := Option.some.inj h
        exact W.iret (v := (((-1)) - ((σ.1 12)))) hx hb hr (fun t ht hW => ⟨⟨(((-1)) - ((σ.1 12))), (), rfl, rfl, by rw [ht]; exact hP, va_K.moved hW.alike hK, hD⟩, hS.F ht⟩) hS.2.2 dX12_view_88
      · intro L σ r h H locs ls hP hD hS hl
        rw [x_view] at h
        refine lv_iconst (v := 0) hx hb dX12_view_89 (by decide) ?_
        refine lv_istore (lv' := [(4, .int 0), (0, .ref (a 0)), (1, .int (L 1)), (2, .int (L 2)), (3, .int (L 3))]) hx hb dX12_view_90 hl (by decide) rfl (fun ls hl => ?_)
        exact ih.2.2.2.2.2.2.2.2.2.2.1 (upd L 4 0) σ r h H locs ls hP hD hS (lv_sub hl [1, 2, 3, 4, 0] rfl)
      · intro L σ r h H locs ls hP hD hS hl
        rw [x_view] at h
        refine lv_iload hx hb dX12_view_92 (lv_at hl 4 rfl) ?_
        refine lv_iload_n hx hb dX12_view_94 rfl (lv_at hl 3 rfl) ?_
        refine lv_icmp_ge (tgt := 127) hx hb dX12_view_95 (by decide) (fun c1 => ?_) (fun c1 => ?_)
        · rw [if_pos c1] at h
          exact ih.2.2.2.2.2.2.2.2.2.2.2.2.1 L σ r h H locs ls hP hD hS (lv_sub hl [0, 1, 2, 3, 4] rfl)
        · rw [if_neg c1] at h
          refine lv_aload_n hx hb dX12_view_98 rfl (lv_at hl 0 rfl) ?_
          refine ng_116 hx hb hts in_x_view hown hK hP (hts _ (List.mem_cons_of_mem _ (List.mem_append_left _ (List.mem_append_left _ (List.mem_of_getElem? (i := 15) rfl))))) dX12_view_99 ?_
          refine lv_ldcw (v := 32768) hx hb hown (hts _ (List.mem_cons_of_mem _ (List.mem_append_left _ (List.mem_append_left _ (List.mem_of_getElem? (i := 16) rfl))))) dX12_view_102 ?_
          refine lv_aload_n hx hb dX12_view_105 rfl (lv_at hl 0 rfl) ?_
          refine ng_73 hx hb hts in_x_view hown hK hP (hts _ (List.mem_cons_of_mem _ (List.mem_append_left _ (List.mem_append_left _ (List.mem_of_getElem? (i := 1) rfl))))) dX12_view_106 ?_
          refine lv_imul hx hb dX12_view_109 ?_
          refine lv_iload hx hb dX12_view_110 (lv_at hl 4 rfl) ?_
          refine lv_iadd hx hb dX12_view_112 ?_
          refine lv_aload_n hx hb dX12_view_113 rfl (lv_at hl 0 rfl) ?_
          refine ng_3 hx hb hts in_x_view hown hK hP (hts _ (List.mem_cons_of_mem _ (List.mem_append_left _ (List.mem_append_left _ (List.mem_of_getElem? (i := 17) rfl))))) dX12_view_114 ?_
          refine lv_iload hx hb dX12_view_117 (lv_at hl 4 rfl) ?_
          obtain ⟨q2, h⟩ := nb_ite1 h
          refine nl_3 hx hb hK hP q2 dX12_view_119 ?_
          obtain ⟨q3, h⟩ := nb_ite1 h
          refine ns_54 hx hb hK hP hD hS q3 dX12_view_120 (fun H locs hP hD hS => ?_)
          exact ih.2.2.2.2.2.2.2.2.2.2.2.1 L (σ.1, σ.2.1, updG σ.2.2 54 (upd (σ.2.2 54) ((((32768 * ((σ.1 73)))) + ((L 4)))).toNatClampNeg ((σ.2.2 3 ((L 4)).toNatClampNeg)))) r h H locs ls hP hD hS (lv_sub hl [0, 1, 2, 3, 4] rfl)
      · intro L σ r h H locs ls hP hD hS hl
        rw [x_view] at h
        refine lv_iinc (v := ((L 4)) + 1) (lv' := [(4, .int (((L 4)) + 1)), (0, .ref (a 0)), (1, .int (L 1)), (2, .int (L 2)), (3, .int (L 3))]) hx hb dX12_view_121 hl (k := 4) rfl rfl (by decide) rfl (fun ls hl => ?_)
        refine lv_goto (tgt := 92) hx hb dX12_view_124 (by decide) ?_
        exact ih.2.2.2.2.2.2.2.2.2.2.1 (upd L 4 (((L 4)) + 1)) σ r h H locs ls hP hD hS (lv_sub hl [1, 2, 3, 4, 0] rfl)
      · intro L σ r h H locs ls hP hD hS hl
        rw [x_view] at h
        refine lv_aload_n hx hb dX12_view_127 rfl (lv_at hl 0 rfl) ?_
        refine ng_117 hx hb hts in_x_view hown hK hP (hts _ (List.mem_cons_of_mem _ (List.mem_append_left _ (List.mem_append_left _ (List.mem_of_getElem? (i := 18) rfl))))) dX12_view_128 ?_
        refine lv_aload_n hx hb dX12_view_131 rfl (lv_at hl 0 rfl) ?_
        refine ng_73 hx hb hts in_x_view hown hK hP (hts _ (List.mem_cons_of_mem _ (List.mem_append_left _ (List.mem_append_left _ (List.mem_of_getElem? (i := 1) rfl))))) dX12_view_132 ?_
        refine lv_iload_n hx hb dX12_view_135 rfl (lv_at hl 3 rfl) ?_
        obtain ⟨q1, h⟩ := nb_ite1 h
        refine ns_55 hx hb hK hP hD hS q1 dX12_view_136 (fun H locs hP hD hS => ?_)
        exact ih.2.2.2.2.2.2.2.2.2.2.2.2.2.1 L (σ.1, σ.2.1, updG σ.2.2 55 (upd (σ.2.2 55) ((σ.1 73)).toNatClampNeg ((L 3)))) r h H locs ls hP hD hS (lv_sub hl [0, 1, 2, 3, 4] rfl)
      · intro L σ r h H locs ls hP hD hS hl
        rw [x_view] at h
        refine lv_aload_n hx hb dX12_view_137 rfl (lv_at hl 0 rfl) ?_
        refine ng_74 hx hb hts in_x_view hown hK hP (hts _ (List.mem_cons_of_mem _ (List.mem_append_left _ (List.mem_append_left _ (List.mem_of_getElem? (i := 19) rfl))))) dX12_view_138 ?_
        refine lv_aload_n hx hb dX12_view_141 rfl (lv_at hl 0 rfl) ?_
        refine ng_73 hx hb hts in_x_view hown hK hP (hts _ (List.mem_cons_of_mem _ (List.mem_append_left _ (List.mem_append_left _ (List.mem_of_getElem? (i := 1) rfl))))) dX12_view_142 ?_
        refine lv_iconst (v := 0) hx hb dX12_view_145 (by decide) ?_
        obtain ⟨q1, h⟩ := nb_ite1 h
        refine ns_36 hx hb hK hP hD hS q1 dX12_view_146 (fun H locs hP hD hS => ?_)
        exact ih.2.2.2.2.2.2.2.2.2.2.2.2.2.2.1 L (σ.1, σ.2.1, updG σ.2.2 36 (upd (σ.2.2 36) ((σ.1 73)).toNatClampNeg 0)) r h H locs ls hP hD hS (lv_sub hl [0, 1, 2, 3, 4] rfl)
      · intro L σ r h H locs ls hP hD hS hl
        rw [x_view] at h
        refine lv_aload_n hx hb dX12_view_147 rfl (lv_at hl 0 rfl) ?_
        refine ng_75 hx hb hts in_x_view hown hK hP (hts _ (List.mem_cons_of_mem _ (List.mem_append_left _ (List.mem_append_left _ (List.mem_of_getElem? (i := 20) rfl))))) dX12_view_148 ?_
        refine lv_aload_n hx hb dX12_view_151 rfl (lv_at hl 0 rfl) ?_
        refine ng_73 hx hb hts in_x_view hown hK hP (hts _ (List.mem_cons_of_mem _ (List.mem_append_left _ (List.mem_append_left _ (List.mem_of_getElem? (i := 1) rfl))))) dX12_view_152 ?_
        refine lv_iconst (v := 0) hx hb dX12_view_155 (by decide) ?_
        obtain ⟨q1, h⟩ := nb_ite1 h
        refine ns_37 hx hb hK hP hD hS q1 dX12_view_156 (fun H locs hP hD hS => ?_)
        exact ih.2.2.2.2.2.2.2.2.2.2.2.2.2.2.2.1 L (σ.1, σ.2.1, updG σ.2.2 37 (upd (σ.2.2 37) ((σ.1 73)).toNatClampNeg 0)) r h H locs ls hP hD hS (lv_sub hl [0, 1, 2, 3, 4] rfl)
      · intro L σ r h H locs ls hP hD hS hl
        rw [x_view] at h
        refine lv_aload_n hx hb dX12_view_157 rfl (lv_at hl 0 rfl) ?_
        refine ng_76 hx hb hts in_x_view hown hK hP (hts _ (List.mem_cons_of_mem _ (List.mem_append_left _ (List.mem_append_left _ (List.mem_of_getElem? (i := 21) rfl))))) dX12_view_158 ?_
        refine lv_aload_n hx hb dX12_view_161 rfl (lv_at hl 0 rfl) ?_
        refine ng_73 hx hb hts in_x_view hown hK hP (hts _ (List.mem_cons_of_mem _ (List.mem_append_left _ (List.mem_append_left _ (List.mem_of_getElem? (i := 1) rfl))))) dX12_view_162 ?_
        refine lv_iconst (v := 0) hx hb dX12_view_165 (by decide) ?_
        obtain ⟨q1, h⟩ := nb_ite1 h
        refine ns_38 hx hb hK hP hD hS q1 dX12_view_166 (fun H locs hP hD hS => ?_)
        exact ih.2.2.2.2.2.2.2.2.2.2.2.2.2.2.2.2.1 L (σ.1, σ.2.1, updG σ.2.2 38 (upd (σ.2.2 38) ((σ.1 73)).toNatClampNeg 0)) r h H locs ls hP hD hS (lv_sub hl [0, 1, 2, 3, 4] rfl)
      · intro L σ r h H locs ls hP hD hS hl
        rw [x_view] at h
        refine lv_aload_n hx hb dX12_view_167 rfl (lv_at hl 0 rfl) ?_
        refine ng_77 hx hb hts in_x_view hown hK hP (hts _ (List.mem_cons_of_mem _ (List.mem_append_left _ (List.mem_append_left _ (List.mem_of_getElem? (i := 22) rfl))))) dX12_view_168 ?_
        refine lv_aload_n hx hb dX12_view_171 rfl (lv_at hl 0 rfl) ?_
        refine ng_73 hx hb hts in_x_view hown hK hP (hts _ (List.mem_cons_of_mem _ (List.mem_append_left _ (List.mem_append_left _ (List.mem_of_getElem? (i := 1) rfl))))) dX12_view_172 ?_
        refine lv_iconst (v := 0) hx hb dX12_view_175 (by decide) ?_
        obtain ⟨q1, h⟩ := nb_ite1 h
        refine ns_39 hx hb hK hP hD hS q1 dX12_view_176 (fun H locs hP hD hS => ?_)
        exact ih.2.2.2.2.2.2.2.2.2.2.2.2.2.2.2.2.2.1 L (σ.1, σ.2.1, updG σ.2.2 39 (upd (σ.2.2 39) ((σ.1 73)).toNatClampNeg (vp_nar .boolean 0))) r h H locs ls hP hD hS (lv_sub hl [0, 1, 2, 3, 4] rfl)
      · intro L σ r h H locs ls hP hD hS hl
        rw [x_view] at h
        refine lv_aload_n hx hb dX12_view_177 rfl (lv_at hl 0 rfl) ?_
        refine lv_iconst (v := 0) hx hb dX12_view_178 (by decide) ?_
        refine np_4 hx hb hts in_x_view hown hK hP hD hS (hts _ (List.mem_cons_of_mem _ (List.mem_append_left _ (List.mem_append_left _ (List.mem_of_getElem? (i := 9) rfl))))) dX12_view_179 (fun H locs hP hD hS => ?_)
        exact ih.2.2.2.2.2.2.2.2.2.2.2.2.2.2.2.2.2.2.1 L (upd σ.1 4 0, σ.2.1, σ.2.2) r h H locs ls hP hD hS (lv_sub hl [0, 1, 2, 3, 4] rfl)
      · intro L σ r h H locs ls hP hD hS hl
        rw [x_view] at h
        refine lv_aload_n hx hb dX12_view_182 rfl (lv_at hl 0 rfl) ?_
        refine lv_dup hx hb dX12_view_183 rfl ?_
        refine ng_73 hx hb hts in_x_view hown hK hP (hts _ (List.mem_cons_of_mem _ (List.mem_append_left _ (List.mem_append_left _ (List.mem_of_getElem? (i := 1) rfl))))) dX12_view_184 ?_
        refine lv_iconst (v := 1) hx hb dX12_view_187 (by decide) ?_
        refine lv_iadd hx hb dX12_view_188 ?_
        refine np_73 hx hb hts in_x_view hown hK hP hD hS (hts _ (List.mem_cons_of_mem _ (List.mem_append_left _ (List.mem_append_left _ (List.mem_of_getElem? (i := 1) rfl))))) dX12_view_189 (fun H locs hP hD hS => ?_)
        exact ih.2.2.2.2.2.2.2.2.2.2.2.2.2.2.2.2.2.2.2 L (upd σ.1 73 ((((σ.1 73)) + 1)), σ.2.1, σ.2.2) r h H locs ls hP hD hS (lv_sub hl [0, 1, 2, 3, 4] rfl)
      · intro L σ r h H locs ls hP hD hS hl
        rw [x_view] at h
        refine lv_aload_n hx hb dX12_view_192 rfl (lv_at hl 0 rfl) ?_
        refine ng_73 hx hb hts in_x_view hown hK hP (hts _ (List.mem_cons_of_mem _ (List.mem_append_left _ (List.mem_append_left _ (List.mem_of_getElem? (i := 1) rfl))))) dX12_view_193 ?_
        refine lv_iconst (v := 1) hx hb dX12_view_196 (by decide) ?_
        refine lv_isub hx hb dX12_view_197 ?_
        cases h
        exact W.iret (v := (((σ.1 73)) - 1)) hx hb hr (fun t ht hW => ⟨⟨(((σ.1 73)) - 1), (), rfl, rfl, by rw [ht]; exact hP, va_K.moved hW.alike hK, hD⟩, hS.F ht⟩) hS.2.2 dX12_view_198
  exact (blk k0).1 L0 σ0 r0 h0 s.heap [] ls hP hD hS hl
/-! load__54 -/
def x_load__54 : Nat → Nat → (Nat → Int32) → MS → Option (Int32 × MS)
  | 0, _, _, _ => none
  | k + 1, 0, L, σ => x_load__54 k 1 (upd L 4 0) σ
  | k + 1, 1, L, σ => if ((L 3)) ≤ ((L 4)) then (x_load__54 k 3 L σ) else (if ¬ (((((L 2)) + ((L 4)))) < 0 ∨ 262144 ≤ ((((L 2)) + ((L 4)))).toNatClampNeg) then (if ¬ (((L 4)) < 0 ∨ 32768 ≤ ((L 4)).toNatClampNeg) then (x_load__54 k 2 L (σ.1, σ.2.1, updG σ.2.2 3 (upd (σ.2.2 3) ((L 4)).toNatClampNeg ((σ.2.2 54 ((((L 2)) + ((L 4)))).toNatClampNeg))))) else none) else none)
  | k + 1, 2, L, σ => x_load__54 k 1 (upd L 4 (((L 4)) + 1)) σ
  | k + 1, 3, L, σ => some (0, (upd σ.1 4 ((L 3)), σ.2.1, σ.2.2))
  | _ + 1, _ + 4, _, _ => none
def o_x_load__54 : List Cond := [.fieldLink RX12 7 "SetHouseModel" "tape" "[I", .fieldLink RX12 1 "SetHouseModel" "taped" "I"]
theorem o_x_load__54_good : o_x_load__54.all goodWord = true := by decide +kernel
def p_x_load__54 : List Cond := o_x_load__54 ++ []
theorem p_x_load__54_good : p_x_load__54.all goodWord = true := nb_all2 o_x_load__54_good rfl
def w_x_load__54 : List Cond := .code yX12_load cX12_load 5 none :: (p_x_load__54 ++ fM)
theorem w_x_load__54_good : w_x_load__54.all goodWord = true := nb_allc (by decide +kernel) (nb_all2 p_x_load__54_good fM_good)
theorem in_x_load__54 : ∀ w ∈ wsX120, w ∈ w_x_load__54 := fun _ h => List.mem_cons_of_mem _ (List.mem_append_right _ h)
theorem hd_x_load__54 : yX12_load.cls = RX12 ∧ yX12_load.cls ≠ "java/lang/invoke/MethodHandle" ∧ yX12_load.cls ≠ "java/lang/invoke/VarHandle" ∧ (parseMethodDescriptor yX12_load.desc).map (fun d => d.parameters.length) = some 3 := by decide +kernel
set_option maxHeartbeats 40000000 in
set_option maxRecDepth 100000 in
theorem c_x_load__54 (l : Launch) (dC : Nat → ClassId) (dI : Nat → Nat → Nat) (cy : Nat → ClassId) (a : Nat → Nat) (k0 : Nat) (L0 : Nat → Int32) (σ0 : MS) (r0 : Int32 × MS) (h0 : x_load__54 k0 0 L0 σ0 = some r0) (sz : Nat) : Met l yX12_load w_x_load__54 ({ frames := 0, cells := 0, slots := 0, locals := 0 }) (va_Pc [.ref (a 0), .ref (a 54), .int (L0 2), .int (L0 3)] (nIn (dC, dI) cy sz (vM cy a σ0))) (va_Qv (fun _ : Unit => True) (fun _ t => nOut (dC, dI) cy (va_A (vM cy a σ0) sz) (vM cy a r0.2) t) (va_A (vM cy a σ0) sz)) 0 0 (va_A (vM cy a σ0) sz) := by
  refine Met.ofW (cc := cX12_load) (maxL := 5) (ret := none) (by decide) rfl ?_
  intro p e s m args below meth c s₁ B hml hv
  obtain ⟨rfl, hsz, hP, hK, hD0, hG⟩ := hv
  have hx := B.exec
  have hb := B.bytes
  have hr := B.returns
  have hts := atoms_spec (ws := w_x_load__54) B.pre
  have hown : s.vm.findClass RX12 = some m.cls := findClass_of_methodNamed B.named
  have hlocks := B.notSynchronized
  subst hsz
  have hD := hD0.self (sz := s.heap.size)
  generalize hAe : va_A (vM cy a σ0) s.heap.size = A at hD ⊢
  have hA : ∀ q : Nat, s.heap.size ≤ q → A q := fun q h => by rw [← hAe]; exact Or.inr h
  have hS : va_S A s.heap s.heap [] := va_S.rf
  have hl := lv_entry ([.ref (a 0), .ref (a 54), .int (L0 2), .int (L0 3)]) (n := 5) (Nat.le_of_ble_eq_true rfl)
  rw [lg_entry_eq]
  generalize (lg_sl ([.ref (a 0), .ref (a 54), .int (L0 2), .int (L0 3)]) ++ List.replicate (5 - (lg_sl ([.ref (a 0), .ref (a 54), .int (L0 2), .int (L0 3)])).length) Slot.unset).toArray = ls at hl ⊢
  have hl : lv_has ls 5 [(0, .ref (a 0)), (1, .ref (a 54)), (2, .int (L0 2)), (3, .int (L0 3))] := hl
  have blk : ∀ k : Nat, (bT p l e (headSpec w_x_load__54 ({ frames := 0, cells := 0, slots := 0, locals := 0 })).room s m #[.ref (a 0), .ref (a 54), .int (L0 2), .int (L0 3)] below meth c dC dI cy a A (qV dC dI cy a A below #[.ref (a 0), .ref (a 54), .int (L0 2), .int (L0 3)] s) 5 (x_load__54 k 0) (fun L => [(0, .ref (a 0)), (1, .ref (a 54)), (2, .int (L 2)), (3, .int (L 3))]) 0 (fun L => [])) ∧ (bT p l e (headSpec w_x_load__54 ({ frames := 0, cells := 0, slots := 0, locals := 0 })).room s m #[.ref (a 0), .ref (a 54), .int (L0 2), .int (L0 3)] below meth c dC dI cy a A (qV dC dI cy a A below #[.ref (a 0), .ref (a 54), .int (L0 2), .int (L0 3)] s) 5 (x_load__54 k 1) (fun L => [(0, .ref (a 0)), (1, .ref (a 54)), (2, .int (L 2)), (3, .int (L 3)), (4, .int (L 4))]) 3 (fun L => [])) ∧ (bT p l e (headSpec w_x_load__54 ({ frames := 0, cells := 0, slots := 0, locals := 0 })).room s m #[.ref (a 0), .ref (a 54), .int (L0 2), .int (L0 3)] below meth c dC dI cy a A (qV dC dI cy a A below #[.ref (a 0), .ref (a 54), .int (L0 2), .int (L0 3)] s) 5 (x_load__54 k 2) (fun L => [(0, .ref (a 0)), (1, .ref (a 54)), (2, .int (L 2)), (3, .int (L 3)), (4, .int (L 4))]) 22 (fun L => [])) ∧ (bT p l e (headSpec w_x_load__54 ({ frames := 0, cells := 0, slots := 0, locals := 0 })).room s m #[.ref (a 0), .ref (a 54), .int (L0 2), .int (L0 3)] below meth c dC dI cy a A (qV dC dI cy a A below #[.ref (a 0), .ref (a 54), .int (L0 2), .int (L0 3)] s) 5 (x_load__54 k 3) (fun L => [(0, .ref (a 0)), (1, .ref (a 54)), (2, .int (L 2)), (3, .int (L 3)), (4, .int (L 4))]) 28 (fun L => [])) := by
    intro k
    induction k with
    | zero => exact ⟨fun L σ r h => (by cases h), fun L σ r h => (by cases h), fun L σ r h => (by cases h), fun L σ r h => (by cases h)⟩
    | succ k ih =>
      refine ⟨?_, ?_, ?_, ?_⟩
      · intro L σ r h H locs ls hP hD hS hl
        rw [x_load__54] at h
        refine lv_iconst (v := 0) hx hb dX12_load_0 (by decide) ?_
        refine lv_istore (lv' := [(4, .int 0), (0, .ref (a 0)), (1, .ref (a 54)), (2, .int (L 2)), (3, .int (L 3))]) hx hb dX12_load_1 hl (by decide) rfl (fun ls hl => ?_)
        exact ih.2.1 (upd L 4 0) σ r h H locs ls hP hD hS (lv_sub hl [1, 2, 3, 4, 0] rfl)
      · intro L σ r h H locs ls hP hD hS hl
        rw [x_load__54] at h
        refine lv_iload hx hb dX12_load_3 (lv_at hl 4 rfl) ?_
        refine lv_iload_n hx hb dX12_load_5 rfl (lv_at hl 3 rfl) ?_
        refine lv_icmp_ge (tgt := 28) hx hb dX12_load_6 (by decide) (fun c1 => ?_) (fun c1 => ?_)
        · rw [if_pos c1] at h
          exact ih.2.2.2 L σ r h H locs ls hP hD hS (lv_sub hl [0, 1, 2, 3, 4] rfl)
        · rw [if_neg c1] at h
          refine lv_aload_n hx hb dX12_load_9 rfl (lv_at hl 0 rfl) ?_
          refine ng_3 hx hb hts in_x_load__54 hown hK hP (hts _ (List.mem_cons_of_mem _ (List.mem_append_left _ (List.mem_append_left _ (List.mem_of_getElem? (i := 0) rfl))))) dX12_load_10 ?_
          refine lv_iload hx hb dX12_load_13 (lv_at hl 4 rfl) ?_
          refine lv_aload_n hx hb dX12_load_15 rfl (lv_at hl 1 rfl) ?_
          refine lv_iload_n hx hb dX12_load_16 rfl (lv_at hl 2 rfl) ?_
          refine lv_iload hx hb dX12_load_17 (lv_at hl 4 rfl) ?_
          refine lv_iadd hx hb dX12_load_19 ?_
          obtain ⟨q2, h⟩ := nb_ite1 h
          refine nl_54 hx hb hK hP q2 dX12_load_20 ?_
          obtain ⟨q3, h⟩ := nb_ite1 h
          refine ns_3 hx hb hK hP hD hS q3 dX12_load_21 (fun H locs hP hD hS => ?_)
          exact ih.2.2.1 L (σ.1, σ.2.1, updG σ.2.2 3 (upd (σ.2.2 3) ((L 4)).toNatClampNeg ((σ.2.2 54 ((((L 2)) + ((L 4)))).toNatClampNeg)))) r h H locs ls hP hD hS (lv_sub hl [0, 1, 2, 3, 4] rfl)
      · intro L σ r h H locs ls hP hD hS hl
        rw [x_load__54] at h
        refine lv_iinc (v := ((L 4)) + 1) (lv' := [(4, .int (((L 4)) + 1)), (0, .ref (a 0)), (1, .ref (a 54)), (2, .int (L 2)), (3, .int (L 3))]) hx hb dX12_load_22 hl (k := 4) rfl rfl (by decide) rfl (fun ls hl => ?_)
        refine lv_goto (tgt := 3) hx hb dX12_load_25 (by decide) ?_
        exact ih.2.1 (upd L 4 (((L 4)) + 1)) σ r h H locs ls hP hD hS (lv_sub hl [1, 2, 3, 4, 0] rfl)
      · intro L σ r h H locs ls hP hD hS hl
        rw [x_load__54] at h
        refine lv_aload_n hx hb dX12_load_28 rfl (lv_at hl 0 rfl) ?_
        refine lv_iload_n hx hb dX12_load_29 rfl (lv_at hl 3 rfl) ?_
        refine np_4 hx hb hts in_x_load__54 hown hK hP hD hS (hts _ (List.mem_cons_of_mem _ (List.mem_append_left _ (List.mem_append_left _ (List.mem_of_getElem? (i := 1) rfl))))) dX12_load_30 (fun H locs hP hD hS => ?_)
        cases h
        exact W.vret hx hb hr (fun t ht hW => ⟨⟨(), rfl, trivial, by rw [ht]; exact hP, va_K.moved hW.alike hK, hD⟩, hS.F ht⟩) hS.2.2 dX12_load_33
  exact (blk k0).1 L0 σ0 r0 h0 s.heap [] ls hP hD hS hl
/-! load__56 -/
def x_load__56 : Nat → Nat → (Nat → Int32) → MS → Option (Int32 × MS)
  | 0, _, _, _ => none
  | k + 1, 0, L, σ => x_load__56 k 1 (upd L 4 0) σ
  | k + 1, 1, L, σ => if ((L 3)) ≤ ((L 4)) then (x_load__56 k 3 L σ) else (if ¬ (((((L 2)) + ((L 4)))) < 0 ∨ 32768 ≤ ((((L 2)) + ((L 4)))).toNatClampNeg) then (if ¬ (((L 4)) < 0 ∨ 32768 ≤ ((L 4)).toNatClampNeg) then (x_load__56 k 2 L (σ.1, σ.2.1, updG σ.2.2 3 (upd (σ.2.2 3) ((L 4)).toNatClampNeg ((σ.2.2 56 ((((L 2)) + ((L 4)))).toNatClampNeg))))) else none) else none)
  | k + 1, 2, L, σ => x_load__56 k 1 (upd L 4 (((L 4)) + 1)) σ
  | k + 1, 3, L, σ => some (0, (upd σ.1 4 ((L 3)), σ.2.1, σ.2.2))
  | _ + 1, _ + 4, _, _ => none
def o_x_load__56 : List Cond := [.fieldLink RX12 7 "SetHouseModel" "tape" "[I", .fieldLink RX12 1 "SetHouseModel" "taped" "I"]
theorem o_x_load__56_good : o_x_load__56.all goodWord = true := by decide +kernel
def p_x_load__56 : List Cond := o_x_load__56 ++ []
theorem p_x_load__56_good : p_x_load__56.all goodWord = true := nb_all2 o_x_load__56_good rfl
def w_x_load__56 : List Cond := .code yX12_load cX12_load 5 none :: (p_x_load__56 ++ fM)
theorem w_x_load__56_good : w_x_load__56.all goodWord = true := nb_allc (by decide +kernel) (nb_all2 p_x_load__56_good fM_good)
theorem in_x_load__56 : ∀ w ∈ wsX120, w ∈ w_x_load__56 := fun _ h => List.mem_cons_of_mem _ (List.mem_append_right _ h)
theorem hd_x_load__56 : yX12_load.cls = RX12 ∧ yX12_load.cls ≠ "java/lang/invoke/MethodHandle" ∧ yX12_load.cls ≠ "java/lang/invoke/VarHandle" ∧ (parseMethodDescriptor yX12_load.desc).map (fun d => d.parameters.length) = some 3 := by decide +kernel
set_option maxHeartbeats 40000000 in
set_option maxRecDepth 100000 in
theorem c_x_load__56 (l : Launch) (dC : Nat → ClassId) (dI : Nat → Nat → Nat) (cy : Nat → ClassId) (a : Nat → Nat) (k0 : Nat) (L0 : Nat → Int32) (σ0 : MS) (r0 : Int32 × MS) (h0 : x_load__56 k0 0 L0 σ0 = some r0) (sz : Nat) : Met l yX12_load w_x_load__56 ({ frames := 0, cells := 0, slots := 0, locals := 0 }) (va_Pc [.ref (a 0), .ref (a 56), .int (L0 2), .int (L0 3)] (nIn (dC, dI) cy sz (vM cy a σ0))) (va_Qv (fun _ : Unit => True) (fun _ t => nOut (dC, dI) cy (va_A (vM cy a σ0) sz) (vM cy a r0.2) t) (va_A (vM cy a σ0) sz)) 0 0 (va_A (vM cy a σ0) sz) := by
  refine Met.ofW (cc := cX12_load) (maxL := 5) (ret := none) (by decide) rfl ?_
  intro p e s m args below meth c s₁ B hml hv
  obtain ⟨rfl, hsz, hP, hK, hD0, hG⟩ := hv
  have hx := B.exec
  have hb := B.bytes
  have hr := B.returns
  have hts := atoms_spec (ws := w_x_load__56) B.pre
  have hown : s.vm.findClass RX12 = some m.cls := findClass_of_methodNamed B.named
  have hlocks := B.notSynchronized
  subst hsz
  have hD := hD0.self (sz := s.heap.size)
  generalize hAe : va_A (vM cy a σ0) s.heap.size = A at hD ⊢
  have hA : ∀ q : Nat, s.heap.size ≤ q → A q := fun q h => by rw [← hAe]; exact Or.inr h
  have hS : va_S A s.heap s.heap [] := va_S.rf
  have hl := lv_entry ([.ref (a 0), .ref (a 56), .int (L0 2), .int (L0 3)]) (n := 5) (Nat.le_of_ble_eq_true rfl)
  rw [lg_entry_eq]
  generalize (lg_sl ([.ref (a 0), .ref (a 56), .int (L0 2), .int (L0 3)]) ++ List.replicate (5 - (lg_sl ([.ref (a 0), .ref (a 56), .int (L0 2), .int (L0 3)])).length) Slot.unset).toArray = ls at hl ⊢
  have hl : lv_has ls 5 [(0, .ref (a 0)), (1, .ref (a 56)), (2, .int (L0 2)), (3, .int (L0 3))] := hl
  have blk : ∀ k : Nat, (bT p l e (headSpec w_x_load__56 ({ frames := 0, cells := 0, slots := 0, locals := 0 })).room s m #[.ref (a 0), .ref (a 56), .int (L0 2), .int (L0 3)] below meth c dC dI cy a A (qV dC dI cy a A below #[.ref (a 0), .ref (a 56), .int (L0 2), .int (L0 3)] s) 5 (x_load__56 k 0) (fun L => [(0, .ref (a 0)), (1, .ref (a 56)), (2, .int (L 2)), (3, .int (L 3))]) 0 (fun L => [])) ∧ (bT p l e (headSpec w_x_load__56 ({ frames := 0, cells := 0, slots := 0, locals := 0 })).room s m #[.ref (a 0), .ref (a 56), .int (L0 2), .int (L0 3)] below meth c dC dI cy a A (qV dC dI cy a A below #[.ref (a 0), .ref (a 56), .int (L0 2), .int (L0 3)] s) 5 (x_load__56 k 1) (fun L => [(0, .ref (a 0)), (1, .ref (a 56)), (2, .int (L 2)), (3, .int (L 3)), (4, .int (L 4))]) 3 (fun L => [])) ∧ (bT p l e (headSpec w_x_load__56 ({ frames := 0, cells := 0, slots := 0, locals := 0 })).room s m #[.ref (a 0), .ref (a 56), .int (L0 2), .int (L0 3)] below meth c dC dI cy a A (qV dC dI cy a A below #[.ref (a 0), .ref (a 56), .int (L0 2), .int (L0 3)] s) 5 (x_load__56 k 2) (fun L => [(0, .ref (a 0)), (1, .ref (a 56)), (2, .int (L 2)), (3, .int (L 3)), (4, .int (L 4))]) 22 (fun L => [])) ∧ (bT p l e (headSpec w_x_load__56 ({ frames := 0, cells := 0, slots := 0, locals := 0 })).room s m #[.ref (a 0), .ref (a 56), .int (L0 2), .int (L0 3)] below meth c dC dI cy a A (qV dC dI cy a A below #[.ref (a 0), .ref (a 56), .int (L0 2), .int (L0 3)] s) 5 (x_load__56 k 3) (fun L => [(0, .ref (a 0)), (1, .ref (a 56)), (2, .int (L 2)), (3, .int (L 3)), (4, .int (L 4))]) 28 (fun L => [])) := by
    intro k
    induction k with
    | zero => exact ⟨fun L σ r h => (by cases h), fun L σ r h => (by cases h), fun L σ r h => (by cases h), fun L σ r h => (by cases h)⟩
    | succ k ih =>
      refine ⟨?_, ?_, ?_, ?_⟩
      · intro L σ r h H locs ls hP hD hS hl
        rw [x_load__56] at h
        refine lv_iconst (v := 0) hx hb dX12_load_0 (by decide) ?_
        refine lv_istore (lv' := [(4, .int 0), (0, .ref (a 0)), (1, .ref (a 56)), (2, .int (L 2)), (3, .int (L 3))]) hx hb dX12_load_1 hl (by decide) rfl (fun ls hl => ?_)
        exact ih.2.1 (upd L 4 0) σ r h H locs ls hP hD hS (lv_sub hl [1, 2, 3, 4, 0] rfl)
      · intro L σ r h H locs ls hP hD hS hl
        rw [x_load__56] at h
        refine lv_iload hx hb dX12_load_3 (lv_at hl 4 rfl) ?_
        refine lv_iload_n hx hb dX12_load_5 rfl (lv_at hl 3 rfl) ?_
        refine lv_icmp_ge (tgt := 28) hx hb dX12_load_6 (by decide) (fun c1 => ?_) (fun c1 => ?_)
        · rw [if_pos c1] at h
          exact ih.2.2.2 L σ r h H locs ls hP hD hS (lv_sub hl [0, 1, 2, 3, 4] rfl)
        · rw [if_neg c1] at h
          refine lv_aload_n hx hb dX12_load_9 rfl (lv_at hl 0 rfl) ?_
          refine ng_3 hx hb hts in_x_load__56 hown hK hP (hts _ (List.mem_cons_of_mem _ (List.mem_append_left _ (List.mem_append_left _ (List.mem_of_getElem? (i := 0) rfl))))) dX12_load_10 ?_
          refine lv_iload hx hb dX12_load_13 (lv_at hl 4 rfl) ?_
          refine lv_aload_n hx hb dX12_load_15 rfl (lv_at hl 1 rfl) ?_
          refine lv_iload_n hx hb dX12_load_16 rfl (lv_at hl 2 rfl) ?_
          refine lv_iload hx hb dX12_load_17 (lv_at hl 4 rfl) ?_
          refine lv_iadd hx hb dX12_load_19 ?_
          obtain ⟨q2, h⟩ := nb_ite1 h
          refine nl_56 hx hb hK hP q2 dX12_load_20 ?_
          obtain ⟨q3, h⟩ := nb_ite1 h
          refine ns_3 hx hb hK hP hD hS q3 dX12_load_21 (fun H locs hP hD hS => ?_)
          exact ih.2.2.1 L (σ.1, σ.2.1, updG σ.2.2 3 (upd (σ.2.2 3) ((L 4)).toNatClampNeg ((σ.2.2 56 ((((L 2)) + ((L 4)))).toNatClampNeg)))) r h H locs ls hP hD hS (lv_sub hl [0, 1, 2, 3, 4] rfl)
      · intro L σ r h H locs ls hP hD hS hl
        rw [x_load__56] at h
        refine lv_iinc (v := ((L 4)) + 1) (lv' := [(4, .int (((L 4)) + 1)), (0, .ref (a 0)), (1, .ref (a 56)), (2, .int (L 2)), (3, .int (L 3))]) hx hb dX12_load_22 hl (k := 4) rfl rfl (by decide) rfl (fun ls hl => ?_)
        refine lv_goto (tgt := 3) hx hb dX12_load_25 (by decide) ?_
        exact ih.2.1 (upd L 4 (((L 4)) + 1)) σ r h H locs ls hP hD hS (lv_sub hl [1, 2, 3, 4, 0] rfl)
      · intro L σ r h H locs ls hP hD hS hl
        rw [x_load__56] at h
        refine lv_aload_n hx hb dX12_load_28 rfl (lv_at hl 0 rfl) ?_
        refine lv_iload_n hx hb dX12_load_29 rfl (lv_at hl 3 rfl) ?_
        refine np_4 hx hb hts in_x_load__56 hown hK hP hD hS (hts _ (List.mem_cons_of_mem _ (List.mem_append_left _ (List.mem_append_left _ (List.mem_of_getElem? (i := 1) rfl))))) dX12_load_30 (fun H locs hP hD hS => ?_)
        cases h
        exact W.vret hx hb hr (fun t ht hW => ⟨⟨(), rfl, trivial, by rw [ht]; exact hP, va_K.moved hW.alike hK, hD⟩, hS.F ht⟩) hS.2.2 dX12_load_33
  exact (blk k0).1 L0 σ0 r0 h0 s.heap [] ls hP hD hS hl
/-! round -/
def x_round : Nat → Nat → (Nat → Int32) → MS → Option (Int32 × MS)
  | 0, _, _, _ => none
  | k + 1, 0, L, σ => if ((σ.1 112)) = 0 then (x_round k 1 L σ) else (x_round k 2 (upd L 100 0) σ)
  | k + 1, 1, L, σ => x_round k 2 (upd L 100 1) σ
  | k + 1, 2, L, σ => ob (x_good k 0 (upd (fun _ => 0) 1 ((L 100))) σ) (fun r1 => if r1.1 = 0 then (some (0, r1.2)) else (x_round k 3 L r1.2))
  | k + 1, 3, L, σ => x_round k 4 (upd (upd (upd L 1 0) 2 ((σ.1 4))) 3 0) σ
  | k + 1, 4, L, σ => if ((L 2)) ≤ ((L 3)) then (x_round k 6 L σ) else (if ¬ (((L 3)) < 0 ∨ 32768 ≤ ((L 3)).toNatClampNeg) then (if ¬ (((L 3)) < 0 ∨ 32768 ≤ ((L 3)).toNatClampNeg) then (x_round k 5 L (σ.1, σ.2.1, updG σ.2.2 56 (upd (σ.2.2 56) ((L 3)).toNatClampNeg ((σ.2.2 3 ((L 3)).toNatClampNeg))))) else none) else none)
  | k + 1, 5, L, σ => x_round k 4 (upd L 3 (((L 3)) + 1)) σ
  | k + 1, 6, L, σ => x_round k 7 (upd (upd (upd (upd L 3 ((σ.1 22))) 4 ((σ.1 24))) 5 ((σ.1 11))) 6 0) σ
  | k + 1, 7, L, σ => if ((σ.1 73)) ≤ ((L 6)) then (x_round k 30 L σ) else (if ¬ (((L 6)) < 0 ∨ 8 ≤ ((L 6)).toNatClampNeg) then (ob (x_load__54 k 0 (upd (upd (fun _ => 0) 2 ((32768 * ((L 6))))) 3 ((σ.2.2 55 ((L 6)).toNatClampNeg))) σ) (fun r3 => ob (x_readExp k 0 (upd (fun _ => 0) 1 0) r3.2) (fun r4 => ob (x_workAlone k 0 (upd (fun _ => 0) 1 r4.1) r4.2) (fun r5 => x_round k 8 L (upd r5.2.1 22 ((L 3)), r5.2.2.1, r5.2.2.2))))) else none)
  | k + 1, 8, L, σ => x_round k 9 L (upd σ.1 24 ((L 4)), σ.2.1, σ.2.2)
  | k + 1, 9, L, σ => if ((σ.1 56)) ≤ 0 then (x_round k 10 L σ) else (x_round k 11 (upd L 100 0) σ)
  | k + 1, 10, L, σ => ob (x_pop k 0 (fun _ => 0) σ) (fun r1 => x_round k 11 (upd L 100 r1.1) r1.2)
  | k + 1, 11, L, σ => x_round k 12 (upd L 7 ((L 100))) (upd σ.1 56 0, σ.2.1, σ.2.2)
  | k + 1, 12, L, σ => if ¬ (((L 6)) < 0 ∨ 8 ≤ ((L 6)).toNatClampNeg) then (x_round k 13 L (σ.1, σ.2.1, updG σ.2.2 39 (upd (σ.2.2 39) ((L 6)).toNatClampNeg (vp_nar .boolean 1)))) else none
  | k + 1, 13, L, σ => if ¬ (((L 6)) < 0 ∨ 8 ≤ ((L 6)).toNatClampNeg) then (ob (x_compare k 0 (upd (upd (fun _ => 0) 1 ((L 7))) 2 ((σ.2.2 36 ((L 6)).toNatClampNeg))) σ) (fun r2 => if r2.1 = 0 then (x_round k 14 (upd L 8 ((σ.2.2 36 ((L 6)).toNatClampNeg))) r2.2) else (x_round k 15 (upd (upd L 8 ((σ.2.2 36 ((L 6)).toNatClampNeg))) 100 1) r2.2))) else none
  | k + 1, 14, L, σ => x_round k 15 (upd L 100 0) σ
  | k + 1, 15, L, σ => ob (x_kind k 0 (upd (fun _ => 0) 1 ((L 7))) σ) (fun r1 => if r1.1 = 6 then (ob (x_kind k 0 (upd (fun _ => 0) 1 ((L 8))) r1.2) (fun r3 => if r3.1 = 6 then (x_round k 17 (upd (upd L 9 ((L 100))) 100 1) r3.2) else (x_round k 16 (upd L 9 ((L 100))) r3.2))) else (x_round k 16 (upd L 9 ((L 100))) r1.2))
  | k + 1, 16, L, σ => x_round k 17 (upd L 100 0) σ
  | k + 1, 17, L, σ => x_round k 18 (upd L 10 ((L 100))) (upd σ.1 59 0, σ.2.1, σ.2.2)
  | k + 1, 18, L, σ => if ((L 9)) = 0 then (ob (x_setOf k 0 (upd (fun _ => 0) 1 0) σ) (fun r2 => x_round k 21 (upd L 100 r2.1) r2.2)) else (x_round k 19 L σ)
  | k + 1, 19, L, σ => if ((L 10)) = 0 then (x_round k 20 L σ) else (ob (x_sift k 0 (upd (upd (upd (fun _ => 0) 1 ((L 7))) 2 ((L 8))) 3 0) σ) (fun r2 => x_round k 21 (upd L 100 r2.1) r2.2))
  | k + 1, 20, L, σ => x_round k 21 (upd L 100 ((L 7))) σ
  | k + 1, 21, L, σ => if ((L 9)) = 0 then (ob (x_setOf k 0 (upd (fun _ => 0) 1 0) σ) (fun r2 => x_round k 24 (upd (upd L 11 ((L 100))) 100 r2.1) r2.2)) else (x_round k 22 (upd L 11 ((L 100))) σ)
  | k + 1, 22, L, σ => if ((L 10)) = 0 then (x_round k 23 L σ) else (ob (x_sift k 0 (upd (upd (upd (fun _ => 0) 1 ((L 8))) 2 ((L 7))) 3 0) σ) (fun r2 => x_round k 24 (upd L 100 r2.1) r2.2))
  | k + 1, 23, L, σ => x_round k 24 (upd L 100 ((L 8))) σ
  | k + 1, 24, L, σ => if ¬ (((L 6)) < 0 ∨ 8 ≤ ((L 6)).toNatClampNeg) then (x_round k 25 (upd L 12 ((L 100))) (σ.1, σ.2.1, updG σ.2.2 36 (upd (σ.2.2 36) ((L 6)).toNatClampNeg ((L 7))))) else none
  | k + 1, 25, L, σ => if ¬ (((L 6)) < 0 ∨ 8 ≤ ((L 6)).toNatClampNeg) then (x_round k 26 L (σ.1, σ.2.1, updG σ.2.2 37 (upd (σ.2.2 37) ((L 6)).toNatClampNeg ((L 11))))) else none
  | k + 1, 26, L, σ => if ¬ (((L 6)) < 0 ∨ 8 ≤ ((L 6)).toNatClampNeg) then (x_round k 27 L (σ.1, σ.2.1, updG σ.2.2 38 (upd (σ.2.2 38) ((L 6)).toNatClampNeg ((L 12))))) else none
  | k + 1, 27, L, σ => if ((L 9)) = 0 then (x_round k 28 (upd L 100 ((L 1))) σ) else (x_round k 29 (upd (upd L 100 1) 101 ((L 1))) σ)
  | k + 1, 28, L, σ => x_round k 29 (upd (upd L 100 0) 101 ((L 100))) σ
  | k + 1, 29, L, σ => x_round k 7 (upd (upd L 1 ((((L 101)) + ((L 100))))) 6 (((L 6)) + 1)) σ
  | k + 1, 30, L, σ => ob (x_load__56 k 0 (upd (upd (fun _ => 0) 2 0) 3 ((L 2))) σ) (fun r1 => x_round k 31 L (upd r1.2.1 11 ((L 5)), r1.2.2.1, r1.2.2.2))
  | k + 1, 31, L, σ => some ((L 1), σ)
  | _ + 1, _ + 32, _, _ => none
def o_x_round : List Cond := [.fieldLink RX12 1044 "SetHouseModel" "isRun" "Z", .methodLink RX12 1050 yX12_good, .instanceMethod yX12_good, .selects RX12 yX12_good yX12_good, .initialized RX12, .fieldLink RX12 1 "SetHouseModel" "taped" "I", .fieldLink RX12 1020 "SetHouseModel" "tried" "[I", .fieldLink RX12 7 "SetHouseModel" "tape" "[I", .fieldLink RX12 80 "SetHouseModel" "nodes" "I", .fieldLink RX12 105 "SetHouseModel" "pooled" "I", .fieldLink RX12 15 "SetHouseModel" "faultCode" "I", .fieldLink RX12 1029 "SetHouseModel" "views" "I", .fieldLink RX12 1014 "SetHouseModel" "viewTexts" "[I", .constant RX12 1001 (32768), .fieldLink RX12 1017 "SetHouseModel" "viewSizes" "[I", .methodLink RX12 1059 yX12_load, .instanceMethod yX12_load, .selects RX12 yX12_load yX12_load, .methodLink RX12 1074 yX12_readExp, .instanceMethod yX12_readExp, .selects RX12 yX12_readExp yX12_readExp, .methodLink RX12 1077 yX12_workAlone, .instanceMethod yX12_workAlone, .selects RX12 yX12_workAlone yX12_workAlone, .fieldLink RX12 362 "SetHouseModel" "err" "I", .methodLink RX12 572 yX12_pop, .instanceMethod yX12_pop, .selects RX12 yX12_pop yX12_pop, .fieldLink RX12 1006 "SetHouseModel" "viewed" "[Z", .fieldLink RX12 417 "SetHouseModel" "viewValue" "[I", .methodLink RX12 451 yX12_compare, .instanceMethod yX12_compare, .selects RX12 yX12_compare yX12_compare, .methodLink RX12 545 yX12_kind, .instanceMethod yX12_kind, .selects RX12 yX12_kind yX12_kind, .fieldLink RX12 385 "SetHouseModel" "top" "I", .methodLink RX12 678 yX12_setOf, .instanceMethod yX12_setOf, .selects RX12 yX12_setOf yX12_setOf, .methodLink RX12 731 yX12_sift, .instanceMethod yX12_sift, .selects RX12 yX12_sift yX12_sift, .fieldLink RX12 420 "SetHouseModel" "viewCame" "[I", .fieldLink RX12 423 "SetHouseModel" "viewWent" "[I"]
theorem o_x_round_good : o_x_round.all goodWord = true := by decide +kernel
def p_x_round : List Cond := o_x_round ++ ((.code yX12_good cX12_good 2 (some .boolean) :: p_x_good) ++ ((.code yX12_load cX12_load 5 none :: p_x_load__54) ++ ((.code yX12_readExp cX12_readExp 3 (some .int) :: p_x_readExp) ++ ((.code yX12_workAlone cX12_workAlone 2 none :: p_x_workAlone) ++ ((.code yX12_pop cX12_pop 1 (some .int) :: p_x_pop) ++ ((.code yX12_compare cX12_compare 9 (some .int) :: p_x_GC) ++ ((.code yX12_kind cX12_kind 2 (some .int) :: p_x_kind) ++ ((.code yX12_setOf cX12_setOf 5 (some .int) :: p_x_setOf) ++ ((.code yX12_sift cX12_sift 6 (some .int) :: p_x_sift) ++ ((.code yX12_load cX12_load 5 none :: p_x_load__56) ++ []))))))))))
theorem p_x_round_good : p_x_round.all goodWord = true := nb_all2 o_x_round_good (nb_all2 (nb_allc (by decide +kernel) p_x_good_good) (nb_all2 (nb_allc (by decide +kernel) p_x_load__54_good) (nb_all2 (nb_allc (by decide +kernel) p_x_readExp_good) (nb_all2 (nb_allc (by decide +kernel) p_x_workAlone_good) (nb_all2 (nb_allc (by decide +kernel) p_x_pop_good) (nb_all2 (nb_allc (by decide +kernel) p_x_GC_good) (nb_all2 (nb_allc (by decide +kernel) p_x_kind_good) (nb_all2 (nb_allc (by decide +kernel) p_x_setOf_good) (nb_all2 (nb_allc (by decide +kernel) p_x_sift_good) (nb_all2 (nb_allc (by decide +kernel) p_x_load__56_good) rfl))))))))))
def w_x_round : List Cond := .code yX12_round cX12_round 13 (some .int) :: (p_x_round ++ fM)
theorem w_x_round_good : w_x_round.all goodWord = true := nb_allc (by decide +kernel) (nb_all2 p_x_round_good fM_good)
theorem in_x_round : ∀ w ∈ wsX120, w ∈ w_x_round := fun _ h => List.mem_cons_of_mem _ (List.mem_append_right _ h)
theorem hd_x_round : yX12_round.cls = RX12 ∧ yX12_round.cls ≠ "java/lang/invoke/MethodHandle" ∧ yX12_round.cls ≠ "java/lang/invoke/VarHandle" ∧ (parseMethodDescriptor yX12_round.desc).map (fun d => d.parameters.length) = some 0 := by decide +kernel
theorem gg_x_round_compare : GoodIn w_x_round w_x_compare := goodIn_sub (fun w h => (List.mem_cons.mp h).elim (fun e => (List.mem_cons_of_mem _ (List.mem_append_left _ (List.mem_append_right _ (List.mem_append_right _ (List.mem_append_right _ (List.mem_append_right _ (List.mem_append_right _ (List.mem_append_right _ (List.mem_append_left _ (List.mem_cons.mpr (Or.inl e)))))))))))) (fun h => (List.mem_append.mp h).elim (fun h => (List.mem_cons_of_mem _ (List.mem_append_left _ (List.mem_append_right _ (List.mem_append_right _ (List.mem_append_right _ (List.mem_append_right _ (List.mem_append_right _ (List.mem_append_right _ (List.mem_append_left _ (List.mem_cons_of_mem _ h))))))))))) (fun h => List.mem_cons_of_mem _ (List.mem_append_right _ h)))) w_x_compare_good
theorem g_x_round_compare_451 : GoodIn w_x_round (wsV RX12 451 RX12 yX12_compare w_x_compare) := goodIn_app (nb_g4 (List.mem_cons_of_mem _ (List.mem_append_left _ (List.mem_append_left _ (List.mem_of_getElem? (i := 30) rfl)))) (List.mem_cons_of_mem _ (List.mem_append_left _ (List.mem_append_left _ (List.mem_of_getElem? (i := 31) rfl)))) (List.mem_cons_of_mem _ (List.mem_append_left _ (List.mem_append_left _ (List.mem_of_getElem? (i := 32) rfl)))) (List.mem_cons_of_mem _ (List.mem_append_left _ (List.mem_append_left _ (List.mem_of_getElem? (i := 4) rfl)))) (by decide +kernel)) gg_x_round_compare
theorem gg_x_round_good : GoodIn w_x_round w_x_good := goodIn_sub (fun w h => (List.mem_cons.mp h).elim (fun e => (List.mem_cons_of_mem _ (List.mem_append_left _ (List.mem_append_right _ (List.mem_append_left _ (List.mem_cons.mpr (Or.inl e))))))) (fun h => (List.mem_append.mp h).elim (fun h => (List.mem_cons_of_mem _ (List.mem_append_left _ (List.mem_append_right _ (List.mem_append_left _ (List.mem_cons_of_mem _ h)))))) (fun h => List.mem_cons_of_mem _ (List.mem_append_right _ h)))) w_x_good_good
theorem g_x_round_good_1050 : GoodIn w_x_round (wsV RX12 1050 RX12 yX12_good w_x_good) := goodIn_app (nb_g4 (List.mem_cons_of_mem _ (List.mem_append_left _ (List.mem_append_left _ (List.mem_of_getElem? (i := 1) rfl)))) (List.mem_cons_of_mem _ (List.mem_append_left _ (List.mem_append_left _ (List.mem_of_getElem? (i := 2) rfl)))) (List.mem_cons_of_mem _ (List.mem_append_left _ (List.mem_append_left _ (List.mem_of_getElem? (i := 3) rfl)))) (List.mem_cons_of_mem _ (List.mem_append_left _ (List.mem_append_left _ (List.mem_of_getElem? (i := 4) rfl)))) (by decide +kernel)) gg_x_round_good
theorem gg_x_round_kind : GoodIn w_x_round w_x_kind := goodIn_sub (fun w h => (List.mem_cons.mp h).elim (fun e => (List.mem_cons_of_mem _ (List.mem_append_left _ (List.mem_append_right _ (List.mem_append_right _ (List.mem_append_right _ (List.mem_append_right _ (List.mem_append_right _ (List.mem_append_right _ (List.mem_append_right _ (List.mem_append_left _ (List.mem_cons.mpr (Or.inl e))))))))))))) (fun h => (List.mem_append.mp h).elim (fun h => (List.mem_cons_of_mem _ (List.mem_append_left _ (List.mem_append_right _ (List.mem_append_right _ (List.mem_append_right _ (List.mem_append_right _ (List.mem_append_right _ (List.mem_append_right _ (List.mem_append_right _ (List.mem_append_left _ (List.mem_cons_of_mem _ h)))))))))))) (fun h => List.mem_cons_of_mem _ (List.mem_append_right _ h)))) w_x_kind_good
theorem g_x_round_kind_545 : GoodIn w_x_round (wsV RX12 545 RX12 yX12_kind w_x_kind) := goodIn_app (nb_g4 (List.mem_cons_of_mem _ (List.mem_append_left _ (List.mem_append_left _ (List.mem_of_getElem? (i := 33) rfl)))) (List.mem_cons_of_mem _ (List.mem_append_left _ (List.mem_append_left _ (List.mem_of_getElem? (i := 34) rfl)))) (List.mem_cons_of_mem _ (List.mem_append_left _ (List.mem_append_left _ (List.mem_of_getElem? (i := 35) rfl)))) (List.mem_cons_of_mem _ (List.mem_append_left _ (List.mem_append_left _ (List.mem_of_getElem? (i := 4) rfl)))) (by decide +kernel)) gg_x_round_kind
theorem gg_x_round_load__54 : GoodIn w_x_round w_x_load__54 := goodIn_sub (fun w h => (List.mem_cons.mp h).elim (fun e => (List.mem_cons_of_mem _ (List.mem_append_left _ (List.mem_append_right _ (List.mem_append_right _ (List.mem_append_left _ (List.mem_cons.mpr (Or.inl e)))))))) (fun h => (List.mem_append.mp h).elim (fun h => (List.mem_cons_of_mem _ (List.mem_append_left _ (List.mem_append_right _ (List.mem_append_right _ (List.mem_append_left _ (List.mem_cons_of_mem _ h))))))) (fun h => List.mem_cons_of_mem _ (List.mem_append_right _ h)))) w_x_load__54_good
theorem g_x_round_load__54_1059 : GoodIn w_x_round (wsV RX12 1059 RX12 yX12_load w_x_load__54) := goodIn_app (nb_g4 (List.mem_cons_of_mem _ (List.mem_append_left _ (List.mem_append_left _ (List.mem_of_getElem? (i := 15) rfl)))) (List.mem_cons_of_mem _ (List.mem_append_left _ (List.mem_append_left _ (List.mem_of_getElem? (i := 16) rfl)))) (List.mem_cons_of_mem _ (List.mem_append_left _ (List.mem_append_left _ (List.mem_of_getElem? (i := 17) rfl)))) (List.mem_cons_of_mem _ (List.mem_append_left _ (List.mem_append_left _ (List.mem_of_getElem? (i := 4) rfl)))) (by decide +kernel)) gg_x_round_load__54
theorem gg_x_round_load__56 : GoodIn w_x_round w_x_load__56 := goodIn_sub (fun w h => (List.mem_cons.mp h).elim (fun e => (List.mem_cons_of_mem _ (List.mem_append_left _ (List.mem_append_right _ (List.mem_append_right _ (List.mem_append_right _ (List.mem_append_right _ (List.mem_append_right _ (List.mem_append_right _ (List.mem_append_right _ (List.mem_append_right _ (List.mem_append_right _ (List.mem_append_right _ (List.mem_append_left _ (List.mem_cons.mpr (Or.inl e)))))))))))))))) (fun h => (List.mem_append.mp h).elim (fun h => (List.mem_cons_of_mem _ (List.mem_append_left _ (List.mem_append_right _ (List.mem_append_right _ (List.mem_append_right _ (List.mem_append_right _ (List.mem_append_right _ (List.mem_append_right _ (List.mem_append_right _ (List.mem_append_right _ (List.mem_append_right _ (List.mem_append_right _ (List.mem_append_left _ (List.mem_cons_of_mem _ h))))))))))))))) (fun h => List.mem_cons_of_mem _ (List.mem_append_right _ h)))) w_x_load__56_good
theorem g_x_round_load__56_1059 : GoodIn w_x_round (wsV RX12 1059 RX12 yX12_load w_x_load__56) := goodIn_app (nb_g4 (List.mem_cons_of_mem _ (List.mem_append_left _ (List.mem_append_left _ (List.mem_of_getElem? (i := 15) rfl)))) (List.mem_cons_of_mem _ (List.mem_append_left _ (List.mem_append_left _ (List.mem_of_getElem? (i := 16) rfl)))) (List.mem_cons_of_mem _ (List.mem_append_left _ (List.mem_append_left _ (List.mem_of_getElem? (i := 17) rfl)))) (List.mem_cons_of_mem _ (List.mem_append_left _ (List.mem_append_left _ (List.mem_of_getElem? (i := 4) rfl)))) (by decide +kernel)) gg_x_round_load__56
theorem gg_x_round_pop : GoodIn w_x_round w_x_pop := goodIn_sub (fun w h => (List.mem_cons.mp h).elim (fun e => (List.mem_cons_of_mem _ (List.mem_append_left _ (List.mem_append_right _ (List.mem_append_right _ (List.mem_append_right _ (List.mem_append_right _ (List.mem_append_right _ (List.mem_append_left _ (List.mem_cons.mpr (Or.inl e))))))))))) (fun h => (List.mem_append.mp h).elim (fun h => (List.mem_cons_of_mem _ (List.mem_append_left _ (List.mem_append_right _ (List.mem_append_right _ (List.mem_append_right _ (List.mem_append_right _ (List.mem_append_right _ (List.mem_append_left _ (List.mem_cons_of_mem _ h)))))))))) (fun h => List.mem_cons_of_mem _ (List.mem_append_right _ h)))) w_x_pop_good
theorem g_x_round_pop_572 : GoodIn w_x_round (wsV RX12 572 RX12 yX12_pop w_x_pop) := goodIn_app (nb_g4 (List.mem_cons_of_mem _ (List.mem_append_left _ (List.mem_append_left _ (List.mem_of_getElem? (i := 25) rfl)))) (List.mem_cons_of_mem _ (List.mem_append_left _ (List.mem_append_left _ (List.mem_of_getElem? (i := 26) rfl)))) (List.mem_cons_of_mem _ (List.mem_append_left _ (List.mem_append_left _ (List.mem_of_getElem? (i := 27) rfl)))) (List.mem_cons_of_mem _ (List.mem_append_left _ (List.mem_append_left _ (List.mem_of_getElem? (i := 4) rfl)))) (by decide +kernel)) gg_x_round_pop
theorem gg_x_round_readExp : GoodIn w_x_round w_x_readExp := goodIn_sub (fun w h => (List.mem_cons.mp h).elim (fun e => (List.mem_cons_of_mem _ (List.mem_append_left _ (List.mem_append_right _ (List.mem_append_right _ (List.mem_append_right _ (List.mem_append_left _ (List.mem_cons.mpr (Or.inl e))))))))) (fun h => (List.mem_append.mp h).elim (fun h => (List.mem_cons_of_mem _ (List.mem_append_left _ (List.mem_append_right _ (List.mem_append_right _ (List.mem_append_right _ (List.mem_append_left _ (List.mem_cons_of_mem _ h)))))))) (fun h => List.mem_cons_of_mem _ (List.mem_append_right _ h)))) w_x_readExp_good
theorem g_x_round_readExp_1074 : GoodIn w_x_round (wsV RX12 1074 RX12 yX12_readExp w_x_readExp) := goodIn_app (nb_g4 (List.mem_cons_of_mem _ (List.mem_append_left _ (List.mem_append_left _ (List.mem_of_getElem? (i := 18) rfl)))) (List.mem_cons_of_mem _ (List.mem_append_left _ (List.mem_append_left _ (List.mem_of_getElem? (i := 19) rfl)))) (List.mem_cons_of_mem _ (List.mem_append_left _ (List.mem_append_left _ (List.mem_of_getElem? (i := 20) rfl)))) (List.mem_cons_of_mem _ (List.mem_append_left _ (List.mem_append_left _ (List.mem_of_getElem? (i := 4) rfl)))) (by decide +kernel)) gg_x_round_readExp
theorem gg_x_round_setOf : GoodIn w_x_round w_x_setOf := goodIn_sub (fun w h => (List.mem_cons.mp h).elim (fun e => (List.mem_cons_of_mem _ (List.mem_append_left _ (List.mem_append_right _ (List.mem_append_right _ (List.mem_append_right _ (List.mem_append_right _ (List.mem_append_right _ (List.mem_append_right _ (List.mem_append_right _ (List.mem_append_right _ (List.mem_append_left _ (List.mem_cons.mpr (Or.inl e)))))))))))))) (fun h => (List.mem_append.mp h).elim (fun h => (List.mem_cons_of_mem _ (List.mem_append_left _ (List.mem_append_right _ (List.mem_append_right _ (List.mem_append_right _ (List.mem_append_right _ (List.mem_append_right _ (List.mem_append_right _ (List.mem_append_right _ (List.mem_append_right _ (List.mem_append_left _ (List.mem_cons_of_mem _ h))))))))))))) (fun h => List.mem_cons_of_mem _ (List.mem_append_right _ h)))) w_x_setOf_good
theorem g_x_round_setOf_678 : GoodIn w_x_round (wsV RX12 678 RX12 yX12_setOf w_x_setOf) := goodIn_app (nb_g4 (List.mem_cons_of_mem _ (List.mem_append_left _ (List.mem_append_left _ (List.mem_of_getElem? (i := 37) rfl)))) (List.mem_cons_of_mem _ (List.mem_append_left _ (List.mem_append_left _ (List.mem_of_getElem? (i := 38) rfl)))) (List.mem_cons_of_mem _ (List.mem_append_left _ (List.mem_append_left _ (List.mem_of_getElem? (i := 39) rfl)))) (List.mem_cons_of_mem _ (List.mem_append_left _ (List.mem_append_left _ (List.mem_of_getElem? (i := 4) rfl)))) (by decide +kernel)) gg_x_round_setOf
theorem gg_x_round_sift : GoodIn w_x_round w_x_sift := goodIn_sub (fun w h => (List.mem_cons.mp h).elim (fun e => (List.mem_cons_of_mem _ (List.mem_append_left _ (List.mem_append_right _ (List.mem_append_right _ (List.mem_append_right _ (List.mem_append_right _ (List.mem_append_right _ (List.mem_append_right _ (List.mem_append_right _ (List.mem_append_right _ (List.mem_append_right _ (List.mem_append_left _ (List.mem_cons.mpr (Or.inl e))))))))))))))) (fun h => (List.mem_append.mp h).elim (fun h => (List.mem_cons_of_mem _ (List.mem_append_left _ (List.mem_append_right _ (List.mem_append_right _ (List.mem_append_right _ (List.mem_append_right _ (List.mem_append_right _ (List.mem_append_right _ (List.mem_append_right _ (List.mem_append_right _ (List.mem_append_right _ (List.mem_append_left _ (List.mem_cons_of_mem _ h)))))))))))))) (fun h => List.mem_cons_of_mem _ (List.mem_append_right _ h)))) w_x_sift_good
theorem g_x_round_sift_731 : GoodIn w_x_round (wsV RX12 731 RX12 yX12_sift w_x_sift) := goodIn_app (nb_g4 (List.mem_cons_of_mem _ (List.mem_append_left _ (List.mem_append_left _ (List.mem_of_getElem? (i := 40) rfl)))) (List.mem_cons_of_mem _ (List.mem_append_left _ (List.mem_append_left _ (List.mem_of_getElem? (i := 41) rfl)))) (List.mem_cons_of_mem _ (List.mem_append_left _ (List.mem_append_left _ (List.mem_of_getElem? (i := 42) rfl)))) (List.mem_cons_of_mem _ (List.mem_append_left _ (List.mem_append_left _ (List.mem_of_getElem? (i := 4) rfl)))) (by decide +kernel)) gg_x_round_sift
theorem gg_x_round_workAlone : GoodIn w_x_round w_x_workAlone := goodIn_sub (fun w h => (List.mem_cons.mp h).elim (fun e => (List.mem_cons_of_mem _ (List.mem_append_left _ (List.mem_append_right _ (List.mem_append_right _ (List.mem_append_right _ (List.mem_append_right _ (List.mem_append_left _ (List.mem_cons.mpr (Or.inl e)))))))))) (fun h => (List.mem_append.mp h).elim (fun h => (List.mem_cons_of_mem _ (List.mem_append_left _ (List.mem_append_right _ (List.mem_append_right _ (List.mem_append_right _ (List.mem_append_right _ (List.mem_append_left _ (List.mem_cons_of_mem _ h))))))))) (fun h => List.mem_cons_of_mem _ (List.mem_append_right _ h)))) w_x_workAlone_good
theorem g_x_round_workAlone_1077 : GoodIn w_x_round (wsV RX12 1077 RX12 yX12_workAlone w_x_workAlone) := goodIn_app (nb_g4 (List.mem_cons_of_mem _ (List.mem_append_left _ (List.mem_append_left _ (List.mem_of_getElem? (i := 21) rfl)))) (List.mem_cons_of_mem _ (List.mem_append_left _ (List.mem_append_left _ (List.mem_of_getElem? (i := 22) rfl)))) (List.mem_cons_of_mem _ (List.mem_append_left _ (List.mem_append_left _ (List.mem_of_getElem? (i := 23) rfl)))) (List.mem_cons_of_mem _ (List.mem_append_left _ (List.mem_append_left _ (List.mem_of_getElem? (i := 4) rfl)))) (by decide +kernel)) gg_x_round_workAlone
set_option maxHeartbeats 40000000 in
set_option maxRecDepth 100000 in
theorem c_x_round (l : Launch) (dC : Nat → ClassId) (dI : Nat → Nat → Nat) (cy : Nat → ClassId) (a : Nat → Nat) (k0 : Nat) (L0 : Nat → Int32) (σ0 : MS) (r0 : Int32 × MS) (h0 : x_round k0 0 L0 σ0 = some r0) (sz : Nat) : Met l yX12_round w_x_round ({ frames := 1359, cells := 0, slots := 0, locals := 36518 }) (va_Pc [.ref (a 0)] (nIn (dC, dI) cy sz (vM cy a σ0))) (va_Qi (fun (z : Int32) (_ : Unit) => z = r0.1) (fun _ t => nOut (dC, dI) cy (va_A (vM cy a σ0) sz) (vM cy a r0.2) t) (va_A (vM cy a σ0) sz)) 0 0 (va_A (vM cy a σ0) sz) := by
  refine Met.ofW (cc := cX12_round) (maxL := 13) (ret := (some .int)) (by decide) rfl ?_
  intro p e s m args below meth c s₁ B hml hv
  obtain ⟨rfl, hsz, hP, hK, hD0, hG⟩ := hv
  have hx := B.exec
  have hb := B.bytes
  have hr := B.returns
  have hts := atoms_spec (ws := w_x_round) B.pre
  have hown : s.vm.findClass RX12 = some m.cls := findClass_of_methodNamed B.named
  have hlocks := B.notSynchronized
  subst hsz
  have hD := hD0.self (sz := s.heap.size)
  generalize hAe : va_A (vM cy a σ0) s.heap.size = A at hD ⊢
  have hA : ∀ q : Nat, s.heap.size ≤ q → A q := fun q h => by rw [← hAe]; exact Or.inr h
  have hS : va_S A s.heap s.heap [] := va_S.rf
  have hl := lv_entry ([.ref (a 0)]) (n := 13) (Nat.le_of_ble_eq_true rfl)
  rw [lg_entry_eq]
  generalize (lg_sl ([.ref (a 0)]) ++ List.replicate (13 - (lg_sl ([.ref (a 0)])).length) Slot.unset).toArray = ls at hl ⊢
  have hl : lv_has ls 13 [(0, .ref (a 0))] := hl
  have blk : ∀ k : Nat, (bT p l e (headSpec w_x_round ({ frames := 1359, cells := 0, slots := 0, locals := 36518 })).room s m #[.ref (a 0)] below meth c dC dI cy a A (qI dC dI cy a A below #[.ref (a 0)] s) 13 (x_round k 0) (fun L => [(0, .ref (a 0))]) 0 (fun L => [])) ∧ (bT p l e (headSpec w_x_round ({ frames := 1359, cells := 0, slots := 0, locals := 36518 })).room s m #[.ref (a 0)] below meth c dC dI cy a A (qI dC dI cy a A below #[.ref (a 0)] s) 13 (x_round k 1) (fun L => [(0, .ref (a 0))]) 12 (fun L => [.ref (a 0)])) ∧ (bT p l e (headSpec w_x_round ({ frames := 1359, cells := 0, slots := 0, locals := 36518 })).room s m #[.ref (a 0)] below meth c dC dI cy a A (qI dC dI cy a A below #[.ref (a 0)] s) 13 (x_round k 2) (fun L => [(0, .ref (a 0))]) 13 (fun L => [.int (L 100), .ref (a 0)])) ∧ (bT p l e (headSpec w_x_round ({ frames := 1359, cells := 0, slots := 0, locals := 36518 })).room s m #[.ref (a 0)] below meth c dC dI cy a A (qI dC dI cy a A below #[.ref (a 0)] s) 13 (x_round k 3) (fun L => [(0, .ref (a 0))]) 21 (fun L => [])) ∧ (bT p l e (headSpec w_x_round ({ frames := 1359, cells := 0, slots := 0, locals := 36518 })).room s m #[.ref (a 0)] below meth c dC dI cy a A (qI dC dI cy a A below #[.ref (a 0)] s) 13 (x_round k 4) (fun L => [(0, .ref (a 0)), (1, .int (L 1)), (2, .int (L 2)), (3, .int (L 3))]) 30 (fun L => [])) ∧ (bT p l e (headSpec w_x_round ({ frames := 1359, cells := 0, slots := 0, locals := 36518 })).room s m #[.ref (a 0)] below meth c dC dI cy a A (qI dC dI cy a A below #[.ref (a 0)] s) 13 (x_round k 5) (fun L => [(0, .ref (a 0)), (1, .int (L 1)), (2, .int (L 2)), (3, .int (L 3))]) 47 (fun L => [])) ∧ (bT p l e (headSpec w_x_round ({ frames := 1359, cells := 0, slots := 0, locals := 36518 })).room s m #[.ref (a 0)] below meth c dC dI cy a A (qI dC dI cy a A below #[.ref (a 0)] s) 13 (x_round k 6) (fun L => [(0, .ref (a 0)), (1, .int (L 1)), (2, .int (L 2)), (3, .int (L 3))]) 53 (fun L => [])) ∧ (bT p l e (headSpec w_x_round ({ frames := 1359, cells := 0, slots := 0, locals := 36518 })).room s m #[.ref (a 0)] below meth c dC dI cy a A (qI dC dI cy a A below #[.ref (a 0)] s) 13 (x_round k 7) (fun L => [(0, .ref (a 0)), (1, .int (L 1)), (2, .int (L 2)), (3, .int (L 3)), (4, .int (L 4)), (5, .int (L 5)), (6, .int (L 6))]) 73 (fun L => [])) ∧ (bT p l e (headSpec w_x_round ({ frames := 1359, cells := 0, slots := 0, locals := 36518 })).room s m #[.ref (a 0)] below meth c dC dI cy a A (qI dC dI cy a A below #[.ref (a 0)] s) 13 (x_round k 8) (fun L => [(0, .ref (a 0)), (1, .int (L 1)), (2, .int (L 2)), (3, .int (L 3)), (4, .int (L 4)), (5, .int (L 5)), (6, .int (L 6))]) 117 (fun L => [])) ∧ (bT p l e (headSpec w_x_round ({ frames := 1359, cells := 0, slots := 0, locals := 36518 })).room s m #[.ref (a 0)] below meth c dC dI cy a A (qI dC dI cy a A below #[.ref (a 0)] s) 13 (x_round k 9) (fun L => [(0, .ref (a 0)), (1, .int (L 1)), (2, .int (L 2)), (3, .int (L 3)), (4, .int (L 4)), (5, .int (L 5)), (6, .int (L 6))]) 123 (fun L => [])) ∧ (bT p l e (headSpec w_x_round ({ frames := 1359, cells := 0, slots := 0, locals := 36518 })).room s m #[.ref (a 0)] below meth c dC dI cy a A (qI dC dI cy a A below #[.ref (a 0)] s) 13 (x_round k 10) (fun L => [(0, .ref (a 0)), (1, .int (L 1)), (2, .int (L 2)), (3, .int (L 3)), (4, .int (L 4)), (5, .int (L 5)), (6, .int (L 6))]) 134 (fun L => [])) ∧ (bT p l e (headSpec w_x_round ({ frames := 1359, cells := 0, slots := 0, locals := 36518 })).room s m #[.ref (a 0)] below meth c dC dI cy a A (qI dC dI cy a A below #[.ref (a 0)] s) 13 (x_round k 11) (fun L => [(0, .ref (a 0)), (1, .int (L 1)), (2, .int (L 2)), (3, .int (L 3)), (4, .int (L 4)), (5, .int (L 5)), (6, .int (L 6))]) 138 (fun L => [.int (L 100)])) ∧ (bT p l e (headSpec w_x_round ({ frames := 1359, cells := 0, slots := 0, locals := 36518 })).room s m #[.ref (a 0)] below meth c dC dI cy a A (qI dC dI cy a A below #[.ref (a 0)] s) 13 (x_round k 12) (fun L => [(0, .ref (a 0)), (1, .int (L 1)), (2, .int (L 2)), (3, .int (L 3)), (4, .int (L 4)), (5, .int (L 5)), (6, .int (L 6)), (7, .int (L 7))]) 145 (fun L => [])) ∧ (bT p l e (headSpec w_x_round ({ frames := 1359, cells := 0, slots := 0, locals := 36518 })).room s m #[.ref (a 0)] below meth c dC dI cy a A (qI dC dI cy a A below #[.ref (a 0)] s) 13 (x_round k 13) (fun L => [(0, .ref (a 0)), (1, .int (L 1)), (2, .int (L 2)), (3, .int (L 3)), (4, .int (L 4)), (5, .int (L 5)), (6, .int (L 6)), (7, .int (L 7))]) 153 (fun L => [])) ∧ (bT p l e (headSpec w_x_round ({ frames := 1359, cells := 0, slots := 0, locals := 36518 })).room s m #[.ref (a 0)] below meth c dC dI cy a A (qI dC dI cy a A below #[.ref (a 0)] s) 13 (x_round k 14) (fun L => [(0, .ref (a 0)), (1, .int (L 1)), (2, .int (L 2)), (3, .int (L 3)), (4, .int (L 4)), (5, .int (L 5)), (6, .int (L 6)), (7, .int (L 7)), (8, .int (L 8))]) 177 (fun L => [])) ∧ (bT p l e (headSpec w_x_round ({ frames := 1359, cells := 0, slots := 0, locals := 36518 })).room s m #[.ref (a 0)] below meth c dC dI cy a A (qI dC dI cy a A below #[.ref (a 0)] s) 13 (x_round k 15) (fun L => [(0, .ref (a 0)), (1, .int (L 1)), (2, .int (L 2)), (3, .int (L 3)), (4, .int (L 4)), (5, .int (L 5)), (6, .int (L 6)), (7, .int (L 7)), (8, .int (L 8))]) 178 (fun L => [.int (L 100)])) ∧ (bT p l e (headSpec w_x_round ({ frames := 1359, cells := 0, slots := 0, locals := 36518 })).room s m #[.ref (a 0)] below meth c dC dI cy a A (qI dC dI cy a A below #[.ref (a 0)] s) 13 (x_round k 16) (fun L => [(0, .ref (a 0)), (1, .int (L 1)), (2, .int (L 2)), (3, .int (L 3)), (4, .int (L 4)), (5, .int (L 5)), (6, .int (L 6)), (7, .int (L 7)), (8, .int (L 8)), (9, .int (L 9))]) 206 (fun L => [])) ∧ (bT p l e (headSpec w_x_round ({ frames := 1359, cells := 0, slots := 0, locals := 36518 })).room s m #[.ref (a 0)] below meth c dC dI cy a A (qI dC dI cy a A below #[.ref (a 0)] s) 13 (x_round k 17) (fun L => [(0, .ref (a 0)), (1, .int (L 1)), (2, .int (L 2)), (3, .int (L 3)), (4, .int (L 4)), (5, .int (L 5)), (6, .int (L 6)), (7, .int (L 7)), (8, .int (L 8)), (9, .int (L 9))]) 207 (fun L => [.int (L 100)])) ∧ (bT p l e (headSpec w_x_round ({ frames := 1359, cells := 0, slots := 0, locals := 36518 })).room s m #[.ref (a 0)] below meth c dC dI cy a A (qI dC dI cy a A below #[.ref (a 0)] s) 13 (x_round k 18) (fun L => [(0, .ref (a 0)), (1, .int (L 1)), (2, .int (L 2)), (3, .int (L 3)), (4, .int (L 4)), (5, .int (L 5)), (6, .int (L 6)), (7, .int (L 7)), (8, .int (L 8)), (9, .int (L 9)), (10, .int (L 10))]) 214 (fun L => [])) ∧ (bT p l e (headSpec w_x_round ({ frames := 1359, cells := 0, slots := 0, locals := 36518 })).room s m #[.ref (a 0)] below meth c dC dI cy a A (qI dC dI cy a A below #[.ref (a 0)] s) 13 (x_round k 19) (fun L => [(0, .ref (a 0)), (1, .int (L 1)), (2, .int (L 2)), (3, .int (L 3)), (4, .int (L 4)), (5, .int (L 5)), (6, .int (L 6)), (7, .int (L 7)), (8, .int (L 8)), (9, .int (L 9)), (10, .int (L 10))]) 227 (fun L => [])) ∧ (bT p l e (headSpec w_x_round ({ frames := 1359, cells := 0, slots := 0, locals := 36518 })).room s m #[.ref (a 0)] below meth c dC dI cy a A (qI dC dI cy a A below #[.ref (a 0)] s) 13 (x_round k 20) (fun L => [(0, .ref (a 0)), (1, .int (L 1)), (2, .int (L 2)), (3, .int (L 3)), (4, .int (L 4)), (5, .int (L 5)), (6, .int (L 6)), (7, .int (L 7)), (8, .int (L 8)), (9, .int (L 9)), (10, .int (L 10))]) 244 (fun L => [])) ∧ (bT p l e (headSpec w_x_round ({ frames := 1359, cells := 0, slots := 0, locals := 36518 })).room s m #[.ref (a 0)] below meth c dC dI cy a A (qI dC dI cy a A below #[.ref (a 0)] s) 13 (x_round k 21) (fun L => [(0, .ref (a 0)), (1, .int (L 1)), (2, .int (L 2)), (3, .int (L 3)), (4, .int (L 4)), (5, .int (L 5)), (6, .int (L 6)), (7, .int (L 7)), (8, .int (L 8)), (9, .int (L 9)), (10, .int (L 10))]) 246 (fun L => [.int (L 100)])) ∧ (bT p l e (headSpec w_x_round ({ frames := 1359, cells := 0, slots := 0, locals := 36518 })).room s m #[.ref (a 0)] below meth c dC dI cy a A (qI dC dI cy a A below #[.ref (a 0)] s) 13 (x_round k 22) (fun L => [(0, .ref (a 0)), (1, .int (L 1)), (2, .int (L 2)), (3, .int (L 3)), (4, .int (L 4)), (5, .int (L 5)), (6, .int (L 6)), (7, .int (L 7)), (8, .int (L 8)), (9, .int (L 9)), (10, .int (L 10)), (11, .int (L 11))]) 261 (fun L => [])) ∧ (bT p l e (headSpec w_x_round ({ frames := 1359, cells := 0, slots := 0, locals := 36518 })).room s m #[.ref (a 0)] below meth c dC dI cy a A (qI dC dI cy a A below #[.ref (a 0)] s) 13 (x_round k 23) (fun L => [(0, .ref (a 0)), (1, .int (L 1)), (2, .int (L 2)), (3, .int (L 3)), (4, .int (L 4)), (5, .int (L 5)), (6, .int (L 6)), (7, .int (L 7)), (8, .int (L 8)), (9, .int (L 9)), (10, .int (L 10)), (11, .int (L 11))]) 278 (fun L => [])) ∧ (bT p l e (headSpec w_x_round ({ frames := 1359, cells := 0, slots := 0, locals := 36518 })).room s m #[.ref (a 0)] below meth c dC dI cy a A (qI dC dI cy a A below #[.ref (a 0)] s) 13 (x_round k 24) (fun L => [(0, .ref (a 0)), (1, .int (L 1)), (2, .int (L 2)), (3, .int (L 3)), (4, .int (L 4)), (5, .int (L 5)), (6, .int (L 6)), (7, .int (L 7)), (8, .int (L 8)), (9, .int (L 9)), (10, .int (L 10)), (11, .int (L 11))]) 280 (fun L => [.int (L 100)])) ∧ (bT p l e (headSpec w_x_round ({ frames := 1359, cells := 0, slots := 0, locals := 36518 })).room s m #[.ref (a 0)] below meth c dC dI cy a A (qI dC dI cy a A below #[.ref (a 0)] s) 13 (x_round k 25) (fun L => [(0, .ref (a 0)), (1, .int (L 1)), (2, .int (L 2)), (3, .int (L 3)), (4, .int (L 4)), (5, .int (L 5)), (6, .int (L 6)), (7, .int (L 7)), (8, .int (L 8)), (9, .int (L 9)), (10, .int (L 10)), (11, .int (L 11)), (12, .int (L 12))]) 291 (fun L => [])) ∧ (bT p l e (headSpec w_x_round ({ frames := 1359, cells := 0, slots := 0, locals := 36518 })).room s m #[.ref (a 0)] below meth c dC dI cy a A (qI dC dI cy a A below #[.ref (a 0)] s) 13 (x_round k 26) (fun L => [(0, .ref (a 0)), (1, .int (L 1)), (2, .int (L 2)), (3, .int (L 3)), (4, .int (L 4)), (5, .int (L 5)), (6, .int (L 6)), (7, .int (L 7)), (8, .int (L 8)), (9, .int (L 9)), (10, .int (L 10)), (11, .int (L 11)), (12, .int (L 12))]) 300 (fun L => [])) ∧ (bT p l e (headSpec w_x_round ({ frames := 1359, cells := 0, slots := 0, locals := 36518 })).room s m #[.ref (a 0)] below meth c dC dI cy a A (qI dC dI cy a A below #[.ref (a 0)] s) 13 (x_round k 27) (fun L => [(0, .ref (a 0)), (1, .int (L 1)), (2, .int (L 2)), (3, .int (L 3)), (4, .int (L 4)), (5, .int (L 5)), (6, .int (L 6)), (7, .int (L 7)), (8, .int (L 8)), (9, .int (L 9)), (10, .int (L 10)), (11, .int (L 11)), (12, .int (L 12))]) 309 (fun L => [])) ∧ (bT p l e (headSpec w_x_round ({ frames := 1359, cells := 0, slots := 0, locals := 36518 })).room s m #[.ref (a 0)] below meth c dC dI cy a A (qI dC dI cy a A below #[.ref (a 0)] s) 13 (x_round k 28) (fun L => [(0, .ref (a 0)), (1, .int (L 1)), (2, .int (L 2)), (3, .int (L 3)), (4, .int (L 4)), (5, .int (L 5)), (6, .int (L 6)), (7, .int (L 7)), (8, .int (L 8)), (9, .int (L 9)), (10, .int (L 10)), (11, .int (L 11)), (12, .int (L 12))]) 319 (fun L => [.int (L 100)])) ∧ (bT p l e (headSpec w_x_round ({ frames := 1359, cells := 0, slots := 0, locals := 36518 })).room s m #[.ref (a 0)] below meth c dC dI cy a A (qI dC dI cy a A below #[.ref (a 0)] s) 13 (x_round k 29) (fun L => [(0, .ref (a 0)), (1, .int (L 1)), (2, .int (L 2)), (3, .int (L 3)), (4, .int (L 4)), (5, .int (L 5)), (6, .int (L 6)), (7, .int (L 7)), (8, .int (L 8)), (9, .int (L 9)), (10, .int (L 10)), (11, .int (L 11)), (12, .int (L 12))]) 320 (fun L => [.int (L 100), .int (L 101)])) ∧ (bT p l e (headSpec w_x_round ({ frames := 1359, cells := 0, slots := 0, locals := 36518 })).room s m #[.ref (a 0)] below meth c dC dI cy a A (qI dC dI cy a A below #[.ref (a 0)] s) 13 (x_round k 30) (fun L => [(0, .ref (a 0)), (1, .int (L 1)), (2, .int (L 2)), (3, .int (L 3)), (4, .int (L 4)), (5, .int (L 5)), (6, .int (L 6))]) 328 (fun L => [])) ∧ (bT p l e (headSpec w_x_round ({ frames := 1359, cells := 0, slots := 0, locals := 36518 })).room s m #[.ref (a 0)] below meth c dC dI cy a A (qI dC dI cy a A below #[.ref (a 0)] s) 13 (x_round k 31) (fun L => [(0, .ref (a 0)), (1, .int (L 1)), (2, .int (L 2)), (3, .int (L 3)), (4, .int (L 4)), (5, .int (L 5)), (6, .int (L 6))]) 344 (fun L => [])) := by
    intro k
    induction k with
    | zero => exact ⟨fun L σ r h => (by cases h), fun L σ r h => (by cases h), fun L σ r h => (by cases h), fun L σ r h => (by cases h), fun L σ r h => (by cases h), fun L σ r h => (by cases h), fun L σ r h => (by cases h), fun L σ r h => (by cases h), fun L σ r h => (by cases h), fun L σ r h => (by cases h), fun L σ r h => (by cases h), fun L σ r h => (by cases h), fun L σ r h => (by cases h), fun L σ r h => (by cases h), fun L σ r h => (by cases h), fun L σ r h => (by cases h), fun L σ r h => (by cases h), fun L σ r h => (by cases h), fun L σ r h => (by cases h), fun L σ r h => (by cases h), fun L σ r h => (by cases h), fun L σ r h => (by cases h), fun L σ r h => (by cases h), fun L σ r h => (by cases h), fun L σ r h => (by cases h), fun L σ r h => (by cases h), fun L σ r h => (by cases h), fun L σ r h => (by cases h), fun L σ r h => (by cases h), fun L σ r h => (by cases h), fun L σ r h => (by cases h), fun L σ r h => (by cases h)⟩
    | succ k ih =>
      refine ⟨?_, ?_, ?_, ?_, ?_, ?_, ?_, ?_, ?_, ?_, ?_, ?_, ?_, ?_, ?_, ?_, ?_, ?_, ?_, ?_, ?_, ?_, ?_, ?_, ?_, ?_, ?_, ?_, ?_, ?_, ?_, ?_⟩
      · intro L σ r h H locs ls hP hD hS hl
        rw [x_round] at h
        refine lv_aload_n hx hb dX12_round_0 rfl (lv_at hl 0 rfl) ?_
        refine lv_aload_n hx hb dX12_round_1 rfl (lv_at hl 0 rfl) ?_
        refine ng_112 hx hb hts in_x_round hown hK hP (hts _ (List.mem_cons_of_mem _ (List.mem_append_left _ (List.mem_append_left _ (List.mem_of_getElem? (i := 0) rfl))))) dX12_round_2 ?_
        refine lv_if_eq (tgt := 12) hx hb dX12_round_5 (by decide) (fun c1 => ?_) (fun c1 => ?_)
        · rw [if_pos c1] at h
          exact ih.2.1 L σ r h H locs ls hP hD hS (lv_sub hl [0] rfl)
        · rw [if_neg c1] at h
          refine lv_iconst (v := 0) hx hb dX12_round_8 (by decide) ?_
          refine lv_goto (tgt := 13) hx hb dX12_round_9 (by decide) ?_
          exact ih.2.2.1 (upd L 100 0) σ r h H locs ls hP hD hS (lv_sub hl [0] rfl)
      · intro L σ r h H locs ls hP hD hS hl
        rw [x_round] at h
        refine lv_iconst (v := 1) hx hb dX12_round_12 (by decide) ?_
        exact ih.2.2.1 (upd L 100 1) σ r h H locs ls hP hD hS (lv_sub hl [0] rfl)
      · intro L σ r h H locs ls hP hD hS hl
        rw [x_round] at h
        obtain ⟨r1, hc1, h⟩ := ob_ex h
        refine nc_Vi (As := [.int (L 100)]) (rest := []) ⟨hx, hb, hml, hown, hts⟩ (c_x_good l dC dI cy a k (upd (fun _ => 0) 1 ((L 100))) σ r1 hc1 H.size) (cwV 1 hts g_x_round_good_1050 rfl rfl rfl hd_x_good ⟨Nat.le_of_ble_eq_true rfl, Nat.le_of_ble_eq_true rfl⟩) hK hG hA hP hD hS rfl hl.1 rfl (Nat.le_of_ble_eq_true rfl) dX12_round_13 ⟨Nat.le_refl _, Nat.le_refl _⟩ (fun H locs hP hD hS => ?_)
        refine lv_if_ne (tgt := 21) hx hb dX12_round_16 (by decide) (fun c2 => ?_) (fun c2 => ?_)
        · rw [if_neg c2] at h
          exact ih.2.2.2.1 L r1.2 r h H locs ls hP hD hS (lv_sub hl [0] rfl)
        · rw [if_pos c2] at h
          refine lv_iconst (v := 0) hx hb dX12_round_19 (by decide) ?_
          cases h
          exact W.iret (v := 0) hx hb hr (fun t ht hW => ⟨⟨0, (), rfl, rfl, by rw [ht]; exact hP, va_K.moved hW.alike hK, hD⟩, hS.F ht⟩) hS.2.2 dX12_round_20
      · intro L σ r h H locs ls hP hD hS hl
        rw [x_round] at h
        refine lv_iconst (v := 0) hx hb dX12_round_21 (by decide) ?_
        refine lv_istore_n (lv' := [(1, .int 0), (0, .ref (a 0))]) hx hb dX12_round_22 rfl hl (by decide) rfl (fun ls hl => ?_)
        refine lv_aload_n hx hb dX12_round_23 rfl (lv_at hl 1 rfl) ?_
        refine ng_4 hx hb hts in_x_round hown hK hP (hts _ (List.mem_cons_of_mem _ (List.mem_append_left _ (List.mem_append_left _ (List.mem_of_getElem? (i := 5) rfl))))) dX12_round_24 ?_
        refine lv_istore_n (lv' := [(2, .int (σ.1 4)), (1, .int 0), (0, .ref (a 0))]) hx hb dX12_round_27 rfl hl (by decide) rfl (fun ls hl => ?_)
        refine lv_iconst (v := 0) hx hb dX12_round_28 (by decide) ?_
        refine lv_istore_n (lv' := [(3, .int 0), (2, .int (σ.1 4)), (1, .int 0), (0, .ref (a 0))]) hx hb dX12_round_29 rfl hl (by decide) rfl (fun ls hl => ?_)
        exact ih.2.2.2.2.1 (upd (upd (upd L 1 0) 2 ((σ.1 4))) 3 0) σ r h H locs ls hP hD hS (lv_sub hl [3, 2, 1, 0] rfl)
      · intro L σ r h H locs ls hP hD hS hl
        rw [x_round] at h
        refine lv_iload_n hx hb dX12_round_30 rfl (lv_at hl 3 rfl) ?_
        refine lv_iload_n hx hb dX12_round_31 rfl (lv_at hl 2 rfl) ?_
        refine lv_icmp_ge (tgt := 53) hx hb dX12_round_32 (by decide) (fun c1 => ?_) (fun c1 => ?_)
        · rw [if_pos c1] at h
          exact ih.2.2.2.2.2.2.1 L σ r h H locs ls hP hD hS (lv_sub hl [0, 1, 2, 3] rfl)
        · rw [if_neg c1] at h
          refine lv_aload_n hx hb dX12_round_35 rfl (lv_at hl 0 rfl) ?_
          refine ng_118 hx hb hts in_x_round hown hK hP (hts _ (List.mem_cons_of_mem _ (List.mem_append_left _ (List.mem_append_left _ (List.mem_of_getElem? (i := 6) rfl))))) dX12_round_36 ?_
          refine lv_iload_n hx hb dX12_round_39 rfl (lv_at hl 3 rfl) ?_
          refine lv_aload_n hx hb dX12_round_40 rfl (lv_at hl 0 rfl) ?_
          refine ng_3 hx hb hts in_x_round hown hK hP (hts _ (List.mem_cons_of_mem _ (List.mem_append_left _ (List.mem_append_left _ (List.mem_of_getElem? (i := 7) rfl))))) dX12_round_41 ?_
          refine lv_iload_n hx hb dX12_round_44 rfl (lv_at hl 3 rfl) ?_
          obtain ⟨q2, h⟩ := nb_ite1 h
          refine nl_3 hx hb hK hP q2 dX12_round_45 ?_
          obtain ⟨q3, h⟩ := nb_ite1 h
          refine ns_56 hx hb hK hP hD hS q3 dX12_round_46 (fun H locs hP hD hS => ?_)
          exact ih.2.2.2.2.2.1 L (σ.1, σ.2.1, updG σ.2.2 56 (upd (σ.2.2 56) ((L 3)).toNatClampNeg ((σ.2.2 3 ((L 3)).toNatClampNeg)))) r h H locs ls hP hD hS (lv_sub hl [0, 1, 2, 3] rfl)
      · intro L σ r h H locs ls hP hD hS hl
        rw [x_round] at h
        refine lv_iinc (v := ((L 3)) + 1) (lv' := [(3, .int (((L 3)) + 1)), (0, .ref (a 0)), (1, .int (L 1)), (2, .int (L 2))]) hx hb dX12_round_47 hl (k := 3) rfl rfl (by decide) rfl (fun ls hl => ?_)
        refine lv_goto (tgt := 30) hx hb dX12_round_50 (by decide) ?_
        exact ih.2.2.2.2.1 (upd L 3 (((L 3)) + 1)) σ r h H locs ls hP hD hS (lv_sub hl [1, 2, 3, 0] rfl)
      · intro L σ r h H locs ls hP hD hS hl
        rw [x_round] at h
        refine lv_aload_n hx hb dX12_round_53 rfl (lv_at hl 0 rfl) ?_
        refine ng_22 hx hb hts in_x_round hown hK hP (hts _ (List.mem_cons_of_mem _ (List.mem_append_left _ (List.mem_append_left _ (List.mem_of_getElem? (i := 8) rfl))))) dX12_round_54 ?_
        refine lv_istore_n (lv' := [(3, .int (σ.1 22)), (0, .ref (a 0)), (1, .int (L 1)), (2, .int (L 2))]) hx hb dX12_round_57 rfl hl (by decide) rfl (fun ls hl => ?_)
        refine lv_aload_n hx hb dX12_round_58 rfl (lv_at hl 1 rfl) ?_
        refine ng_24 hx hb hts in_x_round hown hK hP (hts _ (List.mem_cons_of_mem _ (List.mem_append_left _ (List.mem_append_left _ (List.mem_of_getElem? (i := 9) rfl))))) dX12_round_59 ?_
        refine lv_istore (lv' := [(4, .int (σ.1 24)), (3, .int (σ.1 22)), (0, .ref (a 0)), (1, .int (L 1)), (2, .int (L 2))]) hx hb dX12_round_62 hl (by decide) rfl (fun ls hl => ?_)
        refine lv_aload_n hx hb dX12_round_64 rfl (lv_at hl 2 rfl) ?_
        refine ng_11 hx hb hts in_x_round hown hK hP (hts _ (List.mem_cons_of_mem _ (List.mem_append_left _ (List.mem_append_left _ (List.mem_of_getElem? (i := 10) rfl))))) dX12_round_65 ?_
        refine lv_istore (lv' := [(5, .int (σ.1 11)), (4, .int (σ.1 24)), (3, .int (σ.1 22)), (0, .ref (a 0)), (1, .int (L 1)), (2, .int (L 2))]) hx hb dX12_round_68 hl (by decide) rfl (fun ls hl => ?_)
        refine lv_iconst (v := 0) hx hb dX12_round_70 (by decide) ?_
        refine lv_istore (lv' := [(6, .int 0), (5, .int (σ.1 11)), (4, .int (σ.1 24)), (3, .int (σ.1 22)), (0, .ref (a 0)), (1, .int (L 1)), (2, .int (L 2))]) hx hb dX12_round_71 hl (by decide) rfl (fun ls hl => ?_)
        exact ih.2.2.2.2.2.2.2.1 (upd (upd (upd (upd L 3 ((σ.1 22))) 4 ((σ.1 24))) 5 ((σ.1 11))) 6 0) σ r h H locs ls hP hD hS (lv_sub hl [4, 5, 6, 3, 2, 1, 0] rfl)
      · intro L σ r h H locs ls hP hD hS hl
        rw [x_round] at h
        refine lv_iload hx hb dX12_round_73 (lv_at hl 6 rfl) ?_
        refine lv_aload_n hx hb dX12_round_75 rfl (lv_at hl 0 rfl) ?_
        refine ng_73 hx hb hts in_x_round hown hK hP (hts _ (List.mem_cons_of_mem _ (List.mem_append_left _ (List.mem_append_left _ (List.mem_of_getElem? (i := 11) rfl))))) dX12_round_76 ?_
        refine lv_icmp_ge (tgt := 328) hx hb dX12_round_79 (by decide) (fun c1 => ?_) (fun c1 => ?_)
        · rw [if_pos c1] at h
          exact ih.2.2.2.2.2.2.2.2.2.2.2.2.2.2.2.2.2.2.2.2.2.2.2.2.2.2.2.2.2.2.1 L σ r h H locs ls hP hD hS (lv_sub hl [0, 1, 2, 3, 4, 5, 6] rfl)
        · rw [if_neg c1] at h
          refine lv_aload_n hx hb dX12_round_82 rfl (lv_at hl 0 rfl) ?_
          refine lv_aload_n hx hb dX12_round_83 rfl (lv_at hl 0 rfl) ?_
          refine ng_116 hx hb hts in_x_round hown hK hP (hts _ (List.mem_cons_of_mem _ (List.mem_append_left _ (List.mem_append_left _ (List.mem_of_getElem? (i := 12) rfl))))) dX12_round_84 ?_
          refine lv_ldcw (v := 32768) hx hb hown (hts _ (List.mem_cons_of_mem _ (List.mem_append_left _ (List.mem_append_left _ (List.mem_of_getElem? (i := 13) rfl))))) dX12_round_87 ?_
          refine lv_iload hx hb dX12_round_90 (lv_at hl 6 rfl) ?_
          refine lv_imul hx hb dX12_round_92 ?_
          refine lv_aload_n hx hb dX12_round_93 rfl (lv_at hl 0 rfl) ?_
          refine ng_117 hx hb hts in_x_round hown hK hP (hts _ (List.mem_cons_of_mem _ (List.mem_append_left _ (List.mem_append_left _ (List.mem_of_getElem? (i := 14) rfl))))) dX12_round_94 ?_
          refine lv_iload hx hb dX12_round_97 (lv_at hl 6 rfl) ?_
          obtain ⟨q2, h⟩ := nb_ite1 h
          refine nl_55 hx hb hK hP q2 dX12_round_99 ?_
          obtain ⟨r3, hc3, h⟩ := ob_ex h
          refine nc_Vv (As := [.ref (a 54), .int (32768 * ((L 6))), .int (σ.2.2 55 ((L 6)).toNatClampNeg)]) (rest := []) ⟨hx, hb, hml, hown, hts⟩ (c_x_load__54 l dC dI cy a k (upd (upd (fun _ => 0) 2 ((32768 * ((L 6))))) 3 ((σ.2.2 55 ((L 6)).toNatClampNeg))) σ r3 hc3 H.size) (cwV 3 hts g_x_round_load__54_1059 rfl rfl rfl hd_x_load__54 ⟨Nat.le_of_ble_eq_true rfl, Nat.le_of_ble_eq_true rfl⟩) hK hG hA hP hD hS rfl hl.1 rfl (Nat.le_of_ble_eq_true rfl) dX12_round_100 ⟨Nat.le_refl _, Nat.le_refl _⟩ (fun H locs hP hD hS => ?_)
          refine lv_aload_n hx hb dX12_round_103 rfl (lv_at hl 0 rfl) ?_
          refine lv_aload_n hx hb dX12_round_104 rfl (lv_at hl 0 rfl) ?_
          refine lv_iconst (v := 0) hx hb dX12_round_105 (by decide) ?_
          obtain ⟨r4, hc4, h⟩ := ob_ex h
          refine nc_Vi (As := [.int 0]) (rest := [.ref (a 0)]) ⟨hx, hb, hml, hown, hts⟩ (c_x_readExp l dC dI cy a k (upd (fun _ => 0) 1 0) r3.2 r4 hc4 H.size) (cwV 1 hts g_x_round_readExp_1074 rfl rfl rfl hd_x_readExp ⟨Nat.le_of_ble_eq_true rfl, Nat.le_of_ble_eq_true rfl⟩) hK hG hA hP hD hS rfl hl.1 rfl (Nat.le_of_ble_eq_true rfl) dX12_round_106 ⟨Nat.le_refl _, Nat.le_refl _⟩ (fun H locs hP hD hS => ?_)
          obtain ⟨r5, hc5, h⟩ := ob_ex h
          refine nc_Vv (As := [.int r4.1]) (rest := []) ⟨hx, hb, hml, hown, hts⟩ (c_x_workAlone l dC dI cy a k (upd (fun _ => 0) 1 r4.1) r4.2 r5 hc5 H.size) (cwV 1 hts g_x_round_workAlone_1077 rfl rfl rfl hd_x_workAlone ⟨Nat.le_of_ble_eq_true rfl, Nat.le_of_ble_eq_true rfl⟩) hK hG hA hP hD hS rfl hl.1 rfl (Nat.le_of_ble_eq_true rfl) dX12_round_109 ⟨Nat.le_refl _, Nat.le_refl _⟩ (fun H locs hP hD hS => ?_)
          refine lv_aload_n hx hb dX12_round_112 rfl (lv_at hl 0 rfl) ?_
          refine lv_iload_n hx hb dX12_round_113 rfl (lv_at hl 3 rfl) ?_
          refine np_22 hx hb hts in_x_round hown hK hP hD hS (hts _ (List.mem_cons_of_mem _ (List.mem_append_left _ (List.mem_append_left _ (List.mem_of_getElem? (i := 8) rfl))))) dX12_round_114 (fun H locs hP hD hS => ?_)
          exact ih.2.2.2.2.2.2.2.2.1 L (upd r5.2.1 22 ((L 3)), r5.2.2.1, r5.2.2.2) r h H locs ls hP hD hS (lv_sub hl [0, 1, 2, 3, 4, 5, 6] rfl)
      · intro L σ r h H locs ls hP hD hS hl
        rw [x_round] at h
        refine lv_aload_n hx hb dX12_round_117 rfl (lv_at hl 0 rfl) ?_
        refine lv_iload hx hb dX12_round_118 (lv_at hl 4 rfl) ?_
        refine np_24 hx hb hts in_x_round hown hK hP hD hS (hts _ (List.mem_cons_of_mem _ (List.mem_append_left _ (List.mem_append_left _ (List.mem_of_getElem? (i := 9) rfl))))) dX12_round_120 (fun H locs hP hD hS => ?_)
        exact ih.2.2.2.2.2.2.2.2.2.1 L (upd σ.1 24 ((L 4)), σ.2.1, σ.2.2) r h H locs ls hP hD hS (lv_sub hl [0, 1, 2, 3, 4, 5, 6] rfl)
      · intro L σ r h H locs ls hP hD hS hl
        rw [x_round] at h
        refine lv_aload_n hx hb dX12_round_123 rfl (lv_at hl 0 rfl) ?_
        refine ng_56 hx hb hts in_x_round hown hK hP (hts _ (List.mem_cons_of_mem _ (List.mem_append_left _ (List.mem_append_left _ (List.mem_of_getElem? (i := 24) rfl))))) dX12_round_124 ?_
        refine lv_if_le (tgt := 134) hx hb dX12_round_127 (by decide) (fun c1 => ?_) (fun c1 => ?_)
        · rw [if_pos c1] at h
          exact ih.2.2.2.2.2.2.2.2.2.2.1 L σ r h H locs ls hP hD hS (lv_sub hl [0, 1, 2, 3, 4, 5, 6] rfl)
        · rw [if_neg c1] at h
          refine lv_iconst (v := 0) hx hb dX12_round_130 (by decide) ?_
          refine lv_goto (tgt := 138) hx hb dX12_round_131 (by decide) ?_
          exact ih.2.2.2.2.2.2.2.2.2.2.2.1 (upd L 100 0) σ r h H locs ls hP hD hS (lv_sub hl [0, 1, 2, 3, 4, 5, 6] rfl)
      · intro L σ r h H locs ls hP hD hS hl
        rw [x_round] at h
        refine lv_aload_n hx hb dX12_round_134 rfl (lv_at hl 0 rfl) ?_
        obtain ⟨r1, hc1, h⟩ := ob_ex h
        refine nc_Vi (As := []) (rest := []) ⟨hx, hb, hml, hown, hts⟩ (c_x_pop l dC dI cy a k (fun _ => 0) σ r1 hc1 H.size) (cwV 0 hts g_x_round_pop_572 rfl rfl rfl hd_x_pop ⟨Nat.le_of_ble_eq_true rfl, Nat.le_of_ble_eq_true rfl⟩) hK hG hA hP hD hS rfl hl.1 rfl (Nat.le_of_ble_eq_true rfl) dX12_round_135 ⟨Nat.le_refl _, Nat.le_refl _⟩ (fun H locs hP hD hS => ?_)
        exact ih.2.2.2.2.2.2.2.2.2.2.2.1 (upd L 100 r1.1) r1.2 r h H locs ls hP hD hS (lv_sub hl [0, 1, 2, 3, 4, 5, 6] rfl)
      · intro L σ r h H locs ls hP hD hS hl
        rw [x_round] at h
        refine lv_istore (lv' := [(7, .int (L 100)), (0, .ref (a 0)), (1, .int (L 1)), (2, .int (L 2)), (3, .int (L 3)), (4, .int (L 4)), (5, .int (L 5)), (6, .int (L 6))]) hx hb dX12_round_138 hl (by decide) rfl (fun ls hl => ?_)
        refine lv_aload_n hx hb dX12_round_140 rfl (lv_at hl 1 rfl) ?_
        refine lv_iconst (v := 0) hx hb dX12_round_141 (by decide) ?_
        refine np_56 hx hb hts in_x_round hown hK hP hD hS (hts _ (List.mem_cons_of_mem _ (List.mem_append_left _ (List.mem_append_left _ (List.mem_of_getElem? (i := 24) rfl))))) dX12_round_142 (fun H locs hP hD hS => ?_)
        exact ih.2.2.2.2.2.2.2.2.2.2.2.2.1 (upd L 7 ((L 100))) (upd σ.1 56 0, σ.2.1, σ.2.2) r h H locs ls hP hD hS (lv_sub hl [1, 2, 3, 4, 5, 6, 7, 0] rfl)
      · intro L σ r h H locs ls hP hD hS hl
        rw [x_round] at h
        refine lv_aload_n hx hb dX12_round_145 rfl (lv_at hl 0 rfl) ?_
        refine ng_77 hx hb hts in_x_round hown hK hP (hts _ (List.mem_cons_of_mem _ (List.mem_append_left _ (List.mem_append_left _ (List.mem_of_getElem? (i := 28) rfl))))) dX12_round_146 ?_
        refine lv_iload hx hb dX12_round_149 (lv_at hl 6 rfl) ?_
        refine lv_iconst (v := 1) hx hb dX12_round_151 (by decide) ?_
        obtain ⟨q1, h⟩ := nb_ite1 h
        refine ns_39 hx hb hK hP hD hS q1 dX12_round_152 (fun H locs hP hD hS => ?_)
        exact ih.2.2.2.2.2.2.2.2.2.2.2.2.2.1 L (σ.1, σ.2.1, updG σ.2.2 39 (upd (σ.2.2 39) ((L 6)).toNatClampNeg (vp_nar .boolean 1))) r h H locs ls hP hD hS (lv_sub hl [0, 1, 2, 3, 4, 5, 6, 7] rfl)
      · intro L σ r h H locs ls hP hD hS hl
        rw [x_round] at h
        refine lv_aload_n hx hb dX12_round_153 rfl (lv_at hl 0 rfl) ?_
        refine ng_74 hx hb hts in_x_round hown hK hP (hts _ (List.mem_cons_of_mem _ (List.mem_append_left _ (List.mem_append_left _ (List.mem_of_getElem? (i := 29) rfl))))) dX12_round_154 ?_
        refine lv_iload hx hb dX12_round_157 (lv_at hl 6 rfl) ?_
        obtain ⟨q1, h⟩ := nb_ite1 h
        refine nl_36 hx hb hK hP q1 dX12_round_159 ?_
        refine lv_istore (lv' := [(8, .int (σ.2.2 36 ((L 6)).toNatClampNeg)), (0, .ref (a 0)), (1, .int (L 1)), (2, .int (L 2)), (3, .int (L 3)), (4, .int (L 4)), (5, .int (L 5)), (6, .int (L 6)), (7, .int (L 7))]) hx hb dX12_round_160 hl (by decide) rfl (fun ls hl => ?_)
        refine lv_aload_n hx hb dX12_round_162 rfl (lv_at hl 1 rfl) ?_
        refine lv_iload hx hb dX12_round_163 (lv_at hl 8 rfl) ?_
        refine lv_iload hx hb dX12_round_165 (lv_at hl 0 rfl) ?_
        obtain ⟨r2, hc2, h⟩ := ob_ex h
        refine nc_Vi (As := [.int (L 7), .int (σ.2.2 36 ((L 6)).toNatClampNeg)]) (rest := []) ⟨hx, hb, hml, hown, hts⟩ (c_x_compare l dC dI cy a k (upd (upd (fun _ => 0) 1 ((L 7))) 2 ((σ.2.2 36 ((L 6)).toNatClampNeg))) σ r2 hc2 H.size) (cwV 2 hts g_x_round_compare_451 rfl rfl rfl hd_x_compare ⟨Nat.le_of_ble_eq_true rfl, Nat.le_of_ble_eq_true rfl⟩) hK hG hA hP hD hS rfl hl.1 rfl (Nat.le_of_ble_eq_true rfl) dX12_round_167 ⟨Nat.le_refl _, Nat.le_refl _⟩ (fun H locs hP hD hS => ?_)
        refine lv_if_eq (tgt := 177) hx hb dX12_round_170 (by decide) (fun c3 => ?_) (fun c3 => ?_)
        · rw [if_pos c3] at h
          exact ih.2.2.2.2.2.2.2.2.2.2.2.2.2.2.1 (upd L 8 ((σ.2.2 36 ((L 6)).toNatClampNeg))) r2.2 r h H locs ls hP hD hS (lv_sub hl [1, 2, 3, 4, 5, 6, 7, 8, 0] rfl)
        · rw [if_neg c3] at h
          refine lv_iconst (v := 1) hx hb dX12_round_173 (by decide) ?_
          refine lv_goto (tgt := 178) hx hb dX12_round_174 (by decide) ?_
          exact ih.2.2.2.2.2.2.2.2.2.2.2.2.2.2.2.1 (upd (upd L 8 ((σ.2.2 36 ((L 6)).toNatClampNeg))) 100 1) r2.2 r h H locs ls hP hD hS (lv_sub hl [1, 2, 3, 4, 5, 6, 7, 8, 0] rfl)
      · intro L σ r h H locs ls hP hD hS hl
        rw [x_round] at h
        refine lv_iconst (v := 0) hx hb dX12_round_177 (by decide) ?_
        exact ih.2.2.2.2.2.2.2.2.2.2.2.2.2.2.2.1 (upd L 100 0) σ r h H locs ls hP hD hS (lv_sub hl [0, 1, 2, 3, 4, 5, 6, 7, 8] rfl)
      · intro L σ r h H locs ls hP hD hS hl
        rw [x_round] at h
        refine lv_istore (lv' := [(9, .int (L 100)), (0, .ref (a 0)), (1, .int (L 1)), (2, .int (L 2)), (3, .int (L 3)), (4, .int (L 4)), (5, .int (L 5)), (6, .int (L 6)), (7, .int (L 7)), (8, .int (L 8))]) hx hb dX12_round_178 hl (by decide) rfl (fun ls hl => ?_)
        refine lv_aload_n hx hb dX12_round_180 rfl (lv_at hl 1 rfl) ?_
        refine lv_iload hx hb dX12_round_181 (lv_at hl 8 rfl) ?_
        obtain ⟨r1, hc1, h⟩ := ob_ex h
        refine nc_Vi (As := [.int (L 7)]) (rest := []) ⟨hx, hb, hml, hown, hts⟩ (c_x_kind l dC dI cy a k (upd (fun _ => 0) 1 ((L 7))) σ r1 hc1 H.size) (cwV 1 hts g_x_round_kind_545 rfl rfl rfl hd_x_kind ⟨Nat.le_of_ble_eq_true rfl, Nat.le_of_ble_eq_true rfl⟩) hK hG hA hP hD hS rfl hl.1 rfl (Nat.le_of_ble_eq_true rfl) dX12_round_183 ⟨Nat.le_refl _, Nat.le_refl _⟩ (fun H locs hP hD hS => ?_)
        refine lv_bipush (v := 6) hx hb dX12_round_186 (by decide) ?_
        refine lv_icmp_ne (tgt := 206) hx hb dX12_round_188 (by decide) (fun c2 => ?_) (fun c2 => ?_)
        · rw [if_neg c2] at h
          exact ih.2.2.2.2.2.2.2.2.2.2.2.2.2.2.2.2.1 (upd L 9 ((L 100))) r1.2 r h H locs ls hP hD hS (lv_sub hl [1, 2, 3, 4, 5, 6, 7, 8, 9, 0] rfl)
        · rw [if_pos c2] at h
          refine lv_aload_n hx hb dX12_round_191 rfl (lv_at hl 1 rfl) ?_
          refine lv_iload hx hb dX12_round_192 (lv_at hl 9 rfl) ?_
          obtain ⟨r3, hc3, h⟩ := ob_ex h
          refine nc_Vi (As := [.int (L 8)]) (rest := []) ⟨hx, hb, hml, hown, hts⟩ (c_x_kind l dC dI cy a k (upd (fun _ => 0) 1 ((L 8))) r1.2 r3 hc3 H.size) (cwV 1 hts g_x_round_kind_545 rfl rfl rfl hd_x_kind ⟨Nat.le_of_ble_eq_true rfl, Nat.le_of_ble_eq_true rfl⟩) hK hG hA hP hD hS rfl hl.1 rfl (Nat.le_of_ble_eq_true rfl) dX12_round_194 ⟨Nat.le_refl _, Nat.le_refl _⟩ (fun H locs hP hD hS => ?_)
          refine lv_bipush (v := 6) hx hb dX12_round_197 (by decide) ?_
          refine lv_icmp_ne (tgt := 206) hx hb dX12_round_199 (by decide) (fun c4 => ?_) (fun c4 => ?_)
          · rw [if_neg c4] at h
            exact ih.2.2.2.2.2.2.2.2.2.2.2.2.2.2.2.2.1 (upd L 9 ((L 100))) r3.2 r h H locs ls hP hD hS (lv_sub hl [1, 2, 3, 4, 5, 6, 7, 8, 9, 0] rfl)
          · rw [if_pos c4] at h
            refine lv_iconst (v := 1) hx hb dX12_round_202 (by decide) ?_
            refine lv_goto (tgt := 207) hx hb dX12_round_203 (by decide) ?_
            exact ih.2.2.2.2.2.2.2.2.2.2.2.2.2.2.2.2.2.1 (upd (upd L 9 ((L 100))) 100 1) r3.2 r h H locs ls hP hD hS (lv_sub hl [1, 2, 3, 4, 5, 6, 7, 8, 9, 0] rfl)
      · intro L σ r h H locs ls hP hD hS hl
        rw [x_round] at h
        refine lv_iconst (v := 0) hx hb dX12_round_206 (by decide) ?_
        exact ih.2.2.2.2.2.2.2.2.2.2.2.2.2.2.2.2.2.1 (upd L 100 0) σ r h H locs ls hP hD hS (lv_sub hl [0, 1, 2, 3, 4, 5, 6, 7, 8, 9] rfl)
      · intro L σ r h H locs ls hP hD hS hl
        rw [x_round] at h
        refine lv_istore (lv' := [(10, .int (L 100)), (0, .ref (a 0)), (1, .int (L 1)), (2, .int (L 2)), (3, .int (L 3)), (4, .int (L 4)), (5, .int (L 5)), (6, .int (L 6)), (7, .int (L 7)), (8, .int (L 8)), (9, .int (L 9))]) hx hb dX12_round_207 hl (by decide) rfl (fun ls hl => ?_)
        refine lv_aload_n hx hb dX12_round_209 rfl (lv_at hl 1 rfl) ?_
        refine lv_iconst (v := 0) hx hb dX12_round_210 (by decide) ?_
        refine np_59 hx hb hts in_x_round hown hK hP hD hS (hts _ (List.mem_cons_of_mem _ (List.mem_append_left _ (List.mem_append_left _ (List.mem_of_getElem? (i := 36) rfl))))) dX12_round_211 (fun H locs hP hD hS => ?_)
        exact ih.2.2.2.2.2.2.2.2.2.2.2.2.2.2.2.2.2.2.1 (upd L 10 ((L 100))) (upd σ.1 59 0, σ.2.1, σ.2.2) r h H locs ls hP hD hS (lv_sub hl [1, 2, 3, 4, 5, 6, 7, 8, 9, 10, 0] rfl)
      · intro L σ r h H locs ls hP hD hS hl
        rw [x_round] at h
        refine lv_iload hx hb dX12_round_214 (lv_at hl 9 rfl) ?_
        refine lv_if_ne (tgt := 227) hx hb dX12_round_216 (by decide) (fun c1 => ?_) (fun c1 => ?_)
        · rw [if_neg c1] at h
          exact ih.2.2.2.2.2.2.2.2.2.2.2.2.2.2.2.2.2.2.2.1 L σ r h H locs ls hP hD hS (lv_sub hl [0, 1, 2, 3, 4, 5, 6, 7, 8, 9, 10] rfl)
        · rw [if_pos c1] at h
          refine lv_aload_n hx hb dX12_round_219 rfl (lv_at hl 0 rfl) ?_
          refine lv_iconst (v := 0) hx hb dX12_round_220 (by decide) ?_
          obtain ⟨r2, hc2, h⟩ := ob_ex h
          refine nc_Vi (As := [.int 0]) (rest := []) ⟨hx, hb, hml, hown, hts⟩ (c_x_setOf l dC dI cy a k (upd (fun _ => 0) 1 0) σ r2 hc2 H.size) (cwV 1 hts g_x_round_setOf_678 rfl rfl rfl hd_x_setOf ⟨Nat.le_of_ble_eq_true rfl, Nat.le_of_ble_eq_true rfl⟩) hK hG hA hP hD hS rfl hl.1 rfl (Nat.le_of_ble_eq_true rfl) dX12_round_221 ⟨Nat.le_refl _, Nat.le_refl _⟩ (fun H locs hP hD hS => ?_)
          refine lv_goto (tgt := 246) hx hb dX12_round_224 (by decide) ?_
          exact ih.2.2.2.2.2.2.2.2.2.2.2.2.2.2.2.2.2.2.2.2.2.1 (upd L 100 r2.1) r2.2 r h H locs ls hP hD hS (lv_sub hl [0, 1, 2, 3, 4, 5, 6, 7, 8, 9, 10] rfl)
      · intro L σ r h H locs ls hP hD hS hl
        rw [x_round] at h
        refine lv_iload hx hb dX12_round_227 (lv_at hl 10 rfl) ?_
        refine lv_if_eq (tgt := 244) hx hb dX12_round_229 (by decide) (fun c1 => ?_) (fun c1 => ?_)
        · rw [if_pos c1] at h
          exact ih.2.2.2.2.2.2.2.2.2.2.2.2.2.2.2.2.2.2.2.2.1 L σ r h H locs ls hP hD hS (lv_sub hl [0, 1, 2, 3, 4, 5, 6, 7, 8, 9, 10] rfl)
        · rw [if_neg c1] at h
          refine lv_aload_n hx hb dX12_round_232 rfl (lv_at hl 0 rfl) ?_
          refine lv_iload hx hb dX12_round_233 (lv_at hl 7 rfl) ?_
          refine lv_iload hx hb dX12_round_235 (lv_at hl 8 rfl) ?_
          refine lv_iconst (v := 0) hx hb dX12_round_237 (by decide) ?_
          obtain ⟨r2, hc2, h⟩ := ob_ex h
          refine nc_Vi (As := [.int (L 7), .int (L 8), .int 0]) (rest := []) ⟨hx, hb, hml, hown, hts⟩ (c_x_sift l dC dI cy a k (upd (upd (upd (fun _ => 0) 1 ((L 7))) 2 ((L 8))) 3 0) σ r2 hc2 H.size) (cwV 3 hts g_x_round_sift_731 rfl rfl rfl hd_x_sift ⟨Nat.le_of_ble_eq_true rfl, Nat.le_of_ble_eq_true rfl⟩) hK hG hA hP hD hS rfl hl.1 rfl (Nat.le_of_ble_eq_true rfl) dX12_round_238 ⟨Nat.le_refl _, Nat.le_refl _⟩ (fun H locs hP hD hS => ?_)
          refine lv_goto (tgt := 246) hx hb dX12_round_241 (by decide) ?_
          exact ih.2.2.2.2.2.2.2.2.2.2.2.2.2.2.2.2.2.2.2.2.2.1 (upd L 100 r2.1) r2.2 r h H locs ls hP hD hS (lv_sub hl [0, 1, 2, 3, 4, 5, 6, 7, 8, 9, 10] rfl)
      · intro L σ r h H locs ls hP hD hS hl
        rw [x_round] at h
        refine lv_iload hx hb dX12_round_244 (lv_at hl 7 rfl) ?_
        exact ih.2.2.2.2.2.2.2.2.2.2.2.2.2.2.2.2.2.2.2.2.2.1 (upd L 100 ((L 7))) σ r h H locs ls hP hD hS (lv_sub hl [0, 1, 2, 3, 4, 5, 6, 7, 8, 9, 10] rfl)
      · intro L σ r h H locs ls hP hD hS hl
        rw [x_round] at h
        refine lv_istore (lv' := [(11, .int (L 100)), (0, .ref (a 0)), (1, .int (L 1)), (2, .int (L 2)), (3, .int (L 3)), (4, .int (L 4)), (5, .int (L 5)), (6, .int (L 6)), (7, .int (L 7)), (8, .int (L 8)), (9, .int (L 9)), (10, .int (L 10))]) hx hb dX12_round_246 hl (by decide) rfl (fun ls hl => ?_)
        refine lv_iload hx hb dX12_round_248 (lv_at hl 10 rfl) ?_
        refine lv_if_ne (tgt := 261) hx hb dX12_round_250 (by decide) (fun c1 => ?_) (fun c1 => ?_)
        · rw [if_neg c1] at h
          exact ih.2.2.2.2.2.2.2.2.2.2.2.2.2.2.2.2.2.2.2.2.2.2.1 (upd L 11 ((L 100))) σ r h H locs ls hP hD hS (lv_sub hl [1, 2, 3, 4, 5, 6, 7, 8, 9, 10, 11, 0] rfl)
        · rw [if_pos c1] at h
          refine lv_aload_n hx hb dX12_round_253 rfl (lv_at hl 1 rfl) ?_
          refine lv_iconst (v := 0) hx hb dX12_round_254 (by decide) ?_
          obtain ⟨r2, hc2, h⟩ := ob_ex h
          refine nc_Vi (As := [.int 0]) (rest := []) ⟨hx, hb, hml, hown, hts⟩ (c_x_setOf l dC dI cy a k (upd (fun _ => 0) 1 0) σ r2 hc2 H.size) (cwV 1 hts g_x_round_setOf_678 rfl rfl rfl hd_x_setOf ⟨Nat.le_of_ble_eq_true rfl, Nat.le_of_ble_eq_true rfl⟩) hK hG hA hP hD hS rfl hl.1 rfl (Nat.le_of_ble_eq_true rfl) dX12_round_255 ⟨Nat.le_refl _, Nat.le_refl _⟩ (fun H locs hP hD hS => ?_)
          refine lv_goto (tgt := 280) hx hb dX12_round_258 (by decide) ?_
          exact ih.2.2.2.2.2.2.2.2.2.2.2.2.2.2.2.2.2.2.2.2.2.2.2.2.1 (upd (upd L 11 ((L 100))) 100 r2.1) r2.2 r h H locs ls hP hD hS (lv_sub hl [1, 2, 3, 4, 5, 6, 7, 8, 9, 10, 11, 0] rfl)
      · intro L σ r h H locs ls hP hD hS hl
        rw [x_round] at h
        refine lv_iload hx hb dX12_round_261 (lv_at hl 10 rfl) ?_
        refine lv_if_eq (tgt := 278) hx hb dX12_round_263 (by decide) (fun c1 => ?_) (fun c1 => ?_)
        · rw [if_pos c1] at h
          exact ih.2.2.2.2.2.2.2.2.2.2.2.2.2.2.2.2.2.2.2.2.2.2.2.1 L σ r h H locs ls hP hD hS (lv_sub hl [0, 1, 2, 3, 4, 5, 6, 7, 8, 9, 10, 11] rfl)
        · rw [if_neg c1] at h
          refine lv_aload_n hx hb dX12_round_266 rfl (lv_at hl 0 rfl) ?_
          refine lv_iload hx hb dX12_round_267 (lv_at hl 8 rfl) ?_
          refine lv_iload hx hb dX12_round_269 (lv_at hl 7 rfl) ?_
          refine lv_iconst (v := 0) hx hb dX12_round_271 (by decide) ?_
          obtain ⟨r2, hc2, h⟩ := ob_ex h
          refine nc_Vi (As := [.int (L 8), .int (L 7), .int 0]) (rest := []) ⟨hx, hb, hml, hown, hts⟩ (c_x_sift l dC dI cy a k (upd (upd (upd (fun _ => 0) 1 ((L 8))) 2 ((L 7))) 3 0) σ r2 hc2 H.size) (cwV 3 hts g_x_round_sift_731 rfl rfl rfl hd_x_sift ⟨Nat.le_of_ble_eq_true rfl, Nat.le_of_ble_eq_true rfl⟩) hK hG hA hP hD hS rfl hl.1 rfl (Nat.le_of_ble_eq_true rfl) dX12_round_272 ⟨Nat.le_refl _, Nat.le_refl _⟩ (fun H locs hP hD hS => ?_)
          refine lv_goto (tgt := 280) hx hb dX12_round_275 (by decide) ?_
          exact ih.2.2.2.2.2.2.2.2.2.2.2.2.2.2.2.2.2.2.2.2.2.2.2.2.1 (upd L 100 r2.1) r2.2 r h H locs ls hP hD hS (lv_sub hl [0, 1, 2, 3, 4, 5, 6, 7, 8, 9, 10, 11] rfl)
      · intro L σ r h H locs ls hP hD hS hl
        rw [x_round] at h
        refine lv_iload hx hb dX12_round_278 (lv_at hl 8 rfl) ?_
        exact ih.2.2.2.2.2.2.2.2.2.2.2.2.2.2.2.2.2.2.2.2.2.2.2.2.1 (upd L 100 ((L 8))) σ r h H locs ls hP hD hS (lv_sub hl [0, 1, 2, 3, 4, 5, 6, 7, 8, 9, 10, 11] rfl)
      · intro L σ r h H locs ls hP hD hS hl
        rw [x_round] at h
        refine lv_istore (lv' := [(12, .int (L 100)), (0, .ref (a 0)), (1, .int (L 1)), (2, .int (L 2)), (3, .int (L 3)), (4, .int (L 4)), (5, .int (L 5)), (6, .int (L 6)), (7, .int (L 7)), (8, .int (L 8)), (9, .int (L 9)), (10, .int (L 10)), (11, .int (L 11))]) hx hb dX12_round_280 hl (by decide) rfl (fun ls hl => ?_)
        refine lv_aload_n hx hb dX12_round_282 rfl (lv_at hl 1 rfl) ?_
        refine ng_74 hx hb hts in_x_round hown hK hP (hts _ (List.mem_cons_of_mem _ (List.mem_append_left _ (List.mem_append_left _ (List.mem_of_getElem? (i := 29) rfl))))) dX12_round_283 ?_
        refine lv_iload hx hb dX12_round_286 (lv_at hl 7 rfl) ?_
        refine lv_iload hx hb dX12_round_288 (lv_at hl 8 rfl) ?_
        obtain ⟨q1, h⟩ := nb_ite1 h
        refine ns_36 hx hb hK hP hD hS q1 dX12_round_290 (fun H locs hP hD hS => ?_)
        exact ih.2.2.2.2.2.2.2.2.2.2.2.2.2.2.2.2.2.2.2.2.2.2.2.2.2.1 (upd L 12 ((L 100))) (σ.1, σ.2.1, updG σ.2.2 36 (upd (σ.2.2 36) ((L 6)).toNatClampNeg ((L 7)))) r h H locs ls hP hD hS (lv_sub hl [1, 2, 3, 4, 5, 6, 7, 8, 9, 10, 11, 12, 0] rfl)
      · intro L σ r h H locs ls hP hD hS hl
        rw [x_round] at h
        refine lv_aload_n hx hb dX12_round_291 rfl (lv_at hl 0 rfl) ?_
        refine ng_75 hx hb hts in_x_round hown hK hP (hts _ (List.mem_cons_of_mem _ (List.mem_append_left _ (List.mem_append_left _ (List.mem_of_getElem? (i := 43) rfl))))) dX12_round_292 ?_
        refine lv_iload hx hb dX12_round_295 (lv_at hl 6 rfl) ?_
        refine lv_iload hx hb dX12_round_297 (lv_at hl 11 rfl) ?_
        obtain ⟨q1, h⟩ := nb_ite1 h
        refine ns_37 hx hb hK hP hD hS q1 dX12_round_299 (fun H locs hP hD hS => ?_)
        exact ih.2.2.2.2.2.2.2.2.2.2.2.2.2.2.2.2.2.2.2.2.2.2.2.2.2.2.1 L (σ.1, σ.2.1, updG σ.2.2 37 (upd (σ.2.2 37) ((L 6)).toNatClampNeg ((L 11)))) r h H locs ls hP hD hS (lv_sub hl [0, 1, 2, 3, 4, 5, 6, 7, 8, 9, 10, 11, 12] rfl)
      · intro L σ r h H locs ls hP hD hS hl
        rw [x_round] at h
        refine lv_aload_n hx hb dX12_round_300 rfl (lv_at hl 0 rfl) ?_
        refine ng_76 hx hb hts in_x_round hown hK hP (hts _ (List.mem_cons_of_mem _ (List.mem_append_left _ (List.mem_append_left _ (List.mem_of_getElem? (i := 44) rfl))))) dX12_round_301 ?_
        refine lv_iload hx hb dX12_round_304 (lv_at hl 6 rfl) ?_
        refine lv_iload hx hb dX12_round_306 (lv_at hl 12 rfl) ?_
        obtain ⟨q1, h⟩ := nb_ite1 h
        refine ns_38 hx hb hK hP hD hS q1 dX12_round_308 (fun H locs hP hD hS => ?_)
        exact ih.2.2.2.2.2.2.2.2.2.2.2.2.2.2.2.2.2.2.2.2.2.2.2.2.2.2.2.1 L (σ.1, σ.2.1, updG σ.2.2 38 (upd (σ.2.2 38) ((L 6)).toNatClampNeg ((L 12)))) r h H locs ls hP hD hS (lv_sub hl [0, 1, 2, 3, 4, 5, 6, 7, 8, 9, 10, 11, 12] rfl)
      · intro L σ r h H locs ls hP hD hS hl
        rw [x_round] at h
        refine lv_iload_n hx hb dX12_round_309 rfl (lv_at hl 1 rfl) ?_
        refine lv_iload hx hb dX12_round_310 (lv_at hl 9 rfl) ?_
        refine lv_if_eq (tgt := 319) hx hb dX12_round_312 (by decide) (fun c1 => ?_) (fun c1 => ?_)
        · rw [if_pos c1] at h
          exact ih.2.2.2.2.2.2.2.2.2.2.2.2.2.2.2.2.2.2.2.2.2.2.2.2.2.2.2.2.1 (upd L 100 ((L 1))) σ r h H locs ls hP hD hS (lv_sub hl [0, 1, 2, 3, 4, 5, 6, 7, 8, 9, 10, 11, 12] rfl)
        · rw [if_neg c1] at h
          refine lv_iconst (v := 1) hx hb dX12_round_315 (by decide) ?_
          refine lv_goto (tgt := 320) hx hb dX12_round_316 (by decide) ?_
          exact ih.2.2.2.2.2.2.2.2.2.2.2.2.2.2.2.2.2.2.2.2.2.2.2.2.2.2.2.2.2.1 (upd (upd L 100 1) 101 ((L 1))) σ r h H locs ls hP hD hS (lv_sub hl [0, 1, 2, 3, 4, 5, 6, 7, 8, 9, 10, 11, 12] rfl)
      · intro L σ r h H locs ls hP hD hS hl
        rw [x_round] at h
        refine lv_iconst (v := 0) hx hb dX12_round_319 (by decide) ?_
        exact ih.2.2.2.2.2.2.2.2.2.2.2.2.2.2.2.2.2.2.2.2.2.2.2.2.2.2.2.2.2.1 (upd (upd L 100 0) 101 ((L 100))) σ r h H locs ls hP hD hS (lv_sub hl [0, 1, 2, 3, 4, 5, 6, 7, 8, 9, 10, 11, 12] rfl)
      · intro L σ r h H locs ls hP hD hS hl
        rw [x_round] at h
        refine lv_iadd hx hb dX12_round_320 ?_
        refine lv_istore_n (lv' := [(1, .int (((L 101)) + ((L 100)))), (0, .ref (a 0)), (2, .int (L 2)), (3, .int (L 3)), (4, .int (L 4)), (5, .int (L 5)), (6, .int (L 6)), (7, .int (L 7)), (8, .int (L 8)), (9, .int (L 9)), (10, .int (L 10)), (11, .int (L 11)), (12, .int (L 12))]) hx hb dX12_round_321 rfl hl (by decide) rfl (fun ls hl => ?_)
        refine lv_iinc (v := ((L 6)) + 1) (lv' := [(6, .int (((L 6)) + 1)), (1, .int (((L 101)) + ((L 100)))), (0, .ref (a 0)), (2, .int (L 2)), (3, .int (L 3)), (4, .int (L 4)), (5, .int (L 5)), (7, .int (L 7)), (8, .int (L 8)), (9, .int (L 9)), (10, .int (L 10)), (11, .int (L 11)), (12, .int (L 12))]) hx hb dX12_round_322 hl (k := 6) rfl rfl (by decide) rfl (fun ls hl => ?_)
        refine lv_goto (tgt := 73) hx hb dX12_round_325 (by decide) ?_
        exact ih.2.2.2.2.2.2.2.1 (upd (upd L 1 ((((L 101)) + ((L 100))))) 6 (((L 6)) + 1)) σ r h H locs ls hP hD hS (lv_sub hl [2, 1, 3, 4, 5, 6, 0] rfl)
      · intro L σ r h H locs ls hP hD hS hl
        rw [x_round] at h
        refine lv_aload_n hx hb dX12_round_328 rfl (lv_at hl 0 rfl) ?_
        refine lv_aload_n hx hb dX12_round_329 rfl (lv_at hl 0 rfl) ?_
        refine ng_118 hx hb hts in_x_round hown hK hP (hts _ (List.mem_cons_of_mem _ (List.mem_append_left _ (List.mem_append_left _ (List.mem_of_getElem? (i := 6) rfl))))) dX12_round_330 ?_
        refine lv_iconst (v := 0) hx hb dX12_round_333 (by decide) ?_
        refine lv_iload_n hx hb dX12_round_334 rfl (lv_at hl 2 rfl) ?_
        obtain ⟨r1, hc1, h⟩ := ob_ex h
        refine nc_Vv (As := [.ref (a 56), .int 0, .int (L 2)]) (rest := []) ⟨hx, hb, hml, hown, hts⟩ (c_x_load__56 l dC dI cy a k (upd (upd (fun _ => 0) 2 0) 3 ((L 2))) σ r1 hc1 H.size) (cwV 3 hts g_x_round_load__56_1059 rfl rfl rfl hd_x_load__56 ⟨Nat.le_of_ble_eq_true rfl, Nat.le_of_ble_eq_true rfl⟩) hK hG hA hP hD hS rfl hl.1 rfl (Nat.le_of_ble_eq_true rfl) dX12_round_335 ⟨Nat.le_refl _, Nat.le_refl _⟩ (fun H locs hP hD hS => ?_)
        refine lv_aload_n hx hb dX12_round_338 rfl (lv_at hl 0 rfl) ?_
        refine lv_iload hx hb dX12_round_339 (lv_at hl 5 rfl) ?_
        refine np_11 hx hb hts in_x_round hown hK hP hD hS (hts _ (List.mem_cons_of_mem _ (List.mem_append_left _ (List.mem_append_left _ (List.mem_of_getElem? (i := 10) rfl))))) dX12_round_341 (fun H locs hP hD hS => ?_)
        exact ih.2.2.2.2.2.2.2.2.2.2.2.2.2.2.2.2.2.2.2.2.2.2.2.2.2.2.2.2.2.2.2 L (upd r1.2.1 11 ((L 5)), r1.2.2.1, r1.2.2.2) r h H locs ls hP hD hS (lv_sub hl [0, 1, 2, 3, 4, 5, 6] rfl)
      · intro L σ r h H locs ls hP hD hS hl
        rw [x_round] at h
        refine lv_iload_n hx hb dX12_round_344 rfl (lv_at hl 1 rfl) ?_
        cases h
        exact W.iret (v := (L 1)) hx hb hr (fun t ht hW => ⟨⟨(L 1), (), rfl, rfl, by rw [ht]; exact hP, va_K.moved hW.alike hK, hD⟩, hS.F ht⟩) hS.2.2 dX12_round_345
  exact (blk k0).1 L0 σ0 r0 h0 s.heap [] ls hP hD hS hl

/-! turned -/
def x_turned : Nat → Nat → (Nat → Int32) → MS → Option (Int32 × MS)
  | 0, _, _, _ => none
  | k + 1, 0, L, σ => if ((L 1)) = 2 then (x_turned k 1 L σ) else (if ((L 1)) = 1 then (x_turned k 1 L σ) else (ob (x_fail k 0 (upd (fun _ => 0) 1 9) σ) (fun r3 => x_turned k 1 L r3.2)))
  | k + 1, 1, L, σ => if ((L 1)) = 1 then (x_turned k 3 (upd L 100 1) σ) else (x_turned k 2 L σ)
  | k + 1, 2, L, σ => x_turned k 3 (upd L 100 0) σ
  | k + 1, 3, L, σ => ob (x_truth k 0 (upd (fun _ => 0) 1 ((L 100))) σ) (fun r1 => some (r1.1, r1.2))
  | _ + 1, _ + 4, _, _ => none
def o_x_turned : List Cond := [.methodLink RX12 369 yX12_fail, .instanceMethod yX12_fail, .selects RX12 yX12_fail yX12_fail, .initialized RX12, .methodLink RX12 646 yX12_truth, .instanceMethod yX12_truth, .selects RX12 yX12_truth yX12_truth]
theorem o_x_turned_good : o_x_turned.all goodWord = true := by decide +kernel
def p_x_turned : List Cond := o_x_turned ++ ((.code yX12_fail cX12_fail 2 none :: p_x_fail) ++ ((.code yX12_truth cX12_truth 2 (some .int) :: p_x_truth) ++ []))
theorem p_x_turned_good : p_x_turned.all goodWord = true := nb_all2 o_x_turned_good (nb_all2 (nb_allc (by decide +kernel) p_x_fail_good) (nb_all2 (nb_allc (by decide +kernel) p_x_truth_good) rfl))
def w_x_turned : List Cond := .code yX12_turned cX12_turned 2 (some .int) :: (p_x_turned ++ fM)
theorem w_x_turned_good : w_x_turned.all goodWord = true := nb_allc (by decide +kernel) (nb_all2 p_x_turned_good fM_good)
theorem in_x_turned : ∀ w ∈ wsX120, w ∈ w_x_turned := fun _ h => List.mem_cons_of_mem _ (List.mem_append_right _ h)
theorem hd_x_turned : yX12_turned.cls = RX12 ∧ yX12_turned.cls ≠ "java/lang/invoke/MethodHandle" ∧ yX12_turned.cls ≠ "java/lang/invoke/VarHandle" ∧ (parseMethodDescriptor yX12_turned.desc).map (fun d => d.parameters.length) = some 1 := by decide +kernel
theorem gg_x_turned_fail : GoodIn w_x_turned w_x_fail := goodIn_sub (fun w h => (List.mem_cons.mp h).elim (fun e => (List.mem_cons_of_mem _ (List.mem_append_left _ (List.mem_append_right _ (List.mem_append_left _ (List.mem_cons.mpr (Or.inl e))))))) (fun h => (List.mem_append.mp h).elim (fun h => (List.mem_cons_of_mem _ (List.mem_append_left _ (List.mem_append_right _ (List.mem_append_left _ (List.mem_cons_of_mem _ h)))))) (fun h => List.mem_cons_of_mem _ (List.mem_append_right _ h)))) w_x_fail_good
theorem g_x_turned_fail_369 : GoodIn w_x_turned (wsV RX12 369 RX12 yX12_fail w_x_fail) := goodIn_app (nb_g4 (List.mem_cons_of_mem _ (List.mem_append_left _ (List.mem_append_left _ (List.mem_of_getElem? (i := 0) rfl)))) (List.mem_cons_of_mem _ (List.mem_append_left _ (List.mem_append_left _ (List.mem_of_getElem? (i := 1) rfl)))) (List.mem_cons_of_mem _ (List.mem_append_left _ (List.mem_append_left _ (List.mem_of_getElem? (i := 2) rfl)))) (List.mem_cons_of_mem _ (List.mem_append_left _ (List.mem_append_left _ (List.mem_of_getElem? (i := 3) rfl)))) (by decide +kernel)) gg_x_turned_fail
theorem gg_x_turned_truth : GoodIn w_x_turned w_x_truth := goodIn_sub (fun w h => (List.mem_cons.mp h).elim (fun e => (List.mem_cons_of_mem _ (List.mem_append_left _ (List.mem_append_right _ (List.mem_append_right _ (List.mem_append_left _ (List.mem_cons.mpr (Or.inl e)))))))) (fun h => (List.mem_append.mp h).elim (fun h => (List.mem_cons_of_mem _ (List.mem_append_left _ (List.mem_append_right _ (List.mem_append_right _ (List.mem_append_left _ (List.mem_cons_of_mem _ h))))))) (fun h => List.mem_cons_of_mem _ (List.mem_append_right _ h)))) w_x_truth_good
theorem g_x_turned_truth_646 : GoodIn w_x_turned (wsV RX12 646 RX12 yX12_truth w_x_truth) := goodIn_app (nb_g4 (List.mem_cons_of_mem _ (List.mem_append_left _ (List.mem_append_left _ (List.mem_of_getElem? (i := 4) rfl)))) (List.mem_cons_of_mem _ (List.mem_append_left _ (List.mem_append_left _ (List.mem_of_getElem? (i := 5) rfl)))) (List.mem_cons_of_mem _ (List.mem_append_left _ (List.mem_append_left _ (List.mem_of_getElem? (i := 6) rfl)))) (List.mem_cons_of_mem _ (List.mem_append_left _ (List.mem_append_left _ (List.mem_of_getElem? (i := 3) rfl)))) (by decide +kernel)) gg_x_turned_truth
set_option maxHeartbeats 40000000 in
set_option maxRecDepth 100000 in
theorem c_x_turned (l : Launch) (dC : Nat → ClassId) (dI : Nat → Nat → Nat) (cy : Nat → ClassId) (a : Nat → Nat) (k0 : Nat) (L0 : Nat → Int32) (σ0 : MS) (r0 : Int32 × MS) (h0 : x_turned k0 0 L0 σ0 = some r0) (sz : Nat) : Met l yX12_turned w_x_turned ({ frames := 1, cells := 0, slots := 0, locals := 21 }) (va_Pc [.ref (a 0), .int (L0 1)] (nIn (dC, dI) cy sz (vM cy a σ0))) (va_Qi (fun (z : Int32) (_ : Unit) => z = r0.1) (fun _ t => nOut (dC, dI) cy (va_A (vM cy a σ0) sz) (vM cy a r0.2) t) (va_A (vM cy a σ0) sz)) 0 0 (va_A (vM cy a σ0) sz) := by
  refine Met.ofW (cc := cX12_turned) (maxL := 2) (ret := (some .int)) (by decide) rfl ?_
  intro p e s m args below meth c s₁ B hml hv
  obtain ⟨rfl, hsz, hP, hK, hD0, hG⟩ := hv
  have hx := B.exec
  have hb := B.bytes
  have hr := B.returns
  have hts := atoms_spec (ws := w_x_turned) B.pre
  have hown : s.vm.findClass RX12 = some m.cls := findClass_of_methodNamed B.named
  have hlocks := B.notSynchronized
  subst hsz
  have hD := hD0.self (sz := s.heap.size)
  generalize hAe : va_A (vM cy a σ0) s.heap.size = A at hD ⊢
  have hA : ∀ q : Nat, s.heap.size ≤ q → A q := fun q h => by rw [← hAe]; exact Or.inr h
  have hS : va_S A s.heap s.heap [] := va_S.rf
  have hl := lv_entry ([.ref (a 0), .int (L0 1)]) (n := 2) (Nat.le_of_ble_eq_true rfl)
  rw [lg_entry_eq]
  generalize (lg_sl ([.ref (a 0), .int (L0 1)]) ++ List.replicate (2 - (lg_sl ([.ref (a 0), .int (L0 1)])).length) Slot.unset).toArray = ls at hl ⊢
  have hl : lv_has ls 2 [(0, .ref (a 0)), (1, .int (L0 1))] := hl
  have blk : ∀ k : Nat, (bT p l e (headSpec w_x_turned ({ frames := 1, cells := 0, slots := 0, locals := 21 })).room s m #[.ref (a 0), .int (L0 1)] below meth c dC dI cy a A (qI dC dI cy a A below #[.ref (a 0), .int (L0 1)] s) 2 (x_turned k 0) (fun L => [(0, .ref (a 0)), (1, .int (L 1))]) 0 (fun L => [])) ∧ (bT p l e (headSpec w_x_turned ({ frames := 1, cells := 0, slots := 0, locals := 21 })).room s m #[.ref (a 0), .int (L0 1)] below meth c dC dI cy a A (qI dC dI cy a A below #[.ref (a 0), .int (L0 1)] s) 2 (x_turned k 1) (fun L => [(0, .ref (a 0)), (1, .int (L 1))]) 16 (fun L => [])) ∧ (bT p l e (headSpec w_x_turned ({ frames := 1, cells := 0, slots := 0, locals := 21 })).room s m #[.ref (a 0), .int (L0 1)] below meth c dC dI cy a A (qI dC dI cy a A below #[.ref (a 0), .int (L0 1)] s) 2 (x_turned k 2) (fun L => [(0, .ref (a 0)), (1, .int (L 1))]) 26 (fun L => [.ref (a 0)])) ∧ (bT p l e (headSpec w_x_turned ({ frames := 1, cells := 0, slots := 0, locals := 21 })).room s m #[.ref (a 0), .int (L0 1)] below meth c dC dI cy a A (qI dC dI cy a A below #[.ref (a 0), .int (L0 1)] s) 2 (x_turned k 3) (fun L => [(0, .ref (a 0)), (1, .int (L 1))]) 27 (fun L => [.int (L 100), .ref (a 0)])) := by
    intro k
    induction k with
    | zero => exact ⟨fun L σ r h => (by cases h), fun L σ r h => (by cases h), fun L σ r h => (by cases h), fun L σ r h => (by cases h)⟩
    | succ k ih =>
      refine ⟨?_, ?_, ?_, ?_⟩
      · intro L σ r h H locs ls hP hD hS hl
        rw [x_turned] at h
        refine lv_iload_n hx hb dX12_turned_0 rfl (lv_at hl 1 rfl) ?_
        refine lv_iconst (v := 2) hx hb dX12_turned_1 (by decide) ?_
        refine lv_icmp_eq (tgt := 16) hx hb dX12_turned_2 (by decide) (fun c1 => ?_) (fun c1 => ?_)
        · rw [if_pos c1] at h
          exact ih.2.1 L σ r h H locs ls hP hD hS (lv_sub hl [0, 1] rfl)
        · rw [if_neg c1] at h
          refine lv_iload_n hx hb dX12_turned_5 rfl (lv_at hl 1 rfl) ?_
          refine lv_iconst (v := 1) hx hb dX12_turned_6 (by decide) ?_
          refine lv_icmp_eq (tgt := 16) hx hb dX12_turned_7 (by decide) (fun c2 => ?_) (fun c2 => ?_)
          · rw [if_pos c2] at h
            exact ih.2.1 L σ r h H locs ls hP hD hS (lv_sub hl [0, 1] rfl)
          · rw [if_neg c2] at h
            refine lv_aload_n hx hb dX12_turned_10 rfl (lv_at hl 0 rfl) ?_
            refine lv_bipush (v := 9) hx hb dX12_turned_11 (by decide) ?_
            obtain ⟨r3, hc3, h⟩ := ob_ex h
            refine nc_Vv (As := [.int 9]) (rest := []) ⟨hx, hb, hml, hown, hts⟩ (c_x_fail l dC dI cy a k (upd (fun _ => 0) 1 9) σ r3 hc3 H.size) (cwV 1 hts g_x_turned_fail_369 rfl rfl rfl hd_x_fail ⟨Nat.le_of_ble_eq_true rfl, Nat.le_of_ble_eq_true rfl⟩) hK hG hA hP hD hS rfl hl.1 rfl (Nat.le_of_ble_eq_true rfl) dX12_turned_13 ⟨Nat.le_refl _, Nat.le_refl _⟩ (fun H locs hP hD hS => ?_)
            exact ih.2.1 L r3.2 r h H locs ls hP hD hS (lv_sub hl [0, 1] rfl)
      · intro L σ r h H locs ls hP hD hS hl
        rw [x_turned] at h
        refine lv_aload_n hx hb dX12_turned_16 rfl (lv_at hl 0 rfl) ?_
        refine lv_iload_n hx hb dX12_turned_17 rfl (lv_at hl 1 rfl) ?_
        refine lv_iconst (v := 1) hx hb dX12_turned_18 (by decide) ?_
        refine lv_icmp_ne (tgt := 26) hx hb dX12_turned_19 (by decide) (fun c1 => ?_) (fun c1 => ?_)
        · rw [if_neg c1] at h
          exact ih.2.2.1 L σ r h H locs ls hP hD hS (lv_sub hl [0, 1] rfl)
        · rw [if_pos c1] at h
          refine lv_iconst (v := 1) hx hb dX12_turned_22 (by decide) ?_
          refine lv_goto (tgt := 27) hx hb dX12_turned_23 (by decide) ?_
          exact ih.2.2.2 (upd L 100 1) σ r h H locs ls hP hD hS (lv_sub hl [0, 1] rfl)
      · intro L σ r h H locs ls hP hD hS hl
        rw [x_turned] at h
        refine lv_iconst (v := 0) hx hb dX12_turned_26 (by decide) ?_
        exact ih.2.2.2 (upd L 100 0) σ r h H locs ls hP hD hS (lv_sub hl [0, 1] rfl)
      · intro L σ r h H locs ls hP hD hS hl
        rw [x_turned] at h
        obtain ⟨r1, hc1, h⟩ := ob_ex h
        refine nc_Vi (As := [.int (L 100)]) (rest := []) ⟨hx, hb, hml, hown, hts⟩ (c_x_truth l dC dI cy a k (upd (fun _ => 0) 1 ((L 100))) σ r1 hc1 H.size) (cwV 1 hts g_x_turned_truth_646 rfl rfl rfl hd_x_truth ⟨Nat.le_of_ble_eq_true rfl, Nat.le_of_ble_eq_true rfl⟩) hK hG hA hP hD hS rfl hl.1 rfl (Nat.le_of_ble_eq_true rfl) dX12_turned_27 ⟨Nat.le_refl _, Nat.le_refl _⟩ (fun H locs hP hD hS => ?_)
        cases h
        exact W.iret (v := r1.1) hx hb hr (fun t ht hW => ⟨⟨r1.1, (), rfl, rfl, by rw [ht]; exact hP, va_K.moved hW.alike hK, hD⟩, hS.F ht⟩) hS.2.2 dX12_turned_30
  exact (blk k0).1 L0 σ0 r0 h0 s.heap [] ls hP hD hS hl
/-! single -/
def x_single : Nat → Nat → (Nat → Int32) → MS → Option (Int32 × MS)
  | 0, _, _, _ => none
  | k + 1, 0, L, σ => if ¬ (((L 1)) < 0 ∨ 70000 ≤ ((L 1)).toNatClampNeg) then (if ((σ.2.2 4 ((L 1)).toNatClampNeg)) = (9 : Int32) then (x_single k 1 L σ) else (if ((σ.2.2 4 ((L 1)).toNatClampNeg)) = (17 : Int32) then (x_single k 2 L σ) else (if ((σ.2.2 4 ((L 1)).toNatClampNeg)) = (18 : Int32) then (x_single k 3 L σ) else (if ((σ.2.2 4 ((L 1)).toNatClampNeg)) = (19 : Int32) then (x_single k 4 L σ) else (x_single k 5 L σ))))) else none
  | k + 1, 1, L, σ => if ¬ (((L 1)) < 0 ∨ 70000 ≤ ((L 1)).toNatClampNeg) then (ob (x_function k 0 (upd (upd (fun _ => 0) 1 ((σ.2.2 5 ((L 1)).toNatClampNeg))) 2 ((L 2))) σ) (fun r2 => some (r2.1, r2.2))) else none
  | k + 1, 2, L, σ => ob (x_negative k 0 (upd (fun _ => 0) 1 ((L 2))) σ) (fun r1 => some (r1.1, r1.2))
  | k + 1, 3, L, σ => ob (x_many k 0 (upd (fun _ => 0) 1 ((L 2))) σ) (fun r1 => some (r1.1, r1.2))
  | k + 1, 4, L, σ => ob (x_turned k 0 (upd (fun _ => 0) 1 ((L 2))) σ) (fun r1 => some (r1.1, r1.2))
  | k + 1, 5, L, σ => if ¬ (((L 1)) < 0 ∨ 70000 ≤ ((L 1)).toNatClampNeg) then (ob (x_reduce k 0 (upd (upd (fun _ => 0) 1 ((σ.2.2 5 ((L 1)).toNatClampNeg))) 2 ((L 2))) σ) (fun r2 => some (r2.1, r2.2))) else none
  | _ + 1, _ + 6, _, _ => none
def o_x_single : List Cond := [.fieldLink RX12 83 "SetHouseModel" "op" "[I", .fieldLink RX12 86 "SetHouseModel" "x1" "[I", .methodLink RX12 631 yX12_function, .instanceMethod yX12_function, .selects RX12 yX12_function yX12_function, .initialized RX12, .methodLink RX12 634 yX12_negative, .instanceMethod yX12_negative, .selects RX12 yX12_negative yX12_negative, .methodLink RX12 637 yX12_many, .instanceMethod yX12_many, .selects RX12 yX12_many yX12_many, .methodLink RX12 640 yX12_turned, .instanceMethod yX12_turned, .selects RX12 yX12_turned yX12_turned, .methodLink RX12 643 yX12_reduce, .instanceMethod yX12_reduce, .selects RX12 yX12_reduce yX12_reduce]
theorem o_x_single_good : o_x_single.all goodWord = true := by decide +kernel
def p_x_single : List Cond := o_x_single ++ ((.code yX12_function cX12_function 4 (some .int) :: p_x_function) ++ ((.code yX12_negative cX12_negative 2 (some .int) :: p_x_negative) ++ ((.code yX12_many cX12_many 2 (some .int) :: p_x_many) ++ ((.code yX12_turned cX12_turned 2 (some .int) :: p_x_turned) ++ ((.code yX12_reduce cX12_reduce 11 (some .int) :: p_x_reduce) ++ [])))))
theorem p_x_single_good : p_x_single.all goodWord = true := nb_all2 o_x_single_good (nb_all2 (nb_allc (by decide +kernel) p_x_function_good) (nb_all2 (nb_allc (by decide +kernel) p_x_negative_good) (nb_all2 (nb_allc (by decide +kernel) p_x_many_good) (nb_all2 (nb_allc (by decide +kernel) p_x_turned_good) (nb_all2 (nb_allc (by decide +kernel) p_x_reduce_good) rfl)))))
def w_x_single : List Cond := .code yX12_single cX12_single 3 (some .int) :: (p_x_single ++ fM)
theorem w_x_single_good : w_x_single.all goodWord = true := nb_allc (by decide +kernel) (nb_all2 p_x_single_good fM_good)
theorem in_x_single : ∀ w ∈ wsX120, w ∈ w_x_single := fun _ h => List.mem_cons_of_mem _ (List.mem_append_right _ h)
theorem hd_x_single : yX12_single.cls = RX12 ∧ yX12_single.cls ≠ "java/lang/invoke/MethodHandle" ∧ yX12_single.cls ≠ "java/lang/invoke/VarHandle" ∧ (parseMethodDescriptor yX12_single.desc).map (fun d => d.parameters.length) = some 2 := by decide +kernel
theorem gg_x_single_function : GoodIn w_x_single w_x_function := goodIn_sub (fun w h => (List.mem_cons.mp h).elim (fun e => (List.mem_cons_of_mem _ (List.mem_append_left _ (List.mem_append_right _ (List.mem_append_left _ (List.mem_cons.mpr (Or.inl e))))))) (fun h => (List.mem_append.mp h).elim (fun h => (List.mem_cons_of_mem _ (List.mem_append_left _ (List.mem_append_right _ (List.mem_append_left _ (List.mem_cons_of_mem _ h)))))) (fun h => List.mem_cons_of_mem _ (List.mem_append_right _ h)))) w_x_function_good
theorem g_x_single_function_631 : GoodIn w_x_single (wsV RX12 631 RX12 yX12_function w_x_function) := goodIn_app (nb_g4 (List.mem_cons_of_mem _ (List.mem_append_left _ (List.mem_append_left _ (List.mem_of_getElem? (i := 2) rfl)))) (List.mem_cons_of_mem _ (List.mem_append_left _ (List.mem_append_left _ (List.mem_of_getElem? (i := 3) rfl)))) (List.mem_cons_of_mem _ (List.mem_append_left _ (List.mem_append_left _ (List.mem_of_getElem? (i := 4) rfl)))) (List.mem_cons_of_mem _ (List.mem_append_left _ (List.mem_append_left _ (List.mem_of_getElem? (i := 5) rfl)))) (by decide +kernel)) gg_x_single_function
theorem gg_x_single_many : GoodIn w_x_single w_x_many := goodIn_sub (fun w h => (List.mem_cons.mp h).elim (fun e => (List.mem_cons_of_mem _ (List.mem_append_left _ (List.mem_append_right _ (List.mem_append_right _ (List.mem_append_right _ (List.mem_append_left _ (List.mem_cons.mpr (Or.inl e))))))))) (fun h => (List.mem_append.mp h).elim (fun h => (List.mem_cons_of_mem _ (List.mem_append_left _ (List.mem_append_right _ (List.mem_append_right _ (List.mem_append_right _ (List.mem_append_left _ (List.mem_cons_of_mem _ h)))))))) (fun h => List.mem_cons_of_mem _ (List.mem_append_right _ h)))) w_x_many_good
theorem g_x_single_many_637 : GoodIn w_x_single (wsV RX12 637 RX12 yX12_many w_x_many) := goodIn_app (nb_g4 (List.mem_cons_of_mem _ (List.mem_append_left _ (List.mem_append_left _ (List.mem_of_getElem? (i := 9) rfl)))) (List.mem_cons_of_mem _ (List.mem_append_left _ (List.mem_append_left _ (List.mem_of_getElem? (i := 10) rfl)))) (List.mem_cons_of_mem _ (List.mem_append_left _ (List.mem_append_left _ (List.mem_of_getElem? (i := 11) rfl)))) (List.mem_cons_of_mem _ (List.mem_append_left _ (List.mem_append_left _ (List.mem_of_getElem? (i := 5) rfl)))) (by decide +kernel)) gg_x_single_many
theorem gg_x_single_negative : GoodIn w_x_single w_x_negative := goodIn_sub (fun w h => (List.mem_cons.mp h).elim (fun e => (List.mem_cons_of_mem _ (List.mem_append_left _ (List.mem_append_right _ (List.mem_append_right _ (List.mem_append_left _ (List.mem_cons.mpr (Or.inl e)))))))) (fun h => (List.mem_append.mp h).elim (fun h => (List.mem_cons_of_mem _ (List.mem_append_left _ (List.mem_append_right _ (List.mem_append_right _ (List.mem_append_left _ (List.mem_cons_of_mem _ h))))))) (fun h => List.mem_cons_of_mem _ (List.mem_append_right _ h)))) w_x_negative_good
theorem g_x_single_negative_634 : GoodIn w_x_single (wsV RX12 634 RX12 yX12_negative w_x_negative) := goodIn_app (nb_g4 (List.mem_cons_of_mem _ (List.mem_append_left _ (List.mem_append_left _ (List.mem_of_getElem? (i := 6) rfl)))) (List.mem_cons_of_mem _ (List.mem_append_left _ (List.mem_append_left _ (List.mem_of_getElem? (i := 7) rfl)))) (List.mem_cons_of_mem _ (List.mem_append_left _ (List.mem_append_left _ (List.mem_of_getElem? (i := 8) rfl)))) (List.mem_cons_of_mem _ (List.mem_append_left _ (List.mem_append_left _ (List.mem_of_getElem? (i := 5) rfl)))) (by decide +kernel)) gg_x_single_negative
theorem gg_x_single_reduce : GoodIn w_x_single w_x_reduce := goodIn_sub (fun w h => (List.mem_cons.mp h).elim (fun e => (List.mem_cons_of_mem _ (List.mem_append_left _ (List.mem_append_right _ (List.mem_append_right _ (List.mem_append_right _ (List.mem_append_right _ (List.mem_append_right _ (List.mem_append_left _ (List.mem_cons.mpr (Or.inl e))))))))))) (fun h => (List.mem_append.mp h).elim (fun h => (List.mem_cons_of_mem _ (List.mem_append_left _ (List.mem_append_right _ (List.mem_append_right _ (List.mem_append_right _ (List.mem_append_right _ (List.mem_append_right _ (List.mem_append_left _ (List.mem_cons_of_mem _ h)))))))))) (fun h => List.mem_cons_of_mem _ (List.mem_append_right _ h)))) w_x_reduce_good
theorem g_x_single_reduce_643 : GoodIn w_x_single (wsV RX12 643 RX12 yX12_reduce w_x_reduce) := goodIn_app (nb_g4 (List.mem_cons_of_mem _ (List.mem_append_left _ (List.mem_append_left _ (List.mem_of_getElem? (i := 15) rfl)))) (List.mem_cons_of_mem _ (List.mem_append_left _ (List.mem_append_left _ (List.mem_of_getElem? (i := 16) rfl)))) (List.mem_cons_of_mem _ (List.mem_append_left _ (List.mem_append_left _ (List.mem_of_getElem? (i := 17) rfl)))) (List.mem_cons_of_mem _ (List.mem_append_left _ (List.mem_append_left _ (List.mem_of_getElem? (i := 5) rfl)))) (by decide +kernel)) gg_x_single_reduce
theorem gg_x_single_turned : GoodIn w_x_single w_x_turned := goodIn_sub (fun w h => (List.mem_cons.mp h).elim (fun e => (List.mem_cons_of_mem _ (List.mem_append_left _ (List.mem_append_right _ (List.mem_append_right _ (List.mem_append_right _ (List.mem_append_right _ (List.mem_append_left _ (List.mem_cons.mpr (Or.inl e)))))))))) (fun h => (List.mem_append.mp h).elim (fun h => (List.mem_cons_of_mem _ (List.mem_append_left _ (List.mem_append_right _ (List.mem_append_right _ (List.mem_append_right _ (List.mem_append_right _ (List.mem_append_left _ (List.mem_cons_of_mem _ h))))))))) (fun h => List.mem_cons_of_mem _ (List.mem_append_right _ h)))) w_x_turned_good
theorem g_x_single_turned_640 : GoodIn w_x_single (wsV RX12 640 RX12 yX12_turned w_x_turned) := goodIn_app (nb_g4 (List.mem_cons_of_mem _ (List.mem_append_left _ (List.mem_append_left _ (List.mem_of_getElem? (i := 12) rfl)))) (List.mem_cons_of_mem _ (List.mem_append_left _ (List.mem_append_left _ (List.mem_of_getElem? (i := 13) rfl)))) (List.mem_cons_of_mem _ (List.mem_append_left _ (List.mem_append_left _ (List.mem_of_getElem? (i := 14) rfl)))) (List.mem_cons_of_mem _ (List.mem_append_left _ (List.mem_append_left _ (List.mem_of_getElem? (i := 5) rfl)))) (by decide +kernel)) gg_x_single_turned
set_option maxHeartbeats 40000000 in
set_option maxRecDepth 100000 in
theorem c_x_single (l : Launch) (dC : Nat → ClassId) (dI : Nat → Nat → Nat) (cy : Nat → ClassId) (a : Nat → Nat) (k0 : Nat) (L0 : Nat → Int32) (σ0 : MS) (r0 : Int32 × MS) (h0 : x_single k0 0 L0 σ0 = some r0) (sz : Nat) : Met l yX12_single w_x_single ({ frames := 56, cells := 0, slots := 0, locals := 1353 }) (va_Pc [.ref (a 0), .int (L0 1), .int (L0 2)] (nIn (dC, dI) cy sz (vM cy a σ0))) (va_Qi (fun (z : Int32) (_ : Unit) => z = r0.1) (fun _ t => nOut (dC, dI) cy (va_A (vM cy a σ0) sz) (vM cy a r0.2) t) (va_A (vM cy a σ0) sz)) 0 0 (va_A (vM cy a σ0) sz) := by
  refine Met.ofW (cc := cX12_single) (maxL := 3) (ret := (some .int)) (by decide) rfl ?_
  intro p e s m args below meth c s₁ B hml hv
  obtain ⟨rfl, hsz, hP, hK, hD0, hG⟩ := hv
  have hx := B.exec
  have hb := B.bytes
  have hr := B.returns
  have hts := atoms_spec (ws := w_x_single) B.pre
  have hown : s.vm.findClass RX12 = some m.cls := findClass_of_methodNamed B.named
  have hlocks := B.notSynchronized
  subst hsz
  have hD := hD0.self (sz := s.heap.size)
  generalize hAe : va_A (vM cy a σ0) s.heap.size = A at hD ⊢
  have hA : ∀ q : Nat, s.heap.size ≤ q → A q := fun q h => by rw [← hAe]; exact Or.inr h
  have hS : va_S A s.heap s.heap [] := va_S.rf
  have hl := lv_entry ([.ref (a 0), .int (L0 1), .int (L0 2)]) (n := 3) (Nat.le_of_ble_eq_true rfl)
  rw [lg_entry_eq]
  generalize (lg_sl ([.ref (a 0), .int (L0 1), .int (L0 2)]) ++ List.replicate (3 - (lg_sl ([.ref (a 0), .int (L0 1), .int (L0 2)])).length) Slot.unset).toArray = ls at hl ⊢
  have hl : lv_has ls 3 [(0, .ref (a 0)), (1, .int (L0 1)), (2, .int (L0 2))] := hl
  have blk : ∀ k : Nat, (bT p l e (headSpec w_x_single ({ frames := 56, cells := 0, slots := 0, locals := 1353 })).room s m #[.ref (a 0), .int (L0 1), .int (L0 2)] below meth c dC dI cy a A (qI dC dI cy a A below #[.ref (a 0), .int (L0 1), .int (L0 2)] s) 3 (x_single k 0) (fun L => [(0, .ref (a 0)), (1, .int (L 1)), (2, .int (L 2))]) 0 (fun L => [])) ∧ (bT p l e (headSpec w_x_single ({ frames := 56, cells := 0, slots := 0, locals := 1353 })).room s m #[.ref (a 0), .int (L0 1), .int (L0 2)] below meth c dC dI cy a A (qI dC dI cy a A below #[.ref (a 0), .int (L0 1), .int (L0 2)] s) 3 (x_single k 1) (fun L => [(0, .ref (a 0)), (1, .int (L 1)), (2, .int (L 2))]) 48 (fun L => [])) ∧ (bT p l e (headSpec w_x_single ({ frames := 56, cells := 0, slots := 0, locals := 1353 })).room s m #[.ref (a 0), .int (L0 1), .int (L0 2)] below meth c dC dI cy a A (qI dC dI cy a A below #[.ref (a 0), .int (L0 1), .int (L0 2)] s) 3 (x_single k 2) (fun L => [(0, .ref (a 0)), (1, .int (L 1)), (2, .int (L 2))]) 60 (fun L => [])) ∧ (bT p l e (headSpec w_x_single ({ frames := 56, cells := 0, slots := 0, locals := 1353 })).room s m #[.ref (a 0), .int (L0 1), .int (L0 2)] below meth c dC dI cy a A (qI dC dI cy a A below #[.ref (a 0), .int (L0 1), .int (L0 2)] s) 3 (x_single k 3) (fun L => [(0, .ref (a 0)), (1, .int (L 1)), (2, .int (L 2))]) 66 (fun L => [])) ∧ (bT p l e (headSpec w_x_single ({ frames := 56, cells := 0, slots := 0, locals := 1353 })).room s m #[.ref (a 0), .int (L0 1), .int (L0 2)] below meth c dC dI cy a A (qI dC dI cy a A below #[.ref (a 0), .int (L0 1), .int (L0 2)] s) 3 (x_single k 4) (fun L => [(0, .ref (a 0)), (1, .int (L 1)), (2, .int (L 2))]) 72 (fun L => [])) ∧ (bT p l e (headSpec w_x_single ({ frames := 56, cells := 0, slots := 0, locals := 1353 })).room s m #[.ref (a 0), .int (L0 1), .int (L0 2)] below meth c dC dI cy a A (qI dC dI cy a A below #[.ref (a 0), .int (L0 1), .int (L0 2)] s) 3 (x_single k 5) (fun L => [(0, .ref (a 0)), (1, .int (L 1)), (2, .int (L 2))]) 78 (fun L => [])) := by
    intro k
    induction k with
    | zero => exact ⟨fun L σ r h => (by cases h), fun L σ r h => (by cases h), fun L σ r h => (by cases h), fun L σ r h => (by cases h), fun L σ r h => (by cases h), fun L σ r h => (by cases h)⟩
    | succ k ih =>
      refine ⟨?_, ?_, ?_, ?_, ?_, ?_⟩
      · intro L σ r h H locs ls hP hD hS hl
        rw [x_single] at h
        refine lv_aload_n hx hb dX12_single_0 rfl (lv_at hl 0 rfl) ?_
        refine ng_14 hx hb hts in_x_single hown hK hP (hts _ (List.mem_cons_of_mem _ (List.mem_append_left _ (List.mem_append_left _ (List.mem_of_getElem? (i := 0) rfl))))) dX12_single_1 ?_
        refine lv_iload_n hx hb dX12_single_4 rfl (lv_at hl 1 rfl) ?_
        obtain ⟨q1, h⟩ := nb_ite1 h
        refine nl_4 hx hb hK hP q1 dX12_single_5 ?_
        by_cases q2 : ((σ.2.2 4 ((L 1)).toNatClampNeg)) = (9 : Int32)
        · rw [if_pos q2] at h
          refine lv_lookup (off := 42) (tgt := 48) hx hb dX12_single_6 (by decide) (by rw [q2]; decide) (by decide) ?_
          exact ih.2.1 L σ r h H locs ls hP hD hS (lv_sub hl [0, 1, 2] rfl)
        · rw [if_neg q2] at h
          by_cases q3 : ((σ.2.2 4 ((L 1)).toNatClampNeg)) = (17 : Int32)
          · rw [if_pos q3] at h
            refine lv_lookup (off := 54) (tgt := 60) hx hb dX12_single_6 (by decide) (by rw [q3]; decide) (by decide) ?_
            exact ih.2.2.1 L σ r h H locs ls hP hD hS (lv_sub hl [0, 1, 2] rfl)
          · rw [if_neg q3] at h
            by_cases q4 : ((σ.2.2 4 ((L 1)).toNatClampNeg)) = (18 : Int32)
            · rw [if_pos q4] at h
              refine lv_lookup (off := 60) (tgt := 66) hx hb dX12_single_6 (by decide) (by rw [q4]; decide) (by decide) ?_
              exact ih.2.2.2.1 L σ r h H locs ls hP hD hS (lv_sub hl [0, 1, 2] rfl)
            · rw [if_neg q4] at h
              by_cases q5 : ((σ.2.2 4 ((L 1)).toNatClampNeg)) = (19 : Int32)
              · rw [if_pos q5] at h
                refine lv_lookup (off := 66) (tgt := 72) hx hb dX12_single_6 (by decide) (by rw [q5]; decide) (by decide) ?_
                exact ih.2.2.2.2.1 L σ r h H locs ls hP hD hS (lv_sub hl [0, 1, 2] rfl)
              · rw [if_neg q5] at h
                have nq2 : ¬ ((σ.2.2 4 ((L 1)).toNatClampNeg)).toInt = 9 := nb_ti q2 rfl
                have nq3 : ¬ ((σ.2.2 4 ((L 1)).toNatClampNeg)).toInt = 17 := nb_ti q3 rfl
                have nq4 : ¬ ((σ.2.2 4 ((L 1)).toNatClampNeg)).toInt = 18 := nb_ti q4 rfl
                have nq5 : ¬ ((σ.2.2 4 ((L 1)).toNatClampNeg)).toInt = 19 := nb_ti q5 rfl
                refine lv_lookup (off := 72) (tgt := 78) hx hb dX12_single_6 (by decide) (nb_lk (by simp only [List.forall_mem_cons]; exact ⟨nq2, nq3, nq4, nq5, fun _ h => absurd h List.not_mem_nil⟩)) (by decide) ?_
                exact ih.2.2.2.2.2 L σ r h H locs ls hP hD hS (lv_sub hl [0, 1, 2] rfl)
      · intro L σ r h H locs ls hP hD hS hl
        rw [x_single] at h
        refine lv_aload_n hx hb dX12_single_48 rfl (lv_at hl 0 rfl) ?_
        refine lv_aload_n hx hb dX12_single_49 rfl (lv_at hl 0 rfl) ?_
        refine ng_15 hx hb hts in_x_single hown hK hP (hts _ (List.mem_cons_of_mem _ (List.mem_append_left _ (List.mem_append_left _ (List.mem_of_getElem? (i := 1) rfl))))) dX12_single_50 ?_
        refine lv_iload_n hx hb dX12_single_53 rfl (lv_at hl 1 rfl) ?_
        obtain ⟨q1, h⟩ := nb_ite1 h
        refine nl_5 hx hb hK hP q1 dX12_single_54 ?_
        refine lv_iload_n hx hb dX12_single_55 rfl (lv_at hl 2 rfl) ?_
        obtain ⟨r2, hc2, h⟩ := ob_ex h
        refine nc_Vi (As := [.int (σ.2.2 5 ((L 1)).toNatClampNeg), .int (L 2)]) (rest := []) ⟨hx, hb, hml, hown, hts⟩ (c_x_function l dC dI cy a k (upd (upd (fun _ => 0) 1 ((σ.2.2 5 ((L 1)).toNatClampNeg))) 2 ((L 2))) σ r2 hc2 H.size) (cwV 2 hts g_x_single_function_631 rfl rfl rfl hd_x_function ⟨Nat.le_of_ble_eq_true rfl, Nat.le_of_ble_eq_true rfl⟩) hK hG hA hP hD hS rfl hl.1 rfl (Nat.le_of_ble_eq_true rfl) dX12_single_56 ⟨Nat.le_refl _, Nat.le_refl _⟩ (fun H locs hP hD hS => ?_)
        cases h
        exact W.iret (v := r2.1) hx hb hr (fun t ht hW => ⟨⟨r2.1, (), rfl, rfl, by rw [ht]; exact hP, va_K.moved hW.alike hK, hD⟩, hS.F ht⟩) hS.2.2 dX12_single_59
      · intro L σ r h H locs ls hP hD hS hl
        rw [x_single] at h
        refine lv_aload_n hx hb dX12_single_60 rfl (lv_at hl 0 rfl) ?_
        refine lv_iload_n hx hb dX12_single_61 rfl (lv_at hl 2 rfl) ?_
        obtain ⟨r1, hc1, h⟩ := ob_ex h
        refine nc_Vi (As := [.int (L 2)]) (rest := []) ⟨hx, hb, hml, hown, hts⟩ (c_x_negative l dC dI cy a k (upd (fun _ => 0) 1 ((L 2))) σ r1 hc1 H.size) (cwV 1 hts g_x_single_negative_634 rfl rfl rfl hd_x_negative ⟨Nat.le_of_ble_eq_true rfl, Nat.le_of_ble_eq_true rfl⟩) hK hG hA hP hD hS rfl hl.1 rfl (Nat.le_of_ble_eq_true rfl) dX12_single_62 ⟨Nat.le_refl _, Nat.le_refl _⟩ (fun H locs hP hD hS => ?_)
        cases h
        exact W.iret (v := r1.1) hx hb hr (fun t ht hW => ⟨⟨r1.1, (), rfl, rfl, by rw [ht]; exact hP, va_K.moved hW.alike hK, hD⟩, hS.F ht⟩) hS.2.2 dX12_single_65
      · intro L σ r h H locs ls hP hD hS hl
        rw [x_single] at h
        refine lv_aload_n hx hb dX12_single_66 rfl (lv_at hl 0 rfl) ?_
        refine lv_iload_n hx hb dX12_single_67 rfl (lv_at hl 2 rfl) ?_
        obtain ⟨r1, hc1, h⟩ := ob_ex h
        refine nc_Vi (As := [.int (L 2)]) (rest := []) ⟨hx, hb, hml, hown, hts⟩ (c_x_many l dC dI cy a k (upd (fun _ => 0) 1 ((L 2))) σ r1 hc1 H.size) (cwV 1 hts g_x_single_many_637 rfl rfl rfl hd_x_many ⟨Nat.le_of_ble_eq_true rfl, Nat.le_of_ble_eq_true rfl⟩) hK hG hA hP hD hS rfl hl.1 rfl (Nat.le_of_ble_eq_true rfl) dX12_single_68 ⟨Nat.le_refl _, Nat.le_refl _⟩ (fun H locs hP hD hS => ?_)
        cases h
        exact W.iret (v := r1.1) hx hb hr (fun t ht hW => ⟨⟨r1.1, (), rfl, rfl, by rw [ht]; exact hP, va_K.moved hW.alike hK, hD⟩, hS.F ht⟩) hS.2.2 dX12_single_71
      · intro L σ r h H locs ls hP hD hS hl
        rw [x_single] at h
        refine lv_aload_n hx hb dX12_single_72 rfl (lv_at hl 0 rfl) ?_
        refine lv_iload_n hx hb dX12_single_73 rfl (lv_at hl 2 rfl) ?_
        obtain ⟨r1, hc1, h⟩ := ob_ex h
        refine nc_Vi (As := [.int (L 2)]) (rest := []) ⟨hx, hb, hml, hown, hts⟩ (c_x_turned l dC dI cy a k (upd (fun _ => 0) 1 ((L 2))) σ r1 hc1 H.size) (cwV 1 hts g_x_single_turned_640 rfl rfl rfl hd_x_turned ⟨Nat.le_of_ble_eq_true rfl, Nat.le_of_ble_eq_true rfl⟩) hK hG hA hP hD hS rfl hl.1 rfl (Nat.le_of_ble_eq_true rfl) dX12_single_74 ⟨Nat.le_refl _, Nat.le_refl _⟩ (fun H locs hP hD hS => ?_)
        cases h
        exact W.iret (v := r1.1) hx hb hr (fun t ht hW => ⟨⟨r1.1, (), rfl, rfl, by rw [ht]; exact hP, va_K.moved hW.alike hK, hD⟩, hS.F ht⟩) hS.2.2 dX12_single_77
      · intro L σ r h H locs ls hP hD hS hl
        rw [x_single] at h
        refine lv_aload_n hx hb dX12_single_78 rfl (lv_at hl 0 rfl) ?_
        refine lv_aload_n hx hb dX12_single_79 rfl (lv_at hl 0 rfl) ?_
        refine ng_15 hx hb hts in_x_single hown hK hP (hts _ (List.mem_cons_of_mem _ (List.mem_append_left _ (List.mem_append_left _ (List.mem_of_getElem? (i := 1) rfl))))) dX12_single_80 ?_
        refine lv_iload_n hx hb dX12_single_83 rfl (lv_at hl 1 rfl) ?_
        obtain ⟨q1, h⟩ := nb_ite1 h
        refine nl_5 hx hb hK hP q1 dX12_single_84 ?_
        refine lv_iload_n hx hb dX12_single_85 rfl (lv_at hl 2 rfl) ?_
        obtain ⟨r2, hc2, h⟩ := ob_ex h
        refine nc_Vi (As := [.int (σ.2.2 5 ((L 1)).toNatClampNeg), .int (L 2)]) (rest := []) ⟨hx, hb, hml, hown, hts⟩ (c_x_reduce l dC dI cy a k (upd (upd (fun _ => 0) 1 ((σ.2.2 5 ((L 1)).toNatClampNeg))) 2 ((L 2))) σ r2 hc2 H.size) (cwV 2 hts g_x_single_reduce_643 rfl rfl rfl hd_x_reduce ⟨Nat.le_of_ble_eq_true rfl, Nat.le_of_ble_eq_true rfl⟩) hK hG hA hP hD hS rfl hl.1 rfl (Nat.le_of_ble_eq_true rfl) dX12_single_86 ⟨Nat.le_refl _, Nat.le_refl _⟩ (fun H locs hP hD hS => ?_)
        cases h
        exact W.iret (v := r2.1) hx hb hr (fun t ht hW => ⟨⟨r2.1, (), rfl, rfl, by rw [ht]; exact hP, va_K.moved hW.alike hK, hD⟩, hS.F ht⟩) hS.2.2 dX12_single_89
  exact (blk k0).1 L0 σ0 r0 h0 s.heap [] ls hP hD hS hl
/-! image -/
def x_image : Nat → Nat → (Nat → Int32) → MS → Option (Int32 × MS)
  | 0, _, _, _ => none
  | k + 1, 0, L, σ => ob (x_isMap k 0 (upd (fun _ => 0) 1 ((L 1))) σ) (fun r1 => if r1.1 = 0 then (ob (x_wrongKind k 0 (fun _ => 0) r1.2) (fun r3 => some (r3.1, r3.2))) else (x_image k 1 L r1.2))
  | k + 1, 1, L, σ => x_image k 2 (upd (upd L 3 ((σ.1 59))) 4 0) σ
  | k + 1, 2, L, σ => if ¬ (((((L 1)) + 1)) < 0 ∨ 1740000 ≤ ((((L 1)) + 1)).toNatClampNeg) then (if ((σ.2.2 28 ((((L 1)) + 1)).toNatClampNeg)) ≤ ((L 4)) then (x_image k 4 L σ) else (if ¬ (((((((L 1)) + 4)) + ((L 4)))) < 0 ∨ 1740000 ≤ ((((((L 1)) + 4)) + ((L 4)))).toNatClampNeg) then (if ¬ (((((σ.2.2 28 ((((((L 1)) + 4)) + ((L 4)))).toNatClampNeg)) + 4)) < 0 ∨ 1740000 ≤ ((((σ.2.2 28 ((((((L 1)) + 4)) + ((L 4)))).toNatClampNeg)) + 4)).toNatClampNeg) then (ob (x_compare k 0 (upd (upd (fun _ => 0) 1 ((σ.2.2 28 ((((σ.2.2 28 ((((((L 1)) + 4)) + ((L 4)))).toNatClampNeg)) + 4)).toNatClampNeg))) 2 ((L 2))) σ) (fun r5 => if r5.1 = 0 then (if ¬ (((((σ.2.2 28 ((((((L 1)) + 4)) + ((L 4)))).toNatClampNeg)) + 5)) < 0 ∨ 1740000 ≤ ((((σ.2.2 28 ((((((L 1)) + 4)) + ((L 4)))).toNatClampNeg)) + 5)).toNatClampNeg) then (ob (x_push k 0 (upd (fun _ => 0) 1 ((r5.2.2.2 28 ((((σ.2.2 28 ((((((L 1)) + 4)) + ((L 4)))).toNatClampNeg)) + 5)).toNatClampNeg))) r5.2) (fun r8 => x_image k 3 (upd L 5 ((σ.2.2 28 ((((((L 1)) + 4)) + ((L 4)))).toNatClampNeg))) r8.2)) else none) else (x_image k 3 (upd L 5 ((σ.2.2 28 ((((((L 1)) + 4)) + ((L 4)))).toNatClampNeg))) r5.2))) else none) else none)) else none
  | k + 1, 3, L, σ => x_image k 2 (upd L 4 (((L 4)) + 1)) σ
  | k + 1, 4, L, σ => ob (x_setOf k 0 (upd (fun _ => 0) 1 ((L 3))) σ) (fun r1 => some (r1.1, r1.2))
  | _ + 1, _ + 5, _, _ => none
def o_x_image : List Cond := [.methodLink RX12 785 yX12_isMap, .instanceMethod yX12_isMap, .selects RX12 yX12_isMap yX12_isMap, .initialized RX12, .methodLink RX12 666 yX12_wrongKind, .instanceMethod yX12_wrongKind, .selects RX12 yX12_wrongKind yX12_wrongKind, .fieldLink RX12 385 "SetHouseModel" "top" "I", .fieldLink RX12 372 "SetHouseModel" "heap" "[I", .methodLink RX12 451 yX12_compare, .instanceMethod yX12_compare, .selects RX12 yX12_compare yX12_compare, .methodLink RX12 594 yX12_push, .instanceMethod yX12_push, .selects RX12 yX12_push yX12_push, .methodLink RX12 678 yX12_setOf, .instanceMethod yX12_setOf, .selects RX12 yX12_setOf yX12_setOf]
theorem o_x_image_good : o_x_image.all goodWord = true := by decide +kernel
def p_x_image : List Cond := o_x_image ++ ((.code yX12_isMap cX12_isMap 5 (some .boolean) :: p_x_isMap) ++ ((.code yX12_wrongKind cX12_wrongKind 1 (some .int) :: p_x_wrongKind) ++ ((.code yX12_compare cX12_compare 9 (some .int) :: p_x_GC) ++ ((.code yX12_push cX12_push 2 none :: p_x_push) ++ ((.code yX12_setOf cX12_setOf 5 (some .int) :: p_x_setOf) ++ [])))))
theorem p_x_image_good : p_x_image.all goodWord = true := nb_all2 o_x_image_good (nb_all2 (nb_allc (by decide +kernel) p_x_isMap_good) (nb_all2 (nb_allc (by decide +kernel) p_x_wrongKind_good) (nb_all2 (nb_allc (by decide +kernel) p_x_GC_good) (nb_all2 (nb_allc (by decide +kernel) p_x_push_good) (nb_all2 (nb_allc (by decide +kernel) p_x_setOf_good) rfl)))))
def w_x_image : List Cond := .code yX12_image cX12_image 6 (some .int) :: (p_x_image ++ fM)
theorem w_x_image_good : w_x_image.all goodWord = true := nb_allc (by decide +kernel) (nb_all2 p_x_image_good fM_good)
theorem in_x_image : ∀ w ∈ wsX120, w ∈ w_x_image := fun _ h => List.mem_cons_of_mem _ (List.mem_append_right _ h)
theorem hd_x_image : yX12_image.cls = RX12 ∧ yX12_image.cls ≠ "java/lang/invoke/MethodHandle" ∧ yX12_image.cls ≠ "java/lang/invoke/VarHandle" ∧ (parseMethodDescriptor yX12_image.desc).map (fun d => d.parameters.length) = some 2 := by decide +kernel
theorem gg_x_image_compare : GoodIn w_x_image w_x_compare := goodIn_sub (fun w h => (List.mem_cons.mp h).elim (fun e => (List.mem_cons_of_mem _ (List.mem_append_left _ (List.mem_append_right _ (List.mem_append_right _ (List.mem_append_right _ (List.mem_append_left _ (List.mem_cons.mpr (Or.inl e))))))))) (fun h => (List.mem_append.mp h).elim (fun h => (List.mem_cons_of_mem _ (List.mem_append_left _ (List.mem_append_right _ (List.mem_append_right _ (List.mem_append_right _ (List.mem_append_left _ (List.mem_cons_of_mem _ h)))))))) (fun h => List.mem_cons_of_mem _ (List.mem_append_right _ h)))) w_x_compare_good
theorem g_x_image_compare_451 : GoodIn w_x_image (wsV RX12 451 RX12 yX12_compare w_x_compare) := goodIn_app (nb_g4 (List.mem_cons_of_mem _ (List.mem_append_left _ (List.mem_append_left _ (List.mem_of_getElem? (i := 9) rfl)))) (List.mem_cons_of_mem _ (List.mem_append_left _ (List.mem_append_left _ (List.mem_of_getElem? (i := 10) rfl)))) (List.mem_cons_of_mem _ (List.mem_append_left _ (List.mem_append_left _ (List.mem_of_getElem? (i := 11) rfl)))) (List.mem_cons_of_mem _ (List.mem_append_left _ (List.mem_append_left _ (List.mem_of_getElem? (i := 3) rfl)))) (by decide +kernel)) gg_x_image_compare
theorem gg_x_image_isMap : GoodIn w_x_image w_x_isMap := goodIn_sub (fun w h => (List.mem_cons.mp h).elim (fun e => (List.mem_cons_of_mem _ (List.mem_append_left _ (List.mem_append_right _ (List.mem_append_left _ (List.mem_cons.mpr (Or.inl e))))))) (fun h => (List.mem_append.mp h).elim (fun h => (List.mem_cons_of_mem _ (List.mem_append_left _ (List.mem_append_right _ (List.mem_append_left _ (List.mem_cons_of_mem _ h)))))) (fun h => List.mem_cons_of_mem _ (List.mem_append_right _ h)))) w_x_isMap_good
theorem g_x_image_isMap_785 : GoodIn w_x_image (wsV RX12 785 RX12 yX12_isMap w_x_isMap) := goodIn_app (nb_g4 (List.mem_cons_of_mem _ (List.mem_append_left _ (List.mem_append_left _ (List.mem_of_getElem? (i := 0) rfl)))) (List.mem_cons_of_mem _ (List.mem_append_left _ (List.mem_append_left _ (List.mem_of_getElem? (i := 1) rfl)))) (List.mem_cons_of_mem _ (List.mem_append_left _ (List.mem_append_left _ (List.mem_of_getElem? (i := 2) rfl)))) (List.mem_cons_of_mem _ (List.mem_append_left _ (List.mem_append_left _ (List.mem_of_getElem? (i := 3) rfl)))) (by decide +kernel)) gg_x_image_isMap
theorem gg_x_image_push : GoodIn w_x_image w_x_push := goodIn_sub (fun w h => (List.mem_cons.mp h).elim (fun e => (List.mem_cons_of_mem _ (List.mem_append_left _ (List.mem_append_right _ (List.mem_append_right _ (List.mem_append_right _ (List.mem_append_right _ (List.mem_append_left _ (List.mem_cons.mpr (Or.inl e)))))))))) (fun h => (List.mem_append.mp h).elim (fun h => (List.mem_cons_of_mem _ (List.mem_append_left _ (List.mem_append_right _ (List.mem_append_right _ (List.mem_append_right _ (List.mem_append_right _ (List.mem_append_left _ (List.mem_cons_of_mem _ h))))))))) (fun h => List.mem_cons_of_mem _ (List.mem_append_right _ h)))) w_x_push_good
theorem g_x_image_push_594 : GoodIn w_x_image (wsV RX12 594 RX12 yX12_push w_x_push) := goodIn_app (nb_g4 (List.mem_cons_of_mem _ (List.mem_append_left _ (List.mem_append_left _ (List.mem_of_getElem? (i := 12) rfl)))) (List.mem_cons_of_mem _ (List.mem_append_left _ (List.mem_append_left _ (List.mem_of_getElem? (i := 13) rfl)))) (List.mem_cons_of_mem _ (List.mem_append_left _ (List.mem_append_left _ (List.mem_of_getElem? (i := 14) rfl)))) (List.mem_cons_of_mem _ (List.mem_append_left _ (List.mem_append_left _ (List.mem_of_getElem? (i := 3) rfl)))) (by decide +kernel)) gg_x_image_push
theorem gg_x_image_setOf : GoodIn w_x_image w_x_setOf := goodIn_sub (fun w h => (List.mem_cons.mp h).elim (fun e => (List.mem_cons_of_mem _ (List.mem_append_left _ (List.mem_append_right _ (List.mem_append_right _ (List.mem_append_right _ (List.mem_append_right _ (List.mem_append_right _ (List.mem_append_left _ (List.mem_cons.mpr (Or.inl e))))))))))) (fun h => (List.mem_append.mp h).elim (fun h => (List.mem_cons_of_mem _ (List.mem_append_left _ (List.mem_append_right _ (List.mem_append_right _ (List.mem_append_right _ (List.mem_append_right _ (List.mem_append_right _ (List.mem_append_left _ (List.mem_cons_of_mem _ h)))))))))) (fun h => List.mem_cons_of_mem _ (List.mem_append_right _ h)))) w_x_setOf_good
theorem g_x_image_setOf_678 : GoodIn w_x_image (wsV RX12 678 RX12 yX12_setOf w_x_setOf) := goodIn_app (nb_g4 (List.mem_cons_of_mem _ (List.mem_append_left _ (List.mem_append_left _ (List.mem_of_getElem? (i := 15) rfl)))) (List.mem_cons_of_mem _ (List.mem_append_left _ (List.mem_append_left _ (List.mem_of_getElem? (i := 16) rfl)))) (List.mem_cons_of_mem _ (List.mem_append_left _ (List.mem_append_left _ (List.mem_of_getElem? (i := 17) rfl)))) (List.mem_cons_of_mem _ (List.mem_append_left _ (List.mem_append_left _ (List.mem_of_getElem? (i := 3) rfl)))) (by decide +kernel)) gg_x_image_setOf
theorem gg_x_image_wrongKind : GoodIn w_x_image w_x_wrongKind := goodIn_sub (fun w h => (List.mem_cons.mp h).elim (fun e => (List.mem_cons_of_mem _ (List.mem_append_left _ (List.mem_append_right _ (List.mem_append_right _ (List.mem_append_left _ (List.mem_cons.mpr (Or.inl e)))))))) (fun h => (List.mem_append.mp h).elim (fun h => (List.mem_cons_of_mem _ (List.mem_append_left _ (List.mem_append_right _ (List.mem_append_right _ (List.mem_append_left _ (List.mem_cons_of_mem _ h))))))) (fun h => List.mem_cons_of_mem _ (List.mem_append_right _ h)))) w_x_wrongKind_good
theorem g_x_image_wrongKind_666 : GoodIn w_x_image (wsV RX12 666 RX12 yX12_wrongKind w_x_wrongKind) := goodIn_app (nb_g4 (List.mem_cons_of_mem _ (List.mem_append_left _ (List.mem_append_left _ (List.mem_of_getElem? (i := 4) rfl)))) (List.mem_cons_of_mem _ (List.mem_append_left _ (List.mem_append_left _ (List.mem_of_getElem? (i := 5) rfl)))) (List.mem_cons_of_mem _ (List.mem_append_left _ (List.mem_append_left _ (List.mem_of_getElem? (i := 6) rfl)))) (List.mem_cons_of_mem _ (List.mem_append_left _ (List.mem_append_left _ (List.mem_of_getElem? (i := 3) rfl)))) (by decide +kernel)) gg_x_image_wrongKind
set_option maxHeartbeats 40000000 in
set_option maxRecDepth 100000 in
theorem c_x_image (l : Launch) (dC : Nat → ClassId) (dI : Nat → Nat → Nat) (cy : Nat → ClassId) (a : Nat → Nat) (k0 : Nat) (L0 : Nat → Int32) (σ0 : MS) (r0 : Int32 × MS) (h0 : x_image k0 0 L0 σ0 = some r0) (sz : Nat) : Met l yX12_image w_x_image ({ frames := 46, cells := 0, slots := 0, locals := 1271 }) (va_Pc [.ref (a 0), .int (L0 1), .int (L0 2)] (nIn (dC, dI) cy sz (vM cy a σ0))) (va_Qi (fun (z : Int32) (_ : Unit) => z = r0.1) (fun _ t => nOut (dC, dI) cy (va_A (vM cy a σ0) sz) (vM cy a r0.2) t) (va_A (vM cy a σ0) sz)) 0 0 (va_A (vM cy a σ0) sz) := by
  refine Met.ofW (cc := cX12_image) (maxL := 6) (ret := (some .int)) (by decide) rfl ?_
  intro p e s m args below meth c s₁ B hml hv
  obtain ⟨rfl, hsz, hP, hK, hD0, hG⟩ := hv
  have hx := B.exec
  have hb := B.bytes
  have hr := B.returns
  have hts := atoms_spec (ws := w_x_image) B.pre
  have hown : s.vm.findClass RX12 = some m.cls := findClass_of_methodNamed B.named
  have hlocks := B.notSynchronized
  subst hsz
  have hD := hD0.self (sz := s.heap.size)
  generalize hAe : va_A (vM cy a σ0) s.heap.size = A at hD ⊢
  have hA : ∀ q : Nat, s.heap.size ≤ q → A q := fun q h => by rw [← hAe]; exact Or.inr h
  have hS : va_S A s.heap s.heap [] := va_S.rf
  have hl := lv_entry ([.ref (a 0), .int (L0 1), .int (L0 2)]) (n := 6) (Nat.le_of_ble_eq_true rfl)
  rw [lg_entry_eq]
  generalize (lg_sl ([.ref (a 0), .int (L0 1), .int (L0 2)]) ++ List.replicate (6 - (lg_sl ([.ref (a 0), .int (L0 1), .int (L0 2)])).length) Slot.unset).toArray = ls at hl ⊢
  have hl : lv_has ls 6 [(0, .ref (a 0)), (1, .int (L0 1)), (2, .int (L0 2))] := hl
  have blk : ∀ k : Nat, (bT p l e (headSpec w_x_image ({ frames := 46, cells := 0, slots := 0, locals := 1271 })).room s m #[.ref (a 0), .int (L0 1), .int (L0 2)] below meth c dC dI cy a A (qI dC dI cy a A below #[.ref (a 0), .int (L0 1), .int (L0 2)] s) 6 (x_image k 0) (fun L => [(0, .ref (a 0)), (1, .int (L 1)), (2, .int (L 2))]) 0 (fun L => [])) ∧ (bT p l e (headSpec w_x_image ({ frames := 46, cells := 0, slots := 0, locals := 1271 })).room s m #[.ref (a 0), .int (L0 1), .int (L0 2)] below meth c dC dI cy a A (qI dC dI cy a A below #[.ref (a 0), .int (L0 1), .int (L0 2)] s) 6 (x_image k 1) (fun L => [(0, .ref (a 0)), (1, .int (L 1)), (2, .int (L 2))]) 13 (fun L => [])) ∧ (bT p l e (headSpec w_x_image ({ frames := 46, cells := 0, slots := 0, locals := 1271 })).room s m #[.ref (a 0), .int (L0 1), .int (L0 2)] below meth c dC dI cy a A (qI dC dI cy a A below #[.ref (a 0), .int (L0 1), .int (L0 2)] s) 6 (x_image k 2) (fun L => [(0, .ref (a 0)), (1, .int (L 1)), (2, .int (L 2)), (3, .int (L 3)), (4, .int (L 4))]) 21 (fun L => [])) ∧ (bT p l e (headSpec w_x_image ({ frames := 46, cells := 0, slots := 0, locals := 1271 })).room s m #[.ref (a 0), .int (L0 1), .int (L0 2)] below meth c dC dI cy a A (qI dC dI cy a A below #[.ref (a 0), .int (L0 1), .int (L0 2)] s) 6 (x_image k 3) (fun L => [(0, .ref (a 0)), (1, .int (L 1)), (2, .int (L 2)), (3, .int (L 3)), (4, .int (L 4)), (5, .int (L 5))]) 77 (fun L => [])) ∧ (bT p l e (headSpec w_x_image ({ frames := 46, cells := 0, slots := 0, locals := 1271 })).room s m #[.ref (a 0), .int (L0 1), .int (L0 2)] below meth c dC dI cy a A (qI dC dI cy a A below #[.ref (a 0), .int (L0 1), .int (L0 2)] s) 6 (x_image k 4) (fun L => [(0, .ref (a 0)), (1, .int (L 1)), (2, .int (L 2)), (3, .int (L 3)), (4, .int (L 4))]) 83 (fun L => [])) := by
    intro k
    induction k with
    | zero => exact ⟨fun L σ r h => (by cases h), fun L σ r h => (by cases h), fun L σ r h => (by cases h), fun L σ r h => (by cases h), fun L σ r h => (by cases h)⟩
    | succ k ih =>
      refine ⟨?_, ?_, ?_, ?_, ?_⟩
      · intro L σ r h H locs ls hP hD hS hl
        rw [x_image] at h
        refine lv_aload_n hx hb dX12_image_0 rfl (lv_at hl 0 rfl) ?_
        refine lv_iload_n hx hb dX12_image_1 rfl (lv_at hl 1 rfl) ?_
        obtain ⟨r1, hc1, h⟩ := ob_ex h
        refine nc_Vi (As := [.int (L 1)]) (rest := []) ⟨hx, hb, hml, hown, hts⟩ (c_x_isMap l dC dI cy a k (upd (fun _ => 0) 1 ((L 1))) σ r1 hc1 H.size) (cwV 1 hts g_x_image_isMap_785 rfl rfl rfl hd_x_isMap ⟨Nat.le_of_ble_eq_true rfl, Nat.le_of_ble_eq_true rfl⟩) hK hG hA hP hD hS rfl hl.1 rfl (Nat.le_of_ble_eq_true rfl) dX12_image_2 ⟨Nat.le_refl _, Nat.le_refl _⟩ (fun H locs hP hD hS => ?_)
        refine lv_if_ne (tgt := 13) hx hb dX12_image_5 (by decide) (fun c2 => ?_) (fun c2 => ?_)
        · rw [if_neg c2] at h
          exact ih.2.1 L r1.2 r h H locs ls hP hD hS (lv_sub hl [0, 1, 2] rfl)
        · rw [if_pos c2] at h
          refine lv_aload_n hx hb dX12_image_8 rfl (lv_at hl 0 rfl) ?_
          obtain ⟨r3, hc3, h⟩ := ob_ex h
          refine nc_Vi (As := []) (rest := []) ⟨hx, hb, hml, hown, hts⟩ (c_x_wrongKind l dC dI cy a k (fun _ => 0) r1.2 r3 hc3 H.size) (cwV 0 hts g_x_image_wrongKind_666 rfl rfl rfl hd_x_wrongKind ⟨Nat.le_of_ble_eq_true rfl, Nat.le_of_ble_eq_true rfl⟩) hK hG hA hP hD hS rfl hl.1 rfl (Nat.le_of_ble_eq_true rfl) dX12_image_9 ⟨Nat.le_refl _, Nat.le_refl _⟩ (fun H locs hP hD hS => ?_)
          cases h
          exact W.iret (v := r3.1) hx hb hr (fun t ht hW => ⟨⟨r3.1, (), rfl, rfl, by rw [ht]; exact hP, va_K.moved hW.alike hK, hD⟩, hS.F ht⟩) hS.2.2 dX12_image_12
      · intro L σ r h H locs ls hP hD hS hl
        rw [x_image] at h
        refine lv_aload_n hx hb dX12_image_13 rfl (lv_at hl 0 rfl) ?_
        refine ng_59 hx hb hts in_x_image hown hK hP (hts _ (List.mem_cons_of_mem _ (List.mem_append_left _ (List.mem_append_left _ (List.mem_of_getElem? (i := 7) rfl))))) dX12_image_14 ?_
        refine lv_istore_n (lv' := [(3, .int (σ.1 59)), (0, .ref (a 0)), (1, .int (L 1)), (2, .int (L 2))]) hx hb dX12_image_17 rfl hl (by decide) rfl (fun ls hl => ?_)
        refine lv_iconst (v := 0) hx hb dX12_image_18 (by decide) ?_
        refine lv_istore (lv' := [(4, .int 0), (3, .int (σ.1 59)), (0, .ref (a 0)), (1, .int (L 1)), (2, .int (L 2))]) hx hb dX12_image_19 hl (by decide) rfl (fun ls hl => ?_)
        exact ih.2.2.1 (upd (upd L 3 ((σ.1 59))) 4 0) σ r h H locs ls hP hD hS (lv_sub hl [2, 3, 4, 1, 0] rfl)
      · intro L σ r h H locs ls hP hD hS hl
        rw [x_image] at h
        refine lv_iload hx hb dX12_image_21 (lv_at hl 4 rfl) ?_
        refine lv_aload_n hx hb dX12_image_23 rfl (lv_at hl 0 rfl) ?_
        refine ng_53 hx hb hts in_x_image hown hK hP (hts _ (List.mem_cons_of_mem _ (List.mem_append_left _ (List.mem_append_left _ (List.mem_of_getElem? (i := 8) rfl))))) dX12_image_24 ?_
        refine lv_iload_n hx hb dX12_image_27 rfl (lv_at hl 1 rfl) ?_
        refine lv_iconst (v := 1) hx hb dX12_image_28 (by decide) ?_
        refine lv_iadd hx hb dX12_image_29 ?_
        obtain ⟨q1, h⟩ := nb_ite1 h
        refine nl_28 hx hb hK hP q1 dX12_image_30 ?_
        refine lv_icmp_ge (tgt := 83) hx hb dX12_image_31 (by decide) (fun c2 => ?_) (fun c2 => ?_)
        · rw [if_pos c2] at h
          exact ih.2.2.2.2 L σ r h H locs ls hP hD hS (lv_sub hl [0, 1, 2, 3, 4] rfl)
        · rw [if_neg c2] at h
          refine lv_aload_n hx hb dX12_image_34 rfl (lv_at hl 0 rfl) ?_
          refine ng_53 hx hb hts in_x_image hown hK hP (hts _ (List.mem_cons_of_mem _ (List.mem_append_left _ (List.mem_append_left _ (List.mem_of_getElem? (i := 8) rfl))))) dX12_image_35 ?_
          refine lv_iload_n hx hb dX12_image_38 rfl (lv_at hl 1 rfl) ?_
          refine lv_iconst (v := 4) hx hb dX12_image_39 (by decide) ?_
          refine lv_iadd hx hb dX12_image_40 ?_
          refine lv_iload hx hb dX12_image_41 (lv_at hl 4 rfl) ?_
          refine lv_iadd hx hb dX12_image_43 ?_
          obtain ⟨q3, h⟩ := nb_ite1 h
          refine nl_28 hx hb hK hP q3 dX12_image_44 ?_
          refine lv_istore (lv' := [(5, .int (σ.2.2 28 ((((((L 1)) + 4)) + ((L 4)))).toNatClampNeg)), (0, .ref (a 0)), (1, .int (L 1)), (2, .int (L 2)), (3, .int (L 3)), (4, .int (L 4))]) hx hb dX12_image_45 hl (by decide) rfl (fun ls hl => ?_)
          refine lv_aload_n hx hb dX12_image_47 rfl (lv_at hl 1 rfl) ?_
          refine lv_aload_n hx hb dX12_image_48 rfl (lv_at hl 1 rfl) ?_
          refine ng_53 hx hb hts in_x_image hown hK hP (hts _ (List.mem_cons_of_mem _ (List.mem_append_left _ (List.mem_append_left _ (List.mem_of_getElem? (i := 8) rfl))))) dX12_image_49 ?_
          refine lv_iload hx hb dX12_image_52 (lv_at hl 0 rfl) ?_
          refine lv_iconst (v := 4) hx hb dX12_image_54 (by decide) ?_
          refine lv_iadd hx hb dX12_image_55 ?_
          obtain ⟨q4, h⟩ := nb_ite1 h
          refine nl_28 hx hb hK hP q4 dX12_image_56 ?_
          refine lv_iload_n hx hb dX12_image_57 rfl (lv_at hl 3 rfl) ?_
          obtain ⟨r5, hc5, h⟩ := ob_ex h
          refine nc_Vi (As := [.int (σ.2.2 28 ((((σ.2.2 28 ((((((L 1)) + 4)) + ((L 4)))).toNatClampNeg)) + 4)).toNatClampNeg), .int (L 2)]) (rest := []) ⟨hx, hb, hml, hown, hts⟩ (c_x_compare l dC dI cy a k (upd (upd (fun _ => 0) 1 ((σ.2.2 28 ((((σ.2.2 28 ((((((L 1)) + 4)) + ((L 4)))).toNatClampNeg)) + 4)).toNatClampNeg))) 2 ((L 2))) σ r5 hc5 H.size) (cwV 2 hts g_x_image_compare_451 rfl rfl rfl hd_x_compare ⟨Nat.le_of_ble_eq_true rfl, Nat.le_of_ble_eq_true rfl⟩) hK hG hA hP hD hS rfl hl.1 rfl (Nat.le_of_ble_eq_true rfl) dX12_image_58 ⟨Nat.le_refl _, Nat.le_refl _⟩ (fun H locs hP hD hS => ?_)
          refine lv_if_ne (tgt := 77) hx hb dX12_image_61 (by decide) (fun c6 => ?_) (fun c6 => ?_)
          · rw [if_neg c6] at h
            exact ih.2.2.2.1 (upd L 5 ((σ.2.2 28 ((((((L 1)) + 4)) + ((L 4)))).toNatClampNeg))) r5.2 r h H locs ls hP hD hS (lv_sub hl [1, 2, 3, 4, 5, 0] rfl)
          · rw [if_pos c6] at h
            refine lv_aload_n hx hb dX12_image_64 rfl (lv_at hl 1 rfl) ?_
            refine lv_aload_n hx hb dX12_image_65 rfl (lv_at hl 1 rfl) ?_
            refine ng_53 hx hb hts in_x_image hown hK hP (hts _ (List.mem_cons_of_mem _ (List.mem_append_left _ (List.mem_append_left _ (List.mem_of_getElem? (i := 8) rfl))))) dX12_image_66 ?_
            refine lv_iload hx hb dX12_image_69 (lv_at hl 0 rfl) ?_
            refine lv_iconst (v := 5) hx hb dX12_image_71 (by decide) ?_
            refine lv_iadd hx hb dX12_image_72 ?_
            obtain ⟨q7, h⟩ := nb_ite1 h
            refine nl_28 hx hb hK hP q7 dX12_image_73 ?_
            obtain ⟨r8, hc8, h⟩ := ob_ex h
            refine nc_Vv (As := [.int (r5.2.2.2 28 ((((σ.2.2 28 ((((((L 1)) + 4)) + ((L 4)))).toNatClampNeg)) + 5)).toNatClampNeg)]) (rest := []) ⟨hx, hb, hml, hown, hts⟩ (c_x_push l dC dI cy a k (upd (fun _ => 0) 1 ((r5.2.2.2 28 ((((σ.2.2 28 ((((((L 1)) + 4)) + ((L 4)))).toNatClampNeg)) + 5)).toNatClampNeg))) r5.2 r8 hc8 H.size) (cwV 1 hts g_x_image_push_594 rfl rfl rfl hd_x_push ⟨Nat.le_of_ble_eq_true rfl, Nat.le_of_ble_eq_true rfl⟩) hK hG hA hP hD hS rfl hl.1 rfl (Nat.le_of_ble_eq_true rfl) dX12_image_74 ⟨Nat.le_refl _, Nat.le_refl _⟩ (fun H locs hP hD hS => ?_)
            exact ih.2.2.2.1 (upd L 5 ((σ.2.2 28 ((((((L 1)) + 4)) + ((L 4)))).toNatClampNeg))) r8.2 r h H locs ls hP hD hS (lv_sub hl [1, 2, 3, 4, 5, 0] rfl)
      · intro L σ r h H locs ls hP hD hS hl
        rw [x_image] at h
        refine lv_iinc (v := ((L 4)) + 1) (lv' := [(4, .int (((L 4)) + 1)), (0, .ref (a 0)), (1, .int (L 1)), (2, .int (L 2)), (3, .int (L 3)), (5, .int (L 5))]) hx hb dX12_image_77 hl (k := 4) rfl rfl (by decide) rfl (fun ls hl => ?_)
        refine lv_goto (tgt := 21) hx hb dX12_image_80 (by decide) ?_
        exact ih.2.2.1 (upd L 4 (((L 4)) + 1)) σ r h H locs ls hP hD hS (lv_sub hl [1, 2, 3, 4, 0] rfl)
      · intro L σ r h H locs ls hP hD hS hl
        rw [x_image] at h
        refine lv_aload_n hx hb dX12_image_83 rfl (lv_at hl 0 rfl) ?_
        refine lv_iload_n hx hb dX12_image_84 rfl (lv_at hl 3 rfl) ?_
        obtain ⟨r1, hc1, h⟩ := ob_ex h
        refine nc_Vi (As := [.int (L 3)]) (rest := []) ⟨hx, hb, hml, hown, hts⟩ (c_x_setOf l dC dI cy a k (upd (fun _ => 0) 1 ((L 3))) σ r1 hc1 H.size) (cwV 1 hts g_x_image_setOf_678 rfl rfl rfl hd_x_setOf ⟨Nat.le_of_ble_eq_true rfl, Nat.le_of_ble_eq_true rfl⟩) hK hG hA hP hD hS rfl hl.1 rfl (Nat.le_of_ble_eq_true rfl) dX12_image_85 ⟨Nat.le_refl _, Nat.le_refl _⟩ (fun H locs hP hD hS => ?_)
        cases h
        exact W.iret (v := r1.1) hx hb hr (fun t ht hW => ⟨⟨r1.1, (), rfl, rfl, by rw [ht]; exact hP, va_K.moved hW.alike hK, hD⟩, hS.F ht⟩) hS.2.2 dX12_image_88
  exact (blk k0).1 L0 σ0 r0 h0 s.heap [] ls hP hD hS hl
/-! isTrue -/
def x_isTrue : Nat → Nat → (Nat → Int32) → MS → Option (Int32 × MS)
  | 0, _, _, _ => none
  | k + 1, 0, L, σ => ob (x_pop k 0 (fun _ => 0) σ) (fun r1 => if r1.1 = 2 then (x_isTrue k 1 (upd L 1 r1.1) r1.2) else (if r1.1 = 1 then (x_isTrue k 1 (upd L 1 r1.1) r1.2) else (ob (x_fail k 0 (upd (fun _ => 0) 1 9) r1.2) (fun r4 => x_isTrue k 1 (upd L 1 r1.1) r4.2))))
  | k + 1, 1, L, σ => if ((L 1)) = 2 then (x_isTrue k 3 (upd L 100 1) σ) else (x_isTrue k 2 L σ)
  | k + 1, 2, L, σ => x_isTrue k 3 (upd L 100 0) σ
  | k + 1, 3, L, σ => if ((L 100)) = 0 ∨ ((L 100)) = 1 then some ((L 100), σ) else none
  | _ + 1, _ + 4, _, _ => none
def o_x_isTrue : List Cond := [.methodLink RX12 572 yX12_pop, .instanceMethod yX12_pop, .selects RX12 yX12_pop yX12_pop, .initialized RX12, .methodLink RX12 369 yX12_fail, .instanceMethod yX12_fail, .selects RX12 yX12_fail yX12_fail]
theorem o_x_isTrue_good : o_x_isTrue.all goodWord = true := by decide +kernel
def p_x_isTrue : List Cond := o_x_isTrue ++ ((.code yX12_pop cX12_pop 1 (some .int) :: p_x_pop) ++ ((.code yX12_fail cX12_fail 2 none :: p_x_fail) ++ []))
theorem p_x_isTrue_good : p_x_isTrue.all goodWord = true := nb_all2 o_x_isTrue_good (nb_all2 (nb_allc (by decide +kernel) p_x_pop_good) (nb_all2 (nb_allc (by decide +kernel) p_x_fail_good) rfl))
def w_x_isTrue : List Cond := .code yX12_isTrue cX12_isTrue 2 (some .boolean) :: (p_x_isTrue ++ fM)
theorem w_x_isTrue_good : w_x_isTrue.all goodWord = true := nb_allc (by decide +kernel) (nb_all2 p_x_isTrue_good fM_good)
theorem in_x_isTrue : ∀ w ∈ wsX120, w ∈ w_x_isTrue := fun _ h => List.mem_cons_of_mem _ (List.mem_append_right _ h)
theorem hd_x_isTrue : yX12_isTrue.cls = RX12 ∧ yX12_isTrue.cls ≠ "java/lang/invoke/MethodHandle" ∧ yX12_isTrue.cls ≠ "java/lang/invoke/VarHandle" ∧ (parseMethodDescriptor yX12_isTrue.desc).map (fun d => d.parameters.length) = some 0 := by decide +kernel
theorem gg_x_isTrue_fail : GoodIn w_x_isTrue w_x_fail := goodIn_sub (fun w h => (List.mem_cons.mp h).elim (fun e => (List.mem_cons_of_mem _ (List.mem_append_left _ (List.mem_append_right _ (List.mem_append_right _ (List.mem_append_left _ (List.mem_cons.mpr (Or.inl e)))))))) (fun h => (List.mem_append.mp h).elim (fun h => (List.mem_cons_of_mem _ (List.mem_append_left _ (List.mem_append_right _ (List.mem_append_right _ (List.mem_append_left _ (List.mem_cons_of_mem _ h))))))) (fun h => List.mem_cons_of_mem _ (List.mem_append_right _ h)))) w_x_fail_good
theorem g_x_isTrue_fail_369 : GoodIn w_x_isTrue (wsV RX12 369 RX12 yX12_fail w_x_fail) := goodIn_app (nb_g4 (List.mem_cons_of_mem _ (List.mem_append_left _ (List.mem_append_left _ (List.mem_of_getElem? (i := 4) rfl)))) (List.mem_cons_of_mem _ (List.mem_append_left _ (List.mem_append_left _ (List.mem_of_getElem? (i := 5) rfl)))) (List.mem_cons_of_mem _ (List.mem_append_left _ (List.mem_append_left _ (List.mem_of_getElem? (i := 6) rfl)))) (List.mem_cons_of_mem _ (List.mem_append_left _ (List.mem_append_left _ (List.mem_of_getElem? (i := 3) rfl)))) (by decide +kernel)) gg_x_isTrue_fail
theorem gg_x_isTrue_pop : GoodIn w_x_isTrue w_x_pop := goodIn_sub (fun w h => (List.mem_cons.mp h).elim (fun e => (List.mem_cons_of_mem _ (List.mem_append_left _ (List.mem_append_right _ (List.mem_append_left _ (List.mem_cons.mpr (Or.inl e))))))) (fun h => (List.mem_append.mp h).elim (fun h => (List.mem_cons_of_mem _ (List.mem_append_left _ (List.mem_append_right _ (List.mem_append_left _ (List.mem_cons_of_mem _ h)))))) (fun h => List.mem_cons_of_mem _ (List.mem_append_right _ h)))) w_x_pop_good
theorem g_x_isTrue_pop_572 : GoodIn w_x_isTrue (wsV RX12 572 RX12 yX12_pop w_x_pop) := goodIn_app (nb_g4 (List.mem_cons_of_mem _ (List.mem_append_left _ (List.mem_append_left _ (List.mem_of_getElem? (i := 0) rfl)))) (List.mem_cons_of_mem _ (List.mem_append_left _ (List.mem_append_left _ (List.mem_of_getElem? (i := 1) rfl)))) (List.mem_cons_of_mem _ (List.mem_append_left _ (List.mem_append_left _ (List.mem_of_getElem? (i := 2) rfl)))) (List.mem_cons_of_mem _ (List.mem_append_left _ (List.mem_append_left _ (List.mem_of_getElem? (i := 3) rfl)))) (by decide +kernel)) gg_x_isTrue_pop
set_option maxHeartbeats 40000000 in
set_option maxRecDepth 100000 in
theorem c_x_isTrue (l : Launch) (dC : Nat → ClassId) (dI : Nat → Nat → Nat) (cy : Nat → ClassId) (a : Nat → Nat) (k0 : Nat) (L0 : Nat → Int32) (σ0 : MS) (r0 : Int32 × MS) (h0 : x_isTrue k0 0 L0 σ0 = some r0) (sz : Nat) : Met l yX12_isTrue w_x_isTrue ({ frames := 1, cells := 0, slots := 0, locals := 21 }) (va_Pc [.ref (a 0)] (nIn (dC, dI) cy sz (vM cy a σ0))) (va_Qi (fun (z : Int32) (_ : Unit) => z = r0.1) (fun _ t => nOut (dC, dI) cy (va_A (vM cy a σ0) sz) (vM cy a r0.2) t) (va_A (vM cy a σ0) sz)) 0 0 (va_A (vM cy a σ0) sz) := by
  refine Met.ofW (cc := cX12_isTrue) (maxL := 2) (ret := (some .boolean)) (by decide) rfl ?_
  intro p e s m args below meth c s₁ B hml hv
  obtain ⟨rfl, hsz, hP, hK, hD0, hG⟩ := hv
  have hx := B.exec
  have hb := B.bytes
  have hr := B.returns
  have hts := atoms_spec (ws := w_x_isTrue) B.pre
  have hown : s.vm.findClass RX12 = some m.cls := findClass_of_methodNamed B.named
  have hlocks := B.notSynchronized
  subst hsz
  have hD := hD0.self (sz := s.heap.size)
  generalize hAe : va_A (vM cy a σ0) s.heap.size = A at hD ⊢
  have hA : ∀ q : Nat, s.heap.size ≤ q → A q := fun q h => by rw [← hAe]; exact Or.inr h
  have hS : va_S A s.heap s.heap [] := va_S.rf
  have hl := lv_entry ([.ref (a 0)]) (n := 2) (Nat.le_of_ble_eq_true rfl)
  rw [lg_entry_eq]
  generalize (lg_sl ([.ref (a 0)]) ++ List.replicate (2 - (lg_sl ([.ref (a 0)])).length) Slot.unset).toArray = ls at hl ⊢
  have hl : lv_has ls 2 [(0, .ref (a 0))] := hl
  have blk : ∀ k : Nat, (bT p l e (headSpec w_x_isTrue ({ frames := 1, cells := 0, slots := 0, locals := 21 })).room s m #[.ref (a 0)] below meth c dC dI cy a A (qI dC dI cy a A below #[.ref (a 0)] s) 2 (x_isTrue k 0) (fun L => [(0, .ref (a 0))]) 0 (fun L => [])) ∧ (bT p l e (headSpec w_x_isTrue ({ frames := 1, cells := 0, slots := 0, locals := 21 })).room s m #[.ref (a 0)] below meth c dC dI cy a A (qI dC dI cy a A below #[.ref (a 0)] s) 2 (x_isTrue k 1) (fun L => [(0, .ref (a 0)), (1, .int (L 1))]) 21 (fun L => [])) ∧ (bT p l e (headSpec w_x_isTrue ({ frames := 1, cells := 0, slots := 0, locals := 21 })).room s m #[.ref (a 0)] below meth c dC dI cy a A (qI dC dI cy a A below #[.ref (a 0)] s) 2 (x_isTrue k 2) (fun L => [(0, .ref (a 0)), (1, .int (L 1))]) 30 (fun L => [])) ∧ (bT p l e (headSpec w_x_isTrue ({ frames := 1, cells := 0, slots := 0, locals := 21 })).room s m #[.ref (a 0)] below meth c dC dI cy a A (qI dC dI cy a A below #[.ref (a 0)] s) 2 (x_isTrue k 3) (fun L => [(0, .ref (a 0)), (1, .int (L 1))]) 31 (fun L => [.int (L 100)])) := by
    intro k
    induction k with
    | zero => exact ⟨fun L σ r h => (by cases h), fun L σ r h => (by cases h), fun L σ r h => (by cases h), fun L σ r h => (by cases h)⟩
    | succ k ih =>
      refine ⟨?_, ?_, ?_, ?_⟩
      · intro L σ r h H locs ls hP hD hS hl
        rw [x_isTrue] at h
        refine lv_aload_n hx hb dX12_isTrue_0 rfl (lv_at hl 0 rfl) ?_
        obtain ⟨r1, hc1, h⟩ := ob_ex h
        refine nc_Vi (As := []) (rest := []) ⟨hx, hb, hml, hown, hts⟩ (c_x_pop l dC dI cy a k (fun _ => 0) σ r1 hc1 H.size) (cwV 0 hts g_x_isTrue_pop_572 rfl rfl rfl hd_x_pop ⟨Nat.le_of_ble_eq_true rfl, Nat.le_of_ble_eq_true rfl⟩) hK hG hA hP hD hS rfl hl.1 rfl (Nat.le_of_ble_eq_true rfl) dX12_isTrue_1 ⟨Nat.le_refl _, Nat.le_refl _⟩ (fun H locs hP hD hS => ?_)
        refine lv_istore_n (lv' := [(1, .int r1.1), (0, .ref (a 0))]) hx hb dX12_isTrue_4 rfl hl (by decide) rfl (fun ls hl => ?_)
        refine lv_iload_n hx hb dX12_isTrue_5 rfl (lv_at hl 0 rfl) ?_
        refine lv_iconst (v := 2) hx hb dX12_isTrue_6 (by decide) ?_
        refine lv_icmp_eq (tgt := 21) hx hb dX12_isTrue_7 (by decide) (fun c2 => ?_) (fun c2 => ?_)
        · rw [if_pos c2] at h
          exact ih.2.1 (upd L 1 r1.1) r1.2 r h H locs ls hP hD hS (lv_sub hl [1, 0] rfl)
        · rw [if_neg c2] at h
          refine lv_iload_n hx hb dX12_isTrue_10 rfl (lv_at hl 0 rfl) ?_
          refine lv_iconst (v := 1) hx hb dX12_isTrue_11 (by decide) ?_
          refine lv_icmp_eq (tgt := 21) hx hb dX12_isTrue_12 (by decide) (fun c3 => ?_) (fun c3 => ?_)
          · rw [if_pos c3] at h
            exact ih.2.1 (upd L 1 r1.1) r1.2 r h H locs ls hP hD hS (lv_sub hl [1, 0] rfl)
          · rw [if_neg c3] at h
            refine lv_aload_n hx hb dX12_isTrue_15 rfl (lv_at hl 1 rfl) ?_
            refine lv_bipush (v := 9) hx hb dX12_isTrue_16 (by decide) ?_
            obtain ⟨r4, hc4, h⟩ := ob_ex h
            refine nc_Vv (As := [.int 9]) (rest := []) ⟨hx, hb, hml, hown, hts⟩ (c_x_fail l dC dI cy a k (upd (fun _ => 0) 1 9) r1.2 r4 hc4 H.size) (cwV 1 hts g_x_isTrue_fail_369 rfl rfl rfl hd_x_fail ⟨Nat.le_of_ble_eq_true rfl, Nat.le_of_ble_eq_true rfl⟩) hK hG hA hP hD hS rfl hl.1 rfl (Nat.le_of_ble_eq_true rfl) dX12_isTrue_18 ⟨Nat.le_refl _, Nat.le_refl _⟩ (fun H locs hP hD hS => ?_)
            exact ih.2.1 (upd L 1 r1.1) r4.2 r h H locs ls hP hD hS (lv_sub hl [1, 0] rfl)
      · intro L σ r h H locs ls hP hD hS hl
        rw [x_isTrue] at h
        refine lv_iload_n hx hb dX12_isTrue_21 rfl (lv_at hl 1 rfl) ?_
        refine lv_iconst (v := 2) hx hb dX12_isTrue_22 (by decide) ?_
        refine lv_icmp_ne (tgt := 30) hx hb dX12_isTrue_23 (by decide) (fun c1 => ?_) (fun c1 => ?_)
        · rw [if_neg c1] at h
          exact ih.2.2.1 L σ r h H locs ls hP hD hS (lv_sub hl [0, 1] rfl)
        · rw [if_pos c1] at h
          refine lv_iconst (v := 1) hx hb dX12_isTrue_26 (by decide) ?_
          refine lv_goto (tgt := 31) hx hb dX12_isTrue_27 (by decide) ?_
          exact ih.2.2.2 (upd L 100 1) σ r h H locs ls hP hD hS (lv_sub hl [0, 1] rfl)
      · intro L σ r h H locs ls hP hD hS hl
        rw [x_isTrue] at h
        refine lv_iconst (v := 0) hx hb dX12_isTrue_30 (by decide) ?_
        exact ih.2.2.2 (upd L 100 0) σ r h H locs ls hP hD hS (lv_sub hl [0, 1] rfl)
      · intro L σ r h H locs ls hP hD hS hl
        rw [x_isTrue] at h
        obtain ⟨q1, h⟩ := nb_ite1 h
        cases h
        exact W.zret (v := (L 100)) hx hb hr (nb_bz q1) (fun t ht hW => ⟨⟨(L 100), (), rfl, rfl, by rw [ht]; exact hP, va_K.moved hW.alike hK, hD⟩, hS.F ht⟩) hS.2.2 dX12_isTrue_31
  exact (blk k0).1 L0 σ0 r0 h0 s.heap [] ls hP hD hS hl
/-! partAt -/
def x_partAt : Nat → Nat → (Nat → Int32) → MS → Option (Int32 × MS)
  | 0, _, _, _ => none
  | k + 1, 0, L, σ => ob (x_kind k 0 (upd (fun _ => 0) 1 ((L 1))) σ) (fun r1 => if r1.1 = 4 then (x_partAt k 1 (upd L 3 r1.1) r1.2) else (if r1.1 = 5 then (x_partAt k 1 (upd L 3 r1.1) r1.2) else (x_partAt k 6 (upd L 3 r1.1) r1.2)))
  | k + 1, 1, L, σ => ob (x_kind k 0 (upd (fun _ => 0) 1 ((L 2))) σ) (fun r1 => if r1.1 = 2 then (x_partAt k 2 L r1.2) else (ob (x_wrongKind k 0 (fun _ => 0) r1.2) (fun r3 => some (r3.1, r3.2))))
  | k + 1, 2, L, σ => ob (x_intOf k 0 (upd (upd (fun _ => 0) 1 ((L 2))) 2 100000) (fun _ => 0) σ) (fun r1 => if 1 ≤ r1.1 then (x_partAt k 3 (upd L 4 r1.1) r1.2) else (ob (x_fail k 0 (upd (fun _ => 0) 1 4) r1.2) (fun r3 => some (0, r3.2))))
  | k + 1, 3, L, σ => if ¬ (((((L 1)) + 1)) < 0 ∨ 1740000 ≤ ((((L 1)) + 1)).toNatClampNeg) then (if ((L 4)) ≤ ((σ.2.2 28 ((((L 1)) + 1)).toNatClampNeg)) then (x_partAt k 4 L σ) else (x_partAt k 5 (upd L 100 0) σ)) else none
  | k + 1, 4, L, σ => ob (x_memberAt k 0 (upd (upd (fun _ => 0) 1 ((L 1))) 2 ((((L 4)) - 1))) σ) (fun r1 => x_partAt k 5 (upd L 100 r1.1) r1.2)
  | k + 1, 5, L, σ => some ((L 100), σ)
  | k + 1, 6, L, σ => ob (x_isMap k 0 (upd (fun _ => 0) 1 ((L 1))) σ) (fun r1 => if r1.1 = 0 then (ob (x_wrongKind k 0 (fun _ => 0) r1.2) (fun r3 => some (r3.1, r3.2))) else (x_partAt k 7 L r1.2))
  | k + 1, 7, L, σ => x_partAt k 8 (upd (upd (upd L 4 0) 5 0) 6 0) σ
  | k + 1, 8, L, σ => if ¬ (((((L 1)) + 1)) < 0 ∨ 1740000 ≤ ((((L 1)) + 1)).toNatClampNeg) then (if ((σ.2.2 28 ((((L 1)) + 1)).toNatClampNeg)) ≤ ((L 6)) then (x_partAt k 10 L σ) else (if ¬ (((((((L 1)) + 4)) + ((L 6)))) < 0 ∨ 1740000 ≤ ((((((L 1)) + 4)) + ((L 6)))).toNatClampNeg) then (if ¬ (((((σ.2.2 28 ((((((L 1)) + 4)) + ((L 6)))).toNatClampNeg)) + 4)) < 0 ∨ 1740000 ≤ ((((σ.2.2 28 ((((((L 1)) + 4)) + ((L 6)))).toNatClampNeg)) + 4)).toNatClampNeg) then (ob (x_compare k 0 (upd (upd (fun _ => 0) 1 ((σ.2.2 28 ((((σ.2.2 28 ((((((L 1)) + 4)) + ((L 6)))).toNatClampNeg)) + 4)).toNatClampNeg))) 2 ((L 2))) σ) (fun r5 => if r5.1 = 0 then (if ¬ (((((σ.2.2 28 ((((((L 1)) + 4)) + ((L 6)))).toNatClampNeg)) + 5)) < 0 ∨ 1740000 ≤ ((((σ.2.2 28 ((((((L 1)) + 4)) + ((L 6)))).toNatClampNeg)) + 5)).toNatClampNeg) then (x_partAt k 9 (upd (upd (upd L 7 ((σ.2.2 28 ((((((L 1)) + 4)) + ((L 6)))).toNatClampNeg))) 4 ((r5.2.2.2 28 ((((σ.2.2 28 ((((((L 1)) + 4)) + ((L 6)))).toNatClampNeg)) + 5)).toNatClampNeg))) 5 (((L 5)) + 1)) r5.2) else none) else (x_partAt k 9 (upd L 7 ((σ.2.2 28 ((((((L 1)) + 4)) + ((L 6)))).toNatClampNeg))) r5.2))) else none) else none)) else none
  | k + 1, 9, L, σ => x_partAt k 8 (upd L 6 (((L 6)) + 1)) σ
  | k + 1, 10, L, σ => if ((L 5)) = 1 then (x_partAt k 12 (upd L 100 ((L 4))) σ) else (x_partAt k 11 L σ)
  | k + 1, 11, L, σ => x_partAt k 12 (upd L 100 0) σ
  | k + 1, 12, L, σ => some ((L 100), σ)
  | _ + 1, _ + 13, _, _ => none
def o_x_partAt : List Cond := [.methodLink RX12 545 yX12_kind, .instanceMethod yX12_kind, .selects RX12 yX12_kind yX12_kind, .initialized RX12, .methodLink RX12 666 yX12_wrongKind, .instanceMethod yX12_wrongKind, .selects RX12 yX12_wrongKind yX12_wrongKind, .constant RX12 804 (100000), .methodLink RX12 515 yX12_intOf, .instanceMethod yX12_intOf, .selects RX12 yX12_intOf yX12_intOf, .methodLink RX12 369 yX12_fail, .instanceMethod yX12_fail, .selects RX12 yX12_fail yX12_fail, .fieldLink RX12 372 "SetHouseModel" "heap" "[I", .methodLink RX12 703 yX12_memberAt, .instanceMethod yX12_memberAt, .selects RX12 yX12_memberAt yX12_memberAt, .methodLink RX12 785 yX12_isMap, .instanceMethod yX12_isMap, .selects RX12 yX12_isMap yX12_isMap, .methodLink RX12 451 yX12_compare, .instanceMethod yX12_compare, .selects RX12 yX12_compare yX12_compare]
theorem o_x_partAt_good : o_x_partAt.all goodWord = true := by decide +kernel
def p_x_partAt : List Cond := o_x_partAt ++ ((.code yX12_kind cX12_kind 2 (some .int) :: p_x_kind) ++ ((.code yX12_wrongKind cX12_wrongKind 1 (some .int) :: p_x_wrongKind) ++ ((.code yX12_intOf cX12_intOf 7 (some .int) :: p_x_intOf) ++ ((.code yX12_fail cX12_fail 2 none :: p_x_fail) ++ ((.code yX12_memberAt cX12_memberAt 3 (some .int) :: p_x_memberAt) ++ ((.code yX12_isMap cX12_isMap 5 (some .boolean) :: p_x_isMap) ++ ((.code yX12_compare cX12_compare 9 (some .int) :: p_x_GC) ++ [])))))))
theorem p_x_partAt_good : p_x_partAt.all goodWord = true := nb_all2 o_x_partAt_good (nb_all2 (nb_allc (by decide +kernel) p_x_kind_good) (nb_all2 (nb_allc (by decide +kernel) p_x_wrongKind_good) (nb_all2 (nb_allc (by decide +kernel) p_x_intOf_good) (nb_all2 (nb_allc (by decide +kernel) p_x_fail_good) (nb_all2 (nb_allc (by decide +kernel) p_x_memberAt_good) (nb_all2 (nb_allc (by decide +kernel) p_x_isMap_good) (nb_all2 (nb_allc (by decide +kernel) p_x_GC_good) rfl)))))))
def w_x_partAt : List Cond := .code yX12_partAt cX12_partAt 8 (some .int) :: (p_x_partAt ++ fM)
theorem w_x_partAt_good : w_x_partAt.all goodWord = true := nb_allc (by decide +kernel) (nb_all2 p_x_partAt_good fM_good)
theorem in_x_partAt : ∀ w ∈ wsX120, w ∈ w_x_partAt := fun _ h => List.mem_cons_of_mem _ (List.mem_append_right _ h)
theorem hd_x_partAt : yX12_partAt.cls = RX12 ∧ yX12_partAt.cls ≠ "java/lang/invoke/MethodHandle" ∧ yX12_partAt.cls ≠ "java/lang/invoke/VarHandle" ∧ (parseMethodDescriptor yX12_partAt.desc).map (fun d => d.parameters.length) = some 2 := by decide +kernel
theorem gg_x_partAt_compare : GoodIn w_x_partAt w_x_compare := goodIn_sub (fun w h => (List.mem_cons.mp h).elim (fun e => (List.mem_cons_of_mem _ (List.mem_append_left _ (List.mem_append_right _ (List.mem_append_right _ (List.mem_append_right _ (List.mem_append_right _ (List.mem_append_right _ (List.mem_append_right _ (List.mem_append_right _ (List.mem_append_left _ (List.mem_cons.mpr (Or.inl e))))))))))))) (fun h => (List.mem_append.mp h).elim (fun h => (List.mem_cons_of_mem _ (List.mem_append_left _ (List.mem_append_right _ (List.mem_append_right _ (List.mem_append_right _ (List.mem_append_right _ (List.mem_append_right _ (List.mem_append_right _ (List.mem_append_right _ (List.mem_append_left _ (List.mem_cons_of_mem _ h)))))))))))) (fun h => List.mem_cons_of_mem _ (List.mem_append_right _ h)))) w_x_compare_good
theorem g_x_partAt_compare_451 : GoodIn w_x_partAt (wsV RX12 451 RX12 yX12_compare w_x_compare) := goodIn_app (nb_g4 (List.mem_cons_of_mem _ (List.mem_append_left _ (List.mem_append_left _ (List.mem_of_getElem? (i := 21) rfl)))) (List.mem_cons_of_mem _ (List.mem_append_left _ (List.mem_append_left _ (List.mem_of_getElem? (i := 22) rfl)))) (List.mem_cons_of_mem _ (List.mem_append_left _ (List.mem_append_left _ (List.mem_of_getElem? (i := 23) rfl)))) (List.mem_cons_of_mem _ (List.mem_append_left _ (List.mem_append_left _ (List.mem_of_getElem? (i := 3) rfl)))) (by decide +kernel)) gg_x_partAt_compare
theorem gg_x_partAt_fail : GoodIn w_x_partAt w_x_fail := goodIn_sub (fun w h => (List.mem_cons.mp h).elim (fun e => (List.mem_cons_of_mem _ (List.mem_append_left _ (List.mem_append_right _ (List.mem_append_right _ (List.mem_append_right _ (List.mem_append_right _ (List.mem_append_left _ (List.mem_cons.mpr (Or.inl e)))))))))) (fun h => (List.mem_append.mp h).elim (fun h => (List.mem_cons_of_mem _ (List.mem_append_left _ (List.mem_append_right _ (List.mem_append_right _ (List.mem_append_right _ (List.mem_append_right _ (List.mem_append_left _ (List.mem_cons_of_mem _ h))))))))) (fun h => List.mem_cons_of_mem _ (List.mem_append_right _ h)))) w_x_fail_good
theorem g_x_partAt_fail_369 : GoodIn w_x_partAt (wsV RX12 369 RX12 yX12_fail w_x_fail) := goodIn_app (nb_g4 (List.mem_cons_of_mem _ (List.mem_append_left _ (List.mem_append_left _ (List.mem_of_getElem? (i := 11) rfl)))) (List.mem_cons_of_mem _ (List.mem_append_left _ (List.mem_append_left _ (List.mem_of_getElem? (i := 12) rfl)))) (List.mem_cons_of_mem _ (List.mem_append_left _ (List.mem_append_left _ (List.mem_of_getElem? (i := 13) rfl)))) (List.mem_cons_of_mem _ (List.mem_append_left _ (List.mem_append_left _ (List.mem_of_getElem? (i := 3) rfl)))) (by decide +kernel)) gg_x_partAt_fail
theorem gg_x_partAt_intOf : GoodIn w_x_partAt w_x_intOf := goodIn_sub (fun w h => (List.mem_cons.mp h).elim (fun e => (List.mem_cons_of_mem _ (List.mem_append_left _ (List.mem_append_right _ (List.mem_append_right _ (List.mem_append_right _ (List.mem_append_left _ (List.mem_cons.mpr (Or.inl e))))))))) (fun h => (List.mem_append.mp h).elim (fun h => (List.mem_cons_of_mem _ (List.mem_append_left _ (List.mem_append_right _ (List.mem_append_right _ (List.mem_append_right _ (List.mem_append_left _ (List.mem_cons_of_mem _ h)))))))) (fun h => List.mem_cons_of_mem _ (List.mem_append_right _ h)))) w_x_intOf_good
theorem g_x_partAt_intOf_515 : GoodIn w_x_partAt (wsV RX12 515 RX12 yX12_intOf w_x_intOf) := goodIn_app (nb_g4 (List.mem_cons_of_mem _ (List.mem_append_left _ (List.mem_append_left _ (List.mem_of_getElem? (i := 8) rfl)))) (List.mem_cons_of_mem _ (List.mem_append_left _ (List.mem_append_left _ (List.mem_of_getElem? (i := 9) rfl)))) (List.mem_cons_of_mem _ (List.mem_append_left _ (List.mem_append_left _ (List.mem_of_getElem? (i := 10) rfl)))) (List.mem_cons_of_mem _ (List.mem_append_left _ (List.mem_append_left _ (List.mem_of_getElem? (i := 3) rfl)))) (by decide +kernel)) gg_x_partAt_intOf
theorem gg_x_partAt_isMap : GoodIn w_x_partAt w_x_isMap := goodIn_sub (fun w h => (List.mem_cons.mp h).elim (fun e => (List.mem_cons_of_mem _ (List.mem_append_left _ (List.mem_append_right _ (List.mem_append_right _ (List.mem_append_right _ (List.mem_append_right _ (List.mem_append_right _ (List.mem_append_right _ (List.mem_append_left _ (List.mem_cons.mpr (Or.inl e)))))))))))) (fun h => (List.mem_append.mp h).elim (fun h => (List.mem_cons_of_mem _ (List.mem_append_left _ (List.mem_append_right _ (List.mem_append_right _ (List.mem_append_right _ (List.mem_append_right _ (List.mem_append_right _ (List.mem_append_right _ (List.mem_append_left _ (List.mem_cons_of_mem _ h))))))))))) (fun h => List.mem_cons_of_mem _ (List.mem_append_right _ h)))) w_x_isMap_good
theorem g_x_partAt_isMap_785 : GoodIn w_x_partAt (wsV RX12 785 RX12 yX12_isMap w_x_isMap) := goodIn_app (nb_g4 (List.mem_cons_of_mem _ (List.mem_append_left _ (List.mem_append_left _ (List.mem_of_getElem? (i := 18) rfl)))) (List.mem_cons_of_mem _ (List.mem_append_left _ (List.mem_append_left _ (List.mem_of_getElem? (i := 19) rfl)))) (List.mem_cons_of_mem _ (List.mem_append_left _ (List.mem_append_left _ (List.mem_of_getElem? (i := 20) rfl)))) (List.mem_cons_of_mem _ (List.mem_append_left _ (List.mem_append_left _ (List.mem_of_getElem? (i := 3) rfl)))) (by decide +kernel)) gg_x_partAt_isMap
theorem gg_x_partAt_kind : GoodIn w_x_partAt w_x_kind := goodIn_sub (fun w h => (List.mem_cons.mp h).elim (fun e => (List.mem_cons_of_mem _ (List.mem_append_left _ (List.mem_append_right _ (List.mem_append_left _ (List.mem_cons.mpr (Or.inl e))))))) (fun h => (List.mem_append.mp h).elim (fun h => (List.mem_cons_of_mem _ (List.mem_append_left _ (List.mem_append_right _ (List.mem_append_left _ (List.mem_cons_of_mem _ h)))))) (fun h => List.mem_cons_of_mem _ (List.mem_append_right _ h)))) w_x_kind_good
theorem g_x_partAt_kind_545 : GoodIn w_x_partAt (wsV RX12 545 RX12 yX12_kind w_x_kind) := goodIn_app (nb_g4 (List.mem_cons_of_mem _ (List.mem_append_left _ (List.mem_append_left _ (List.mem_of_getElem? (i := 0) rfl)))) (List.mem_cons_of_mem _ (List.mem_append_left _ (List.mem_append_left _ (List.mem_of_getElem? (i := 1) rfl)))) (List.mem_cons_of_mem _ (List.mem_append_left _ (List.mem_append_left _ (List.mem_of_getElem? (i := 2) rfl)))) (List.mem_cons_of_mem _ (List.mem_append_left _ (List.mem_append_left _ (List.mem_of_getElem? (i := 3) rfl)))) (by decide +kernel)) gg_x_partAt_kind
theorem gg_x_partAt_memberAt : GoodIn w_x_partAt w_x_memberAt := goodIn_sub (fun w h => (List.mem_cons.mp h).elim (fun e => (List.mem_cons_of_mem _ (List.mem_append_left _ (List.mem_append_right _ (List.mem_append_right _ (List.mem_append_right _ (List.mem_append_right _ (List.mem_append_right _ (List.mem_append_left _ (List.mem_cons.mpr (Or.inl e))))))))))) (fun h => (List.mem_append.mp h).elim (fun h => (List.mem_cons_of_mem _ (List.mem_append_left _ (List.mem_append_right _ (List.mem_append_right _ (List.mem_append_right _ (List.mem_append_right _ (List.mem_append_right _ (List.mem_append_left _ (List.mem_cons_of_mem _ h)))))))))) (fun h => List.mem_cons_of_mem _ (List.mem_append_right _ h)))) w_x_memberAt_good
theorem g_x_partAt_memberAt_703 : GoodIn w_x_partAt (wsV RX12 703 RX12 yX12_memberAt w_x_memberAt) := goodIn_app (nb_g4 (List.mem_cons_of_mem _ (List.mem_append_left _ (List.mem_append_left _ (List.mem_of_getElem? (i := 15) rfl)))) (List.mem_cons_of_mem _ (List.mem_append_left _ (List.mem_append_left _ (List.mem_of_getElem? (i := 16) rfl)))) (List.mem_cons_of_mem _ (List.mem_append_left _ (List.mem_append_left _ (List.mem_of_getElem? (i := 17) rfl)))) (List.mem_cons_of_mem _ (List.mem_append_left _ (List.mem_append_left _ (List.mem_of_getElem? (i := 3) rfl)))) (by decide +kernel)) gg_x_partAt_memberAt
theorem gg_x_partAt_wrongKind : GoodIn w_x_partAt w_x_wrongKind := goodIn_sub (fun w h => (List.mem_cons.mp h).elim (fun e => (List.mem_cons_of_mem _ (List.mem_append_left _ (List.mem_append_right _ (List.mem_append_right _ (List.mem_append_left _ (List.mem_cons.mpr (Or.inl e)))))))) (fun h => (List.mem_append.mp h).elim (fun h => (List.mem_cons_of_mem _ (List.mem_append_left _ (List.mem_append_right _ (List.mem_append_right _ (List.mem_append_left _ (List.mem_cons_of_mem _ h))))))) (fun h => List.mem_cons_of_mem _ (List.mem_append_right _ h)))) w_x_wrongKind_good
theorem g_x_partAt_wrongKind_666 : GoodIn w_x_partAt (wsV RX12 666 RX12 yX12_wrongKind w_x_wrongKind) := goodIn_app (nb_g4 (List.mem_cons_of_mem _ (List.mem_append_left _ (List.mem_append_left _ (List.mem_of_getElem? (i := 4) rfl)))) (List.mem_cons_of_mem _ (List.mem_append_left _ (List.mem_append_left _ (List.mem_of_getElem? (i := 5) rfl)))) (List.mem_cons_of_mem _ (List.mem_append_left _ (List.mem_append_left _ (List.mem_of_getElem? (i := 6) rfl)))) (List.mem_cons_of_mem _ (List.mem_append_left _ (List.mem_append_left _ (List.mem_of_getElem? (i := 3) rfl)))) (by decide +kernel)) gg_x_partAt_wrongKind
set_option maxHeartbeats 40000000 in
set_option maxRecDepth 100000 in
theorem c_x_partAt (l : Launch) (dC : Nat → ClassId) (dI : Nat → Nat → Nat) (cy : Nat → ClassId) (a : Nat → Nat) (k0 : Nat) (L0 : Nat → Int32) (σ0 : MS) (r0 : Int32 × MS) (h0 : x_partAt k0 0 L0 σ0 = some r0) (sz : Nat) : Met l yX12_partAt w_x_partAt ({ frames := 43, cells := 0, slots := 0, locals := 1195 }) (va_Pc [.ref (a 0), .int (L0 1), .int (L0 2)] (nIn (dC, dI) cy sz (vM cy a σ0))) (va_Qi (fun (z : Int32) (_ : Unit) => z = r0.1) (fun _ t => nOut (dC, dI) cy (va_A (vM cy a σ0) sz) (vM cy a r0.2) t) (va_A (vM cy a σ0) sz)) 0 0 (va_A (vM cy a σ0) sz) := by
  refine Met.ofW (cc := cX12_partAt) (maxL := 8) (ret := (some .int)) (by decide) rfl ?_
  intro p e s m args below meth c s₁ B hml hv
  obtain ⟨rfl, hsz, hP, hK, hD0, hG⟩ := hv
  have hx := B.exec
  have hb := B.bytes
  have hr := B.returns
  have hts := atoms_spec (ws := w_x_partAt) B.pre
  have hown : s.vm.findClass RX12 = some m.cls := findClass_of_methodNamed B.named
  have hlocks := B.notSynchronized
  subst hsz
  have hD := hD0.self (sz := s.heap.size)
  generalize hAe : va_A (vM cy a σ0) s.heap.size = A at hD ⊢
  have hA : ∀ q : Nat, s.heap.size ≤ q → A q := fun q h => by rw [← hAe]; exact Or.inr h
  have hS : va_S A s.heap s.heap [] := va_S.rf
  have hl := lv_entry ([.ref (a 0), .int (L0 1), .int (L0 2)]) (n := 8) (Nat.le_of_ble_eq_true rfl)
  rw [lg_entry_eq]
  generalize (lg_sl ([.ref (a 0), .int (L0 1), .int (L0 2)]) ++ List.replicate (8 - (lg_sl ([.ref (a 0), .int (L0 1), .int (L0 2)])).length) Slot.unset).toArray = ls at hl ⊢
  have hl : lv_has ls 8 [(0, .ref (a 0)), (1, .int (L0 1)), (2, .int (L0 2))] := hl
  have blk : ∀ k : Nat, (bT p l e (headSpec w_x_partAt ({ frames := 43, cells := 0, slots := 0, locals := 1195 })).room s m #[.ref (a 0), .int (L0 1), .int (L0 2)] below meth c dC dI cy a A (qI dC dI cy a A below #[.ref (a 0), .int (L0 1), .int (L0 2)] s) 8 (x_partAt k 0) (fun L => [(0, .ref (a 0)), (1, .int (L 1)), (2, .int (L 2))]) 0 (fun L => [])) ∧ (bT p l e (headSpec w_x_partAt ({ frames := 43, cells := 0, slots := 0, locals := 1195 })).room s m #[.ref (a 0), .int (L0 1), .int (L0 2)] below meth c dC dI cy a A (qI dC dI cy a A below #[.ref (a 0), .int (L0 1), .int (L0 2)] s) 8 (x_partAt k 1) (fun L => [(0, .ref (a 0)), (1, .int (L 1)), (2, .int (L 2)), (3, .int (L 3))]) 16 (fun L => [])) ∧ (bT p l e (headSpec w_x_partAt ({ frames := 43, cells := 0, slots := 0, locals := 1195 })).room s m #[.ref (a 0), .int (L0 1), .int (L0 2)] below meth c dC dI cy a A (qI dC dI cy a A below #[.ref (a 0), .int (L0 1), .int (L0 2)] s) 8 (x_partAt k 2) (fun L => [(0, .ref (a 0)), (1, .int (L 1)), (2, .int (L 2)), (3, .int (L 3))]) 30 (fun L => [])) ∧ (bT p l e (headSpec w_x_partAt ({ frames := 43, cells := 0, slots := 0, locals := 1195 })).room s m #[.ref (a 0), .int (L0 1), .int (L0 2)] below meth c dC dI cy a A (qI dC dI cy a A below #[.ref (a 0), .int (L0 1), .int (L0 2)] s) 8 (x_partAt k 3) (fun L => [(0, .ref (a 0)), (1, .int (L 1)), (2, .int (L 2)), (3, .int (L 3)), (4, .int (L 4))]) 53 (fun L => [])) ∧ (bT p l e (headSpec w_x_partAt ({ frames := 43, cells := 0, slots := 0, locals := 1195 })).room s m #[.ref (a 0), .int (L0 1), .int (L0 2)] below meth c dC dI cy a A (qI dC dI cy a A below #[.ref (a 0), .int (L0 1), .int (L0 2)] s) 8 (x_partAt k 4) (fun L => [(0, .ref (a 0)), (1, .int (L 1)), (2, .int (L 2)), (3, .int (L 3)), (4, .int (L 4))]) 70 (fun L => [])) ∧ (bT p l e (headSpec w_x_partAt ({ frames := 43, cells := 0, slots := 0, locals := 1195 })).room s m #[.ref (a 0), .int (L0 1), .int (L0 2)] below meth c dC dI cy a A (qI dC dI cy a A below #[.ref (a 0), .int (L0 1), .int (L0 2)] s) 8 (x_partAt k 5) (fun L => [(0, .ref (a 0)), (1, .int (L 1)), (2, .int (L 2)), (3, .int (L 3)), (4, .int (L 4))]) 79 (fun L => [.int (L 100)])) ∧ (bT p l e (headSpec w_x_partAt ({ frames := 43, cells := 0, slots := 0, locals := 1195 })).room s m #[.ref (a 0), .int (L0 1), .int (L0 2)] below meth c dC dI cy a A (qI dC dI cy a A below #[.ref (a 0), .int (L0 1), .int (L0 2)] s) 8 (x_partAt k 6) (fun L => [(0, .ref (a 0)), (1, .int (L 1)), (2, .int (L 2)), (3, .int (L 3))]) 80 (fun L => [])) ∧ (bT p l e (headSpec w_x_partAt ({ frames := 43, cells := 0, slots := 0, locals := 1195 })).room s m #[.ref (a 0), .int (L0 1), .int (L0 2)] below meth c dC dI cy a A (qI dC dI cy a A below #[.ref (a 0), .int (L0 1), .int (L0 2)] s) 8 (x_partAt k 7) (fun L => [(0, .ref (a 0)), (1, .int (L 1)), (2, .int (L 2)), (3, .int (L 3))]) 93 (fun L => [])) ∧ (bT p l e (headSpec w_x_partAt ({ frames := 43, cells := 0, slots := 0, locals := 1195 })).room s m #[.ref (a 0), .int (L0 1), .int (L0 2)] below meth c dC dI cy a A (qI dC dI cy a A below #[.ref (a 0), .int (L0 1), .int (L0 2)] s) 8 (x_partAt k 8) (fun L => [(0, .ref (a 0)), (1, .int (L 1)), (2, .int (L 2)), (3, .int (L 3)), (4, .int (L 4)), (5, .int (L 5)), (6, .int (L 6))]) 102 (fun L => [])) ∧ (bT p l e (headSpec w_x_partAt ({ frames := 43, cells := 0, slots := 0, locals := 1195 })).room s m #[.ref (a 0), .int (L0 1), .int (L0 2)] below meth c dC dI cy a A (qI dC dI cy a A below #[.ref (a 0), .int (L0 1), .int (L0 2)] s) 8 (x_partAt k 9) (fun L => [(0, .ref (a 0)), (1, .int (L 1)), (2, .int (L 2)), (3, .int (L 3)), (4, .int (L 4)), (5, .int (L 5)), (6, .int (L 6)), (7, .int (L 7))]) 159 (fun L => [])) ∧ (bT p l e (headSpec w_x_partAt ({ frames := 43, cells := 0, slots := 0, locals := 1195 })).room s m #[.ref (a 0), .int (L0 1), .int (L0 2)] below meth c dC dI cy a A (qI dC dI cy a A below #[.ref (a 0), .int (L0 1), .int (L0 2)] s) 8 (x_partAt k 10) (fun L => [(0, .ref (a 0)), (1, .int (L 1)), (2, .int (L 2)), (3, .int (L 3)), (4, .int (L 4)), (5, .int (L 5)), (6, .int (L 6))]) 165 (fun L => [])) ∧ (bT p l e (headSpec w_x_partAt ({ frames := 43, cells := 0, slots := 0, locals := 1195 })).room s m #[.ref (a 0), .int (L0 1), .int (L0 2)] below meth c dC dI cy a A (qI dC dI cy a A below #[.ref (a 0), .int (L0 1), .int (L0 2)] s) 8 (x_partAt k 11) (fun L => [(0, .ref (a 0)), (1, .int (L 1)), (2, .int (L 2)), (3, .int (L 3)), (4, .int (L 4)), (5, .int (L 5)), (6, .int (L 6))]) 176 (fun L => [])) ∧ (bT p l e (headSpec w_x_partAt ({ frames := 43, cells := 0, slots := 0, locals := 1195 })).room s m #[.ref (a 0), .int (L0 1), .int (L0 2)] below meth c dC dI cy a A (qI dC dI cy a A below #[.ref (a 0), .int (L0 1), .int (L0 2)] s) 8 (x_partAt k 12) (fun L => [(0, .ref (a 0)), (1, .int (L 1)), (2, .int (L 2)), (3, .int (L 3)), (4, .int (L 4)), (5, .int (L 5)), (6, .int (L 6))]) 177 (fun L => [.int (L 100)])) := by
    intro k
    induction k with
    | zero => exact ⟨fun L σ r h => (by cases h), fun L σ r h => (by cases h), fun L σ r h => (by cases h), fun L σ r h => (by cases h), fun L σ r h => (by cases h), fun L σ r h => (by cases h), fun L σ r h => (by cases h), fun L σ r h => (by cases h), fun L σ r h => (by cases h), fun L σ r h => (by cases h), fun L σ r h => (by cases h), fun L σ r h => (by cases h), fun L σ r h => (by cases h)⟩
    | succ k ih =>
      refine ⟨?_, ?_, ?_, ?_, ?_, ?_, ?_, ?_, ?_, ?_, ?_, ?_, ?_⟩
      · intro L σ r h H locs ls hP hD hS hl
        rw [x_partAt] at h
        refine lv_aload_n hx hb dX12_partAt_0 rfl (lv_at hl 0 rfl) ?_
        refine lv_iload_n hx hb dX12_partAt_1 rfl (lv_at hl 1 rfl) ?_
        obtain ⟨r1, hc1, h⟩ := ob_ex h
        refine nc_Vi (As := [.int (L 1)]) (rest := []) ⟨hx, hb, hml, hown, hts⟩ (c_x_kind l dC dI cy a k (upd (fun _ => 0) 1 ((L 1))) σ r1 hc1 H.size) (cwV 1 hts g_x_partAt_kind_545 rfl rfl rfl hd_x_kind ⟨Nat.le_of_ble_eq_true rfl, Nat.le_of_ble_eq_true rfl⟩) hK hG hA hP hD hS rfl hl.1 rfl (Nat.le_of_ble_eq_true rfl) dX12_partAt_2 ⟨Nat.le_refl _, Nat.le_refl _⟩ (fun H locs hP hD hS => ?_)
        refine lv_istore_n (lv' := [(3, .int r1.1), (0, .ref (a 0)), (1, .int (L 1)), (2, .int (L 2))]) hx hb dX12_partAt_5 rfl hl (by decide) rfl (fun ls hl => ?_)
        refine lv_iload_n hx hb dX12_partAt_6 rfl (lv_at hl 0 rfl) ?_
        refine lv_iconst (v := 4) hx hb dX12_partAt_7 (by decide) ?_
        refine lv_icmp_eq (tgt := 16) hx hb dX12_partAt_8 (by decide) (fun c2 => ?_) (fun c2 => ?_)
        · rw [if_pos c2] at h
          exact ih.2.1 (upd L 3 r1.1) r1.2 r h H locs ls hP hD hS (lv_sub hl [1, 2, 3, 0] rfl)
        · rw [if_neg c2] at h
          refine lv_iload_n hx hb dX12_partAt_11 rfl (lv_at hl 0 rfl) ?_
          refine lv_iconst (v := 5) hx hb dX12_partAt_12 (by decide) ?_
          refine lv_icmp_ne (tgt := 80) hx hb dX12_partAt_13 (by decide) (fun c3 => ?_) (fun c3 => ?_)
          · rw [if_neg c3] at h
            exact ih.2.2.2.2.2.2.1 (upd L 3 r1.1) r1.2 r h H locs ls hP hD hS (lv_sub hl [1, 2, 3, 0] rfl)
          · rw [if_pos c3] at h
            exact ih.2.1 (upd L 3 r1.1) r1.2 r h H locs ls hP hD hS (lv_sub hl [1, 2, 3, 0] rfl)
      · intro L σ r h H locs ls hP hD hS hl
        rw [x_partAt] at h
        refine lv_aload_n hx hb dX12_partAt_16 rfl (lv_at hl 0 rfl) ?_
        refine lv_iload_n hx hb dX12_partAt_17 rfl (lv_at hl 2 rfl) ?_
        obtain ⟨r1, hc1, h⟩ := ob_ex h
        refine nc_Vi (As := [.int (L 2)]) (rest := []) ⟨hx, hb, hml, hown, hts⟩ (c_x_kind l dC dI cy a k (upd (fun _ => 0) 1 ((L 2))) σ r1 hc1 H.size) (cwV 1 hts g_x_partAt_kind_545 rfl rfl rfl hd_x_kind ⟨Nat.le_of_ble_eq_true rfl, Nat.le_of_ble_eq_true rfl⟩) hK hG hA hP hD hS rfl hl.1 rfl (Nat.le_of_ble_eq_true rfl) dX12_partAt_18 ⟨Nat.le_refl _, Nat.le_refl _⟩ (fun H locs hP hD hS => ?_)
        refine lv_iconst (v := 2) hx hb dX12_partAt_21 (by decide) ?_
        refine lv_icmp_eq (tgt := 30) hx hb dX12_partAt_22 (by decide) (fun c2 => ?_) (fun c2 => ?_)
        · rw [if_pos c2] at h
          exact ih.2.2.1 L r1.2 r h H locs ls hP hD hS (lv_sub hl [0, 1, 2, 3] rfl)
        · rw [if_neg c2] at h
          refine lv_aload_n hx hb dX12_partAt_25 rfl (lv_at hl 0 rfl) ?_
          obtain ⟨r3, hc3, h⟩ := ob_ex h
          refine nc_Vi (As := []) (rest := []) ⟨hx, hb, hml, hown, hts⟩ (c_x_wrongKind l dC dI cy a k (fun _ => 0) r1.2 r3 hc3 H.size) (cwV 0 hts g_x_partAt_wrongKind_666 rfl rfl rfl hd_x_wrongKind ⟨Nat.le_of_ble_eq_true rfl, Nat.le_of_ble_eq_true rfl⟩) hK hG hA hP hD hS rfl hl.1 rfl (Nat.le_of_ble_eq_true rfl) dX12_partAt_26 ⟨Nat.le_refl _, Nat.le_refl _⟩ (fun H locs hP hD hS => ?_)
          cases h
          exact W.iret (v := r3.1) hx hb hr (fun t ht hW => ⟨⟨r3.1, (), rfl, rfl, by rw [ht]; exact hP, va_K.moved hW.alike hK, hD⟩, hS.F ht⟩) hS.2.2 dX12_partAt_29
      · intro L σ r h H locs ls hP hD hS hl
        rw [x_partAt] at h
        refine lv_aload_n hx hb dX12_partAt_30 rfl (lv_at hl 0 rfl) ?_
        refine lv_iload_n hx hb dX12_partAt_31 rfl (lv_at hl 2 rfl) ?_
        refine lv_ldcw (v := 100000) hx hb hown (hts _ (List.mem_cons_of_mem _ (List.mem_append_left _ (List.mem_append_left _ (List.mem_of_getElem? (i := 7) rfl))))) dX12_partAt_32 ?_
        obtain ⟨r1, hc1, h⟩ := ob_ex h
        refine nc_Vi (As := [.int (L 2), .int 100000]) (rest := []) ⟨hx, hb, hml, hown, hts⟩ (c_x_intOf l dC dI cy a k (upd (upd (fun _ => 0) 1 ((L 2))) 2 100000) (fun _ => 0) σ r1 hc1 H.size) (cwV 2 hts g_x_partAt_intOf_515 rfl rfl rfl hd_x_intOf ⟨Nat.le_of_ble_eq_true rfl, Nat.le_of_ble_eq_true rfl⟩) hK hG hA hP hD hS rfl hl.1 rfl (Nat.le_of_ble_eq_true rfl) dX12_partAt_35 ⟨Nat.le_refl _, Nat.le_refl _⟩ (fun H locs hP hD hS => ?_)
        refine lv_istore (lv' := [(4, .int r1.1), (0, .ref (a 0)), (1, .int (L 1)), (2, .int (L 2)), (3, .int (L 3))]) hx hb dX12_partAt_38 hl (by decide) rfl (fun ls hl => ?_)
        refine lv_iload hx hb dX12_partAt_40 (lv_at hl 0 rfl) ?_
        refine lv_iconst (v := 1) hx hb dX12_partAt_42 (by decide) ?_
        refine lv_icmp_ge (tgt := 53) hx hb dX12_partAt_43 (by decide) (fun c2 => ?_) (fun c2 => ?_)
        · rw [if_pos c2] at h
          exact ih.2.2.2.1 (upd L 4 r1.1) r1.2 r h H locs ls hP hD hS (lv_sub hl [1, 2, 3, 4, 0] rfl)
        · rw [if_neg c2] at h
          refine lv_aload_n hx hb dX12_partAt_46 rfl (lv_at hl 1 rfl) ?_
          refine lv_iconst (v := 4) hx hb dX12_partAt_47 (by decide) ?_
          obtain ⟨r3, hc3, h⟩ := ob_ex h
          refine nc_Vv (As := [.int 4]) (rest := []) ⟨hx, hb, hml, hown, hts⟩ (c_x_fail l dC dI cy a k (upd (fun _ => 0) 1 4) r1.2 r3 hc3 H.size) (cwV 1 hts g_x_partAt_fail_369 rfl rfl rfl hd_x_fail ⟨Nat.le_of_ble_eq_true rfl, Nat.le_of_ble_eq_true rfl⟩) hK hG hA hP hD hS rfl hl.1 rfl (Nat.le_of_ble_eq_true rfl) dX12_partAt_48 ⟨Nat.le_refl _, Nat.le_refl _⟩ (fun H locs hP hD hS => ?_)
          refine lv_iconst (v := 0) hx hb dX12_partAt_51 (by decide) ?_
          cases h
          exact W.iret (v := 0) hx hb hr (fun t ht hW => ⟨⟨0, (), rfl, rfl, by rw [ht]; exact hP, va_K.moved hW.alike hK, hD⟩, hS.F ht⟩) hS.2.2 dX12_partAt_52
      · intro L σ r h H locs ls hP hD hS hl
        rw [x_partAt] at h
        refine lv_iload hx hb dX12_partAt_53 (lv_at hl 4 rfl) ?_
        refine lv_aload_n hx hb dX12_partAt_55 rfl (lv_at hl 0 rfl) ?_
        refine ng_53 hx hb hts in_x_partAt hown hK hP (hts _ (List.mem_cons_of_mem _ (List.mem_append_left _ (List.mem_append_left _ (List.mem_of_getElem? (i := 14) rfl))))) dX12_partAt_56 ?_
        refine lv_iload_n hx hb dX12_partAt_59 rfl (lv_at hl 1 rfl) ?_
        refine lv_iconst (v := 1) hx hb dX12_partAt_60 (by decide) ?_
        refine lv_iadd hx hb dX12_partAt_61 ?_
        obtain ⟨q1, h⟩ := nb_ite1 h
        refine nl_28 hx hb hK hP q1 dX12_partAt_62 ?_
        refine lv_icmp_le (tgt := 70) hx hb dX12_partAt_63 (by decide) (fun c2 => ?_) (fun c2 => ?_)
        · rw [if_pos c2] at h
          exact ih.2.2.2.2.1 L σ r h H locs ls hP hD hS (lv_sub hl [0, 1, 2, 3, 4] rfl)
        · rw [if_neg c2] at h
          refine lv_iconst (v := 0) hx hb dX12_partAt_66 (by decide) ?_
          refine lv_goto (tgt := 79) hx hb dX12_partAt_67 (by decide) ?_
          exact ih.2.2.2.2.2.1 (upd L 100 0) σ r h H locs ls hP hD hS (lv_sub hl [0, 1, 2, 3, 4] rfl)
      · intro L σ r h H locs ls hP hD hS hl
        rw [x_partAt] at h
        refine lv_aload_n hx hb dX12_partAt_70 rfl (lv_at hl 0 rfl) ?_
        refine lv_iload_n hx hb dX12_partAt_71 rfl (lv_at hl 1 rfl) ?_
        refine lv_iload hx hb dX12_partAt_72 (lv_at hl 4 rfl) ?_
        refine lv_iconst (v := 1) hx hb dX12_partAt_74 (by decide) ?_
        refine lv_isub hx hb dX12_partAt_75 ?_
        obtain ⟨r1, hc1, h⟩ := ob_ex h
        refine nc_Vi (As := [.int (L 1), .int (((L 4)) - 1)]) (rest := []) ⟨hx, hb, hml, hown, hts⟩ (c_x_memberAt l dC dI cy a k (upd (upd (fun _ => 0) 1 ((L 1))) 2 ((((L 4)) - 1))) σ r1 hc1 H.size) (cwV 2 hts g_x_partAt_memberAt_703 rfl rfl rfl hd_x_memberAt ⟨Nat.le_of_ble_eq_true rfl, Nat.le_of_ble_eq_true rfl⟩) hK hG hA hP hD hS rfl hl.1 rfl (Nat.le_of_ble_eq_true rfl) dX12_partAt_76 ⟨Nat.le_refl _, Nat.le_refl _⟩ (fun H locs hP hD hS => ?_)
        exact ih.2.2.2.2.2.1 (upd L 100 r1.1) r1.2 r h H locs ls hP hD hS (lv_sub hl [0, 1, 2, 3, 4] rfl)
      · intro L σ r h H locs ls hP hD hS hl
        rw [x_partAt] at h
        cases h
        exact W.iret (v := (L 100)) hx hb hr (fun t ht hW => ⟨⟨(L 100), (), rfl, rfl, by rw [ht]; exact hP, va_K.moved hW.alike hK, hD⟩, hS.F ht⟩) hS.2.2 dX12_partAt_79
      · intro L σ r h H locs ls hP hD hS hl
        rw [x_partAt] at h
        refine lv_aload_n hx hb dX12_partAt_80 rfl (lv_at hl 0 rfl) ?_
        refine lv_iload_n hx hb dX12_partAt_81 rfl (lv_at hl 1 rfl) ?_
        obtain ⟨r1, hc1, h⟩ := ob_ex h
        refine nc_Vi (As := [.int (L 1)]) (rest := []) ⟨hx, hb, hml, hown, hts⟩ (c_x_isMap l dC dI cy a k (upd (fun _ => 0) 1 ((L 1))) σ r1 hc1 H.size) (cwV 1 hts g_x_partAt_isMap_785 rfl rfl rfl hd_x_isMap ⟨Nat.le_of_ble_eq_true rfl, Nat.le_of_ble_eq_true rfl⟩) hK hG hA hP hD hS rfl hl.1 rfl (Nat.le_of_ble_eq_true rfl) dX12_partAt_82 ⟨Nat.le_refl _, Nat.le_refl _⟩ (fun H locs hP hD hS => ?_)
        refine lv_if_ne (tgt := 93) hx hb dX12_partAt_85 (by decide) (fun c2 => ?_) (fun c2 => ?_)
        · rw [if_neg c2] at h
          exact ih.2.2.2.2.2.2.2.1 L r1.2 r h H locs ls hP hD hS (lv_sub hl [0, 1, 2, 3] rfl)
        · rw [if_pos c2] at h
          refine lv_aload_n hx hb dX12_partAt_88 rfl (lv_at hl 0 rfl) ?_
          obtain ⟨r3, hc3, h⟩ := ob_ex h
          refine nc_Vi (As := []) (rest := []) ⟨hx, hb, hml, hown, hts⟩ (c_x_wrongKind l dC dI cy a k (fun _ => 0) r1.2 r3 hc3 H.size) (cwV 0 hts g_x_partAt_wrongKind_666 rfl rfl rfl hd_x_wrongKind ⟨Nat.le_of_ble_eq_true rfl, Nat.le_of_ble_eq_true rfl⟩) hK hG hA hP hD hS rfl hl.1 rfl (Nat.le_of_ble_eq_true rfl) dX12_partAt_89 ⟨Nat.le_refl _, Nat.le_refl _⟩ (fun H locs hP hD hS => ?_)
          cases h
          exact W.iret (v := r3.1) hx hb hr (fun t ht hW => ⟨⟨r3.1, (), rfl, rfl, by rw [ht]; exact hP, va_K.moved hW.alike hK, hD⟩, hS.F ht⟩) hS.2.2 dX12_partAt_92
      · intro L σ r h H locs ls hP hD hS hl
        rw [x_partAt] at h
        refine lv_iconst (v := 0) hx hb dX12_partAt_93 (by decide) ?_
        refine lv_istore (lv' := [(4, .int 0), (0, .ref (a 0)), (1, .int (L 1)), (2, .int (L 2)), (3, .int (L 3))]) hx hb dX12_partAt_94 hl (by decide) rfl (fun ls hl => ?_)
        refine lv_iconst (v := 0) hx hb dX12_partAt_96 (by decide) ?_
        refine lv_istore (lv' := [(5, .int 0), (4, .int 0), (0, .ref (a 0)), (1, .int (L 1)), (2, .int (L 2)), (3, .int (L 3))]) hx hb dX12_partAt_97 hl (by decide) rfl (fun ls hl => ?_)
        refine lv_iconst (v := 0) hx hb dX12_partAt_99 (by decide) ?_
        refine lv_istore (lv' := [(6, .int 0), (5, .int 0), (4, .int 0), (0, .ref (a 0)), (1, .int (L 1)), (2, .int (L 2)), (3, .int (L 3))]) hx hb dX12_partAt_100 hl (by decide) rfl (fun ls hl => ?_)
        exact ih.2.2.2.2.2.2.2.2.1 (upd (upd (upd L 4 0) 5 0) 6 0) σ r h H locs ls hP hD hS (lv_sub hl [3, 4, 5, 6, 2, 1, 0] rfl)
      · intro L σ r h H locs ls hP hD hS hl
        rw [x_partAt] at h
        refine lv_iload hx hb dX12_partAt_102 (lv_at hl 6 rfl) ?_
        refine lv_aload_n hx hb dX12_partAt_104 rfl (lv_at hl 0 rfl) ?_
        refine ng_53 hx hb hts in_x_partAt hown hK hP (hts _ (List.mem_cons_of_mem _ (List.mem_append_left _ (List.mem_append_left _ (List.mem_of_getElem? (i := 14) rfl))))) dX12_partAt_105 ?_
        refine lv_iload_n hx hb dX12_partAt_108 rfl (lv_at hl 1 rfl) ?_
        refine lv_iconst (v := 1) hx hb dX12_partAt_109 (by decide) ?_
        refine lv_iadd hx hb dX12_partAt_110 ?_
        obtain ⟨q1, h⟩ := nb_ite1 h
        refine nl_28 hx hb hK hP q1 dX12_partAt_111 ?_
        refine lv_icmp_ge (tgt := 165) hx hb dX12_partAt_112 (by decide) (fun c2 => ?_) (fun c2 => ?_)
        · rw [if_pos c2] at h
          exact ih.2.2.2.2.2.2.2.2.2.2.1 L σ r h H locs ls hP hD hS (lv_sub hl [0, 1, 2, 3, 4, 5, 6] rfl)
        · rw [if_neg c2] at h
          refine lv_aload_n hx hb dX12_partAt_115 rfl (lv_at hl 0 rfl) ?_
          refine ng_53 hx hb hts in_x_partAt hown hK hP (hts _ (List.mem_cons_of_mem _ (List.mem_append_left _ (List.mem_append_left _ (List.mem_of_getElem? (i := 14) rfl))))) dX12_partAt_116 ?_
          refine lv_iload_n hx hb dX12_partAt_119 rfl (lv_at hl 1 rfl) ?_
          refine lv_iconst (v := 4) hx hb dX12_partAt_120 (by decide) ?_
          refine lv_iadd hx hb dX12_partAt_121 ?_
          refine lv_iload hx hb dX12_partAt_122 (lv_at hl 6 rfl) ?_
          refine lv_iadd hx hb dX12_partAt_124 ?_
          obtain ⟨q3, h⟩ := nb_ite1 h
          refine nl_28 hx hb hK hP q3 dX12_partAt_125 ?_
          refine lv_istore (lv' := [(7, .int (σ.2.2 28 ((((((L 1)) + 4)) + ((L 6)))).toNatClampNeg)), (0, .ref (a 0)), (1, .int (L 1)), (2, .int (L 2)), (3, .int (L 3)), (4, .int (L 4)), (5, .int (L 5)), (6, .int (L 6))]) hx hb dX12_partAt_126 hl (by decide) rfl (fun ls hl => ?_)
          refine lv_aload_n hx hb dX12_partAt_128 rfl (lv_at hl 1 rfl) ?_
          refine lv_aload_n hx hb dX12_partAt_129 rfl (lv_at hl 1 rfl) ?_
          refine ng_53 hx hb hts in_x_partAt hown hK hP (hts _ (List.mem_cons_of_mem _ (List.mem_append_left _ (List.mem_append_left _ (List.mem_of_getElem? (i := 14) rfl))))) dX12_partAt_130 ?_
          refine lv_iload hx hb dX12_partAt_133 (lv_at hl 0 rfl) ?_
          refine lv_iconst (v := 4) hx hb dX12_partAt_135 (by decide) ?_
          refine lv_iadd hx hb dX12_partAt_136 ?_
          obtain ⟨q4, h⟩ := nb_ite1 h
          refine nl_28 hx hb hK hP q4 dX12_partAt_137 ?_
          refine lv_iload_n hx hb dX12_partAt_138 rfl (lv_at hl 3 rfl) ?_
          obtain ⟨r5, hc5, h⟩ := ob_ex h
          refine nc_Vi (As := [.int (σ.2.2 28 ((((σ.2.2 28 ((((((L 1)) + 4)) + ((L 6)))).toNatClampNeg)) + 4)).toNatClampNeg), .int (L 2)]) (rest := []) ⟨hx, hb, hml, hown, hts⟩ (c_x_compare l dC dI cy a k (upd (upd (fun _ => 0) 1 ((σ.2.2 28 ((((σ.2.2 28 ((((((L 1)) + 4)) + ((L 6)))).toNatClampNeg)) + 4)).toNatClampNeg))) 2 ((L 2))) σ r5 hc5 H.size) (cwV 2 hts g_x_partAt_compare_451 rfl rfl rfl hd_x_compare ⟨Nat.le_of_ble_eq_true rfl, Nat.le_of_ble_eq_true rfl⟩) hK hG hA hP hD hS rfl hl.1 rfl (Nat.le_of_ble_eq_true rfl) dX12_partAt_139 ⟨Nat.le_refl _, Nat.le_refl _⟩ (fun H locs hP hD hS => ?_)
          refine lv_if_ne (tgt := 159) hx hb dX12_partAt_142 (by decide) (fun c6 => ?_) (fun c6 => ?_)
          · rw [if_neg c6] at h
            exact ih.2.2.2.2.2.2.2.2.2.1 (upd L 7 ((σ.2.2 28 ((((((L 1)) + 4)) + ((L 6)))).toNatClampNeg))) r5.2 r h H locs ls hP hD hS (lv_sub hl [1, 2, 3, 4, 5, 6, 7, 0] rfl)
          · rw [if_pos c6] at h
            refine lv_aload_n hx hb dX12_partAt_145 rfl (lv_at hl 1 rfl) ?_
            refine ng_53 hx hb hts in_x_partAt hown hK hP (hts _ (List.mem_cons_of_mem _ (List.mem_append_left _ (List.mem_append_left _ (List.mem_of_getElem? (i := 14) rfl))))) dX12_partAt_146 ?_
            refine lv_iload hx hb dX12_partAt_149 (lv_at hl 0 rfl) ?_
            refine lv_iconst (v := 5) hx hb dX12_partAt_151 (by decide) ?_
            refine lv_iadd hx hb dX12_partAt_152 ?_
            obtain ⟨q7, h⟩ := nb_ite1 h
            refine nl_28 hx hb hK hP q7 dX12_partAt_153 ?_
            refine lv_istore (lv' := [(4, .int (r5.2.2.2 28 ((((σ.2.2 28 ((((((L 1)) + 4)) + ((L 6)))).toNatClampNeg)) + 5)).toNatClampNeg)), (7, .int (σ.2.2 28 ((((((L 1)) + 4)) + ((L 6)))).toNatClampNeg)), (0, .ref (a 0)), (1, .int (L 1)), (2, .int (L 2)), (3, .int (L 3)), (5, .int (L 5)), (6, .int (L 6))]) hx hb dX12_partAt_154 hl (by decide) rfl (fun ls hl => ?_)
            refine lv_iinc (v := ((L 5)) + 1) (lv' := [(5, .int (((L 5)) + 1)), (4, .int (r5.2.2.2 28 ((((σ.2.2 28 ((((((L 1)) + 4)) + ((L 6)))).toNatClampNeg)) + 5)).toNatClampNeg)), (7, .int (σ.2.2 28 ((((((L 1)) + 4)) + ((L 6)))).toNatClampNeg)), (0, .ref (a 0)), (1, .int (L 1)), (2, .int (L 2)), (3, .int (L 3)), (6, .int (L 6))]) hx hb dX12_partAt_156 hl (k := 6) rfl rfl (by decide) rfl (fun ls hl => ?_)
            exact ih.2.2.2.2.2.2.2.2.2.1 (upd (upd (upd L 7 ((σ.2.2 28 ((((((L 1)) + 4)) + ((L 6)))).toNatClampNeg))) 4 ((r5.2.2.2 28 ((((σ.2.2 28 ((((((L 1)) + 4)) + ((L 6)))).toNatClampNeg)) + 5)).toNatClampNeg))) 5 (((L 5)) + 1)) r5.2 r h H locs ls hP hD hS (lv_sub hl [3, 4, 5, 6, 1, 0, 7, 2] rfl)
      · intro L σ r h H locs ls hP hD hS hl
        rw [x_partAt] at h
        refine lv_iinc (v := ((L 6)) + 1) (lv' := [(6, .int (((L 6)) + 1)), (0, .ref (a 0)), (1, .int (L 1)), (2, .int (L 2)), (3, .int (L 3)), (4, .int (L 4)), (5, .int (L 5)), (7, .int (L 7))]) hx hb dX12_partAt_159 hl (k := 6) rfl rfl (by decide) rfl (fun ls hl => ?_)
        refine lv_goto (tgt := 102) hx hb dX12_partAt_162 (by decide) ?_
        exact ih.2.2.2.2.2.2.2.2.1 (upd L 6 (((L 6)) + 1)) σ r h H locs ls hP hD hS (lv_sub hl [1, 2, 3, 4, 5, 6, 0] rfl)
      · intro L σ r h H locs ls hP hD hS hl
        rw [x_partAt] at h
        refine lv_iload hx hb dX12_partAt_165 (lv_at hl 5 rfl) ?_
        refine lv_iconst (v := 1) hx hb dX12_partAt_167 (by decide) ?_
        refine lv_icmp_ne (tgt := 176) hx hb dX12_partAt_168 (by decide) (fun c1 => ?_) (fun c1 => ?_)
        · rw [if_neg c1] at h
          exact ih.2.2.2.2.2.2.2.2.2.2.2.1 L σ r h H locs ls hP hD hS (lv_sub hl [0, 1, 2, 3, 4, 5, 6] rfl)
        · rw [if_pos c1] at h
          refine lv_iload hx hb dX12_partAt_171 (lv_at hl 4 rfl) ?_
          refine lv_goto (tgt := 177) hx hb dX12_partAt_173 (by decide) ?_
          exact ih.2.2.2.2.2.2.2.2.2.2.2.2 (upd L 100 ((L 4))) σ r h H locs ls hP hD hS (lv_sub hl [0, 1, 2, 3, 4, 5, 6] rfl)
      · intro L σ r h H locs ls hP hD hS hl
        rw [x_partAt] at h
        refine lv_iconst (v := 0) hx hb dX12_partAt_176 (by decide) ?_
        exact ih.2.2.2.2.2.2.2.2.2.2.2.2 (upd L 100 0) σ r h H locs ls hP hD hS (lv_sub hl [0, 1, 2, 3, 4, 5, 6] rfl)
      · intro L σ r h H locs ls hP hD hS hl
        rw [x_partAt] at h
        cases h
        exact W.iret (v := (L 100)) hx hb hr (fun t ht hW => ⟨⟨(L 100), (), rfl, rfl, by rw [ht]; exact hP, va_K.moved hW.alike hK, hD⟩, hS.F ht⟩) hS.2.2 dX12_partAt_177
  exact (blk k0).1 L0 σ0 r0 h0 s.heap [] ls hP hD hS hl
/-! isSlice -/
def x_isSlice : Nat → Nat → (Nat → Int32) → MS → Option (Int32 × MS)
  | 0, _, _, _ => none
  | k + 1, 0, L, σ => ob (x_kind k 0 (upd (fun _ => 0) 1 ((L 1))) σ) (fun r1 => if r1.1 = 4 then (x_isSlice k 1 (upd L 4 r1.1) r1.2) else (if r1.1 = 5 then (x_isSlice k 1 (upd L 4 r1.1) r1.2) else (x_isSlice k 2 (upd L 4 r1.1) r1.2)))
  | k + 1, 1, L, σ => ob (x_kind k 0 (upd (fun _ => 0) 1 ((L 2))) σ) (fun r1 => if r1.1 = 2 then (ob (x_kind k 0 (upd (fun _ => 0) 1 ((L 3))) r1.2) (fun r3 => if r3.1 = 2 then (x_isSlice k 3 L r3.2) else (x_isSlice k 2 L r3.2))) else (x_isSlice k 2 L r1.2))
  | k + 1, 2, L, σ => ob (x_fail k 0 (upd (fun _ => 0) 1 1) σ) (fun r1 => some (0, r1.2))
  | k + 1, 3, L, σ => ob (x_intOf k 0 (upd (upd (fun _ => 0) 1 ((L 2))) 2 100000) (fun _ => 0) σ) (fun r1 => x_isSlice k 4 L (upd r1.2.1 100 r1.1, r1.2.2.1, r1.2.2.2))
  | k + 1, 4, L, σ => ob (x_intOf k 0 (upd (upd (fun _ => 0) 1 ((L 3))) 2 100000) (fun _ => 0) σ) (fun r1 => x_isSlice k 5 L (upd r1.2.1 101 r1.1, r1.2.2.1, r1.2.2.2))
  | k + 1, 5, L, σ => some (1, σ)
  | _ + 1, _ + 6, _, _ => none
def o_x_isSlice : List Cond := [.methodLink RX12 545 yX12_kind, .instanceMethod yX12_kind, .selects RX12 yX12_kind yX12_kind, .initialized RX12, .methodLink RX12 369 yX12_fail, .instanceMethod yX12_fail, .selects RX12 yX12_fail yX12_fail, .constant RX12 804 (100000), .methodLink RX12 515 yX12_intOf, .instanceMethod yX12_intOf, .selects RX12 yX12_intOf yX12_intOf, .fieldLink RX12 805 "SetHouseModel" "sliceFrom" "I", .fieldLink RX12 808 "SetHouseModel" "sliceTo" "I"]
theorem o_x_isSlice_good : o_x_isSlice.all goodWord = true := by decide +kernel
def p_x_isSlice : List Cond := o_x_isSlice ++ ((.code yX12_kind cX12_kind 2 (some .int) :: p_x_kind) ++ ((.code yX12_fail cX12_fail 2 none :: p_x_fail) ++ ((.code yX12_intOf cX12_intOf 7 (some .int) :: p_x_intOf) ++ [])))
theorem p_x_isSlice_good : p_x_isSlice.all goodWord = true := nb_all2 o_x_isSlice_good (nb_all2 (nb_allc (by decide +kernel) p_x_kind_good) (nb_all2 (nb_allc (by decide +kernel) p_x_fail_good) (nb_all2 (nb_allc (by decide +kernel) p_x_intOf_good) rfl)))
def w_x_isSlice : List Cond := .code yX12_isSlice cX12_isSlice 5 (some .boolean) :: (p_x_isSlice ++ fM)
theorem w_x_isSlice_good : w_x_isSlice.all goodWord = true := nb_allc (by decide +kernel) (nb_all2 p_x_isSlice_good fM_good)
theorem in_x_isSlice : ∀ w ∈ wsX120, w ∈ w_x_isSlice := fun _ h => List.mem_cons_of_mem _ (List.mem_append_right _ h)
theorem hd_x_isSlice : yX12_isSlice.cls = RX12 ∧ yX12_isSlice.cls ≠ "java/lang/invoke/MethodHandle" ∧ yX12_isSlice.cls ≠ "java/lang/invoke/VarHandle" ∧ (parseMethodDescriptor yX12_isSlice.desc).map (fun d => d.parameters.length) = some 3 := by decide +kernel
theorem gg_x_isSlice_fail : GoodIn w_x_isSlice w_x_fail := goodIn_sub (fun w h => (List.mem_cons.mp h).elim (fun e => (List.mem_cons_of_mem _ (List.mem_append_left _ (List.mem_append_right _ (List.mem_append_right _ (List.mem_append_left _ (List.mem_cons.mpr (Or.inl e)))))))) (fun h => (List.mem_append.mp h).elim (fun h => (List.mem_cons_of_mem _ (List.mem_append_left _ (List.mem_append_right _ (List.mem_append_right _ (List.mem_append_left _ (List.mem_cons_of_mem _ h))))))) (fun h => List.mem_cons_of_mem _ (List.mem_append_right _ h)))) w_x_fail_good
theorem g_x_isSlice_fail_369 : GoodIn w_x_isSlice (wsV RX12 369 RX12 yX12_fail w_x_fail) := goodIn_app (nb_g4 (List.mem_cons_of_mem _ (List.mem_append_left _ (List.mem_append_left _ (List.mem_of_getElem? (i := 4) rfl)))) (List.mem_cons_of_mem _ (List.mem_append_left _ (List.mem_append_left _ (List.mem_of_getElem? (i := 5) rfl)))) (List.mem_cons_of_mem _ (List.mem_append_left _ (List.mem_append_left _ (List.mem_of_getElem? (i := 6) rfl)))) (List.mem_cons_of_mem _ (List.mem_append_left _ (List.mem_append_left _ (List.mem_of_getElem? (i := 3) rfl)))) (by decide +kernel)) gg_x_isSlice_fail
theorem gg_x_isSlice_intOf : GoodIn w_x_isSlice w_x_intOf := goodIn_sub (fun w h => (List.mem_cons.mp h).elim (fun e => (List.mem_cons_of_mem _ (List.mem_append_left _ (List.mem_append_right _ (List.mem_append_right _ (List.mem_append_right _ (List.mem_append_left _ (List.mem_cons.mpr (Or.inl e))))))))) (fun h => (List.mem_append.mp h).elim (fun h => (List.mem_cons_of_mem _ (List.mem_append_left _ (List.mem_append_right _ (List.mem_append_right _ (List.mem_append_right _ (List.mem_append_left _ (List.mem_cons_of_mem _ h)))))))) (fun h => List.mem_cons_of_mem _ (List.mem_append_right _ h)))) w_x_intOf_good
theorem g_x_isSlice_intOf_515 : GoodIn w_x_isSlice (wsV RX12 515 RX12 yX12_intOf w_x_intOf) := goodIn_app (nb_g4 (List.mem_cons_of_mem _ (List.mem_append_left _ (List.mem_append_left _ (List.mem_of_getElem? (i := 8) rfl)))) (List.mem_cons_of_mem _ (List.mem_append_left _ (List.mem_append_left _ (List.mem_of_getElem? (i := 9) rfl)))) (List.mem_cons_of_mem _ (List.mem_append_left _ (List.mem_append_left _ (List.mem_of_getElem? (i := 10) rfl)))) (List.mem_cons_of_mem _ (List.mem_append_left _ (List.mem_append_left _ (List.mem_of_getElem? (i := 3) rfl)))) (by decide +kernel)) gg_x_isSlice_intOf
theorem gg_x_isSlice_kind : GoodIn w_x_isSlice w_x_kind := goodIn_sub (fun w h => (List.mem_cons.mp h).elim (fun e => (List.mem_cons_of_mem _ (List.mem_append_left _ (List.mem_append_right _ (List.mem_append_left _ (List.mem_cons.mpr (Or.inl e))))))) (fun h => (List.mem_append.mp h).elim (fun h => (List.mem_cons_of_mem _ (List.mem_append_left _ (List.mem_append_right _ (List.mem_append_left _ (List.mem_cons_of_mem _ h)))))) (fun h => List.mem_cons_of_mem _ (List.mem_append_right _ h)))) w_x_kind_good
theorem g_x_isSlice_kind_545 : GoodIn w_x_isSlice (wsV RX12 545 RX12 yX12_kind w_x_kind) := goodIn_app (nb_g4 (List.mem_cons_of_mem _ (List.mem_append_left _ (List.mem_append_left _ (List.mem_of_getElem? (i := 0) rfl)))) (List.mem_cons_of_mem _ (List.mem_append_left _ (List.mem_append_left _ (List.mem_of_getElem? (i := 1) rfl)))) (List.mem_cons_of_mem _ (List.mem_append_left _ (List.mem_append_left _ (List.mem_of_getElem? (i := 2) rfl)))) (List.mem_cons_of_mem _ (List.mem_append_left _ (List.mem_append_left _ (List.mem_of_getElem? (i := 3) rfl)))) (by decide +kernel)) gg_x_isSlice_kind
set_option maxHeartbeats 40000000 in
set_option maxRecDepth 100000 in
theorem c_x_isSlice (l : Launch) (dC : Nat → ClassId) (dI : Nat → Nat → Nat) (cy : Nat → ClassId) (a : Nat → Nat) (k0 : Nat) (L0 : Nat → Int32) (σ0 : MS) (r0 : Int32 × MS) (h0 : x_isSlice k0 0 L0 σ0 = some r0) (sz : Nat) : Met l yX12_isSlice w_x_isSlice ({ frames := 2, cells := 0, slots := 0, locals := 47 }) (va_Pc [.ref (a 0), .int (L0 1), .int (L0 2), .int (L0 3)] (nIn (dC, dI) cy sz (vM cy a σ0))) (va_Qi (fun (z : Int32) (_ : Unit) => z = r0.1) (fun _ t => nOut (dC, dI) cy (va_A (vM cy a σ0) sz) (vM cy a r0.2) t) (va_A (vM cy a σ0) sz)) 0 0 (va_A (vM cy a σ0) sz) := by
  refine Met.ofW (cc := cX12_isSlice) (maxL := 5) (ret := (some .boolean)) (by decide) rfl ?_
  intro p e s m args below meth c s₁ B hml hv
  obtain ⟨rfl, hsz, hP, hK, hD0, hG⟩ := hv
  have hx := B.exec
  have hb := B.bytes
  have hr := B.returns
  have hts := atoms_spec (ws := w_x_isSlice) B.pre
  have hown : s.vm.findClass RX12 = some m.cls := findClass_of_methodNamed B.named
  have hlocks := B.notSynchronized
  subst hsz
  have hD := hD0.self (sz := s.heap.size)
  generalize hAe : va_A (vM cy a σ0) s.heap.size = A at hD ⊢
  have hA : ∀ q : Nat, s.heap.size ≤ q → A q := fun q h => by rw [← hAe]; exact Or.inr h
  have hS : va_S A s.heap s.heap [] := va_S.rf
  have hl := lv_entry ([.ref (a 0), .int (L0 1), .int (L0 2), .int (L0 3)]) (n := 5) (Nat.le_of_ble_eq_true rfl)
  rw [lg_entry_eq]
  generalize (lg_sl ([.ref (a 0), .int (L0 1), .int (L0 2), .int (L0 3)]) ++ List.replicate (5 - (lg_sl ([.ref (a 0), .int (L0 1), .int (L0 2), .int (L0 3)])).length) Slot.unset).toArray = ls at hl ⊢
  have hl : lv_has ls 5 [(0, .ref (a 0)), (1, .int (L0 1)), (2, .int (L0 2)), (3, .int (L0 3))] := hl
  have blk : ∀ k : Nat, (bT p l e (headSpec w_x_isSlice ({ frames := 2, cells := 0, slots := 0, locals := 47 })).room s m #[.ref (a 0), .int (L0 1), .int (L0 2), .int (L0 3)] below meth c dC dI cy a A (qI dC dI cy a A below #[.ref (a 0), .int (L0 1), .int (L0 2), .int (L0 3)] s) 5 (x_isSlice k 0) (fun L => [(0, .ref (a 0)), (1, .int (L 1)), (2, .int (L 2)), (3, .int (L 3))]) 0 (fun L => [])) ∧ (bT p l e (headSpec w_x_isSlice ({ frames := 2, cells := 0, slots := 0, locals := 47 })).room s m #[.ref (a 0), .int (L0 1), .int (L0 2), .int (L0 3)] below meth c dC dI cy a A (qI dC dI cy a A below #[.ref (a 0), .int (L0 1), .int (L0 2), .int (L0 3)] s) 5 (x_isSlice k 1) (fun L => [(0, .ref (a 0)), (1, .int (L 1)), (2, .int (L 2)), (3, .int (L 3)), (4, .int (L 4))]) 19 (fun L => [])) ∧ (bT p l e (headSpec w_x_isSlice ({ frames := 2, cells := 0, slots := 0, locals := 47 })).room s m #[.ref (a 0), .int (L0 1), .int (L0 2), .int (L0 3)] below meth c dC dI cy a A (qI dC dI cy a A below #[.ref (a 0), .int (L0 1), .int (L0 2), .int (L0 3)] s) 5 (x_isSlice k 2) (fun L => [(0, .ref (a 0)), (1, .int (L 1)), (2, .int (L 2)), (3, .int (L 3)), (4, .int (L 4))]) 37 (fun L => [])) ∧ (bT p l e (headSpec w_x_isSlice ({ frames := 2, cells := 0, slots := 0, locals := 47 })).room s m #[.ref (a 0), .int (L0 1), .int (L0 2), .int (L0 3)] below meth c dC dI cy a A (qI dC dI cy a A below #[.ref (a 0), .int (L0 1), .int (L0 2), .int (L0 3)] s) 5 (x_isSlice k 3) (fun L => [(0, .ref (a 0)), (1, .int (L 1)), (2, .int (L 2)), (3, .int (L 3)), (4, .int (L 4))]) 44 (fun L => [])) ∧ (bT p l e (headSpec w_x_isSlice ({ frames := 2, cells := 0, slots := 0, locals := 47 })).room s m #[.ref (a 0), .int (L0 1), .int (L0 2), .int (L0 3)] below meth c dC dI cy a A (qI dC dI cy a A below #[.ref (a 0), .int (L0 1), .int (L0 2), .int (L0 3)] s) 5 (x_isSlice k 4) (fun L => [(0, .ref (a 0)), (1, .int (L 1)), (2, .int (L 2)), (3, .int (L 3)), (4, .int (L 4))]) 56 (fun L => [])) ∧ (bT p l e (headSpec w_x_isSlice ({ frames := 2, cells := 0, slots := 0, locals := 47 })).room s m #[.ref (a 0), .int (L0 1), .int (L0 2), .int (L0 3)] below meth c dC dI cy a A (qI dC dI cy a A below #[.ref (a 0), .int (L0 1), .int (L0 2), .int (L0 3)] s) 5 (x_isSlice k 5) (fun L => [(0, .ref (a 0)), (1, .int (L 1)), (2, .int (L 2)), (3, .int (L 3)), (4, .int (L 4))]) 68 (fun L => [])) := by
    intro k
    induction k with
    | zero => exact ⟨fun L σ r h => (by cases h), fun L σ r h => (by cases h), fun L σ r h => (by cases h), fun L σ r h => (by cases h), fun L σ r h => (by cases h), fun L σ r h => (by cases h)⟩
    | succ k ih =>
      refine ⟨?_, ?_, ?_, ?_, ?_, ?_⟩
      · intro L σ r h H locs ls hP hD hS hl
        rw [x_isSlice] at h
        refine lv_aload_n hx hb dX12_isSlice_0 rfl (lv_at hl 0 rfl) ?_
        refine lv_iload_n hx hb dX12_isSlice_1 rfl (lv_at hl 1 rfl) ?_
        obtain ⟨r1, hc1, h⟩ := ob_ex h
        refine nc_Vi (As := [.int (L 1)]) (rest := []) ⟨hx, hb, hml, hown, hts⟩ (c_x_kind l dC dI cy a k (upd (fun _ => 0) 1 ((L 1))) σ r1 hc1 H.size) (cwV 1 hts g_x_isSlice_kind_545 rfl rfl rfl hd_x_kind ⟨Nat.le_of_ble_eq_true rfl, Nat.le_of_ble_eq_true rfl⟩) hK hG hA hP hD hS rfl hl.1 rfl (Nat.le_of_ble_eq_true rfl) dX12_isSlice_2 ⟨Nat.le_refl _, Nat.le_refl _⟩ (fun H locs hP hD hS => ?_)
        refine lv_istore (lv' := [(4, .int r1.1), (0, .ref (a 0)), (1, .int (L 1)), (2, .int (L 2)), (3, .int (L 3))]) hx hb dX12_isSlice_5 hl (by decide) rfl (fun ls hl => ?_)
        refine lv_iload hx hb dX12_isSlice_7 (lv_at hl 0 rfl) ?_
        refine lv_iconst (v := 4) hx hb dX12_isSlice_9 (by decide) ?_
        refine lv_icmp_eq (tgt := 19) hx hb dX12_isSlice_10 (by decide) (fun c2 => ?_) (fun c2 => ?_)
        · rw [if_pos c2] at h
          exact ih.2.1 (upd L 4 r1.1) r1.2 r h H locs ls hP hD hS (lv_sub hl [1, 2, 3, 4, 0] rfl)
        · rw [if_neg c2] at h
          refine lv_iload hx hb dX12_isSlice_13 (lv_at hl 0 rfl) ?_
          refine lv_iconst (v := 5) hx hb dX12_isSlice_15 (by decide) ?_
          refine lv_icmp_ne (tgt := 37) hx hb dX12_isSlice_16 (by decide) (fun c3 => ?_) (fun c3 => ?_)
          · rw [if_neg c3] at h
            exact ih.2.2.1 (upd L 4 r1.1) r1.2 r h H locs ls hP hD hS (lv_sub hl [1, 2, 3, 4, 0] rfl)
          · rw [if_pos c3] at h
            exact ih.2.1 (upd L 4 r1.1) r1.2 r h H locs ls hP hD hS (lv_sub hl [1, 2, 3, 4, 0] rfl)
      · intro L σ r h H locs ls hP hD hS hl
        rw [x_isSlice] at h
        refine lv_aload_n hx hb dX12_isSlice_19 rfl (lv_at hl 0 rfl) ?_
        refine lv_iload_n hx hb dX12_isSlice_20 rfl (lv_at hl 2 rfl) ?_
        obtain ⟨r1, hc1, h⟩ := ob_ex h
        refine nc_Vi (As := [.int (L 2)]) (rest := []) ⟨hx, hb, hml, hown, hts⟩ (c_x_kind l dC dI cy a k (upd (fun _ => 0) 1 ((L 2))) σ r1 hc1 H.size) (cwV 1 hts g_x_isSlice_kind_545 rfl rfl rfl hd_x_kind ⟨Nat.le_of_ble_eq_true rfl, Nat.le_of_ble_eq_true rfl⟩) hK hG hA hP hD hS rfl hl.1 rfl (Nat.le_of_ble_eq_true rfl) dX12_isSlice_21 ⟨Nat.le_refl _, Nat.le_refl _⟩ (fun H locs hP hD hS => ?_)
        refine lv_iconst (v := 2) hx hb dX12_isSlice_24 (by decide) ?_
        refine lv_icmp_ne (tgt := 37) hx hb dX12_isSlice_25 (by decide) (fun c2 => ?_) (fun c2 => ?_)
        · rw [if_neg c2] at h
          exact ih.2.2.1 L r1.2 r h H locs ls hP hD hS (lv_sub hl [0, 1, 2, 3, 4] rfl)
        · rw [if_pos c2] at h
          refine lv_aload_n hx hb dX12_isSlice_28 rfl (lv_at hl 0 rfl) ?_
          refine lv_iload_n hx hb dX12_isSlice_29 rfl (lv_at hl 3 rfl) ?_
          obtain ⟨r3, hc3, h⟩ := ob_ex h
          refine nc_Vi (As := [.int (L 3)]) (rest := []) ⟨hx, hb, hml, hown, hts⟩ (c_x_kind l dC dI cy a k (upd (fun _ => 0) 1 ((L 3))) r1.2 r3 hc3 H.size) (cwV 1 hts g_x_isSlice_kind_545 rfl rfl rfl hd_x_kind ⟨Nat.le_of_ble_eq_true rfl, Nat.le_of_ble_eq_true rfl⟩) hK hG hA hP hD hS rfl hl.1 rfl (Nat.le_of_ble_eq_true rfl) dX12_isSlice_30 ⟨Nat.le_refl _, Nat.le_refl _⟩ (fun H locs hP hD hS => ?_)
          refine lv_iconst (v := 2) hx hb dX12_isSlice_33 (by decide) ?_
          refine lv_icmp_eq (tgt := 44) hx hb dX12_isSlice_34 (by decide) (fun c4 => ?_) (fun c4 => ?_)
          · rw [if_pos c4] at h
            exact ih.2.2.2.1 L r3.2 r h H locs ls hP hD hS (lv_sub hl [0, 1, 2, 3, 4] rfl)
          · rw [if_neg c4] at h
            exact ih.2.2.1 L r3.2 r h H locs ls hP hD hS (lv_sub hl [0, 1, 2, 3, 4] rfl)
      · intro L σ r h H locs ls hP hD hS hl
        rw [x_isSlice] at h
        refine lv_aload_n hx hb dX12_isSlice_37 rfl (lv_at hl 0 rfl) ?_
        refine lv_iconst (v := 1) hx hb dX12_isSlice_38 (by decide) ?_
        obtain ⟨r1, hc1, h⟩ := ob_ex h
        refine nc_Vv (As := [.int 1]) (rest := []) ⟨hx, hb, hml, hown, hts⟩ (c_x_fail l dC dI cy a k (upd (fun _ => 0) 1 1) σ r1 hc1 H.size) (cwV 1 hts g_x_isSlice_fail_369 rfl rfl rfl hd_x_fail ⟨Nat.le_of_ble_eq_true rfl, Nat.le_of_ble_eq_true rfl⟩) hK hG hA hP hD hS rfl hl.1 rfl (Nat.le_of_ble_eq_true rfl) dX12_isSlice_39 ⟨Nat.le_refl _, Nat.le_refl _⟩ (fun H locs hP hD hS => ?_)
        refine lv_iconst (v := 0) hx hb dX12_isSlice_42 (by decide) ?_
        cases h
        exact W.zret (v := 0) hx hb hr rfl (fun t ht hW => ⟨⟨0, (), rfl, rfl, by rw [ht]; exact hP, va_K.moved hW.alike hK, hD⟩, hS.F ht⟩) hS.2.2 dX12_isSlice_43
      · intro L σ r h H locs ls hP hD hS hl
        rw [x_isSlice] at h
        refine lv_aload_n hx hb dX12_isSlice_44 rfl (lv_at hl 0 rfl) ?_
        refine lv_aload_n hx hb dX12_isSlice_45 rfl (lv_at hl 0 rfl) ?_
        refine lv_iload_n hx hb dX12_isSlice_46 rfl (lv_at hl 2 rfl) ?_
        refine lv_ldcw (v := 100000) hx hb hown (hts _ (List.mem_cons_of_mem _ (List.mem_append_left _ (List.mem_append_left _ (List.mem_of_getElem? (i := 7) rfl))))) dX12_isSlice_47 ?_
        obtain ⟨r1, hc1, h⟩ := ob_ex h
        refine nc_Vi (As := [.int (L 2), .int 100000]) (rest := [.ref (a 0)]) ⟨hx, hb, hml, hown, hts⟩ (c_x_intOf l dC dI cy a k (upd (upd (fun _ => 0) 1 ((L 2))) 2 100000) (fun _ => 0) σ r1 hc1 H.size) (cwV 2 hts g_x_isSlice_intOf_515 rfl rfl rfl hd_x_intOf ⟨Nat.le_of_ble_eq_true rfl, Nat.le_of_ble_eq_true rfl⟩) hK hG hA hP hD hS rfl hl.1 rfl (Nat.le_of_ble_eq_true rfl) dX12_isSlice_50 ⟨Nat.le_refl _, Nat.le_refl _⟩ (fun H locs hP hD hS => ?_)
        refine np_100 hx hb hts in_x_isSlice hown hK hP hD hS (hts _ (List.mem_cons_of_mem _ (List.mem_append_left _ (List.mem_append_left _ (List.mem_of_getElem? (i := 11) rfl))))) dX12_isSlice_53 (fun H locs hP hD hS => ?_)
        exact ih.2.2.2.2.1 L (upd r1.2.1 100 r1.1, r1.2.2.1, r1.2.2.2) r h H locs ls hP hD hS (lv_sub hl [0, 1, 2, 3, 4] rfl)
      · intro L σ r h H locs ls hP hD hS hl
        rw [x_isSlice] at h
        refine lv_aload_n hx hb dX12_isSlice_56 rfl (lv_at hl 0 rfl) ?_
        refine lv_aload_n hx hb dX12_isSlice_57 rfl (lv_at hl 0 rfl) ?_
        refine lv_iload_n hx hb dX12_isSlice_58 rfl (lv_at hl 3 rfl) ?_
        refine lv_ldcw (v := 100000) hx hb hown (hts _ (List.mem_cons_of_mem _ (List.mem_append_left _ (List.mem_append_left _ (List.mem_of_getElem? (i := 7) rfl))))) dX12_isSlice_59 ?_
        obtain ⟨r1, hc1, h⟩ := ob_ex h
        refine nc_Vi (As := [.int (L 3), .int 100000]) (rest := [.ref (a 0)]) ⟨hx, hb, hml, hown, hts⟩ (c_x_intOf l dC dI cy a k (upd (upd (fun _ => 0) 1 ((L 3))) 2 100000) (fun _ => 0) σ r1 hc1 H.size) (cwV 2 hts g_x_isSlice_intOf_515 rfl rfl rfl hd_x_intOf ⟨Nat.le_of_ble_eq_true rfl, Nat.le_of_ble_eq_true rfl⟩) hK hG hA hP hD hS rfl hl.1 rfl (Nat.le_of_ble_eq_true rfl) dX12_isSlice_62 ⟨Nat.le_refl _, Nat.le_refl _⟩ (fun H locs hP hD hS => ?_)
        refine np_101 hx hb hts in_x_isSlice hown hK hP hD hS (hts _ (List.mem_cons_of_mem _ (List.mem_append_left _ (List.mem_append_left _ (List.mem_of_getElem? (i := 12) rfl))))) dX12_isSlice_65 (fun H locs hP hD hS => ?_)
        exact ih.2.2.2.2.2 L (upd r1.2.1 101 r1.1, r1.2.2.1, r1.2.2.2) r h H locs ls hP hD hS (lv_sub hl [0, 1, 2, 3, 4] rfl)
      · intro L σ r h H locs ls hP hD hS hl
        rw [x_isSlice] at h
        refine lv_iconst (v := 1) hx hb dX12_isSlice_68 (by decide) ?_
        cases h
        exact W.zret (v := 1) hx hb hr rfl (fun t ht hW => ⟨⟨1, (), rfl, rfl, by rw [ht]; exact hP, va_K.moved hW.alike hK, hD⟩, hS.F ht⟩) hS.2.2 dX12_isSlice_69
  exact (blk k0).1 L0 σ0 r0 h0 s.heap [] ls hP hD hS hl
/-! isSliceIn -/
def x_isSliceIn : Nat → Nat → (Nat → Int32) → MS → Option (Int32 × MS)
  | 0, _, _, _ => none
  | k + 1, 0, L, σ => if ((σ.1 100)) < 1 then (x_isSliceIn k 1 L σ) else (if ((σ.1 101)) < ((((σ.1 100)) - 1)) then (x_isSliceIn k 1 L σ) else (if ¬ (((((L 1)) + 1)) < 0 ∨ 1740000 ≤ ((((L 1)) + 1)).toNatClampNeg) then (if ((σ.1 101)) ≤ ((σ.2.2 28 ((((L 1)) + 1)).toNatClampNeg)) then (x_isSliceIn k 2 L σ) else (x_isSliceIn k 1 L σ)) else none))
  | k + 1, 1, L, σ => ob (x_fail k 0 (upd (fun _ => 0) 1 4) σ) (fun r1 => some (0, r1.2))
  | k + 1, 2, L, σ => some (1, σ)
  | _ + 1, _ + 3, _, _ => none
def o_x_isSliceIn : List Cond := [.fieldLink RX12 805 "SetHouseModel" "sliceFrom" "I", .fieldLink RX12 808 "SetHouseModel" "sliceTo" "I", .fieldLink RX12 372 "SetHouseModel" "heap" "[I", .methodLink RX12 369 yX12_fail, .instanceMethod yX12_fail, .selects RX12 yX12_fail yX12_fail, .initialized RX12]
theorem o_x_isSliceIn_good : o_x_isSliceIn.all goodWord = true := by decide +kernel
def p_x_isSliceIn : List Cond := o_x_isSliceIn ++ ((.code yX12_fail cX12_fail 2 none :: p_x_fail) ++ [])
theorem p_x_isSliceIn_good : p_x_isSliceIn.all goodWord = true := nb_all2 o_x_isSliceIn_good (nb_all2 (nb_allc (by decide +kernel) p_x_fail_good) rfl)
def w_x_isSliceIn : List Cond := .code yX12_isSliceIn cX12_isSliceIn 2 (some .boolean) :: (p_x_isSliceIn ++ fM)
theorem w_x_isSliceIn_good : w_x_isSliceIn.all goodWord = true := nb_allc (by decide +kernel) (nb_all2 p_x_isSliceIn_good fM_good)
theorem in_x_isSliceIn : ∀ w ∈ wsX120, w ∈ w_x_isSliceIn := fun _ h => List.mem_cons_of_mem _ (List.mem_append_right _ h)
theorem hd_x_isSliceIn : yX12_isSliceIn.cls = RX12 ∧ yX12_isSliceIn.cls ≠ "java/lang/invoke/MethodHandle" ∧ yX12_isSliceIn.cls ≠ "java/lang/invoke/VarHandle" ∧ (parseMethodDescriptor yX12_isSliceIn.desc).map (fun d => d.parameters.length) = some 1 := by decide +kernel
theorem gg_x_isSliceIn_fail : GoodIn w_x_isSliceIn w_x_fail := goodIn_sub (fun w h => (List.mem_cons.mp h).elim (fun e => (List.mem_cons_of_mem _ (List.mem_append_left _ (List.mem_append_right _ (List.mem_append_left _ (List.mem_cons.mpr (Or.inl e))))))) (fun h => (List.mem_append.mp h).elim (fun h => (List.mem_cons_of_mem _ (List.mem_append_left _ (List.mem_append_right _ (List.mem_append_left _ (List.mem_cons_of_mem _ h)))))) (fun h => List.mem_cons_of_mem _ (List.mem_append_right _ h)))) w_x_fail_good
theorem g_x_isSliceIn_fail_369 : GoodIn w_x_isSliceIn (wsV RX12 369 RX12 yX12_fail w_x_fail) := goodIn_app (nb_g4 (List.mem_cons_of_mem _ (List.mem_append_left _ (List.mem_append_left _ (List.mem_of_getElem? (i := 3) rfl)))) (List.mem_cons_of_mem _ (List.mem_append_left _ (List.mem_append_left _ (List.mem_of_getElem? (i := 4) rfl)))) (List.mem_cons_of_mem _ (List.mem_append_left _ (List.mem_append_left _ (List.mem_of_getElem? (i := 5) rfl)))) (List.mem_cons_of_mem _ (List.mem_append_left _ (List.mem_append_left _ (List.mem_of_getElem? (i := 6) rfl)))) (by decide +kernel)) gg_x_isSliceIn_fail
set_option maxHeartbeats 40000000 in
set_option maxRecDepth 100000 in
theorem c_x_isSliceIn (l : Launch) (dC : Nat → ClassId) (dI : Nat → Nat → Nat) (cy : Nat → ClassId) (a : Nat → Nat) (k0 : Nat) (L0 : Nat → Int32) (σ0 : MS) (r0 : Int32 × MS) (h0 : x_isSliceIn k0 0 L0 σ0 = some r0) (sz : Nat) : Met l yX12_isSliceIn w_x_isSliceIn ({ frames := 1, cells := 0, slots := 0, locals := 21 }) (va_Pc [.ref (a 0), .int (L0 1)] (nIn (dC, dI) cy sz (vM cy a σ0))) (va_Qi (fun (z : Int32) (_ : Unit) => z = r0.1) (fun _ t => nOut (dC, dI) cy (va_A (vM cy a σ0) sz) (vM cy a r0.2) t) (va_A (vM cy a σ0) sz)) 0 0 (va_A (vM cy a σ0) sz) := by
  refine Met.ofW (cc := cX12_isSliceIn) (maxL := 2) (ret := (some .boolean)) (by decide) rfl ?_
  intro p e s m args below meth c s₁ B hml hv
  obtain ⟨rfl, hsz, hP, hK, hD0, hG⟩ := hv
  have hx := B.exec
  have hb := B.bytes
  have hr := B.returns
  have hts := atoms_spec (ws := w_x_isSliceIn) B.pre
  have hown : s.vm.findClass RX12 = some m.cls := findClass_of_methodNamed B.named
  have hlocks := B.notSynchronized
  subst hsz
  have hD := hD0.self (sz := s.heap.size)
  generalize hAe : va_A (vM cy a σ0) s.heap.size = A at hD ⊢
  have hA : ∀ q : Nat, s.heap.size ≤ q → A q := fun q h => by rw [← hAe]; exact Or.inr h
  have hS : va_S A s.heap s.heap [] := va_S.rf
  have hl := lv_entry ([.ref (a 0), .int (L0 1)]) (n := 2) (Nat.le_of_ble_eq_true rfl)
  rw [lg_entry_eq]
  generalize (lg_sl ([.ref (a 0), .int (L0 1)]) ++ List.replicate (2 - (lg_sl ([.ref (a 0), .int (L0 1)])).length) Slot.unset).toArray = ls at hl ⊢
  have hl : lv_has ls 2 [(0, .ref (a 0)), (1, .int (L0 1))] := hl
  have blk : ∀ k : Nat, (bT p l e (headSpec w_x_isSliceIn ({ frames := 1, cells := 0, slots := 0, locals := 21 })).room s m #[.ref (a 0), .int (L0 1)] below meth c dC dI cy a A (qI dC dI cy a A below #[.ref (a 0), .int (L0 1)] s) 2 (x_isSliceIn k 0) (fun L => [(0, .ref (a 0)), (1, .int (L 1))]) 0 (fun L => [])) ∧ (bT p l e (headSpec w_x_isSliceIn ({ frames := 1, cells := 0, slots := 0, locals := 21 })).room s m #[.ref (a 0), .int (L0 1)] below meth c dC dI cy a A (qI dC dI cy a A below #[.ref (a 0), .int (L0 1)] s) 2 (x_isSliceIn k 1) (fun L => [(0, .ref (a 0)), (1, .int (L 1))]) 36 (fun L => [])) ∧ (bT p l e (headSpec w_x_isSliceIn ({ frames := 1, cells := 0, slots := 0, locals := 21 })).room s m #[.ref (a 0), .int (L0 1)] below meth c dC dI cy a A (qI dC dI cy a A below #[.ref (a 0), .int (L0 1)] s) 2 (x_isSliceIn k 2) (fun L => [(0, .ref (a 0)), (1, .int (L 1))]) 43 (fun L => [])) := by
    intro k
    induction k with
    | zero => exact ⟨fun L σ r h => (by cases h), fun L σ r h => (by cases h), fun L σ r h => (by cases h)⟩
    | succ k ih =>
      refine ⟨?_, ?_, ?_⟩
      · intro L σ r h H locs ls hP hD hS hl
        rw [x_isSliceIn] at h
        refine lv_aload_n hx hb dX12_isSliceIn_0 rfl (lv_at hl 0 rfl) ?_
        refine ng_100 hx hb hts in_x_isSliceIn hown hK hP (hts _ (List.mem_cons_of_mem _ (List.mem_append_left _ (List.mem_append_left _ (List.mem_of_getElem? (i := 0) rfl))))) dX12_isSliceIn_1 ?_
        refine lv_iconst (v := 1) hx hb dX12_isSliceIn_4 (by decide) ?_
        refine lv_icmp_lt (tgt := 36) hx hb dX12_isSliceIn_5 (by decide) (fun c1 => ?_) (fun c1 => ?_)
        · rw [if_pos c1] at h
          exact ih.2.1 L σ r h H locs ls hP hD hS (lv_sub hl [0, 1] rfl)
        · rw [if_neg c1] at h
          refine lv_aload_n hx hb dX12_isSliceIn_8 rfl (lv_at hl 0 rfl) ?_
          refine ng_101 hx hb hts in_x_isSliceIn hown hK hP (hts _ (List.mem_cons_of_mem _ (List.mem_append_left _ (List.mem_append_left _ (List.mem_of_getElem? (i := 1) rfl))))) dX12_isSliceIn_9 ?_
          refine lv_aload_n hx hb dX12_isSliceIn_12 rfl (lv_at hl 0 rfl) ?_
          refine ng_100 hx hb hts in_x_isSliceIn hown hK hP (hts _ (List.mem_cons_of_mem _ (List.mem_append_left _ (List.mem_append_left _ (List.mem_of_getElem? (i := 0) rfl))))) dX12_isSliceIn_13 ?_
          refine lv_iconst (v := 1) hx hb dX12_isSliceIn_16 (by decide) ?_
          refine lv_isub hx hb dX12_isSliceIn_17 ?_
          refine lv_icmp_lt (tgt := 36) hx hb dX12_isSliceIn_18 (by decide) (fun c2 => ?_) (fun c2 => ?_)
          · rw [if_pos c2] at h
            exact ih.2.1 L σ r h H locs ls hP hD hS (lv_sub hl [0, 1] rfl)
          · rw [if_neg c2] at h
            refine lv_aload_n hx hb dX12_isSliceIn_21 rfl (lv_at hl 0 rfl) ?_
            refine ng_101 hx hb hts in_x_isSliceIn hown hK hP (hts _ (List.mem_cons_of_mem _ (List.mem_append_left _ (List.mem_append_left _ (List.mem_of_getElem? (i := 1) rfl))))) dX12_isSliceIn_22 ?_
            refine lv_aload_n hx hb dX12_isSliceIn_25 rfl (lv_at hl 0 rfl) ?_
            refine ng_53 hx hb hts in_x_isSliceIn hown hK hP (hts _ (List.mem_cons_of_mem _ (List.mem_append_left _ (List.mem_append_left _ (List.mem_of_getElem? (i := 2) rfl))))) dX12_isSliceIn_26 ?_
            refine lv_iload_n hx hb dX12_isSliceIn_29 rfl (lv_at hl 1 rfl) ?_
            refine lv_iconst (v := 1) hx hb dX12_isSliceIn_30 (by decide) ?_
            refine lv_iadd hx hb dX12_isSliceIn_31 ?_
            obtain ⟨q3, h⟩ := nb_ite1 h
            refine nl_28 hx hb hK hP q3 dX12_isSliceIn_32 ?_
            refine lv_icmp_le (tgt := 43) hx hb dX12_isSliceIn_33 (by decide) (fun c4 => ?_) (fun c4 => ?_)
            · rw [if_pos c4] at h
              exact ih.2.2 L σ r h H locs ls hP hD hS (lv_sub hl [0, 1] rfl)
            · rw [if_neg c4] at h
              exact ih.2.1 L σ r h H locs ls hP hD hS (lv_sub hl [0, 1] rfl)
      · intro L σ r h H locs ls hP hD hS hl
        rw [x_isSliceIn] at h
        refine lv_aload_n hx hb dX12_isSliceIn_36 rfl (lv_at hl 0 rfl) ?_
        refine lv_iconst (v := 4) hx hb dX12_isSliceIn_37 (by decide) ?_
        obtain ⟨r1, hc1, h⟩ := ob_ex h
        refine nc_Vv (As := [.int 4]) (rest := []) ⟨hx, hb, hml, hown, hts⟩ (c_x_fail l dC dI cy a k (upd (fun _ => 0) 1 4) σ r1 hc1 H.size) (cwV 1 hts g_x_isSliceIn_fail_369 rfl rfl rfl hd_x_fail ⟨Nat.le_of_ble_eq_true rfl, Nat.le_of_ble_eq_true rfl⟩) hK hG hA hP hD hS rfl hl.1 rfl (Nat.le_of_ble_eq_true rfl) dX12_isSliceIn_38 ⟨Nat.le_refl _, Nat.le_refl _⟩ (fun H locs hP hD hS => ?_)
        refine lv_iconst (v := 0) hx hb dX12_isSliceIn_41 (by decide) ?_
        cases h
        exact W.zret (v := 0) hx hb hr rfl (fun t ht hW => ⟨⟨0, (), rfl, rfl, by rw [ht]; exact hP, va_K.moved hW.alike hK, hD⟩, hS.F ht⟩) hS.2.2 dX12_isSliceIn_42
      · intro L σ r h H locs ls hP hD hS hl
        rw [x_isSliceIn] at h
        refine lv_iconst (v := 1) hx hb dX12_isSliceIn_43 (by decide) ?_
        cases h
        exact W.zret (v := 1) hx hb hr rfl (fun t ht hW => ⟨⟨1, (), rfl, rfl, by rw [ht]; exact hP, va_K.moved hW.alike hK, hD⟩, hS.F ht⟩) hS.2.2 dX12_isSliceIn_44
  exact (blk k0).1 L0 σ0 r0 h0 s.heap [] ls hP hD hS hl
/-! stringOf__28 -/
def x_stringOf__28 : Nat → Nat → (Nat → Int32) → MS → Option (Int32 × MS)
  | 0, _, _, _ => none
  | k + 1, 0, L, σ => if (4 : Int32) = 0 then none else (if ((1 + ((((((L 3)) + 3)) / 4)))) ≤ 1000 then (x_stringOf__28 k 1 L σ) else (ob (x_fail k 0 (upd (fun _ => 0) 1 5) σ) (fun r3 => some (0, r3.2))))
  | k + 1, 1, L, σ => ob (x_make k 0 (upd (upd (fun _ => 0) 1 4) 2 ((L 3))) σ) (fun r1 => x_stringOf__28 k 2 (upd (upd L 4 r1.1) 5 0) r1.2)
  | k + 1, 2, L, σ => if ((L 3)) ≤ ((L 5)) then (x_stringOf__28 k 4 L σ) else (if ((σ.1 56)) = 0 then (if ¬ (((((L 2)) + ((L 5)))) < 0 ∨ 1740000 ≤ ((((L 2)) + ((L 5)))).toNatClampNeg) then (if ¬ (((((((L 4)) + 4)) + ((L 5)))) < 0 ∨ 1740000 ≤ ((((((L 4)) + 4)) + ((L 5)))).toNatClampNeg) then (x_stringOf__28 k 3 L (σ.1, σ.2.1, updG σ.2.2 28 (upd (σ.2.2 28) ((((((L 4)) + 4)) + ((L 5)))).toNatClampNeg ((σ.2.2 28 ((((L 2)) + ((L 5)))).toNatClampNeg))))) else none) else none) else (x_stringOf__28 k 4 L σ))
  | k + 1, 3, L, σ => x_stringOf__28 k 2 (upd L 5 (((L 5)) + 1)) σ
  | k + 1, 4, L, σ => if (4 : Int32) = 0 then none else (if ¬ (((((L 4)) + 2)) < 0 ∨ 1740000 ≤ ((((L 4)) + 2)).toNatClampNeg) then (x_stringOf__28 k 5 L (σ.1, σ.2.1, updG σ.2.2 28 (upd (σ.2.2 28) ((((L 4)) + 2)).toNatClampNeg ((1 + ((((((L 3)) + 3)) / 4))))))) else none)
  | k + 1, 5, L, σ => some ((L 4), σ)
  | _ + 1, _ + 6, _, _ => none
def o_x_stringOf__28 : List Cond := [.methodLink RX12 369 yX12_fail, .instanceMethod yX12_fail, .selects RX12 yX12_fail yX12_fail, .initialized RX12, .methodLink RX12 429 yX12_make, .instanceMethod yX12_make, .selects RX12 yX12_make yX12_make, .fieldLink RX12 362 "SetHouseModel" "err" "I", .fieldLink RX12 372 "SetHouseModel" "heap" "[I"]
theorem o_x_stringOf__28_good : o_x_stringOf__28.all goodWord = true := by decide +kernel
def p_x_stringOf__28 : List Cond := o_x_stringOf__28 ++ ((.code yX12_fail cX12_fail 2 none :: p_x_fail) ++ ((.code yX12_make cX12_make 4 (some .int) :: p_x_make) ++ []))
theorem p_x_stringOf__28_good : p_x_stringOf__28.all goodWord = true := nb_all2 o_x_stringOf__28_good (nb_all2 (nb_allc (by decide +kernel) p_x_fail_good) (nb_all2 (nb_allc (by decide +kernel) p_x_make_good) rfl))
def w_x_stringOf__28 : List Cond := .code yX12_stringOf cX12_stringOf 6 (some .int) :: (p_x_stringOf__28 ++ fM)
theorem w_x_stringOf__28_good : w_x_stringOf__28.all goodWord = true := nb_allc (by decide +kernel) (nb_all2 p_x_stringOf__28_good fM_good)
theorem in_x_stringOf__28 : ∀ w ∈ wsX120, w ∈ w_x_stringOf__28 := fun _ h => List.mem_cons_of_mem _ (List.mem_append_right _ h)
theorem hd_x_stringOf__28 : yX12_stringOf.cls = RX12 ∧ yX12_stringOf.cls ≠ "java/lang/invoke/MethodHandle" ∧ yX12_stringOf.cls ≠ "java/lang/invoke/VarHandle" ∧ (parseMethodDescriptor yX12_stringOf.desc).map (fun d => d.parameters.length) = some 3 := by decide +kernel
theorem gg_x_stringOf__28_fail : GoodIn w_x_stringOf__28 w_x_fail := goodIn_sub (fun w h => (List.mem_cons.mp h).elim (fun e => (List.mem_cons_of_mem _ (List.mem_append_left _ (List.mem_append_right _ (List.mem_append_left _ (List.mem_cons.mpr (Or.inl e))))))) (fun h => (List.mem_append.mp h).elim (fun h => (List.mem_cons_of_mem _ (List.mem_append_left _ (List.mem_append_right _ (List.mem_append_left _ (List.mem_cons_of_mem _ h)))))) (fun h => List.mem_cons_of_mem _ (List.mem_append_right _ h)))) w_x_fail_good
theorem g_x_stringOf__28_fail_369 : GoodIn w_x_stringOf__28 (wsV RX12 369 RX12 yX12_fail w_x_fail) := goodIn_app (nb_g4 (List.mem_cons_of_mem _ (List.mem_append_left _ (List.mem_append_left _ (List.mem_of_getElem? (i := 0) rfl)))) (List.mem_cons_of_mem _ (List.mem_append_left _ (List.mem_append_left _ (List.mem_of_getElem? (i := 1) rfl)))) (List.mem_cons_of_mem _ (List.mem_append_left _ (List.mem_append_left _ (List.mem_of_getElem? (i := 2) rfl)))) (List.mem_cons_of_mem _ (List.mem_append_left _ (List.mem_append_left _ (List.mem_of_getElem? (i := 3) rfl)))) (by decide +kernel)) gg_x_stringOf__28_fail
theorem gg_x_stringOf__28_make : GoodIn w_x_stringOf__28 w_x_make := goodIn_sub (fun w h => (List.mem_cons.mp h).elim (fun e => (List.mem_cons_of_mem _ (List.mem_append_left _ (List.mem_append_right _ (List.mem_append_right _ (List.mem_append_left _ (List.mem_cons.mpr (Or.inl e)))))))) (fun h => (List.mem_append.mp h).elim (fun h => (List.mem_cons_of_mem _ (List.mem_append_left _ (List.mem_append_right _ (List.mem_append_right _ (List.mem_append_left _ (List.mem_cons_of_mem _ h))))))) (fun h => List.mem_cons_of_mem _ (List.mem_append_right _ h)))) w_x_make_good
theorem g_x_stringOf__28_make_429 : GoodIn w_x_stringOf__28 (wsV RX12 429 RX12 yX12_make w_x_make) := goodIn_app (nb_g4 (List.mem_cons_of_mem _ (List.mem_append_left _ (List.mem_append_left _ (List.mem_of_getElem? (i := 4) rfl)))) (List.mem_cons_of_mem _ (List.mem_append_left _ (List.mem_append_left _ (List.mem_of_getElem? (i := 5) rfl)))) (List.mem_cons_of_mem _ (List.mem_append_left _ (List.mem_append_left _ (List.mem_of_getElem? (i := 6) rfl)))) (List.mem_cons_of_mem _ (List.mem_append_left _ (List.mem_append_left _ (List.mem_of_getElem? (i := 3) rfl)))) (by decide +kernel)) gg_x_stringOf__28_make
set_option maxHeartbeats 40000000 in
set_option maxRecDepth 100000 in
theorem c_x_stringOf__28 (l : Launch) (dC : Nat → ClassId) (dI : Nat → Nat → Nat) (cy : Nat → ClassId) (a : Nat → Nat) (k0 : Nat) (L0 : Nat → Int32) (σ0 : MS) (r0 : Int32 × MS) (h0 : x_stringOf__28 k0 0 L0 σ0 = some r0) (sz : Nat) : Met l yX12_stringOf w_x_stringOf__28 ({ frames := 2, cells := 0, slots := 0, locals := 44 }) (va_Pc [.ref (a 0), .ref (a 28), .int (L0 2), .int (L0 3)] (nIn (dC, dI) cy sz (vM cy a σ0))) (va_Qi (fun (z : Int32) (_ : Unit) => z = r0.1) (fun _ t => nOut (dC, dI) cy (va_A (vM cy a σ0) sz) (vM cy a r0.2) t) (va_A (vM cy a σ0) sz)) 0 0 (va_A (vM cy a σ0) sz) := by
  refine Met.ofW (cc := cX12_stringOf) (maxL := 6) (ret := (some .int)) (by decide) rfl ?_
  intro p e s m args below meth c s₁ B hml hv
  obtain ⟨rfl, hsz, hP, hK, hD0, hG⟩ := hv
  have hx := B.exec
  have hb := B.bytes
  have hr := B.returns
  have hts := atoms_spec (ws := w_x_stringOf__28) B.pre
  have hown : s.vm.findClass RX12 = some m.cls := findClass_of_methodNamed B.named
  have hlocks := B.notSynchronized
  subst hsz
  have hD := hD0.self (sz := s.heap.size)
  generalize hAe : va_A (vM cy a σ0) s.heap.size = A at hD ⊢
  have hA : ∀ q : Nat, s.heap.size ≤ q → A q := fun q h => by rw [← hAe]; exact Or.inr h
  have hS : va_S A s.heap s.heap [] := va_S.rf
  have hl := lv_entry ([.ref (a 0), .ref (a 28), .int (L0 2), .int (L0 3)]) (n := 6) (Nat.le_of_ble_eq_true rfl)
  rw [lg_entry_eq]
  generalize (lg_sl ([.ref (a 0), .ref (a 28), .int (L0 2), .int (L0 3)]) ++ List.replicate (6 - (lg_sl ([.ref (a 0), .ref (a 28), .int (L0 2), .int (L0 3)])).length) Slot.unset).toArray = ls at hl ⊢
  have hl : lv_has ls 6 [(0, .ref (a 0)), (1, .ref (a 28)), (2, .int (L0 2)), (3, .int (L0 3))] := hl
  have blk : ∀ k : Nat, (bT p l e (headSpec w_x_stringOf__28 ({ frames := 2, cells := 0, slots := 0, locals := 44 })).room s m #[.ref (a 0), .ref (a 28), .int (L0 2), .int (L0 3)] below meth c dC dI cy a A (qI dC dI cy a A below #[.ref (a 0), .ref (a 28), .int (L0 2), .int (L0 3)] s) 6 (x_stringOf__28 k 0) (fun L => [(0, .ref (a 0)), (1, .ref (a 28)), (2, .int (L 2)), (3, .int (L 3))]) 0 (fun L => [])) ∧ (bT p l e (headSpec w_x_stringOf__28 ({ frames := 2, cells := 0, slots := 0, locals := 44 })).room s m #[.ref (a 0), .ref (a 28), .int (L0 2), .int (L0 3)] below meth c dC dI cy a A (qI dC dI cy a A below #[.ref (a 0), .ref (a 28), .int (L0 2), .int (L0 3)] s) 6 (x_stringOf__28 k 1) (fun L => [(0, .ref (a 0)), (1, .ref (a 28)), (2, .int (L 2)), (3, .int (L 3))]) 20 (fun L => [])) ∧ (bT p l e (headSpec w_x_stringOf__28 ({ frames := 2, cells := 0, slots := 0, locals := 44 })).room s m #[.ref (a 0), .ref (a 28), .int (L0 2), .int (L0 3)] below meth c dC dI cy a A (qI dC dI cy a A below #[.ref (a 0), .ref (a 28), .int (L0 2), .int (L0 3)] s) 6 (x_stringOf__28 k 2) (fun L => [(0, .ref (a 0)), (1, .ref (a 28)), (2, .int (L 2)), (3, .int (L 3)), (4, .int (L 4)), (5, .int (L 5))]) 31 (fun L => [])) ∧ (bT p l e (headSpec w_x_stringOf__28 ({ frames := 2, cells := 0, slots := 0, locals := 44 })).room s m #[.ref (a 0), .ref (a 28), .int (L0 2), .int (L0 3)] below meth c dC dI cy a A (qI dC dI cy a A below #[.ref (a 0), .ref (a 28), .int (L0 2), .int (L0 3)] s) 6 (x_stringOf__28 k 3) (fun L => [(0, .ref (a 0)), (1, .ref (a 28)), (2, .int (L 2)), (3, .int (L 3)), (4, .int (L 4)), (5, .int (L 5))]) 62 (fun L => [])) ∧ (bT p l e (headSpec w_x_stringOf__28 ({ frames := 2, cells := 0, slots := 0, locals := 44 })).room s m #[.ref (a 0), .ref (a 28), .int (L0 2), .int (L0 3)] below meth c dC dI cy a A (qI dC dI cy a A below #[.ref (a 0), .ref (a 28), .int (L0 2), .int (L0 3)] s) 6 (x_stringOf__28 k 4) (fun L => [(0, .ref (a 0)), (1, .ref (a 28)), (2, .int (L 2)), (3, .int (L 3)), (4, .int (L 4)), (5, .int (L 5))]) 68 (fun L => [])) ∧ (bT p l e (headSpec w_x_stringOf__28 ({ frames := 2, cells := 0, slots := 0, locals := 44 })).room s m #[.ref (a 0), .ref (a 28), .int (L0 2), .int (L0 3)] below meth c dC dI cy a A (qI dC dI cy a A below #[.ref (a 0), .ref (a 28), .int (L0 2), .int (L0 3)] s) 6 (x_stringOf__28 k 5) (fun L => [(0, .ref (a 0)), (1, .ref (a 28)), (2, .int (L 2)), (3, .int (L 3)), (4, .int (L 4)), (5, .int (L 5))]) 84 (fun L => [])) := by
    intro k
    induction k with
    | zero => exact ⟨fun L σ r h => (by cases h), fun L σ r h => (by cases h), fun L σ r h => (by cases h), fun L σ r h => (by cases h), fun L σ r h => (by cases h), fun L σ r h => (by cases h)⟩
    | succ k ih =>
      refine ⟨?_, ?_, ?_, ?_, ?_, ?_⟩
      · intro L σ r h H locs ls hP hD hS hl
        rw [x_stringOf__28] at h
        refine lv_iconst (v := 1) hx hb dX12_stringOf_0 (by decide) ?_
        refine lv_iload_n hx hb dX12_stringOf_1 rfl (lv_at hl 3 rfl) ?_
        refine lv_iconst (v := 3) hx hb dX12_stringOf_2 (by decide) ?_
        refine lv_iadd hx hb dX12_stringOf_3 ?_
        refine lv_iconst (v := 4) hx hb dX12_stringOf_4 (by decide) ?_
        obtain ⟨q1, h⟩ := nb_ite0 h
        refine lv_idiv hx hb dX12_stringOf_5 q1 ?_
        refine lv_iadd hx hb dX12_stringOf_6 ?_
        refine lv_sipush (v := 1000) hx hb dX12_stringOf_7 (by decide) ?_
        refine lv_icmp_le (tgt := 20) hx hb dX12_stringOf_10 (by decide) (fun c2 => ?_) (fun c2 => ?_)
        · rw [if_pos c2] at h
          exact ih.2.1 L σ r h H locs ls hP hD hS (lv_sub hl [0, 1, 2, 3] rfl)
        · rw [if_neg c2] at h
          refine lv_aload_n hx hb dX12_stringOf_13 rfl (lv_at hl 0 rfl) ?_
          refine lv_iconst (v := 5) hx hb dX12_stringOf_14 (by decide) ?_
          obtain ⟨r3, hc3, h⟩ := ob_ex h
          refine nc_Vv (As := [.int 5]) (rest := []) ⟨hx, hb, hml, hown, hts⟩ (c_x_fail l dC dI cy a k (upd (fun _ => 0) 1 5) σ r3 hc3 H.size) (cwV 1 hts g_x_stringOf__28_fail_369 rfl rfl rfl hd_x_fail ⟨Nat.le_of_ble_eq_true rfl, Nat.le_of_ble_eq_true rfl⟩) hK hG hA hP hD hS rfl hl.1 rfl (Nat.le_of_ble_eq_true rfl) dX12_stringOf_15 ⟨Nat.le_refl _, Nat.le_refl _⟩ (fun H locs hP hD hS => ?_)
          refine lv_iconst (v := 0) hx hb dX12_stringOf_18 (by decide) ?_
          cases h
          exact W.iret (v := 0) hx hb hr (fun t ht hW => ⟨⟨0, (), rfl, rfl, by rw [ht]; exact hP, va_K.moved hW.alike hK, hD⟩, hS.F ht⟩) hS.2.2 dX12_stringOf_19
      · intro L σ r h H locs ls hP hD hS hl
        rw [x_stringOf__28] at h
        refine lv_aload_n hx hb dX12_stringOf_20 rfl (lv_at hl 0 rfl) ?_
        refine lv_iconst (v := 4) hx hb dX12_stringOf_21 (by decide) ?_
        refine lv_iload_n hx hb dX12_stringOf_22 rfl (lv_at hl 3 rfl) ?_
        obtain ⟨r1, hc1, h⟩ := ob_ex h
        refine nc_Vi (As := [.int 4, .int (L 3)]) (rest := []) ⟨hx, hb, hml, hown, hts⟩ (c_x_make l dC dI cy a k (upd (upd (fun _ => 0) 1 4) 2 ((L 3))) σ r1 hc1 H.size) (cwV 2 hts g_x_stringOf__28_make_429 rfl rfl rfl hd_x_make ⟨Nat.le_of_ble_eq_true rfl, Nat.le_of_ble_eq_true rfl⟩) hK hG hA hP hD hS rfl hl.1 rfl (Nat.le_of_ble_eq_true rfl) dX12_stringOf_23 ⟨Nat.le_refl _, Nat.le_refl _⟩ (fun H locs hP hD hS => ?_)
        refine lv_istore (lv' := [(4, .int r1.1), (0, .ref (a 0)), (1, .ref (a 28)), (2, .int (L 2)), (3, .int (L 3))]) hx hb dX12_stringOf_26 hl (by decide) rfl (fun ls hl => ?_)
        refine lv_iconst (v := 0) hx hb dX12_stringOf_28 (by decide) ?_
        refine lv_istore (lv' := [(5, .int 0), (4, .int r1.1), (0, .ref (a 0)), (1, .ref (a 28)), (2, .int (L 2)), (3, .int (L 3))]) hx hb dX12_stringOf_29 hl (by decide) rfl (fun ls hl => ?_)
        exact ih.2.2.1 (upd (upd L 4 r1.1) 5 0) r1.2 r h H locs ls hP hD hS (lv_sub hl [2, 3, 4, 5, 1, 0] rfl)
      · intro L σ r h H locs ls hP hD hS hl
        rw [x_stringOf__28] at h
        refine lv_iload hx hb dX12_stringOf_31 (lv_at hl 5 rfl) ?_
        refine lv_iload_n hx hb dX12_stringOf_33 rfl (lv_at hl 3 rfl) ?_
        refine lv_icmp_ge (tgt := 68) hx hb dX12_stringOf_34 (by decide) (fun c1 => ?_) (fun c1 => ?_)
        · rw [if_pos c1] at h
          exact ih.2.2.2.2.1 L σ r h H locs ls hP hD hS (lv_sub hl [0, 1, 2, 3, 4, 5] rfl)
        · rw [if_neg c1] at h
          refine lv_aload_n hx hb dX12_stringOf_37 rfl (lv_at hl 0 rfl) ?_
          refine ng_56 hx hb hts in_x_stringOf__28 hown hK hP (hts _ (List.mem_cons_of_mem _ (List.mem_append_left _ (List.mem_append_left _ (List.mem_of_getElem? (i := 7) rfl))))) dX12_stringOf_38 ?_
          refine lv_if_ne (tgt := 68) hx hb dX12_stringOf_41 (by decide) (fun c2 => ?_) (fun c2 => ?_)
          · rw [if_neg c2] at h
            exact ih.2.2.2.2.1 L σ r h H locs ls hP hD hS (lv_sub hl [0, 1, 2, 3, 4, 5] rfl)
          · rw [if_pos c2] at h
            refine lv_aload_n hx hb dX12_stringOf_44 rfl (lv_at hl 0 rfl) ?_
            refine ng_53 hx hb hts in_x_stringOf__28 hown hK hP (hts _ (List.mem_cons_of_mem _ (List.mem_append_left _ (List.mem_append_left _ (List.mem_of_getElem? (i := 8) rfl))))) dX12_stringOf_45 ?_
            refine lv_iload hx hb dX12_stringOf_48 (lv_at hl 4 rfl) ?_
            refine lv_iconst (v := 4) hx hb dX12_stringOf_50 (by decide) ?_
            refine lv_iadd hx hb dX12_stringOf_51 ?_
            refine lv_iload hx hb dX12_stringOf_52 (lv_at hl 5 rfl) ?_
            refine lv_iadd hx hb dX12_stringOf_54 ?_
            refine lv_aload_n hx hb dX12_stringOf_55 rfl (lv_at hl 1 rfl) ?_
            refine lv_iload_n hx hb dX12_stringOf_56 rfl (lv_at hl 2 rfl) ?_
            refine lv_iload hx hb dX12_stringOf_57 (lv_at hl 5 rfl) ?_
            refine lv_iadd hx hb dX12_stringOf_59 ?_
            obtain ⟨q3, h⟩ := nb_ite1 h
            refine nl_28 hx hb hK hP q3 dX12_stringOf_60 ?_
            obtain ⟨q4, h⟩ := nb_ite1 h
            refine ns_28 hx hb hK hP hD hS q4 dX12_stringOf_61 (fun H locs hP hD hS => ?_)
            exact ih.2.2.2.1 L (σ.1, σ.2.1, updG σ.2.2 28 (upd (σ.2.2 28) ((((((L 4)) + 4)) + ((L 5)))).toNatClampNeg ((σ.2.2 28 ((((L 2)) + ((L 5)))).toNatClampNeg)))) r h H locs ls hP hD hS (lv_sub hl [0, 1, 2, 3, 4, 5] rfl)
      · intro L σ r h H locs ls hP hD hS hl
        rw [x_stringOf__28] at h
        refine lv_iinc (v := ((L 5)) + 1) (lv' := [(5, .int (((L 5)) + 1)), (0, .ref (a 0)), (1, .ref (a 28)), (2, .int (L 2)), (3, .int (L 3)), (4, .int (L 4))]) hx hb dX12_stringOf_62 hl (k := 5) rfl rfl (by decide) rfl (fun ls hl => ?_)
        refine lv_goto (tgt := 31) hx hb dX12_stringOf_65 (by decide) ?_
        exact ih.2.2.1 (upd L 5 (((L 5)) + 1)) σ r h H locs ls hP hD hS (lv_sub hl [1, 2, 3, 4, 5, 0] rfl)
      · intro L σ r h H locs ls hP hD hS hl
        rw [x_stringOf__28] at h
        refine lv_aload_n hx hb dX12_stringOf_68 rfl (lv_at hl 0 rfl) ?_
        refine ng_53 hx hb hts in_x_stringOf__28 hown hK hP (hts _ (List.mem_cons_of_mem _ (List.mem_append_left _ (List.mem_append_left _ (List.mem_of_getElem? (i := 8) rfl))))) dX12_stringOf_69 ?_
        refine lv_iload hx hb dX12_stringOf_72 (lv_at hl 4 rfl) ?_
        refine lv_iconst (v := 2) hx hb dX12_stringOf_74 (by decide) ?_
        refine lv_iadd hx hb dX12_stringOf_75 ?_
        refine lv_iconst (v := 1) hx hb dX12_stringOf_76 (by decide) ?_
        refine lv_iload_n hx hb dX12_stringOf_77 rfl (lv_at hl 3 rfl) ?_
        refine lv_iconst (v := 3) hx hb dX12_stringOf_78 (by decide) ?_
        refine lv_iadd hx hb dX12_stringOf_79 ?_
        refine lv_iconst (v := 4) hx hb dX12_stringOf_80 (by decide) ?_
        obtain ⟨q1, h⟩ := nb_ite0 h
        refine lv_idiv hx hb dX12_stringOf_81 q1 ?_
        refine lv_iadd hx hb dX12_stringOf_82 ?_
        obtain ⟨q2, h⟩ := nb_ite1 h
        refine ns_28 hx hb hK hP hD hS q2 dX12_stringOf_83 (fun H locs hP hD hS => ?_)
        exact ih.2.2.2.2.2 L (σ.1, σ.2.1, updG σ.2.2 28 (upd (σ.2.2 28) ((((L 4)) + 2)).toNatClampNeg ((1 + ((((((L 3)) + 3)) / 4)))))) r h H locs ls hP hD hS (lv_sub hl [0, 1, 2, 3, 4, 5] rfl)
      · intro L σ r h H locs ls hP hD hS hl
        rw [x_stringOf__28] at h
        refine lv_iload hx hb dX12_stringOf_84 (lv_at hl 4 rfl) ?_
        cases h
        exact W.iret (v := (L 4)) hx hb hr (fun t ht hW => ⟨⟨(L 4), (), rfl, rfl, by rw [ht]; exact hP, va_K.moved hW.alike hK, hD⟩, hS.F ht⟩) hS.2.2 dX12_stringOf_86
  exact (blk k0).1 L0 σ0 r0 h0 s.heap [] ls hP hD hS hl
/-! slice -/
def x_slice : Nat → Nat → (Nat → Int32) → MS → Option (Int32 × MS)
  | 0, _, _, _ => none
  | k + 1, 0, L, σ => ob (x_isSlice k 0 (upd (upd (upd (fun _ => 0) 1 ((L 1))) 2 ((L 2))) 3 ((L 3))) σ) (fun r1 => if r1.1 = 0 then (x_slice k 1 L r1.2) else (ob (x_isSliceIn k 0 (upd (fun _ => 0) 1 ((L 1))) r1.2) (fun r3 => if r3.1 = 0 then (x_slice k 1 L r3.2) else (x_slice k 2 L r3.2))))
  | k + 1, 1, L, σ => some (0, σ)
  | k + 1, 2, L, σ => if ¬ (((L 1)) < 0 ∨ 1740000 ≤ ((L 1)).toNatClampNeg) then (if ((σ.2.2 28 ((L 1)).toNatClampNeg)) = 4 then (ob (x_stringOf__28 k 0 (upd (upd (fun _ => 0) 2 ((((((L 1)) + 3)) + ((σ.1 100))))) 3 ((((((σ.1 101)) - ((σ.1 100)))) + 1))) σ) (fun r3 => some (r3.1, r3.2))) else (x_slice k 3 (upd L 4 ((((((σ.1 101)) - ((σ.1 100)))) + 1))) σ)) else none
  | k + 1, 3, L, σ => x_slice k 4 (upd (upd L 5 ((σ.1 59))) 6 0) σ
  | k + 1, 4, L, σ => if ((L 4)) ≤ ((L 6)) then (x_slice k 5 L σ) else (if ¬ (((((((((L 1)) + 3)) + ((σ.1 100)))) + ((L 6)))) < 0 ∨ 1740000 ≤ ((((((((L 1)) + 3)) + ((σ.1 100)))) + ((L 6)))).toNatClampNeg) then (ob (x_push k 0 (upd (fun _ => 0) 1 ((σ.2.2 28 ((((((((L 1)) + 3)) + ((σ.1 100)))) + ((L 6)))).toNatClampNeg))) σ) (fun r3 => x_slice k 4 (upd L 6 (((L 6)) + 1)) r3.2)) else none)
  | k + 1, 5, L, σ => ob (x_tupleOf k 0 (upd (fun _ => 0) 1 ((L 5))) σ) (fun r1 => some (r1.1, r1.2))
  | _ + 1, _ + 6, _, _ => none
def o_x_slice : List Cond := [.methodLink RX12 811 yX12_isSlice, .instanceMethod yX12_isSlice, .selects RX12 yX12_isSlice yX12_isSlice, .initialized RX12, .methodLink RX12 815 yX12_isSliceIn, .instanceMethod yX12_isSliceIn, .selects RX12 yX12_isSliceIn yX12_isSliceIn, .fieldLink RX12 808 "SetHouseModel" "sliceTo" "I", .fieldLink RX12 805 "SetHouseModel" "sliceFrom" "I", .fieldLink RX12 372 "SetHouseModel" "heap" "[I", .methodLink RX12 597 yX12_stringOf, .instanceMethod yX12_stringOf, .selects RX12 yX12_stringOf yX12_stringOf, .fieldLink RX12 385 "SetHouseModel" "top" "I", .methodLink RX12 594 yX12_push, .instanceMethod yX12_push, .selects RX12 yX12_push yX12_push, .methodLink RX12 675 yX12_tupleOf, .instanceMethod yX12_tupleOf, .selects RX12 yX12_tupleOf yX12_tupleOf]
theorem o_x_slice_good : o_x_slice.all goodWord = true := by decide +kernel
def p_x_slice : List Cond := o_x_slice ++ ((.code yX12_isSlice cX12_isSlice 5 (some .boolean) :: p_x_isSlice) ++ ((.code yX12_isSliceIn cX12_isSliceIn 2 (some .boolean) :: p_x_isSliceIn) ++ ((.code yX12_stringOf cX12_stringOf 6 (some .int) :: p_x_stringOf__28) ++ ((.code yX12_push cX12_push 2 none :: p_x_push) ++ ((.code yX12_tupleOf cX12_tupleOf 5 (some .int) :: p_x_tupleOf) ++ [])))))
theorem p_x_slice_good : p_x_slice.all goodWord = true := nb_all2 o_x_slice_good (nb_all2 (nb_allc (by decide +kernel) p_x_isSlice_good) (nb_all2 (nb_allc (by decide +kernel) p_x_isSliceIn_good) (nb_all2 (nb_allc (by decide +kernel) p_x_stringOf__28_good) (nb_all2 (nb_allc (by decide +kernel) p_x_push_good) (nb_all2 (nb_allc (by decide +kernel) p_x_tupleOf_good) rfl)))))
def w_x_slice : List Cond := .code yX12_slice cX12_slice 7 (some .int) :: (p_x_slice ++ fM)
theorem w_x_slice_good : w_x_slice.all goodWord = true := nb_allc (by decide +kernel) (nb_all2 p_x_slice_good fM_good)
theorem in_x_slice : ∀ w ∈ wsX120, w ∈ w_x_slice := fun _ h => List.mem_cons_of_mem _ (List.mem_append_right _ h)
theorem hd_x_slice : yX12_slice.cls = RX12 ∧ yX12_slice.cls ≠ "java/lang/invoke/MethodHandle" ∧ yX12_slice.cls ≠ "java/lang/invoke/VarHandle" ∧ (parseMethodDescriptor yX12_slice.desc).map (fun d => d.parameters.length) = some 3 := by decide +kernel
theorem gg_x_slice_isSliceIn : GoodIn w_x_slice w_x_isSliceIn := goodIn_sub (fun w h => (List.mem_cons.mp h).elim (fun e => (List.mem_cons_of_mem _ (List.mem_append_left _ (List.mem_append_right _ (List.mem_append_right _ (List.mem_append_left _ (List.mem_cons.mpr (Or.inl e)))))))) (fun h => (List.mem_append.mp h).elim (fun h => (List.mem_cons_of_mem _ (List.mem_append_left _ (List.mem_append_right _ (List.mem_append_right _ (List.mem_append_left _ (List.mem_cons_of_mem _ h))))))) (fun h => List.mem_cons_of_mem _ (List.mem_append_right _ h)))) w_x_isSliceIn_good
theorem g_x_slice_isSliceIn_815 : GoodIn w_x_slice (wsV RX12 815 RX12 yX12_isSliceIn w_x_isSliceIn) := goodIn_app (nb_g4 (List.mem_cons_of_mem _ (List.mem_append_left _ (List.mem_append_left _ (List.mem_of_getElem? (i := 4) rfl)))) (List.mem_cons_of_mem _ (List.mem_append_left _ (List.mem_append_left _ (List.mem_of_getElem? (i := 5) rfl)))) (List.mem_cons_of_mem _ (List.mem_append_left _ (List.mem_append_left _ (List.mem_of_getElem? (i := 6) rfl)))) (List.mem_cons_of_mem _ (List.mem_append_left _ (List.mem_append_left _ (List.mem_of_getElem? (i := 3) rfl)))) (by decide +kernel)) gg_x_slice_isSliceIn
theorem gg_x_slice_isSlice : GoodIn w_x_slice w_x_isSlice := goodIn_sub (fun w h => (List.mem_cons.mp h).elim (fun e => (List.mem_cons_of_mem _ (List.mem_append_left _ (List.mem_append_right _ (List.mem_append_left _ (List.mem_cons.mpr (Or.inl e))))))) (fun h => (List.mem_append.mp h).elim (fun h => (List.mem_cons_of_mem _ (List.mem_append_left _ (List.mem_append_right _ (List.mem_append_left _ (List.mem_cons_of_mem _ h)))))) (fun h => List.mem_cons_of_mem _ (List.mem_append_right _ h)))) w_x_isSlice_good
theorem g_x_slice_isSlice_811 : GoodIn w_x_slice (wsV RX12 811 RX12 yX12_isSlice w_x_isSlice) := goodIn_app (nb_g4 (List.mem_cons_of_mem _ (List.mem_append_left _ (List.mem_append_left _ (List.mem_of_getElem? (i := 0) rfl)))) (List.mem_cons_of_mem _ (List.mem_append_left _ (List.mem_append_left _ (List.mem_of_getElem? (i := 1) rfl)))) (List.mem_cons_of_mem _ (List.mem_append_left _ (List.mem_append_left _ (List.mem_of_getElem? (i := 2) rfl)))) (List.mem_cons_of_mem _ (List.mem_append_left _ (List.mem_append_left _ (List.mem_of_getElem? (i := 3) rfl)))) (by decide +kernel)) gg_x_slice_isSlice
theorem gg_x_slice_push : GoodIn w_x_slice w_x_push := goodIn_sub (fun w h => (List.mem_cons.mp h).elim (fun e => (List.mem_cons_of_mem _ (List.mem_append_left _ (List.mem_append_right _ (List.mem_append_right _ (List.mem_append_right _ (List.mem_append_right _ (List.mem_append_left _ (List.mem_cons.mpr (Or.inl e)))))))))) (fun h => (List.mem_append.mp h).elim (fun h => (List.mem_cons_of_mem _ (List.mem_append_left _ (List.mem_append_right _ (List.mem_append_right _ (List.mem_append_right _ (List.mem_append_right _ (List.mem_append_left _ (List.mem_cons_of_mem _ h))))))))) (fun h => List.mem_cons_of_mem _ (List.mem_append_right _ h)))) w_x_push_good
theorem g_x_slice_push_594 : GoodIn w_x_slice (wsV RX12 594 RX12 yX12_push w_x_push) := goodIn_app (nb_g4 (List.mem_cons_of_mem _ (List.mem_append_left _ (List.mem_append_left _ (List.mem_of_getElem? (i := 14) rfl)))) (List.mem_cons_of_mem _ (List.mem_append_left _ (List.mem_append_left _ (List.mem_of_getElem? (i := 15) rfl)))) (List.mem_cons_of_mem _ (List.mem_append_left _ (List.mem_append_left _ (List.mem_of_getElem? (i := 16) rfl)))) (List.mem_cons_of_mem _ (List.mem_append_left _ (List.mem_append_left _ (List.mem_of_getElem? (i := 3) rfl)))) (by decide +kernel)) gg_x_slice_push
theorem gg_x_slice_stringOf__28 : GoodIn w_x_slice w_x_stringOf__28 := goodIn_sub (fun w h => (List.mem_cons.mp h).elim (fun e => (List.mem_cons_of_mem _ (List.mem_append_left _ (List.mem_append_right _ (List.mem_append_right _ (List.mem_append_right _ (List.mem_append_left _ (List.mem_cons.mpr (Or.inl e))))))))) (fun h => (List.mem_append.mp h).elim (fun h => (List.mem_cons_of_mem _ (List.mem_append_left _ (List.mem_append_right _ (List.mem_append_right _ (List.mem_append_right _ (List.mem_append_left _ (List.mem_cons_of_mem _ h)))))))) (fun h => List.mem_cons_of_mem _ (List.mem_append_right _ h)))) w_x_stringOf__28_good
theorem g_x_slice_stringOf__28_597 : GoodIn w_x_slice (wsV RX12 597 RX12 yX12_stringOf w_x_stringOf__28) := goodIn_app (nb_g4 (List.mem_cons_of_mem _ (List.mem_append_left _ (List.mem_append_left _ (List.mem_of_getElem? (i := 10) rfl)))) (List.mem_cons_of_mem _ (List.mem_append_left _ (List.mem_append_left _ (List.mem_of_getElem? (i := 11) rfl)))) (List.mem_cons_of_mem _ (List.mem_append_left _ (List.mem_append_left _ (List.mem_of_getElem? (i := 12) rfl)))) (List.mem_cons_of_mem _ (List.mem_append_left _ (List.mem_append_left _ (List.mem_of_getElem? (i := 3) rfl)))) (by decide +kernel)) gg_x_slice_stringOf__28
theorem gg_x_slice_tupleOf : GoodIn w_x_slice w_x_tupleOf := goodIn_sub (fun w h => (List.mem_cons.mp h).elim (fun e => (List.mem_cons_of_mem _ (List.mem_append_left _ (List.mem_append_right _ (List.mem_append_right _ (List.mem_append_right _ (List.mem_append_right _ (List.mem_append_right _ (List.mem_append_left _ (List.mem_cons.mpr (Or.inl e))))))))))) (fun h => (List.mem_append.mp h).elim (fun h => (List.mem_cons_of_mem _ (List.mem_append_left _ (List.mem_append_right _ (List.mem_append_right _ (List.mem_append_right _ (List.mem_append_right _ (List.mem_append_right _ (List.mem_append_left _ (List.mem_cons_of_mem _ h)))))))))) (fun h => List.mem_cons_of_mem _ (List.mem_append_right _ h)))) w_x_tupleOf_good
theorem g_x_slice_tupleOf_675 : GoodIn w_x_slice (wsV RX12 675 RX12 yX12_tupleOf w_x_tupleOf) := goodIn_app (nb_g4 (List.mem_cons_of_mem _ (List.mem_append_left _ (List.mem_append_left _ (List.mem_of_getElem? (i := 17) rfl)))) (List.mem_cons_of_mem _ (List.mem_append_left _ (List.mem_append_left _ (List.mem_of_getElem? (i := 18) rfl)))) (List.mem_cons_of_mem _ (List.mem_append_left _ (List.mem_append_left _ (List.mem_of_getElem? (i := 19) rfl)))) (List.mem_cons_of_mem _ (List.mem_append_left _ (List.mem_append_left _ (List.mem_of_getElem? (i := 3) rfl)))) (by decide +kernel)) gg_x_slice_tupleOf
set_option maxHeartbeats 40000000 in
set_option maxRecDepth 100000 in
theorem c_x_slice (l : Launch) (dC : Nat → ClassId) (dI : Nat → Nat → Nat) (cy : Nat → ClassId) (a : Nat → Nat) (k0 : Nat) (L0 : Nat → Int32) (σ0 : MS) (r0 : Int32 × MS) (h0 : x_slice k0 0 L0 σ0 = some r0) (sz : Nat) : Met l yX12_slice w_x_slice ({ frames := 4, cells := 0, slots := 0, locals := 92 }) (va_Pc [.ref (a 0), .int (L0 1), .int (L0 2), .int (L0 3)] (nIn (dC, dI) cy sz (vM cy a σ0))) (va_Qi (fun (z : Int32) (_ : Unit) => z = r0.1) (fun _ t => nOut (dC, dI) cy (va_A (vM cy a σ0) sz) (vM cy a r0.2) t) (va_A (vM cy a σ0) sz)) 0 0 (va_A (vM cy a σ0) sz) := by
  refine Met.ofW (cc := cX12_slice) (maxL := 7) (ret := (some .int)) (by decide) rfl ?_
  intro p e s m args below meth c s₁ B hml hv
  obtain ⟨rfl, hsz, hP, hK, hD0, hG⟩ := hv
  have hx := B.exec
  have hb := B.bytes
  have hr := B.returns
  have hts := atoms_spec (ws := w_x_slice) B.pre
  have hown : s.vm.findClass RX12 = some m.cls := findClass_of_methodNamed B.named
  have hlocks := B.notSynchronized
  subst hsz
  have hD := hD0.self (sz := s.heap.size)
  generalize hAe : va_A (vM cy a σ0) s.heap.size = A at hD ⊢
  have hA : ∀ q : Nat, s.heap.size ≤ q → A q := fun q h => by rw [← hAe]; exact Or.inr h
  have hS : va_S A s.heap s.heap [] := va_S.rf
  have hl := lv_entry ([.ref (a 0), .int (L0 1), .int (L0 2), .int (L0 3)]) (n := 7) (Nat.le_of_ble_eq_true rfl)
  rw [lg_entry_eq]
  generalize (lg_sl ([.ref (a 0), .int (L0 1), .int (L0 2), .int (L0 3)]) ++ List.replicate (7 - (lg_sl ([.ref (a 0), .int (L0 1), .int (L0 2), .int (L0 3)])).length) Slot.unset).toArray = ls at hl ⊢
  have hl : lv_has ls 7 [(0, .ref (a 0)), (1, .int (L0 1)), (2, .int (L0 2)), (3, .int (L0 3))] := hl
  have blk : ∀ k : Nat, (bT p l e (headSpec w_x_slice ({ frames := 4, cells := 0, slots := 0, locals := 92 })).room s m #[.ref (a 0), .int (L0 1), .int (L0 2), .int (L0 3)] below meth c dC dI cy a A (qI dC dI cy a A below #[.ref (a 0), .int (L0 1), .int (L0 2), .int (L0 3)] s) 7 (x_slice k 0) (fun L => [(0, .ref (a 0)), (1, .int (L 1)), (2, .int (L 2)), (3, .int (L 3))]) 0 (fun L => [])) ∧ (bT p l e (headSpec w_x_slice ({ frames := 4, cells := 0, slots := 0, locals := 92 })).room s m #[.ref (a 0), .int (L0 1), .int (L0 2), .int (L0 3)] below meth c dC dI cy a A (qI dC dI cy a A below #[.ref (a 0), .int (L0 1), .int (L0 2), .int (L0 3)] s) 7 (x_slice k 1) (fun L => [(0, .ref (a 0)), (1, .int (L 1)), (2, .int (L 2)), (3, .int (L 3))]) 18 (fun L => [])) ∧ (bT p l e (headSpec w_x_slice ({ frames := 4, cells := 0, slots := 0, locals := 92 })).room s m #[.ref (a 0), .int (L0 1), .int (L0 2), .int (L0 3)] below meth c dC dI cy a A (qI dC dI cy a A below #[.ref (a 0), .int (L0 1), .int (L0 2), .int (L0 3)] s) 7 (x_slice k 2) (fun L => [(0, .ref (a 0)), (1, .int (L 1)), (2, .int (L 2)), (3, .int (L 3))]) 20 (fun L => [])) ∧ (bT p l e (headSpec w_x_slice ({ frames := 4, cells := 0, slots := 0, locals := 92 })).room s m #[.ref (a 0), .int (L0 1), .int (L0 2), .int (L0 3)] below meth c dC dI cy a A (qI dC dI cy a A below #[.ref (a 0), .int (L0 1), .int (L0 2), .int (L0 3)] s) 7 (x_slice k 3) (fun L => [(0, .ref (a 0)), (1, .int (L 1)), (2, .int (L 2)), (3, .int (L 3)), (4, .int (L 4))]) 62 (fun L => [])) ∧ (bT p l e (headSpec w_x_slice ({ frames := 4, cells := 0, slots := 0, locals := 92 })).room s m #[.ref (a 0), .int (L0 1), .int (L0 2), .int (L0 3)] below meth c dC dI cy a A (qI dC dI cy a A below #[.ref (a 0), .int (L0 1), .int (L0 2), .int (L0 3)] s) 7 (x_slice k 4) (fun L => [(0, .ref (a 0)), (1, .int (L 1)), (2, .int (L 2)), (3, .int (L 3)), (4, .int (L 4)), (5, .int (L 5)), (6, .int (L 6))]) 71 (fun L => [])) ∧ (bT p l e (headSpec w_x_slice ({ frames := 4, cells := 0, slots := 0, locals := 92 })).room s m #[.ref (a 0), .int (L0 1), .int (L0 2), .int (L0 3)] below meth c dC dI cy a A (qI dC dI cy a A below #[.ref (a 0), .int (L0 1), .int (L0 2), .int (L0 3)] s) 7 (x_slice k 5) (fun L => [(0, .ref (a 0)), (1, .int (L 1)), (2, .int (L 2)), (3, .int (L 3)), (4, .int (L 4)), (5, .int (L 5)), (6, .int (L 6))]) 104 (fun L => [])) := by
    intro k
    induction k with
    | zero => exact ⟨fun L σ r h => (by cases h), fun L σ r h => (by cases h), fun L σ r h => (by cases h), fun L σ r h => (by cases h), fun L σ r h => (by cases h), fun L σ r h => (by cases h)⟩
    | succ k ih =>
      refine ⟨?_, ?_, ?_, ?_, ?_, ?_⟩
      · intro L σ r h H locs ls hP hD hS hl
        rw [x_slice] at h
        refine lv_aload_n hx hb dX12_slice_0 rfl (lv_at hl 0 rfl) ?_
        refine lv_iload_n hx hb dX12_slice_1 rfl (lv_at hl 1 rfl) ?_
        refine lv_iload_n hx hb dX12_slice_2 rfl (lv_at hl 2 rfl) ?_
        refine lv_iload_n hx hb dX12_slice_3 rfl (lv_at hl 3 rfl) ?_
        obtain ⟨r1, hc1, h⟩ := ob_ex h
        refine nc_Vi (As := [.int (L 1), .int (L 2), .int (L 3)]) (rest := []) ⟨hx, hb, hml, hown, hts⟩ (c_x_isSlice l dC dI cy a k (upd (upd (upd (fun _ => 0) 1 ((L 1))) 2 ((L 2))) 3 ((L 3))) σ r1 hc1 H.size) (cwV 3 hts g_x_slice_isSlice_811 rfl rfl rfl hd_x_isSlice ⟨Nat.le_of_ble_eq_true rfl, Nat.le_of_ble_eq_true rfl⟩) hK hG hA hP hD hS rfl hl.1 rfl (Nat.le_of_ble_eq_true rfl) dX12_slice_4 ⟨Nat.le_refl _, Nat.le_refl _⟩ (fun H locs hP hD hS => ?_)
        refine lv_if_eq (tgt := 18) hx hb dX12_slice_7 (by decide) (fun c2 => ?_) (fun c2 => ?_)
        · rw [if_pos c2] at h
          exact ih.2.1 L r1.2 r h H locs ls hP hD hS (lv_sub hl [0, 1, 2, 3] rfl)
        · rw [if_neg c2] at h
          refine lv_aload_n hx hb dX12_slice_10 rfl (lv_at hl 0 rfl) ?_
          refine lv_iload_n hx hb dX12_slice_11 rfl (lv_at hl 1 rfl) ?_
          obtain ⟨r3, hc3, h⟩ := ob_ex h
          refine nc_Vi (As := [.int (L 1)]) (rest := []) ⟨hx, hb, hml, hown, hts⟩ (c_x_isSliceIn l dC dI cy a k (upd (fun _ => 0) 1 ((L 1))) r1.2 r3 hc3 H.size) (cwV 1 hts g_x_slice_isSliceIn_815 rfl rfl rfl hd_x_isSliceIn ⟨Nat.le_of_ble_eq_true rfl, Nat.le_of_ble_eq_true rfl⟩) hK hG hA hP hD hS rfl hl.1 rfl (Nat.le_of_ble_eq_true rfl) dX12_slice_12 ⟨Nat.le_refl _, Nat.le_refl _⟩ (fun H locs hP hD hS => ?_)
          refine lv_if_ne (tgt := 20) hx hb dX12_slice_15 (by decide) (fun c4 => ?_) (fun c4 => ?_)
          · rw [if_neg c4] at h
            exact ih.2.2.1 L r3.2 r h H locs ls hP hD hS (lv_sub hl [0, 1, 2, 3] rfl)
          · rw [if_pos c4] at h
            exact ih.2.1 L r3.2 r h H locs ls hP hD hS (lv_sub hl [0, 1, 2, 3] rfl)
      · intro L σ r h H locs ls hP hD hS hl
        rw [x_slice] at h
        refine lv_iconst (v := 0) hx hb dX12_slice_18 (by decide) ?_
        cases h
        exact W.iret (v := 0) hx hb hr (fun t ht hW => ⟨⟨0, (), rfl, rfl, by rw [ht]; exact hP, va_K.moved hW.alike hK, hD⟩, hS.F ht⟩) hS.2.2 dX12_slice_19
      · intro L σ r h H locs ls hP hD hS hl
        rw [x_slice] at h
        refine lv_aload_n hx hb dX12_slice_20 rfl (lv_at hl 0 rfl) ?_
        refine ng_101 hx hb hts in_x_slice hown hK hP (hts _ (List.mem_cons_of_mem _ (List.mem_append_left _ (List.mem_append_left _ (List.mem_of_getElem? (i := 7) rfl))))) dX12_slice_21 ?_
        refine lv_aload_n hx hb dX12_slice_24 rfl (lv_at hl 0 rfl) ?_
        refine ng_100 hx hb hts in_x_slice hown hK hP (hts _ (List.mem_cons_of_mem _ (List.mem_append_left _ (List.mem_append_left _ (List.mem_of_getElem? (i := 8) rfl))))) dX12_slice_25 ?_
        refine lv_isub hx hb dX12_slice_28 ?_
        refine lv_iconst (v := 1) hx hb dX12_slice_29 (by decide) ?_
        refine lv_iadd hx hb dX12_slice_30 ?_
        refine lv_istore (lv' := [(4, .int (((((σ.1 101)) - ((σ.1 100)))) + 1)), (0, .ref (a 0)), (1, .int (L 1)), (2, .int (L 2)), (3, .int (L 3))]) hx hb dX12_slice_31 hl (by decide) rfl (fun ls hl => ?_)
        refine lv_aload_n hx hb dX12_slice_33 rfl (lv_at hl 1 rfl) ?_
        refine ng_53 hx hb hts in_x_slice hown hK hP (hts _ (List.mem_cons_of_mem _ (List.mem_append_left _ (List.mem_append_left _ (List.mem_of_getElem? (i := 9) rfl))))) dX12_slice_34 ?_
        refine lv_iload_n hx hb dX12_slice_37 rfl (lv_at hl 2 rfl) ?_
        obtain ⟨q1, h⟩ := nb_ite1 h
        refine nl_28 hx hb hK hP q1 dX12_slice_38 ?_
        refine lv_iconst (v := 4) hx hb dX12_slice_39 (by decide) ?_
        refine lv_icmp_ne (tgt := 62) hx hb dX12_slice_40 (by decide) (fun c2 => ?_) (fun c2 => ?_)
        · rw [if_neg c2] at h
          exact ih.2.2.2.1 (upd L 4 ((((((σ.1 101)) - ((σ.1 100)))) + 1))) σ r h H locs ls hP hD hS (lv_sub hl [1, 2, 3, 4, 0] rfl)
        · rw [if_pos c2] at h
          refine lv_aload_n hx hb dX12_slice_43 rfl (lv_at hl 1 rfl) ?_
          refine lv_aload_n hx hb dX12_slice_44 rfl (lv_at hl 1 rfl) ?_
          refine ng_53 hx hb hts in_x_slice hown hK hP (hts _ (List.mem_cons_of_mem _ (List.mem_append_left _ (List.mem_append_left _ (List.mem_of_getElem? (i := 9) rfl))))) dX12_slice_45 ?_
          refine lv_iload_n hx hb dX12_slice_48 rfl (lv_at hl 2 rfl) ?_
          refine lv_iconst (v := 3) hx hb dX12_slice_49 (by decide) ?_
          refine lv_iadd hx hb dX12_slice_50 ?_
          refine lv_aload_n hx hb dX12_slice_51 rfl (lv_at hl 1 rfl) ?_
          refine ng_100 hx hb hts in_x_slice hown hK hP (hts _ (List.mem_cons_of_mem _ (List.mem_append_left _ (List.mem_append_left _ (List.mem_of_getElem? (i := 8) rfl))))) dX12_slice_52 ?_
          refine lv_iadd hx hb dX12_slice_55 ?_
          refine lv_iload hx hb dX12_slice_56 (lv_at hl 0 rfl) ?_
          obtain ⟨r3, hc3, h⟩ := ob_ex h
          refine nc_Vi (As := [.ref (a 28), .int (((((L 1)) + 3)) + ((σ.1 100))), .int (((((σ.1 101)) - ((σ.1 100)))) + 1)]) (rest := []) ⟨hx, hb, hml, hown, hts⟩ (c_x_stringOf__28 l dC dI cy a k (upd (upd (fun _ => 0) 2 ((((((L 1)) + 3)) + ((σ.1 100))))) 3 ((((((σ.1 101)) - ((σ.1 100)))) + 1))) σ r3 hc3 H.size) (cwV 3 hts g_x_slice_stringOf__28_597 rfl rfl rfl hd_x_stringOf__28 ⟨Nat.le_of_ble_eq_true rfl, Nat.le_of_ble_eq_true rfl⟩) hK hG hA hP hD hS rfl hl.1 rfl (Nat.le_of_ble_eq_true rfl) dX12_slice_58 ⟨Nat.le_refl _, Nat.le_refl _⟩ (fun H locs hP hD hS => ?_)
          cases h
          exact W.iret (v := r3.1) hx hb hr (fun t ht hW => ⟨⟨r3.1, (), rfl, rfl, by rw [ht]; exact hP, va_K.moved hW.alike hK, hD⟩, hS.F ht⟩) hS.2.2 dX12_slice_61
      · intro L σ r h H locs ls hP hD hS hl
        rw [x_slice] at h
        refine lv_aload_n hx hb dX12_slice_62 rfl (lv_at hl 0 rfl) ?_
        refine ng_59 hx hb hts in_x_slice hown hK hP (hts _ (List.mem_cons_of_mem _ (List.mem_append_left _ (List.mem_append_left _ (List.mem_of_getElem? (i := 13) rfl))))) dX12_slice_63 ?_
        refine lv_istore (lv' := [(5, .int (σ.1 59)), (0, .ref (a 0)), (1, .int (L 1)), (2, .int (L 2)), (3, .int (L 3)), (4, .int (L 4))]) hx hb dX12_slice_66 hl (by decide) rfl (fun ls hl => ?_)
        refine lv_iconst (v := 0) hx hb dX12_slice_68 (by decide) ?_
        refine lv_istore (lv' := [(6, .int 0), (5, .int (σ.1 59)), (0, .ref (a 0)), (1, .int (L 1)), (2, .int (L 2)), (3, .int (L 3)), (4, .int (L 4))]) hx hb dX12_slice_69 hl (by decide) rfl (fun ls hl => ?_)
        exact ih.2.2.2.2.1 (upd (upd L 5 ((σ.1 59))) 6 0) σ r h H locs ls hP hD hS (lv_sub hl [2, 3, 4, 5, 6, 1, 0] rfl)
      · intro L σ r h H locs ls hP hD hS hl
        rw [x_slice] at h
        refine lv_iload hx hb dX12_slice_71 (lv_at hl 6 rfl) ?_
        refine lv_iload hx hb dX12_slice_73 (lv_at hl 4 rfl) ?_
        refine lv_icmp_ge (tgt := 104) hx hb dX12_slice_75 (by decide) (fun c1 => ?_) (fun c1 => ?_)
        · rw [if_pos c1] at h
          exact ih.2.2.2.2.2 L σ r h H locs ls hP hD hS (lv_sub hl [0, 1, 2, 3, 4, 5, 6] rfl)
        · rw [if_neg c1] at h
          refine lv_aload_n hx hb dX12_slice_78 rfl (lv_at hl 0 rfl) ?_
          refine lv_aload_n hx hb dX12_slice_79 rfl (lv_at hl 0 rfl) ?_
          refine ng_53 hx hb hts in_x_slice hown hK hP (hts _ (List.mem_cons_of_mem _ (List.mem_append_left _ (List.mem_append_left _ (List.mem_of_getElem? (i := 9) rfl))))) dX12_slice_80 ?_
          refine lv_iload_n hx hb dX12_slice_83 rfl (lv_at hl 1 rfl) ?_
          refine lv_iconst (v := 3) hx hb dX12_slice_84 (by decide) ?_
          refine lv_iadd hx hb dX12_slice_85 ?_
          refine lv_aload_n hx hb dX12_slice_86 rfl (lv_at hl 0 rfl) ?_
          refine ng_100 hx hb hts in_x_slice hown hK hP (hts _ (List.mem_cons_of_mem _ (List.mem_append_left _ (List.mem_append_left _ (List.mem_of_getElem? (i := 8) rfl))))) dX12_slice_87 ?_
          refine lv_iadd hx hb dX12_slice_90 ?_
          refine lv_iload hx hb dX12_slice_91 (lv_at hl 6 rfl) ?_
          refine lv_iadd hx hb dX12_slice_93 ?_
          obtain ⟨q2, h⟩ := nb_ite1 h
          refine nl_28 hx hb hK hP q2 dX12_slice_94 ?_
          obtain ⟨r3, hc3, h⟩ := ob_ex h
          refine nc_Vv (As := [.int (σ.2.2 28 ((((((((L 1)) + 3)) + ((σ.1 100)))) + ((L 6)))).toNatClampNeg)]) (rest := []) ⟨hx, hb, hml, hown, hts⟩ (c_x_push l dC dI cy a k (upd (fun _ => 0) 1 ((σ.2.2 28 ((((((((L 1)) + 3)) + ((σ.1 100)))) + ((L 6)))).toNatClampNeg))) σ r3 hc3 H.size) (cwV 1 hts g_x_slice_push_594 rfl rfl rfl hd_x_push ⟨Nat.le_of_ble_eq_true rfl, Nat.le_of_ble_eq_true rfl⟩) hK hG hA hP hD hS rfl hl.1 rfl (Nat.le_of_ble_eq_true rfl) dX12_slice_95 ⟨Nat.le_refl _, Nat.le_refl _⟩ (fun H locs hP hD hS => ?_)
          refine lv_iinc (v := ((L 6)) + 1) (lv' := [(6, .int (((L 6)) + 1)), (0, .ref (a 0)), (1, .int (L 1)), (2, .int (L 2)), (3, .int (L 3)), (4, .int (L 4)), (5, .int (L 5))]) hx hb dX12_slice_98 hl (k := 6) rfl rfl (by decide) rfl (fun ls hl => ?_)
          refine lv_goto (tgt := 71) hx hb dX12_slice_101 (by decide) ?_
          exact ih.2.2.2.2.1 (upd L 6 (((L 6)) + 1)) r3.2 r h H locs ls hP hD hS (lv_sub hl [1, 2, 3, 4, 5, 6, 0] rfl)
      · intro L σ r h H locs ls hP hD hS hl
        rw [x_slice] at h
        refine lv_aload_n hx hb dX12_slice_104 rfl (lv_at hl 0 rfl) ?_
        refine lv_iload hx hb dX12_slice_105 (lv_at hl 5 rfl) ?_
        obtain ⟨r1, hc1, h⟩ := ob_ex h
        refine nc_Vi (As := [.int (L 5)]) (rest := []) ⟨hx, hb, hml, hown, hts⟩ (c_x_tupleOf l dC dI cy a k (upd (fun _ => 0) 1 ((L 5))) σ r1 hc1 H.size) (cwV 1 hts g_x_slice_tupleOf_675 rfl rfl rfl hd_x_tupleOf ⟨Nat.le_of_ble_eq_true rfl, Nat.le_of_ble_eq_true rfl⟩) hK hG hA hP hD hS rfl hl.1 rfl (Nat.le_of_ble_eq_true rfl) dX12_slice_107 ⟨Nat.le_refl _, Nat.le_refl _⟩ (fun H locs hP hD hS => ?_)
        cases h
        exact W.iret (v := r1.1) hx hb hr (fun t ht hW => ⟨⟨r1.1, (), rfl, rfl, by rw [ht]; exact hP, va_K.moved hW.alike hK, hD⟩, hS.F ht⟩) hS.2.2 dX12_slice_110
  exact (blk k0).1 L0 σ0 r0 h0 s.heap [] ls hP hD hS hl

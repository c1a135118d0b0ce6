/-! seen -/
def x_seen : Nat → Nat → (Nat → Int32) → MS → Option (Int32 × MS)
  | 0, _, _, _ => none
  | k + 1, 0, L, σ => if ((L 1)) < 0 then (x_seen k 1 L σ) else (if ((σ.1 73)) ≤ ((L 1)) then (x_seen k 1 L σ) else (if ((L 2)) < 0 then (x_seen k 1 L σ) else (if ((L 2)) ≤ 2 then (x_seen k 2 L σ) else (x_seen k 1 L σ))))
  | k + 1, 1, L, σ => x_seen k 4 (upd L 100 1) σ
  | k + 1, 2, L, σ => if ¬ (((L 1)) < 0 ∨ 8 ≤ ((L 1)).toNatClampNeg) then (if ((σ.2.2 39 ((L 1)).toNatClampNeg)) = 0 then (x_seen k 4 (upd L 100 2) σ) else (x_seen k 3 L σ)) else none
  | k + 1, 3, L, σ => x_seen k 4 (upd L 100 0) σ
  | k + 1, 4, L, σ => ob (x_good k 0 (upd (fun _ => 0) 1 ((L 100))) σ) (fun r1 => if r1.1 = 0 then (some (0, r1.2)) else (x_seen k 5 L r1.2))
  | k + 1, 5, L, σ => if ((L 2)) = 0 then (if ¬ (((L 1)) < 0 ∨ 8 ≤ ((L 1)).toNatClampNeg) then (x_seen k 8 (upd L 100 ((σ.2.2 36 ((L 1)).toNatClampNeg))) σ) else none) else (x_seen k 6 L σ)
  | k + 1, 6, L, σ => if ((L 2)) = 1 then (if ¬ (((L 1)) < 0 ∨ 8 ≤ ((L 1)).toNatClampNeg) then (x_seen k 8 (upd L 100 ((σ.2.2 37 ((L 1)).toNatClampNeg))) σ) else none) else (x_seen k 7 L σ)
  | k + 1, 7, L, σ => if ¬ (((L 1)) < 0 ∨ 8 ≤ ((L 1)).toNatClampNeg) then (x_seen k 8 (upd L 100 ((σ.2.2 38 ((L 1)).toNatClampNeg))) σ) else none
  | k + 1, 8, L, σ => ob (x_show k 0 (upd (fun _ => 0) 1 ((L 100))) σ) (fun r1 => some (r1.1, r1.2))
  | _ + 1, _ + 9, _, _ => none
def o_x_seen : List Cond := [.fieldLink RX12 1029 "SetHouseModel" "views" "I", .fieldLink RX12 1006 "SetHouseModel" "viewed" "[Z", .methodLink RX12 1050 yX12_good, .instanceMethod yX12_good, .selects RX12 yX12_good yX12_good, .initialized RX12, .fieldLink RX12 417 "SetHouseModel" "viewValue" "[I", .fieldLink RX12 420 "SetHouseModel" "viewCame" "[I", .fieldLink RX12 423 "SetHouseModel" "viewWent" "[I", .methodLink RX12 1071 yX12_show, .instanceMethod yX12_show, .selects RX12 yX12_show yX12_show]
theorem o_x_seen_good : o_x_seen.all goodWord = true := by decide +kernel
def p_x_seen : List Cond := o_x_seen ++ ((.code yX12_good cX12_good 2 (some .boolean) :: p_x_good) ++ ((.code yX12_show cX12_show 3 (some .int) :: p_x_show) ++ []))
theorem p_x_seen_good : p_x_seen.all goodWord = true := nb_all2 o_x_seen_good (nb_all2 (nb_allc (by decide +kernel) p_x_good_good) (nb_all2 (nb_allc (by decide +kernel) p_x_show_good) rfl))
def w_x_seen : List Cond := .code yX12_seen cX12_seen 3 (some .int) :: (p_x_seen ++ fM)
theorem w_x_seen_good : w_x_seen.all goodWord = true := nb_allc (by decide +kernel) (nb_all2 p_x_seen_good fM_good)
theorem in_x_seen : ∀ w ∈ wsX120, w ∈ w_x_seen := fun _ h => List.mem_cons_of_mem _ (List.mem_append_right _ h)
theorem hd_x_seen : yX12_seen.cls = RX12 ∧ yX12_seen.cls ≠ "java/lang/invoke/MethodHandle" ∧ yX12_seen.cls ≠ "java/lang/invoke/VarHandle" ∧ (parseMethodDescriptor yX12_seen.desc).map (fun d => d.parameters.length) = some 2 := by decide +kernel
theorem gg_x_seen_good : GoodIn w_x_seen w_x_good := goodIn_sub (fun w h => (List.mem_cons.mp h).elim (fun e => (List.mem_cons_of_mem _ (List.mem_append_left _ (List.mem_append_right _ (List.mem_append_left _ (List.mem_cons.mpr (Or.inl e))))))) (fun h => (List.mem_append.mp h).elim (fun h => (List.mem_cons_of_mem _ (List.mem_append_left _ (List.mem_append_right _ (List.mem_append_left _ (List.mem_cons_of_mem _ h)))))) (fun h => List.mem_cons_of_mem _ (List.mem_append_right _ h)))) w_x_good_good
theorem g_x_seen_good_1050 : GoodIn w_x_seen (wsV RX12 1050 RX12 yX12_good w_x_good) := goodIn_app (nb_g4 (List.mem_cons_of_mem _ (List.mem_append_left _ (List.mem_append_left _ (List.mem_of_getElem? (i := 2) rfl)))) (List.mem_cons_of_mem _ (List.mem_append_left _ (List.mem_append_left _ (List.mem_of_getElem? (i := 3) rfl)))) (List.mem_cons_of_mem _ (List.mem_append_left _ (List.mem_append_left _ (List.mem_of_getElem? (i := 4) rfl)))) (List.mem_cons_of_mem _ (List.mem_append_left _ (List.mem_append_left _ (List.mem_of_getElem? (i := 5) rfl)))) (by decide +kernel)) gg_x_seen_good
theorem gg_x_seen_show : GoodIn w_x_seen w_x_show := goodIn_sub (fun w h => (List.mem_cons.mp h).elim (fun e => (List.mem_cons_of_mem _ (List.mem_append_left _ (List.mem_append_right _ (List.mem_append_right _ (List.mem_append_left _ (List.mem_cons.mpr (Or.inl e)))))))) (fun h => (List.mem_append.mp h).elim (fun h => (List.mem_cons_of_mem _ (List.mem_append_left _ (List.mem_append_right _ (List.mem_append_right _ (List.mem_append_left _ (List.mem_cons_of_mem _ h))))))) (fun h => List.mem_cons_of_mem _ (List.mem_append_right _ h)))) w_x_show_good
theorem g_x_seen_show_1071 : GoodIn w_x_seen (wsV RX12 1071 RX12 yX12_show w_x_show) := goodIn_app (nb_g4 (List.mem_cons_of_mem _ (List.mem_append_left _ (List.mem_append_left _ (List.mem_of_getElem? (i := 9) rfl)))) (List.mem_cons_of_mem _ (List.mem_append_left _ (List.mem_append_left _ (List.mem_of_getElem? (i := 10) rfl)))) (List.mem_cons_of_mem _ (List.mem_append_left _ (List.mem_append_left _ (List.mem_of_getElem? (i := 11) rfl)))) (List.mem_cons_of_mem _ (List.mem_append_left _ (List.mem_append_left _ (List.mem_of_getElem? (i := 5) rfl)))) (by decide +kernel)) gg_x_seen_show
set_option maxHeartbeats 40000000 in
set_option maxRecDepth 100000 in
theorem c_x_seen (l : Launch) (dC : Nat → ClassId) (dI : Nat → Nat → Nat) (cy : Nat → ClassId) (a : Nat → Nat) (k0 : Nat) (L0 : Nat → Int32) (σ0 : MS) (r0 : Int32 × MS) (h0 : x_seen k0 0 L0 σ0 = some r0) (sz : Nat) : Met l yX12_seen w_x_seen ({ frames := 56, cells := 0, slots := 0, locals := 1300 }) (va_Pc [.ref (a 0), .int (L0 1), .int (L0 2)] (nIn (dC, dI) cy sz (vM cy a σ0))) (va_Qi (fun (z : Int32) (_ : Unit) => z = r0.1) (fun _ t => nOut (dC, dI) cy (va_A (vM cy a σ0) sz) (vM cy a r0.2) t) (va_A (vM cy a σ0) sz)) 0 0 (va_A (vM cy a σ0) sz) := by
  refine Met.ofW (cc := cX12_seen) (maxL := 3) (ret := (some .int)) (by decide) rfl ?_
  intro p e s m args below meth c s₁ B hml hv
  obtain ⟨rfl, hsz, hP, hK, hD0, hG⟩ := hv
  have hx := B.exec
  have hb := B.bytes
  have hr := B.returns
  have hts := atoms_spec (ws := w_x_seen) B.pre
  have hown : s.vm.findClass RX12 = some m.cls := findClass_of_methodNamed B.named
  have hlocks := B.notSynchronized
  subst hsz
  have hD := hD0.self (sz := s.heap.size)
  generalize hAe : va_A (vM cy a σ0) s.heap.size = A at hD ⊢
  have hA : ∀ q : Nat, s.heap.size ≤ q → A q := fun q h => by rw [← hAe]; exact Or.inr h
  have hS : va_S A s.heap s.heap [] := va_S.rf
  have hl := lv_entry ([.ref (a 0), .int (L0 1), .int (L0 2)]) (n := 3) (Nat.le_of_ble_eq_true rfl)
  rw [lg_entry_eq]
  generalize (lg_sl ([.ref (a 0), .int (L0 1), .int (L0 2)]) ++ List.replicate (3 - (lg_sl ([.ref (a 0), .int (L0 1), .int (L0 2)])).length) Slot.unset).toArray = ls at hl ⊢
  have hl : lv_has ls 3 [(0, .ref (a 0)), (1, .int (L0 1)), (2, .int (L0 2))] := hl
  have blk : ∀ k : Nat, (bT p l e (headSpec w_x_seen ({ frames := 56, cells := 0, slots := 0, locals := 1300 })).room s m #[.ref (a 0), .int (L0 1), .int (L0 2)] below meth c dC dI cy a A (qI dC dI cy a A below #[.ref (a 0), .int (L0 1), .int (L0 2)] s) 3 (x_seen k 0) (fun L => [(0, .ref (a 0)), (1, .int (L 1)), (2, .int (L 2))]) 0 (fun L => [])) ∧ (bT p l e (headSpec w_x_seen ({ frames := 56, cells := 0, slots := 0, locals := 1300 })).room s m #[.ref (a 0), .int (L0 1), .int (L0 2)] below meth c dC dI cy a A (qI dC dI cy a A below #[.ref (a 0), .int (L0 1), .int (L0 2)] s) 3 (x_seen k 1) (fun L => [(0, .ref (a 0)), (1, .int (L 1)), (2, .int (L 2))]) 22 (fun L => [.ref (a 0)])) ∧ (bT p l e (headSpec w_x_seen ({ frames := 56, cells := 0, slots := 0, locals := 1300 })).room s m #[.ref (a 0), .int (L0 1), .int (L0 2)] below meth c dC dI cy a A (qI dC dI cy a A below #[.ref (a 0), .int (L0 1), .int (L0 2)] s) 3 (x_seen k 2) (fun L => [(0, .ref (a 0)), (1, .int (L 1)), (2, .int (L 2))]) 26 (fun L => [.ref (a 0)])) ∧ (bT p l e (headSpec w_x_seen ({ frames := 56, cells := 0, slots := 0, locals := 1300 })).room s m #[.ref (a 0), .int (L0 1), .int (L0 2)] below meth c dC dI cy a A (qI dC dI cy a A below #[.ref (a 0), .int (L0 1), .int (L0 2)] s) 3 (x_seen k 3) (fun L => [(0, .ref (a 0)), (1, .int (L 1)), (2, .int (L 2))]) 39 (fun L => [.ref (a 0)])) ∧ (bT p l e (headSpec w_x_seen ({ frames := 56, cells := 0, slots := 0, locals := 1300 })).room s m #[.ref (a 0), .int (L0 1), .int (L0 2)] below meth c dC dI cy a A (qI dC dI cy a A below #[.ref (a 0), .int (L0 1), .int (L0 2)] s) 3 (x_seen k 4) (fun L => [(0, .ref (a 0)), (1, .int (L 1)), (2, .int (L 2))]) 40 (fun L => [.int (L 100), .ref (a 0)])) ∧ (bT p l e (headSpec w_x_seen ({ frames := 56, cells := 0, slots := 0, locals := 1300 })).room s m #[.ref (a 0), .int (L0 1), .int (L0 2)] below meth c dC dI cy a A (qI dC dI cy a A below #[.ref (a 0), .int (L0 1), .int (L0 2)] s) 3 (x_seen k 5) (fun L => [(0, .ref (a 0)), (1, .int (L 1)), (2, .int (L 2))]) 48 (fun L => [])) ∧ (bT p l e (headSpec w_x_seen ({ frames := 56, cells := 0, slots := 0, locals := 1300 })).room s m #[.ref (a 0), .int (L0 1), .int (L0 2)] below meth c dC dI cy a A (qI dC dI cy a A below #[.ref (a 0), .int (L0 1), .int (L0 2)] s) 3 (x_seen k 6) (fun L => [(0, .ref (a 0)), (1, .int (L 1)), (2, .int (L 2))]) 62 (fun L => [.ref (a 0)])) ∧ (bT p l e (headSpec w_x_seen ({ frames := 56, cells := 0, slots := 0, locals := 1300 })).room s m #[.ref (a 0), .int (L0 1), .int (L0 2)] below meth c dC dI cy a A (qI dC dI cy a A below #[.ref (a 0), .int (L0 1), .int (L0 2)] s) 3 (x_seen k 7) (fun L => [(0, .ref (a 0)), (1, .int (L 1)), (2, .int (L 2))]) 76 (fun L => [.ref (a 0)])) ∧ (bT p l e (headSpec w_x_seen ({ frames := 56, cells := 0, slots := 0, locals := 1300 })).room s m #[.ref (a 0), .int (L0 1), .int (L0 2)] below meth c dC dI cy a A (qI dC dI cy a A below #[.ref (a 0), .int (L0 1), .int (L0 2)] s) 3 (x_seen k 8) (fun L => [(0, .ref (a 0)), (1, .int (L 1)), (2, .int (L 2))]) 82 (fun L => [.int (L 100), .ref (a 0)])) := by
    intro k
    induction k with
    | zero => exact ⟨fun L σ r h => (by cases h), fun L σ r h => (by cases h), fun L σ r h => (by cases h), fun L σ r h => (by cases h), fun L σ r h => (by cases h), fun L σ r h => (by cases h), fun L σ r h => (by cases h), fun L σ r h => (by cases h), fun L σ r h => (by cases h)⟩
    | succ k ih =>
      refine ⟨?_, ?_, ?_, ?_, ?_, ?_, ?_, ?_, ?_⟩
      · intro L σ r h H locs ls hP hD hS hl
        rw [x_seen] at h
        refine lv_aload_n hx hb dX12_seen_0 rfl (lv_at hl 0 rfl) ?_
        refine lv_iload_n hx hb dX12_seen_1 rfl (lv_at hl 1 rfl) ?_
        refine lv_if_lt (tgt := 22) hx hb dX12_seen_2 (by decide) (fun c1 => ?_) (fun c1 => ?_)
        · rw [if_pos c1] at h
          exact ih.2.1 L σ r h H locs ls hP hD hS (lv_sub hl [0, 1, 2] rfl)
        · rw [if_neg c1] at h
          refine lv_iload_n hx hb dX12_seen_5 rfl (lv_at hl 1 rfl) ?_
          refine lv_aload_n hx hb dX12_seen_6 rfl (lv_at hl 0 rfl) ?_
          refine ng_73 hx hb hts in_x_seen hown hK hP (hts _ (List.mem_cons_of_mem _ (List.mem_append_left _ (List.mem_append_left _ (List.mem_of_getElem? (i := 0) rfl))))) dX12_seen_7 ?_
          refine lv_icmp_ge (tgt := 22) hx hb dX12_seen_10 (by decide) (fun c2 => ?_) (fun c2 => ?_)
          · rw [if_pos c2] at h
            exact ih.2.1 L σ r h H locs ls hP hD hS (lv_sub hl [0, 1, 2] rfl)
          · rw [if_neg c2] at h
            refine lv_iload_n hx hb dX12_seen_13 rfl (lv_at hl 2 rfl) ?_
            refine lv_if_lt (tgt := 22) hx hb dX12_seen_14 (by decide) (fun c3 => ?_) (fun c3 => ?_)
            · rw [if_pos c3] at h
              exact ih.2.1 L σ r h H locs ls hP hD hS (lv_sub hl [0, 1, 2] rfl)
            · rw [if_neg c3] at h
              refine lv_iload_n hx hb dX12_seen_17 rfl (lv_at hl 2 rfl) ?_
              refine lv_iconst (v := 2) hx hb dX12_seen_18 (by decide) ?_
              refine lv_icmp_le (tgt := 26) hx hb dX12_seen_19 (by decide) (fun c4 => ?_) (fun c4 => ?_)
              · rw [if_pos c4] at h
                exact ih.2.2.1 L σ r h H locs ls hP hD hS (lv_sub hl [0, 1, 2] rfl)
              · rw [if_neg c4] at h
                exact ih.2.1 L σ r h H locs ls hP hD hS (lv_sub hl [0, 1, 2] rfl)
      · intro L σ r h H locs ls hP hD hS hl
        rw [x_seen] at h
        refine lv_iconst (v := 1) hx hb dX12_seen_22 (by decide) ?_
        refine lv_goto (tgt := 40) hx hb dX12_seen_23 (by decide) ?_
        exact ih.2.2.2.2.1 (upd L 100 1) σ r h H locs ls hP hD hS (lv_sub hl [0, 1, 2] rfl)
      · intro L σ r h H locs ls hP hD hS hl
        rw [x_seen] at h
        refine lv_aload_n hx hb dX12_seen_26 rfl (lv_at hl 0 rfl) ?_
        refine ng_77 hx hb hts in_x_seen hown hK hP (hts _ (List.mem_cons_of_mem _ (List.mem_append_left _ (List.mem_append_left _ (List.mem_of_getElem? (i := 1) rfl))))) dX12_seen_27 ?_
        refine lv_iload_n hx hb dX12_seen_30 rfl (lv_at hl 1 rfl) ?_
        obtain ⟨q1, h⟩ := nb_ite1 h
        refine nl_39 hx hb hK hP q1 dX12_seen_31 ?_
        refine lv_if_ne (tgt := 39) hx hb dX12_seen_32 (by decide) (fun c2 => ?_) (fun c2 => ?_)
        · rw [if_neg c2] at h
          exact ih.2.2.2.1 L σ r h H locs ls hP hD hS (lv_sub hl [0, 1, 2] rfl)
        · rw [if_pos c2] at h
          refine lv_iconst (v := 2) hx hb dX12_seen_35 (by decide) ?_
          refine lv_goto (tgt := 40) hx hb dX12_seen_36 (by decide) ?_
          exact ih.2.2.2.2.1 (upd L 100 2) σ r h H locs ls hP hD hS (lv_sub hl [0, 1, 2] rfl)
      · intro L σ r h H locs ls hP hD hS hl
        rw [x_seen] at h
        refine lv_iconst (v := 0) hx hb dX12_seen_39 (by decide) ?_
        exact ih.2.2.2.2.1 (upd L 100 0) σ r h H locs ls hP hD hS (lv_sub hl [0, 1, 2] rfl)
      · intro L σ r h H locs ls hP hD hS hl
        rw [x_seen] at h
        obtain ⟨r1, hc1, h⟩ := ob_ex h
        refine nc_Vi (As := [.int (L 100)]) (rest := []) ⟨hx, hb, hml, hown, hts⟩ (c_x_good l dC dI cy a k (upd (fun _ => 0) 1 ((L 100))) σ r1 hc1 H.size) (cwV 1 hts g_x_seen_good_1050 rfl rfl rfl hd_x_good ⟨Nat.le_of_ble_eq_true rfl, Nat.le_of_ble_eq_true rfl⟩) hK hG hA hP hD hS rfl hl.1 rfl (Nat.le_of_ble_eq_true rfl) dX12_seen_40 ⟨Nat.le_refl _, Nat.le_refl _⟩ (fun H locs hP hD hS => ?_)
        refine lv_if_ne (tgt := 48) hx hb dX12_seen_43 (by decide) (fun c2 => ?_) (fun c2 => ?_)
        · rw [if_neg c2] at h
          exact ih.2.2.2.2.2.1 L r1.2 r h H locs ls hP hD hS (lv_sub hl [0, 1, 2] rfl)
        · rw [if_pos c2] at h
          refine lv_iconst (v := 0) hx hb dX12_seen_46 (by decide) ?_
          cases h
          exact W.iret (v := 0) hx hb hr (fun t ht hW => ⟨⟨0, (), rfl, rfl, by rw [ht]; exact hP, va_K.moved hW.alike hK, hD⟩, hS.F ht⟩) hS.2.2 dX12_seen_47
      · intro L σ r h H locs ls hP hD hS hl
        rw [x_seen] at h
        refine lv_aload_n hx hb dX12_seen_48 rfl (lv_at hl 0 rfl) ?_
        refine lv_iload_n hx hb dX12_seen_49 rfl (lv_at hl 2 rfl) ?_
        refine lv_if_ne (tgt := 62) hx hb dX12_seen_50 (by decide) (fun c1 => ?_) (fun c1 => ?_)
        · rw [if_neg c1] at h
          exact ih.2.2.2.2.2.2.1 L σ r h H locs ls hP hD hS (lv_sub hl [0, 1, 2] rfl)
        · rw [if_pos c1] at h
          refine lv_aload_n hx hb dX12_seen_53 rfl (lv_at hl 0 rfl) ?_
          refine ng_74 hx hb hts in_x_seen hown hK hP (hts _ (List.mem_cons_of_mem _ (List.mem_append_left _ (List.mem_append_left _ (List.mem_of_getElem? (i := 6) rfl))))) dX12_seen_54 ?_
          refine lv_iload_n hx hb dX12_seen_57 rfl (lv_at hl 1 rfl) ?_
          obtain ⟨q2, h⟩ := nb_ite1 h
          refine nl_36 hx hb hK hP q2 dX12_seen_58 ?_
          refine lv_goto (tgt := 82) hx hb dX12_seen_59 (by decide) ?_
          exact ih.2.2.2.2.2.2.2.2 (upd L 100 ((σ.2.2 36 ((L 1)).toNatClampNeg))) σ r h H locs ls hP hD hS (lv_sub hl [0, 1, 2] rfl)
      · intro L σ r h H locs ls hP hD hS hl
        rw [x_seen] at h
        refine lv_iload_n hx hb dX12_seen_62 rfl (lv_at hl 2 rfl) ?_
        refine lv_iconst (v := 1) hx hb dX12_seen_63 (by decide) ?_
        refine lv_icmp_ne (tgt := 76) hx hb dX12_seen_64 (by decide) (fun c1 => ?_) (fun c1 => ?_)
        · rw [if_neg c1] at h
          exact ih.2.2.2.2.2.2.2.1 L σ r h H locs ls hP hD hS (lv_sub hl [0, 1, 2] rfl)
        · rw [if_pos c1] at h
          refine lv_aload_n hx hb dX12_seen_67 rfl (lv_at hl 0 rfl) ?_
          refine ng_75 hx hb hts in_x_seen hown hK hP (hts _ (List.mem_cons_of_mem _ (List.mem_append_left _ (List.mem_append_left _ (List.mem_of_getElem? (i := 7) rfl))))) dX12_seen_68 ?_
          refine lv_iload_n hx hb dX12_seen_71 rfl (lv_at hl 1 rfl) ?_
          obtain ⟨q2, h⟩ := nb_ite1 h
          refine nl_37 hx hb hK hP q2 dX12_seen_72 ?_
          refine lv_goto (tgt := 82) hx hb dX12_seen_73 (by decide) ?_
          exact ih.2.2.2.2.2.2.2.2 (upd L 100 ((σ.2.2 37 ((L 1)).toNatClampNeg))) σ r h H locs ls hP hD hS (lv_sub hl [0, 1, 2] rfl)
      · intro L σ r h H locs ls hP hD hS hl
        rw [x_seen] at h
        refine lv_aload_n hx hb dX12_seen_76 rfl (lv_at hl 0 rfl) ?_
        refine ng_76 hx hb hts in_x_seen hown hK hP (hts _ (List.mem_cons_of_mem _ (List.mem_append_left _ (List.mem_append_left _ (List.mem_of_getElem? (i := 8) rfl))))) dX12_seen_77 ?_
        refine lv_iload_n hx hb dX12_seen_80 rfl (lv_at hl 1 rfl) ?_
        obtain ⟨q1, h⟩ := nb_ite1 h
        refine nl_38 hx hb hK hP q1 dX12_seen_81 ?_
        exact ih.2.2.2.2.2.2.2.2 (upd L 100 ((σ.2.2 38 ((L 1)).toNatClampNeg))) σ r h H locs ls hP hD hS (lv_sub hl [0, 1, 2] rfl)
      · intro L σ r h H locs ls hP hD hS hl
        rw [x_seen] at h
        obtain ⟨r1, hc1, h⟩ := ob_ex h
        refine nc_Vi (As := [.int (L 100)]) (rest := []) ⟨hx, hb, hml, hown, hts⟩ (c_x_show l dC dI cy a k (upd (fun _ => 0) 1 ((L 100))) σ r1 hc1 H.size) (cwV 1 hts g_x_seen_show_1071 rfl rfl rfl hd_x_show ⟨Nat.le_of_ble_eq_true rfl, Nat.le_of_ble_eq_true rfl⟩) hK hG hA hP hD hS rfl hl.1 rfl (Nat.le_of_ble_eq_true rfl) dX12_seen_82 ⟨Nat.le_refl _, Nat.le_refl _⟩ (fun H locs hP hD hS => ?_)
        cases h
        exact W.iret (v := r1.1) hx hb hr (fun t ht hW => ⟨⟨r1.1, (), rfl, rfl, by rw [ht]; exact hP, va_K.moved hW.alike hK, hD⟩, hS.F ht⟩) hS.2.2 dX12_seen_85
  exact (blk k0).1 L0 σ0 r0 h0 s.heap [] ls hP hD hS hl
/-! shown -/
def x_shown : Nat → Nat → (Nat → Int32) → MS → Option (Int32 × MS)
  | 0, _, _, _ => none
  | k + 1, 0, L, σ => if ((L 1)) < 0 then (x_shown k 1 L σ) else (if ((L 1)) < ((σ.1 120)) then (x_shown k 2 L σ) else (x_shown k 1 L σ))
  | k + 1, 1, L, σ => x_shown k 3 (upd L 100 1) σ
  | k + 1, 2, L, σ => x_shown k 3 (upd L 100 0) σ
  | k + 1, 3, L, σ => ob (x_good k 0 (upd (fun _ => 0) 1 ((L 100))) σ) (fun r1 => if r1.1 = 0 then (x_shown k 4 L r1.2) else (if ¬ (((L 1)) < 0 ∨ 12000 ≤ ((L 1)).toNatClampNeg) then (x_shown k 5 (upd L 100 ((r1.2.2.2 57 ((L 1)).toNatClampNeg))) r1.2) else none))
  | k + 1, 4, L, σ => x_shown k 5 (upd L 100 0) σ
  | k + 1, 5, L, σ => some ((L 100), σ)
  | _ + 1, _ + 6, _, _ => none
def o_x_shown : List Cond := [.fieldLink RX12 1038 "SetHouseModel" "shownSize" "I", .methodLink RX12 1050 yX12_good, .instanceMethod yX12_good, .selects RX12 yX12_good yX12_good, .initialized RX12, .fieldLink RX12 1023 "SetHouseModel" "shownText" "[I"]
theorem o_x_shown_good : o_x_shown.all goodWord = true := by decide +kernel
def p_x_shown : List Cond := o_x_shown ++ ((.code yX12_good cX12_good 2 (some .boolean) :: p_x_good) ++ [])
theorem p_x_shown_good : p_x_shown.all goodWord = true := nb_all2 o_x_shown_good (nb_all2 (nb_allc (by decide +kernel) p_x_good_good) rfl)
def w_x_shown : List Cond := .code yX12_shown cX12_shown 2 (some .int) :: (p_x_shown ++ fM)
theorem w_x_shown_good : w_x_shown.all goodWord = true := nb_allc (by decide +kernel) (nb_all2 p_x_shown_good fM_good)
theorem in_x_shown : ∀ w ∈ wsX120, w ∈ w_x_shown := fun _ h => List.mem_cons_of_mem _ (List.mem_append_right _ h)
theorem hd_x_shown : yX12_shown.cls = RX12 ∧ yX12_shown.cls ≠ "java/lang/invoke/MethodHandle" ∧ yX12_shown.cls ≠ "java/lang/invoke/VarHandle" ∧ (parseMethodDescriptor yX12_shown.desc).map (fun d => d.parameters.length) = some 1 := by decide +kernel
theorem gg_x_shown_good : GoodIn w_x_shown w_x_good := goodIn_sub (fun w h => (List.mem_cons.mp h).elim (fun e => (List.mem_cons_of_mem _ (List.mem_append_left _ (List.mem_append_right _ (List.mem_append_left _ (List.mem_cons.mpr (Or.inl e))))))) (fun h => (List.mem_append.mp h).elim (fun h => (List.mem_cons_of_mem _ (List.mem_append_left _ (List.mem_append_right _ (List.mem_append_left _ (List.mem_cons_of_mem _ h)))))) (fun h => List.mem_cons_of_mem _ (List.mem_append_right _ h)))) w_x_good_good
theorem g_x_shown_good_1050 : GoodIn w_x_shown (wsV RX12 1050 RX12 yX12_good w_x_good) := goodIn_app (nb_g4 (List.mem_cons_of_mem _ (List.mem_append_left _ (List.mem_append_left _ (List.mem_of_getElem? (i := 1) rfl)))) (List.mem_cons_of_mem _ (List.mem_append_left _ (List.mem_append_left _ (List.mem_of_getElem? (i := 2) rfl)))) (List.mem_cons_of_mem _ (List.mem_append_left _ (List.mem_append_left _ (List.mem_of_getElem? (i := 3) rfl)))) (List.mem_cons_of_mem _ (List.mem_append_left _ (List.mem_append_left _ (List.mem_of_getElem? (i := 4) rfl)))) (by decide +kernel)) gg_x_shown_good
set_option maxHeartbeats 40000000 in
set_option maxRecDepth 100000 in
theorem c_x_shown (l : Launch) (dC : Nat → ClassId) (dI : Nat → Nat → Nat) (cy : Nat → ClassId) (a : Nat → Nat) (k0 : Nat) (L0 : Nat → Int32) (σ0 : MS) (r0 : Int32 × MS) (h0 : x_shown k0 0 L0 σ0 = some r0) (sz : Nat) : Met l yX12_shown w_x_shown ({ frames := 1, cells := 0, slots := 0, locals := 21 }) (va_Pc [.ref (a 0), .int (L0 1)] (nIn (dC, dI) cy sz (vM cy a σ0))) (va_Qi (fun (z : Int32) (_ : Unit) => z = r0.1) (fun _ t => nOut (dC, dI) cy (va_A (vM cy a σ0) sz) (vM cy a r0.2) t) (va_A (vM cy a σ0) sz)) 0 0 (va_A (vM cy a σ0) sz) := by
  refine Met.ofW (cc := cX12_shown) (maxL := 2) (ret := (some .int)) (by decide) rfl ?_
  intro p e s m args below meth c s₁ B hml hv
  obtain ⟨rfl, hsz, hP, hK, hD0, hG⟩ := hv
  have hx := B.exec
  have hb := B.bytes
  have hr := B.returns
  have hts := atoms_spec (ws := w_x_shown) B.pre
  have hown : s.vm.findClass RX12 = some m.cls := findClass_of_methodNamed B.named
  have hlocks := B.notSynchronized
  subst hsz
  have hD := hD0.self (sz := s.heap.size)
  generalize hAe : va_A (vM cy a σ0) s.heap.size = A at hD ⊢
  have hA : ∀ q : Nat, s.heap.size ≤ q → A q := fun q h => by rw [← hAe]; exact Or.inr h
  have hS : va_S A s.heap s.heap [] := va_S.rf
  have hl := lv_entry ([.ref (a 0), .int (L0 1)]) (n := 2) (Nat.le_of_ble_eq_true rfl)
  rw [lg_entry_eq]
  generalize (lg_sl ([.ref (a 0), .int (L0 1)]) ++ List.replicate (2 - (lg_sl ([.ref (a 0), .int (L0 1)])).length) Slot.unset).toArray = ls at hl ⊢
  have hl : lv_has ls 2 [(0, .ref (a 0)), (1, .int (L0 1))] := hl
  have blk : ∀ k : Nat, (bT p l e (headSpec w_x_shown ({ frames := 1, cells := 0, slots := 0, locals := 21 })).room s m #[.ref (a 0), .int (L0 1)] below meth c dC dI cy a A (qI dC dI cy a A below #[.ref (a 0), .int (L0 1)] s) 2 (x_shown k 0) (fun L => [(0, .ref (a 0)), (1, .int (L 1))]) 0 (fun L => [])) ∧ (bT p l e (headSpec w_x_shown ({ frames := 1, cells := 0, slots := 0, locals := 21 })).room s m #[.ref (a 0), .int (L0 1)] below meth c dC dI cy a A (qI dC dI cy a A below #[.ref (a 0), .int (L0 1)] s) 2 (x_shown k 1) (fun L => [(0, .ref (a 0)), (1, .int (L 1))]) 13 (fun L => [.ref (a 0)])) ∧ (bT p l e (headSpec w_x_shown ({ frames := 1, cells := 0, slots := 0, locals := 21 })).room s m #[.ref (a 0), .int (L0 1)] below meth c dC dI cy a A (qI dC dI cy a A below #[.ref (a 0), .int (L0 1)] s) 2 (x_shown k 2) (fun L => [(0, .ref (a 0)), (1, .int (L 1))]) 17 (fun L => [.ref (a 0)])) ∧ (bT p l e (headSpec w_x_shown ({ frames := 1, cells := 0, slots := 0, locals := 21 })).room s m #[.ref (a 0), .int (L0 1)] below meth c dC dI cy a A (qI dC dI cy a A below #[.ref (a 0), .int (L0 1)] s) 2 (x_shown k 3) (fun L => [(0, .ref (a 0)), (1, .int (L 1))]) 18 (fun L => [.int (L 100), .ref (a 0)])) ∧ (bT p l e (headSpec w_x_shown ({ frames := 1, cells := 0, slots := 0, locals := 21 })).room s m #[.ref (a 0), .int (L0 1)] below meth c dC dI cy a A (qI dC dI cy a A below #[.ref (a 0), .int (L0 1)] s) 2 (x_shown k 4) (fun L => [(0, .ref (a 0)), (1, .int (L 1))]) 33 (fun L => [])) ∧ (bT p l e (headSpec w_x_shown ({ frames := 1, cells := 0, slots := 0, locals := 21 })).room s m #[.ref (a 0), .int (L0 1)] below meth c dC dI cy a A (qI dC dI cy a A below #[.ref (a 0), .int (L0 1)] s) 2 (x_shown k 5) (fun L => [(0, .ref (a 0)), (1, .int (L 1))]) 34 (fun L => [.int (L 100)])) := by
    intro k
    induction k with
    | zero => exact ⟨fun L σ r h => (by cases h), fun L σ r h => (by cases h), fun L σ r h => (by cases h), fun L σ r h => (by cases h), fun L σ r h => (by cases h), fun L σ r h => (by cases h)⟩
    | succ k ih =>
      refine ⟨?_, ?_, ?_, ?_, ?_, ?_⟩
      · intro L σ r h H locs ls hP hD hS hl
        rw [x_shown] at h
        refine lv_aload_n hx hb dX12_shown_0 rfl (lv_at hl 0 rfl) ?_
        refine lv_iload_n hx hb dX12_shown_1 rfl (lv_at hl 1 rfl) ?_
        refine lv_if_lt (tgt := 13) hx hb dX12_shown_2 (by decide) (fun c1 => ?_) (fun c1 => ?_)
        · rw [if_pos c1] at h
          exact ih.2.1 L σ r h H locs ls hP hD hS (lv_sub hl [0, 1] rfl)
        · rw [if_neg c1] at h
          refine lv_iload_n hx hb dX12_shown_5 rfl (lv_at hl 1 rfl) ?_
          refine lv_aload_n hx hb dX12_shown_6 rfl (lv_at hl 0 rfl) ?_
          refine ng_120 hx hb hts in_x_shown hown hK hP (hts _ (List.mem_cons_of_mem _ (List.mem_append_left _ (List.mem_append_left _ (List.mem_of_getElem? (i := 0) rfl))))) dX12_shown_7 ?_
          refine lv_icmp_lt (tgt := 17) hx hb dX12_shown_10 (by decide) (fun c2 => ?_) (fun c2 => ?_)
          · rw [if_pos c2] at h
            exact ih.2.2.1 L σ r h H locs ls hP hD hS (lv_sub hl [0, 1] rfl)
          · rw [if_neg c2] at h
            exact ih.2.1 L σ r h H locs ls hP hD hS (lv_sub hl [0, 1] rfl)
      · intro L σ r h H locs ls hP hD hS hl
        rw [x_shown] at h
        refine lv_iconst (v := 1) hx hb dX12_shown_13 (by decide) ?_
        refine lv_goto (tgt := 18) hx hb dX12_shown_14 (by decide) ?_
        exact ih.2.2.2.1 (upd L 100 1) σ r h H locs ls hP hD hS (lv_sub hl [0, 1] rfl)
      · intro L σ r h H locs ls hP hD hS hl
        rw [x_shown] at h
        refine lv_iconst (v := 0) hx hb dX12_shown_17 (by decide) ?_
        exact ih.2.2.2.1 (upd L 100 0) σ r h H locs ls hP hD hS (lv_sub hl [0, 1] rfl)
      · intro L σ r h H locs ls hP hD hS hl
        rw [x_shown] at h
        obtain ⟨r1, hc1, h⟩ := ob_ex h
        refine nc_Vi (As := [.int (L 100)]) (rest := []) ⟨hx, hb, hml, hown, hts⟩ (c_x_good l dC dI cy a k (upd (fun _ => 0) 1 ((L 100))) σ r1 hc1 H.size) (cwV 1 hts g_x_shown_good_1050 rfl rfl rfl hd_x_good ⟨Nat.le_of_ble_eq_true rfl, Nat.le_of_ble_eq_true rfl⟩) hK hG hA hP hD hS rfl hl.1 rfl (Nat.le_of_ble_eq_true rfl) dX12_shown_18 ⟨Nat.le_refl _, Nat.le_refl _⟩ (fun H locs hP hD hS => ?_)
        refine lv_if_eq (tgt := 33) hx hb dX12_shown_21 (by decide) (fun c2 => ?_) (fun c2 => ?_)
        · rw [if_pos c2] at h
          exact ih.2.2.2.2.1 L r1.2 r h H locs ls hP hD hS (lv_sub hl [0, 1] rfl)
        · rw [if_neg c2] at h
          refine lv_aload_n hx hb dX12_shown_24 rfl (lv_at hl 0 rfl) ?_
          refine ng_119 hx hb hts in_x_shown hown hK hP (hts _ (List.mem_cons_of_mem _ (List.mem_append_left _ (List.mem_append_left _ (List.mem_of_getElem? (i := 5) rfl))))) dX12_shown_25 ?_
          refine lv_iload_n hx hb dX12_shown_28 rfl (lv_at hl 1 rfl) ?_
          obtain ⟨q3, h⟩ := nb_ite1 h
          refine nl_57 hx hb hK hP q3 dX12_shown_29 ?_
          refine lv_goto (tgt := 34) hx hb dX12_shown_30 (by decide) ?_
          exact ih.2.2.2.2.2 (upd L 100 ((r1.2.2.2 57 ((L 1)).toNatClampNeg))) r1.2 r h H locs ls hP hD hS (lv_sub hl [0, 1] rfl)
      · intro L σ r h H locs ls hP hD hS hl
        rw [x_shown] at h
        refine lv_iconst (v := 0) hx hb dX12_shown_33 (by decide) ?_
        exact ih.2.2.2.2.2 (upd L 100 0) σ r h H locs ls hP hD hS (lv_sub hl [0, 1] rfl)
      · intro L σ r h H locs ls hP hD hS hl
        rw [x_shown] at h
        cases h
        exact W.iret (v := (L 100)) hx hb hr (fun t ht hW => ⟨⟨(L 100), (), rfl, rfl, by rw [ht]; exact hP, va_K.moved hW.alike hK, hD⟩, hS.F ht⟩) hS.2.2 dX12_shown_34
  exact (blk k0).1 L0 σ0 r0 h0 s.heap [] ls hP hD hS hl
/-! shape -/
def x_shape : Nat → Nat → (Nat → Int32) → MS → Option (Int32 × MS)
  | 0, _, _, _ => none
  | k + 1, 0, L, σ => if ((L 1)) < 0 then (x_shape k 1 L σ) else (if ((L 1)) ≤ 3 then (x_shape k 2 L σ) else (x_shape k 1 L σ))
  | k + 1, 1, L, σ => x_shape k 3 (upd L 100 1) σ
  | k + 1, 2, L, σ => x_shape k 3 (upd L 100 0) σ
  | k + 1, 3, L, σ => ob (x_good k 0 (upd (fun _ => 0) 1 ((L 100))) σ) (fun r1 => if r1.1 = 0 then (some (0, r1.2)) else (x_shape k 4 L r1.2))
  | k + 1, 4, L, σ => if ((L 1)) = 3 then (some ((σ.1 109), σ)) else (x_shape k 5 L σ)
  | k + 1, 5, L, σ => if ((σ.1 79)) = 0 then (some (0, σ)) else (x_shape k 6 L σ)
  | k + 1, 6, L, σ => if ¬ ((0 : Int32) < 0 ∨ 2 ≤ (0 : Int32).toNatClampNeg) then (ob (x_kind k 0 (upd (fun _ => 0) 1 ((σ.2.2 40 (0 : Int32).toNatClampNeg))) σ) (fun r2 => if ((L 1)) = 0 then (x_shape k 10 (upd (upd (upd L 2 ((σ.2.2 40 (0 : Int32).toNatClampNeg))) 3 r2.1) 100 r2.1) r2.2) else (x_shape k 7 (upd (upd L 2 ((σ.2.2 40 (0 : Int32).toNatClampNeg))) 3 r2.1) r2.2))) else none
  | k + 1, 7, L, σ => if ((L 1)) = 1 then (ob (x_size k 0 (upd (fun _ => 0) 1 ((L 2))) σ) (fun r2 => x_shape k 10 (upd L 100 r2.1) r2.2)) else (x_shape k 8 L σ)
  | k + 1, 8, L, σ => if ((L 3)) < 4 then (x_shape k 9 L σ) else (if ¬ (((((L 2)) + 1)) < 0 ∨ 1740000 ≤ ((((L 2)) + 1)).toNatClampNeg) then (x_shape k 10 (upd L 100 ((σ.2.2 28 ((((L 2)) + 1)).toNatClampNeg))) σ) else none)
  | k + 1, 9, L, σ => x_shape k 10 (upd L 100 0) σ
  | k + 1, 10, L, σ => some ((L 100), σ)
  | _ + 1, _ + 11, _, _ => none
def o_x_shape : List Cond := [.methodLink RX12 1050 yX12_good, .instanceMethod yX12_good, .selects RX12 yX12_good yX12_good, .initialized RX12, .fieldLink RX12 1035 "SetHouseModel" "workOfExp" "I", .fieldLink RX12 1032 "SetHouseModel" "shownCount" "I", .fieldLink RX12 426 "SetHouseModel" "showns" "[I", .methodLink RX12 545 yX12_kind, .instanceMethod yX12_kind, .selects RX12 yX12_kind yX12_kind, .methodLink RX12 432 yX12_size, .instanceMethod yX12_size, .selects RX12 yX12_size yX12_size, .fieldLink RX12 372 "SetHouseModel" "heap" "[I"]
theorem o_x_shape_good : o_x_shape.all goodWord = true := by decide +kernel
def p_x_shape : List Cond := o_x_shape ++ ((.code yX12_good cX12_good 2 (some .boolean) :: p_x_good) ++ ((.code yX12_kind cX12_kind 2 (some .int) :: p_x_kind) ++ ((.code yX12_size cX12_size 2 (some .int) :: p_x_size) ++ [])))
theorem p_x_shape_good : p_x_shape.all goodWord = true := nb_all2 o_x_shape_good (nb_all2 (nb_allc (by decide +kernel) p_x_good_good) (nb_all2 (nb_allc (by decide +kernel) p_x_kind_good) (nb_all2 (nb_allc (by decide +kernel) p_x_size_good) rfl)))
def w_x_shape : List Cond := .code yX12_shape cX12_shape 4 (some .int) :: (p_x_shape ++ fM)
theorem w_x_shape_good : w_x_shape.all goodWord = true := nb_allc (by decide +kernel) (nb_all2 p_x_shape_good fM_good)
theorem in_x_shape : ∀ w ∈ wsX120, w ∈ w_x_shape := fun _ h => List.mem_cons_of_mem _ (List.mem_append_right _ h)
theorem hd_x_shape : yX12_shape.cls = RX12 ∧ yX12_shape.cls ≠ "java/lang/invoke/MethodHandle" ∧ yX12_shape.cls ≠ "java/lang/invoke/VarHandle" ∧ (parseMethodDescriptor yX12_shape.desc).map (fun d => d.parameters.length) = some 1 := by decide +kernel
theorem gg_x_shape_good : GoodIn w_x_shape w_x_good := goodIn_sub (fun w h => (List.mem_cons.mp h).elim (fun e => (List.mem_cons_of_mem _ (List.mem_append_left _ (List.mem_append_right _ (List.mem_append_left _ (List.mem_cons.mpr (Or.inl e))))))) (fun h => (List.mem_append.mp h).elim (fun h => (List.mem_cons_of_mem _ (List.mem_append_left _ (List.mem_append_right _ (List.mem_append_left _ (List.mem_cons_of_mem _ h)))))) (fun h => List.mem_cons_of_mem _ (List.mem_append_right _ h)))) w_x_good_good
theorem g_x_shape_good_1050 : GoodIn w_x_shape (wsV RX12 1050 RX12 yX12_good w_x_good) := goodIn_app (nb_g4 (List.mem_cons_of_mem _ (List.mem_append_left _ (List.mem_append_left _ (List.mem_of_getElem? (i := 0) rfl)))) (List.mem_cons_of_mem _ (List.mem_append_left _ (List.mem_append_left _ (List.mem_of_getElem? (i := 1) rfl)))) (List.mem_cons_of_mem _ (List.mem_append_left _ (List.mem_append_left _ (List.mem_of_getElem? (i := 2) rfl)))) (List.mem_cons_of_mem _ (List.mem_append_left _ (List.mem_append_left _ (List.mem_of_getElem? (i := 3) rfl)))) (by decide +kernel)) gg_x_shape_good
theorem gg_x_shape_kind : GoodIn w_x_shape w_x_kind := goodIn_sub (fun w h => (List.mem_cons.mp h).elim (fun e => (List.mem_cons_of_mem _ (List.mem_append_left _ (List.mem_append_right _ (List.mem_append_right _ (List.mem_append_left _ (List.mem_cons.mpr (Or.inl e)))))))) (fun h => (List.mem_append.mp h).elim (fun h => (List.mem_cons_of_mem _ (List.mem_append_left _ (List.mem_append_right _ (List.mem_append_right _ (List.mem_append_left _ (List.mem_cons_of_mem _ h))))))) (fun h => List.mem_cons_of_mem _ (List.mem_append_right _ h)))) w_x_kind_good
theorem g_x_shape_kind_545 : GoodIn w_x_shape (wsV RX12 545 RX12 yX12_kind w_x_kind) := goodIn_app (nb_g4 (List.mem_cons_of_mem _ (List.mem_append_left _ (List.mem_append_left _ (List.mem_of_getElem? (i := 7) rfl)))) (List.mem_cons_of_mem _ (List.mem_append_left _ (List.mem_append_left _ (List.mem_of_getElem? (i := 8) rfl)))) (List.mem_cons_of_mem _ (List.mem_append_left _ (List.mem_append_left _ (List.mem_of_getElem? (i := 9) rfl)))) (List.mem_cons_of_mem _ (List.mem_append_left _ (List.mem_append_left _ (List.mem_of_getElem? (i := 3) rfl)))) (by decide +kernel)) gg_x_shape_kind
theorem gg_x_shape_size : GoodIn w_x_shape w_x_size := goodIn_sub (fun w h => (List.mem_cons.mp h).elim (fun e => (List.mem_cons_of_mem _ (List.mem_append_left _ (List.mem_append_right _ (List.mem_append_right _ (List.mem_append_right _ (List.mem_append_left _ (List.mem_cons.mpr (Or.inl e))))))))) (fun h => (List.mem_append.mp h).elim (fun h => (List.mem_cons_of_mem _ (List.mem_append_left _ (List.mem_append_right _ (List.mem_append_right _ (List.mem_append_right _ (List.mem_append_left _ (List.mem_cons_of_mem _ h)))))))) (fun h => List.mem_cons_of_mem _ (List.mem_append_right _ h)))) w_x_size_good
theorem g_x_shape_size_432 : GoodIn w_x_shape (wsV RX12 432 RX12 yX12_size w_x_size) := goodIn_app (nb_g4 (List.mem_cons_of_mem _ (List.mem_append_left _ (List.mem_append_left _ (List.mem_of_getElem? (i := 10) rfl)))) (List.mem_cons_of_mem _ (List.mem_append_left _ (List.mem_append_left _ (List.mem_of_getElem? (i := 11) rfl)))) (List.mem_cons_of_mem _ (List.mem_append_left _ (List.mem_append_left _ (List.mem_of_getElem? (i := 12) rfl)))) (List.mem_cons_of_mem _ (List.mem_append_left _ (List.mem_append_left _ (List.mem_of_getElem? (i := 3) rfl)))) (by decide +kernel)) gg_x_shape_size
set_option maxHeartbeats 40000000 in
set_option maxRecDepth 100000 in
theorem c_x_shape (l : Launch) (dC : Nat → ClassId) (dI : Nat → Nat → Nat) (cy : Nat → ClassId) (a : Nat → Nat) (k0 : Nat) (L0 : Nat → Int32) (σ0 : MS) (r0 : Int32 × MS) (h0 : x_shape k0 0 L0 σ0 = some r0) (sz : Nat) : Met l yX12_shape w_x_shape ({ frames := 1, cells := 0, slots := 0, locals := 21 }) (va_Pc [.ref (a 0), .int (L0 1)] (nIn (dC, dI) cy sz (vM cy a σ0))) (va_Qi (fun (z : Int32) (_ : Unit) => z = r0.1) (fun _ t => nOut (dC, dI) cy (va_A (vM cy a σ0) sz) (vM cy a r0.2) t) (va_A (vM cy a σ0) sz)) 0 0 (va_A (vM cy a σ0) sz) := by
  refine Met.ofW (cc := cX12_shape) (maxL := 4) (ret := (some .int)) (by decide) rfl ?_
  intro p e s m args below meth c s₁ B hml hv
  obtain ⟨rfl, hsz, hP, hK, hD0, hG⟩ := hv
  have hx := B.exec
  have hb := B.bytes
  have hr := B.returns
  have hts := atoms_spec (ws := w_x_shape) B.pre
  have hown : s.vm.findClass RX12 = some m.cls := findClass_of_methodNamed B.named
  have hlocks := B.notSynchronized
  subst hsz
  have hD := hD0.self (sz := s.heap.size)
  generalize hAe : va_A (vM cy a σ0) s.heap.size = A at hD ⊢
  have hA : ∀ q : Nat, s.heap.size ≤ q → A q := fun q h => by rw [← hAe]; exact Or.inr h
  have hS : va_S A s.heap s.heap [] := va_S.rf
  have hl := lv_entry ([.ref (a 0), .int (L0 1)]) (n := 4) (Nat.le_of_ble_eq_true rfl)
  rw [lg_entry_eq]
  generalize (lg_sl ([.ref (a 0), .int (L0 1)]) ++ List.replicate (4 - (lg_sl ([.ref (a 0), .int (L0 1)])).length) Slot.unset).toArray = ls at hl ⊢
  have hl : lv_has ls 4 [(0, .ref (a 0)), (1, .int (L0 1))] := hl
  have blk : ∀ k : Nat, (bT p l e (headSpec w_x_shape ({ frames := 1, cells := 0, slots := 0, locals := 21 })).room s m #[.ref (a 0), .int (L0 1)] below meth c dC dI cy a A (qI dC dI cy a A below #[.ref (a 0), .int (L0 1)] s) 4 (x_shape k 0) (fun L => [(0, .ref (a 0)), (1, .int (L 1))]) 0 (fun L => [])) ∧ (bT p l e (headSpec w_x_shape ({ frames := 1, cells := 0, slots := 0, locals := 21 })).room s m #[.ref (a 0), .int (L0 1)] below meth c dC dI cy a A (qI dC dI cy a A below #[.ref (a 0), .int (L0 1)] s) 4 (x_shape k 1) (fun L => [(0, .ref (a 0)), (1, .int (L 1))]) 10 (fun L => [.ref (a 0)])) ∧ (bT p l e (headSpec w_x_shape ({ frames := 1, cells := 0, slots := 0, locals := 21 })).room s m #[.ref (a 0), .int (L0 1)] below meth c dC dI cy a A (qI dC dI cy a A below #[.ref (a 0), .int (L0 1)] s) 4 (x_shape k 2) (fun L => [(0, .ref (a 0)), (1, .int (L 1))]) 14 (fun L => [.ref (a 0)])) ∧ (bT p l e (headSpec w_x_shape ({ frames := 1, cells := 0, slots := 0, locals := 21 })).room s m #[.ref (a 0), .int (L0 1)] below meth c dC dI cy a A (qI dC dI cy a A below #[.ref (a 0), .int (L0 1)] s) 4 (x_shape k 3) (fun L => [(0, .ref (a 0)), (1, .int (L 1))]) 15 (fun L => [.int (L 100), .ref (a 0)])) ∧ (bT p l e (headSpec w_x_shape ({ frames := 1, cells := 0, slots := 0, locals := 21 })).room s m #[.ref (a 0), .int (L0 1)] below meth c dC dI cy a A (qI dC dI cy a A below #[.ref (a 0), .int (L0 1)] s) 4 (x_shape k 4) (fun L => [(0, .ref (a 0)), (1, .int (L 1))]) 23 (fun L => [])) ∧ (bT p l e (headSpec w_x_shape ({ frames := 1, cells := 0, slots := 0, locals := 21 })).room s m #[.ref (a 0), .int (L0 1)] below meth c dC dI cy a A (qI dC dI cy a A below #[.ref (a 0), .int (L0 1)] s) 4 (x_shape k 5) (fun L => [(0, .ref (a 0)), (1, .int (L 1))]) 33 (fun L => [])) ∧ (bT p l e (headSpec w_x_shape ({ frames := 1, cells := 0, slots := 0, locals := 21 })).room s m #[.ref (a 0), .int (L0 1)] below meth c dC dI cy a A (qI dC dI cy a A below #[.ref (a 0), .int (L0 1)] s) 4 (x_shape k 6) (fun L => [(0, .ref (a 0)), (1, .int (L 1))]) 42 (fun L => [])) ∧ (bT p l e (headSpec w_x_shape ({ frames := 1, cells := 0, slots := 0, locals := 21 })).room s m #[.ref (a 0), .int (L0 1)] below meth c dC dI cy a A (qI dC dI cy a A below #[.ref (a 0), .int (L0 1)] s) 4 (x_shape k 7) (fun L => [(0, .ref (a 0)), (1, .int (L 1)), (2, .int (L 2)), (3, .int (L 3))]) 63 (fun L => [])) ∧ (bT p l e (headSpec w_x_shape ({ frames := 1, cells := 0, slots := 0, locals := 21 })).room s m #[.ref (a 0), .int (L0 1)] below meth c dC dI cy a A (qI dC dI cy a A below #[.ref (a 0), .int (L0 1)] s) 4 (x_shape k 8) (fun L => [(0, .ref (a 0)), (1, .int (L 1)), (2, .int (L 2)), (3, .int (L 3))]) 76 (fun L => [])) ∧ (bT p l e (headSpec w_x_shape ({ frames := 1, cells := 0, slots := 0, locals := 21 })).room s m #[.ref (a 0), .int (L0 1)] below meth c dC dI cy a A (qI dC dI cy a A below #[.ref (a 0), .int (L0 1)] s) 4 (x_shape k 9) (fun L => [(0, .ref (a 0)), (1, .int (L 1)), (2, .int (L 2)), (3, .int (L 3))]) 92 (fun L => [])) ∧ (bT p l e (headSpec w_x_shape ({ frames := 1, cells := 0, slots := 0, locals := 21 })).room s m #[.ref (a 0), .int (L0 1)] below meth c dC dI cy a A (qI dC dI cy a A below #[.ref (a 0), .int (L0 1)] s) 4 (x_shape k 10) (fun L => [(0, .ref (a 0)), (1, .int (L 1)), (2, .int (L 2)), (3, .int (L 3))]) 93 (fun L => [.int (L 100)])) := by
    intro k
    induction k with
    | zero => exact ⟨fun L σ r h => (by cases h), fun L σ r h => (by cases h), fun L σ r h => (by cases h), fun L σ r h => (by cases h), fun L σ r h => (by cases h), fun L σ r h => (by cases h), fun L σ r h => (by cases h), fun L σ r h => (by cases h), fun L σ r h => (by cases h), fun L σ r h => (by cases h), fun L σ r h => (by cases h)⟩
    | succ k ih =>
      refine ⟨?_, ?_, ?_, ?_, ?_, ?_, ?_, ?_, ?_, ?_, ?_⟩
      · intro L σ r h H locs ls hP hD hS hl
        rw [x_shape] at h
        refine lv_aload_n hx hb dX12_shape_0 rfl (lv_at hl 0 rfl) ?_
        refine lv_iload_n hx hb dX12_shape_1 rfl (lv_at hl 1 rfl) ?_
        refine lv_if_lt (tgt := 10) hx hb dX12_shape_2 (by decide) (fun c1 => ?_) (fun c1 => ?_)
        · rw [if_pos c1] at h
          exact ih.2.1 L σ r h H locs ls hP hD hS (lv_sub hl [0, 1] rfl)
        · rw [if_neg c1] at h
          refine lv_iload_n hx hb dX12_shape_5 rfl (lv_at hl 1 rfl) ?_
          refine lv_iconst (v := 3) hx hb dX12_shape_6 (by decide) ?_
          refine lv_icmp_le (tgt := 14) hx hb dX12_shape_7 (by decide) (fun c2 => ?_) (fun c2 => ?_)
          · rw [if_pos c2] at h
            exact ih.2.2.1 L σ r h H locs ls hP hD hS (lv_sub hl [0, 1] rfl)
          · rw [if_neg c2] at h
            exact ih.2.1 L σ r h H locs ls hP hD hS (lv_sub hl [0, 1] rfl)
      · intro L σ r h H locs ls hP hD hS hl
        rw [x_shape] at h
        refine lv_iconst (v := 1) hx hb dX12_shape_10 (by decide) ?_
        refine lv_goto (tgt := 15) hx hb dX12_shape_11 (by decide) ?_
        exact ih.2.2.2.1 (upd L 100 1) σ r h H locs ls hP hD hS (lv_sub hl [0, 1] rfl)
      · intro L σ r h H locs ls hP hD hS hl
        rw [x_shape] at h
        refine lv_iconst (v := 0) hx hb dX12_shape_14 (by decide) ?_
        exact ih.2.2.2.1 (upd L 100 0) σ r h H locs ls hP hD hS (lv_sub hl [0, 1] rfl)
      · intro L σ r h H locs ls hP hD hS hl
        rw [x_shape] at h
        obtain ⟨r1, hc1, h⟩ := ob_ex h
        refine nc_Vi (As := [.int (L 100)]) (rest := []) ⟨hx, hb, hml, hown, hts⟩ (c_x_good l dC dI cy a k (upd (fun _ => 0) 1 ((L 100))) σ r1 hc1 H.size) (cwV 1 hts g_x_shape_good_1050 rfl rfl rfl hd_x_good ⟨Nat.le_of_ble_eq_true rfl, Nat.le_of_ble_eq_true rfl⟩) hK hG hA hP hD hS rfl hl.1 rfl (Nat.le_of_ble_eq_true rfl) dX12_shape_15 ⟨Nat.le_refl _, Nat.le_refl _⟩ (fun H locs hP hD hS => ?_)
        refine lv_if_ne (tgt := 23) hx hb dX12_shape_18 (by decide) (fun c2 => ?_) (fun c2 => ?_)
        · rw [if_neg c2] at h
          exact ih.2.2.2.2.1 L r1.2 r h H locs ls hP hD hS (lv_sub hl [0, 1] rfl)
        · rw [if_pos c2] at h
          refine lv_iconst (v := 0) hx hb dX12_shape_21 (by decide) ?_
          cases h
          exact W.iret (v := 0) hx hb hr (fun t ht hW => ⟨⟨0, (), rfl, rfl, by rw [ht]; exact hP, va_K.moved hW.alike hK, hD⟩, hS.F ht⟩) hS.2.2 dX12_shape_22
      · intro L σ r h H locs ls hP hD hS hl
        rw [x_shape] at h
        refine lv_iload_n hx hb dX12_shape_23 rfl (lv_at hl 1 rfl) ?_
        refine lv_iconst (v := 3) hx hb dX12_shape_24 (by decide) ?_
        refine lv_icmp_ne (tgt := 33) hx hb dX12_shape_25 (by decide) (fun c1 => ?_) (fun c1 => ?_)
        · rw [if_neg c1] at h
          exact ih.2.2.2.2.2.1 L σ r h H locs ls hP hD hS (lv_sub hl [0, 1] rfl)
        · rw [if_pos c1] at h
          refine lv_aload_n hx hb dX12_shape_28 rfl (lv_at hl 0 rfl) ?_
          refine ng_109 hx hb hts in_x_shape hown hK hP (hts _ (List.mem_cons_of_mem _ (List.mem_append_left _ (List.mem_append_left _ (List.mem_of_getElem? (i := 4) rfl))))) dX12_shape_29 ?_
          cases h
          exact W.iret (v := (σ.1 109)) hx hb hr (fun t ht hW => ⟨⟨(σ.1 109), (), rfl, rfl, by rw [ht]; exact hP, va_K.moved hW.alike hK, hD⟩, hS.F ht⟩) hS.2.2 dX12_shape_32
      · intro L σ r h H locs ls hP hD hS hl
        rw [x_shape] at h
        refine lv_aload_n hx hb dX12_shape_33 rfl (lv_at hl 0 rfl) ?_
        refine ng_79 hx hb hts in_x_shape hown hK hP (hts _ (List.mem_cons_of_mem _ (List.mem_append_left _ (List.mem_append_left _ (List.mem_of_getElem? (i := 5) rfl))))) dX12_shape_34 ?_
        refine lv_if_ne (tgt := 42) hx hb dX12_shape_37 (by decide) (fun c1 => ?_) (fun c1 => ?_)
        · rw [if_neg c1] at h
          exact ih.2.2.2.2.2.2.1 L σ r h H locs ls hP hD hS (lv_sub hl [0, 1] rfl)
        · rw [if_pos c1] at h
          refine lv_iconst (v := 0) hx hb dX12_shape_40 (by decide) ?_
          cases h
          exact W.iret (v := 0) hx hb hr (fun t ht hW => ⟨⟨0, (), rfl, rfl, by rw [ht]; exact hP, va_K.moved hW.alike hK, hD⟩, hS.F ht⟩) hS.2.2 dX12_shape_41
      · intro L σ r h H locs ls hP hD hS hl
        rw [x_shape] at h
        refine lv_aload_n hx hb dX12_shape_42 rfl (lv_at hl 0 rfl) ?_
        refine ng_78 hx hb hts in_x_shape hown hK hP (hts _ (List.mem_cons_of_mem _ (List.mem_append_left _ (List.mem_append_left _ (List.mem_of_getElem? (i := 6) rfl))))) dX12_shape_43 ?_
        refine lv_iconst (v := 0) hx hb dX12_shape_46 (by decide) ?_
        obtain ⟨q1, h⟩ := nb_ite1 h
        refine nl_40 hx hb hK hP q1 dX12_shape_47 ?_
        refine lv_istore_n (lv' := [(2, .int (σ.2.2 40 (0 : Int32).toNatClampNeg)), (0, .ref (a 0)), (1, .int (L 1))]) hx hb dX12_shape_48 rfl hl (by decide) rfl (fun ls hl => ?_)
        refine lv_aload_n hx hb dX12_shape_49 rfl (lv_at hl 1 rfl) ?_
        refine lv_iload_n hx hb dX12_shape_50 rfl (lv_at hl 0 rfl) ?_
        obtain ⟨r2, hc2, h⟩ := ob_ex h
        refine nc_Vi (As := [.int (σ.2.2 40 (0 : Int32).toNatClampNeg)]) (rest := []) ⟨hx, hb, hml, hown, hts⟩ (c_x_kind l dC dI cy a k (upd (fun _ => 0) 1 ((σ.2.2 40 (0 : Int32).toNatClampNeg))) σ r2 hc2 H.size) (cwV 1 hts g_x_shape_kind_545 rfl rfl rfl hd_x_kind ⟨Nat.le_of_ble_eq_true rfl, Nat.le_of_ble_eq_true rfl⟩) hK hG hA hP hD hS rfl hl.1 rfl (Nat.le_of_ble_eq_true rfl) dX12_shape_51 ⟨Nat.le_refl _, Nat.le_refl _⟩ (fun H locs hP hD hS => ?_)
        refine lv_istore_n (lv' := [(3, .int r2.1), (2, .int (σ.2.2 40 (0 : Int32).toNatClampNeg)), (0, .ref (a 0)), (1, .int (L 1))]) hx hb dX12_shape_54 rfl hl (by decide) rfl (fun ls hl => ?_)
        refine lv_iload_n hx hb dX12_shape_55 rfl (lv_at hl 3 rfl) ?_
        refine lv_if_ne (tgt := 63) hx hb dX12_shape_56 (by decide) (fun c3 => ?_) (fun c3 => ?_)
        · rw [if_neg c3] at h
          exact ih.2.2.2.2.2.2.2.1 (upd (upd L 2 ((σ.2.2 40 (0 : Int32).toNatClampNeg))) 3 r2.1) r2.2 r h H locs ls hP hD hS (lv_sub hl [2, 3, 1, 0] rfl)
        · rw [if_pos c3] at h
          refine lv_iload_n hx hb dX12_shape_59 rfl (lv_at hl 0 rfl) ?_
          refine lv_goto (tgt := 93) hx hb dX12_shape_60 (by decide) ?_
          exact ih.2.2.2.2.2.2.2.2.2.2 (upd (upd (upd L 2 ((σ.2.2 40 (0 : Int32).toNatClampNeg))) 3 r2.1) 100 r2.1) r2.2 r h H locs ls hP hD hS (lv_sub hl [2, 3, 1, 0] rfl)
      · intro L σ r h H locs ls hP hD hS hl
        rw [x_shape] at h
        refine lv_iload_n hx hb dX12_shape_63 rfl (lv_at hl 1 rfl) ?_
        refine lv_iconst (v := 1) hx hb dX12_shape_64 (by decide) ?_
        refine lv_icmp_ne (tgt := 76) hx hb dX12_shape_65 (by decide) (fun c1 => ?_) (fun c1 => ?_)
        · rw [if_neg c1] at h
          exact ih.2.2.2.2.2.2.2.2.1 L σ r h H locs ls hP hD hS (lv_sub hl [0, 1, 2, 3] rfl)
        · rw [if_pos c1] at h
          refine lv_aload_n hx hb dX12_shape_68 rfl (lv_at hl 0 rfl) ?_
          refine lv_iload_n hx hb dX12_shape_69 rfl (lv_at hl 2 rfl) ?_
          obtain ⟨r2, hc2, h⟩ := ob_ex h
          refine nc_Vi (As := [.int (L 2)]) (rest := []) ⟨hx, hb, hml, hown, hts⟩ (c_x_size l dC dI cy a k (upd (fun _ => 0) 1 ((L 2))) σ r2 hc2 H.size) (cwV 1 hts g_x_shape_size_432 rfl rfl rfl hd_x_size ⟨Nat.le_of_ble_eq_true rfl, Nat.le_of_ble_eq_true rfl⟩) hK hG hA hP hD hS rfl hl.1 rfl (Nat.le_of_ble_eq_true rfl) dX12_shape_70 ⟨Nat.le_refl _, Nat.le_refl _⟩ (fun H locs hP hD hS => ?_)
          refine lv_goto (tgt := 93) hx hb dX12_shape_73 (by decide) ?_
          exact ih.2.2.2.2.2.2.2.2.2.2 (upd L 100 r2.1) r2.2 r h H locs ls hP hD hS (lv_sub hl [0, 1, 2, 3] rfl)
      · intro L σ r h H locs ls hP hD hS hl
        rw [x_shape] at h
        refine lv_iload_n hx hb dX12_shape_76 rfl (lv_at hl 3 rfl) ?_
        refine lv_iconst (v := 4) hx hb dX12_shape_77 (by decide) ?_
        refine lv_icmp_lt (tgt := 92) hx hb dX12_shape_78 (by decide) (fun c1 => ?_) (fun c1 => ?_)
        · rw [if_pos c1] at h
          exact ih.2.2.2.2.2.2.2.2.2.1 L σ r h H locs ls hP hD hS (lv_sub hl [0, 1, 2, 3] rfl)
        · rw [if_neg c1] at h
          refine lv_aload_n hx hb dX12_shape_81 rfl (lv_at hl 0 rfl) ?_
          refine ng_53 hx hb hts in_x_shape hown hK hP (hts _ (List.mem_cons_of_mem _ (List.mem_append_left _ (List.mem_append_left _ (List.mem_of_getElem? (i := 13) rfl))))) dX12_shape_82 ?_
          refine lv_iload_n hx hb dX12_shape_85 rfl (lv_at hl 2 rfl) ?_
          refine lv_iconst (v := 1) hx hb dX12_shape_86 (by decide) ?_
          refine lv_iadd hx hb dX12_shape_87 ?_
          obtain ⟨q2, h⟩ := nb_ite1 h
          refine nl_28 hx hb hK hP q2 dX12_shape_88 ?_
          refine lv_goto (tgt := 93) hx hb dX12_shape_89 (by decide) ?_
          exact ih.2.2.2.2.2.2.2.2.2.2 (upd L 100 ((σ.2.2 28 ((((L 2)) + 1)).toNatClampNeg))) σ r h H locs ls hP hD hS (lv_sub hl [0, 1, 2, 3] rfl)
      · intro L σ r h H locs ls hP hD hS hl
        rw [x_shape] at h
        refine lv_iconst (v := 0) hx hb dX12_shape_92 (by decide) ?_
        exact ih.2.2.2.2.2.2.2.2.2.2 (upd L 100 0) σ r h H locs ls hP hD hS (lv_sub hl [0, 1, 2, 3] rfl)
      · intro L σ r h H locs ls hP hD hS hl
        rw [x_shape] at h
        cases h
        exact W.iret (v := (L 100)) hx hb hr (fun t ht hW => ⟨⟨(L 100), (), rfl, rfl, by rw [ht]; exact hP, va_K.moved hW.alike hK, hD⟩, hS.F ht⟩) hS.2.2 dX12_shape_93
  exact (blk k0).1 L0 σ0 r0 h0 s.heap [] ls hP hD hS hl
/-! order -/
def x_order : Nat → Nat → (Nat → Int32) → MS → Option (Int32 × MS)
  | 0, _, _, _ => none
  | k + 1, 0, L, σ => x_order k 1 L (upd σ.1 2 0, σ.2.1, σ.2.2)
  | k + 1, 1, L, σ => if 2 ≤ ((σ.1 79)) then (x_order k 2 L σ) else (some (0, σ))
  | k + 1, 2, L, σ => if ¬ ((0 : Int32) < 0 ∨ 2 ≤ (0 : Int32).toNatClampNeg) then (if ¬ ((1 : Int32) < 0 ∨ 2 ≤ (1 : Int32).toNatClampNeg) then (ob (x_compare k 0 (upd (upd (fun _ => 0) 1 ((σ.2.2 40 (0 : Int32).toNatClampNeg))) 2 ((σ.2.2 40 (1 : Int32).toNatClampNeg))) σ) (fun r3 => if 0 ≤ r3.1 then (x_order k 3 (upd L 1 r3.1) r3.2) else (x_order k 5 (upd (upd L 1 r3.1) 100 ((-1))) r3.2))) else none) else none
  | k + 1, 3, L, σ => if ((L 1)) ≤ 0 then (x_order k 4 L σ) else (x_order k 5 (upd L 100 1) σ)
  | k + 1, 4, L, σ => x_order k 5 (upd L 100 0) σ
  | k + 1, 5, L, σ => some ((L 100), σ)
  | _ + 1, _ + 6, _, _ => none
def o_x_order : List Cond := [.fieldLink RX12 993 "SetHouseModel" "code" "I", .fieldLink RX12 1032 "SetHouseModel" "shownCount" "I", .fieldLink RX12 426 "SetHouseModel" "showns" "[I", .methodLink RX12 451 yX12_compare, .instanceMethod yX12_compare, .selects RX12 yX12_compare yX12_compare, .initialized RX12]
theorem o_x_order_good : o_x_order.all goodWord = true := by decide +kernel
def p_x_order : List Cond := o_x_order ++ ((.code yX12_compare cX12_compare 9 (some .int) :: p_x_GC) ++ [])
theorem p_x_order_good : p_x_order.all goodWord = true := nb_all2 o_x_order_good (nb_all2 (nb_allc (by decide +kernel) p_x_GC_good) rfl)
def w_x_order : List Cond := .code yX12_order cX12_order 2 (some .int) :: (p_x_order ++ fM)
theorem w_x_order_good : w_x_order.all goodWord = true := nb_allc (by decide +kernel) (nb_all2 p_x_order_good fM_good)
theorem in_x_order : ∀ w ∈ wsX120, w ∈ w_x_order := fun _ h => List.mem_cons_of_mem _ (List.mem_append_right _ h)
theorem hd_x_order : yX12_order.cls = RX12 ∧ yX12_order.cls ≠ "java/lang/invoke/MethodHandle" ∧ yX12_order.cls ≠ "java/lang/invoke/VarHandle" ∧ (parseMethodDescriptor yX12_order.desc).map (fun d => d.parameters.length) = some 0 := by decide +kernel
theorem gg_x_order_compare : GoodIn w_x_order w_x_compare := goodIn_sub (fun w h => (List.mem_cons.mp h).elim (fun e => (List.mem_cons_of_mem _ (List.mem_append_left _ (List.mem_append_right _ (List.mem_append_left _ (List.mem_cons.mpr (Or.inl e))))))) (fun h => (List.mem_append.mp h).elim (fun h => (List.mem_cons_of_mem _ (List.mem_append_left _ (List.mem_append_right _ (List.mem_append_left _ (List.mem_cons_of_mem _ h)))))) (fun h => List.mem_cons_of_mem _ (List.mem_append_right _ h)))) w_x_compare_good
theorem g_x_order_compare_451 : GoodIn w_x_order (wsV RX12 451 RX12 yX12_compare w_x_compare) := goodIn_app (nb_g4 (List.mem_cons_of_mem _ (List.mem_append_left _ (List.mem_append_left _ (List.mem_of_getElem? (i := 3) rfl)))) (List.mem_cons_of_mem _ (List.mem_append_left _ (List.mem_append_left _ (List.mem_of_getElem? (i := 4) rfl)))) (List.mem_cons_of_mem _ (List.mem_append_left _ (List.mem_append_left _ (List.mem_of_getElem? (i := 5) rfl)))) (List.mem_cons_of_mem _ (List.mem_append_left _ (List.mem_append_left _ (List.mem_of_getElem? (i := 6) rfl)))) (by decide +kernel)) gg_x_order_compare
set_option maxHeartbeats 40000000 in
set_option maxRecDepth 100000 in
theorem c_x_order (l : Launch) (dC : Nat → ClassId) (dI : Nat → Nat → Nat) (cy : Nat → ClassId) (a : Nat → Nat) (k0 : Nat) (L0 : Nat → Int32) (σ0 : MS) (r0 : Int32 × MS) (h0 : x_order k0 0 L0 σ0 = some r0) (sz : Nat) : Met l yX12_order w_x_order ({ frames := 43, cells := 0, slots := 0, locals := 1195 }) (va_Pc [.ref (a 0)] (nIn (dC, dI) cy sz (vM cy a σ0))) (va_Qi (fun (z : Int32) (_ : Unit) => z = r0.1) (fun _ t => nOut (dC, dI) cy (va_A (vM cy a σ0) sz) (vM cy a r0.2) t) (va_A (vM cy a σ0) sz)) 0 0 (va_A (vM cy a σ0) sz) := by
  refine Met.ofW (cc := cX12_order) (maxL := 2) (ret := (some .int)) (by decide) rfl ?_
  intro p e s m args below meth c s₁ B hml hv
  obtain ⟨rfl, hsz, hP, hK, hD0, hG⟩ := hv
  have hx := B.exec
  have hb := B.bytes
  have hr := B.returns
  have hts := atoms_spec (ws := w_x_order) B.pre
  have hown : s.vm.findClass RX12 = some m.cls := findClass_of_methodNamed B.named
  have hlocks := B.notSynchronized
  subst hsz
  have hD := hD0.self (sz := s.heap.size)
  generalize hAe : va_A (vM cy a σ0) s.heap.size = A at hD ⊢
  have hA : ∀ q : Nat, s.heap.size ≤ q → A q := fun q h => by rw [← hAe]; exact Or.inr h
  have hS : va_S A s.heap s.heap [] := va_S.rf
  have hl := lv_entry ([.ref (a 0)]) (n := 2) (Nat.le_of_ble_eq_true rfl)
  rw [lg_entry_eq]
  generalize (lg_sl ([.ref (a 0)]) ++ List.replicate (2 - (lg_sl ([.ref (a 0)])).length) Slot.unset).toArray = ls at hl ⊢
  have hl : lv_has ls 2 [(0, .ref (a 0))] := hl
  have blk : ∀ k : Nat, (bT p l e (headSpec w_x_order ({ frames := 43, cells := 0, slots := 0, locals := 1195 })).room s m #[.ref (a 0)] below meth c dC dI cy a A (qI dC dI cy a A below #[.ref (a 0)] s) 2 (x_order k 0) (fun L => [(0, .ref (a 0))]) 0 (fun L => [])) ∧ (bT p l e (headSpec w_x_order ({ frames := 43, cells := 0, slots := 0, locals := 1195 })).room s m #[.ref (a 0)] below meth c dC dI cy a A (qI dC dI cy a A below #[.ref (a 0)] s) 2 (x_order k 1) (fun L => [(0, .ref (a 0))]) 5 (fun L => [])) ∧ (bT p l e (headSpec w_x_order ({ frames := 43, cells := 0, slots := 0, locals := 1195 })).room s m #[.ref (a 0)] below meth c dC dI cy a A (qI dC dI cy a A below #[.ref (a 0)] s) 2 (x_order k 2) (fun L => [(0, .ref (a 0))]) 15 (fun L => [])) ∧ (bT p l e (headSpec w_x_order ({ frames := 43, cells := 0, slots := 0, locals := 1195 })).room s m #[.ref (a 0)] below meth c dC dI cy a A (qI dC dI cy a A below #[.ref (a 0)] s) 2 (x_order k 3) (fun L => [(0, .ref (a 0)), (1, .int (L 1))]) 40 (fun L => [])) ∧ (bT p l e (headSpec w_x_order ({ frames := 43, cells := 0, slots := 0, locals := 1195 })).room s m #[.ref (a 0)] below meth c dC dI cy a A (qI dC dI cy a A below #[.ref (a 0)] s) 2 (x_order k 4) (fun L => [(0, .ref (a 0)), (1, .int (L 1))]) 48 (fun L => [])) ∧ (bT p l e (headSpec w_x_order ({ frames := 43, cells := 0, slots := 0, locals := 1195 })).room s m #[.ref (a 0)] below meth c dC dI cy a A (qI dC dI cy a A below #[.ref (a 0)] s) 2 (x_order k 5) (fun L => [(0, .ref (a 0)), (1, .int (L 1))]) 49 (fun L => [.int (L 100)])) := by
    intro k
    induction k with
    | zero => exact ⟨fun L σ r h => (by cases h), fun L σ r h => (by cases h), fun L σ r h => (by cases h), fun L σ r h => (by cases h), fun L σ r h => (by cases h), fun L σ r h => (by cases h)⟩
    | succ k ih =>
      refine ⟨?_, ?_, ?_, ?_, ?_, ?_⟩
      · intro L σ r h H locs ls hP hD hS hl
        rw [x_order] at h
        refine lv_aload_n hx hb dX12_order_0 rfl (lv_at hl 0 rfl) ?_
        refine lv_iconst (v := 0) hx hb dX12_order_1 (by decide) ?_
        refine np_2 hx hb hts in_x_order hown hK hP hD hS (hts _ (List.mem_cons_of_mem _ (List.mem_append_left _ (List.mem_append_left _ (List.mem_of_getElem? (i := 0) rfl))))) dX12_order_2 (fun H locs hP hD hS => ?_)
        exact ih.2.1 L (upd σ.1 2 0, σ.2.1, σ.2.2) r h H locs ls hP hD hS (lv_sub hl [0] rfl)
      · intro L σ r h H locs ls hP hD hS hl
        rw [x_order] at h
        refine lv_aload_n hx hb dX12_order_5 rfl (lv_at hl 0 rfl) ?_
        refine ng_79 hx hb hts in_x_order hown hK hP (hts _ (List.mem_cons_of_mem _ (List.mem_append_left _ (List.mem_append_left _ (List.mem_of_getElem? (i := 1) rfl))))) dX12_order_6 ?_
        refine lv_iconst (v := 2) hx hb dX12_order_9 (by decide) ?_
        refine lv_icmp_ge (tgt := 15) hx hb dX12_order_10 (by decide) (fun c1 => ?_) (fun c1 => ?_)
        · rw [if_pos c1] at h
          exact ih.2.2.1 L σ r h H locs ls hP hD hS (lv_sub hl [0] rfl)
        · rw [if_neg c1] at h
          refine lv_iconst (v := 0) hx hb dX12_order_13 (by decide) ?_
          cases h
          exact W.iret (v := 0) hx hb hr (fun t ht hW => ⟨⟨0, (), rfl, rfl, by rw [ht]; exact hP, va_K.moved hW.alike hK, hD⟩, hS.F ht⟩) hS.2.2 dX12_order_14
      · intro L σ r h H locs ls hP hD hS hl
        rw [x_order] at h
        refine lv_aload_n hx hb dX12_order_15 rfl (lv_at hl 0 rfl) ?_
        refine lv_aload_n hx hb dX12_order_16 rfl (lv_at hl 0 rfl) ?_
        refine ng_78 hx hb hts in_x_order hown hK hP (hts _ (List.mem_cons_of_mem _ (List.mem_append_left _ (List.mem_append_left _ (List.mem_of_getElem? (i := 2) rfl))))) dX12_order_17 ?_
        refine lv_iconst (v := 0) hx hb dX12_order_20 (by decide) ?_
        obtain ⟨q1, h⟩ := nb_ite1 h
        refine nl_40 hx hb hK hP q1 dX12_order_21 ?_
        refine lv_aload_n hx hb dX12_order_22 rfl (lv_at hl 0 rfl) ?_
        refine ng_78 hx hb hts in_x_order hown hK hP (hts _ (List.mem_cons_of_mem _ (List.mem_append_left _ (List.mem_append_left _ (List.mem_of_getElem? (i := 2) rfl))))) dX12_order_23 ?_
        refine lv_iconst (v := 1) hx hb dX12_order_26 (by decide) ?_
        obtain ⟨q2, h⟩ := nb_ite1 h
        refine nl_40 hx hb hK hP q2 dX12_order_27 ?_
        obtain ⟨r3, hc3, h⟩ := ob_ex h
        refine nc_Vi (As := [.int (σ.2.2 40 (0 : Int32).toNatClampNeg), .int (σ.2.2 40 (1 : Int32).toNatClampNeg)]) (rest := []) ⟨hx, hb, hml, hown, hts⟩ (c_x_compare l dC dI cy a k (upd (upd (fun _ => 0) 1 ((σ.2.2 40 (0 : Int32).toNatClampNeg))) 2 ((σ.2.2 40 (1 : Int32).toNatClampNeg))) σ r3 hc3 H.size) (cwV 2 hts g_x_order_compare_451 rfl rfl rfl hd_x_compare ⟨Nat.le_of_ble_eq_true rfl, Nat.le_of_ble_eq_true rfl⟩) hK hG hA hP hD hS rfl hl.1 rfl (Nat.le_of_ble_eq_true rfl) dX12_order_28 ⟨Nat.le_refl _, Nat.le_refl _⟩ (fun H locs hP hD hS => ?_)
        refine lv_istore_n (lv' := [(1, .int r3.1), (0, .ref (a 0))]) hx hb dX12_order_31 rfl hl (by decide) rfl (fun ls hl => ?_)
        refine lv_iload_n hx hb dX12_order_32 rfl (lv_at hl 0 rfl) ?_
        refine lv_if_ge (tgt := 40) hx hb dX12_order_33 (by decide) (fun c4 => ?_) (fun c4 => ?_)
        · rw [if_pos c4] at h
          exact ih.2.2.2.1 (upd L 1 r3.1) r3.2 r h H locs ls hP hD hS (lv_sub hl [1, 0] rfl)
        · rw [if_neg c4] at h
          refine lv_iconst (v := (-1)) hx hb dX12_order_36 (by decide) ?_
          refine lv_goto (tgt := 49) hx hb dX12_order_37 (by decide) ?_
          exact ih.2.2.2.2.2 (upd (upd L 1 r3.1) 100 ((-1))) r3.2 r h H locs ls hP hD hS (lv_sub hl [1, 0] rfl)
      · intro L σ r h H locs ls hP hD hS hl
        rw [x_order] at h
        refine lv_iload_n hx hb dX12_order_40 rfl (lv_at hl 1 rfl) ?_
        refine lv_if_le (tgt := 48) hx hb dX12_order_41 (by decide) (fun c1 => ?_) (fun c1 => ?_)
        · rw [if_pos c1] at h
          exact ih.2.2.2.2.1 L σ r h H locs ls hP hD hS (lv_sub hl [0, 1] rfl)
        · rw [if_neg c1] at h
          refine lv_iconst (v := 1) hx hb dX12_order_44 (by decide) ?_
          refine lv_goto (tgt := 49) hx hb dX12_order_45 (by decide) ?_
          exact ih.2.2.2.2.2 (upd L 100 1) σ r h H locs ls hP hD hS (lv_sub hl [0, 1] rfl)
      · intro L σ r h H locs ls hP hD hS hl
        rw [x_order] at h
        refine lv_iconst (v := 0) hx hb dX12_order_48 (by decide) ?_
        exact ih.2.2.2.2.2 (upd L 100 0) σ r h H locs ls hP hD hS (lv_sub hl [0, 1] rfl)
      · intro L σ r h H locs ls hP hD hS hl
        rw [x_order] at h
        cases h
        exact W.iret (v := (L 100)) hx hb hr (fun t ht hW => ⟨⟨(L 100), (), rfl, rfl, by rw [ht]; exact hP, va_K.moved hW.alike hK, hD⟩, hS.F ht⟩) hS.2.2 dX12_order_49
  exact (blk k0).1 L0 σ0 r0 h0 s.heap [] ls hP hD hS hl
/-! count -/
def x_count : Nat → Nat → (Nat → Int32) → MS → Option (Int32 × MS)
  | 0, _, _, _ => none
  | k + 1, 0, L, σ => if ((L 1)) < 0 then (x_count k 1 L σ) else (if ((L 1)) ≤ 4 then (x_count k 2 L σ) else (x_count k 1 L σ))
  | k + 1, 1, L, σ => x_count k 3 (upd L 100 1) σ
  | k + 1, 2, L, σ => x_count k 3 (upd L 100 0) σ
  | k + 1, 3, L, σ => ob (x_good k 0 (upd (fun _ => 0) 1 ((L 100))) σ) (fun r1 => if r1.1 = 0 then (some (0, r1.2)) else (x_count k 4 L r1.2))
  | k + 1, 4, L, σ => if ((L 1)) = (0 : Int32) then (x_count k 5 L σ) else (if ((L 1)) = (1 : Int32) then (x_count k 6 L σ) else (if ((L 1)) = (2 : Int32) then (x_count k 9 L σ) else (if ((L 1)) = (3 : Int32) then (x_count k 12 L σ) else (x_count k 15 L σ))))
  | k + 1, 5, L, σ => some ((σ.1 4), σ)
  | k + 1, 6, L, σ => if ((σ.1 111)) = 0 then (x_count k 7 L σ) else (x_count k 8 (upd L 100 ((σ.1 44))) σ)
  | k + 1, 7, L, σ => x_count k 8 (upd L 100 0) σ
  | k + 1, 8, L, σ => some ((L 100), σ)
  | k + 1, 9, L, σ => if ((σ.1 111)) = 0 then (x_count k 10 L σ) else (if ¬ ((0 : Int32) < 0 ∨ 43 ≤ (0 : Int32).toNatClampNeg) then (x_count k 11 (upd L 100 ((σ.2.2 21 (0 : Int32).toNatClampNeg))) σ) else none)
  | k + 1, 10, L, σ => x_count k 11 (upd L 100 0) σ
  | k + 1, 11, L, σ => some ((L 100), σ)
  | k + 1, 12, L, σ => if ((σ.1 111)) = 0 then (x_count k 13 L σ) else (x_count k 14 (upd L 100 ((σ.1 31))) σ)
  | k + 1, 13, L, σ => x_count k 14 (upd L 100 0) σ
  | k + 1, 14, L, σ => some ((L 100), σ)
  | k + 1, 15, L, σ => some ((σ.1 73), σ)
  | _ + 1, _ + 16, _, _ => none
def o_x_count : List Cond := [.methodLink RX12 1050 yX12_good, .instanceMethod yX12_good, .selects RX12 yX12_good yX12_good, .initialized RX12, .fieldLink RX12 1 "SetHouseModel" "taped" "I", .fieldLink RX12 1041 "SetHouseModel" "isProgram" "Z", .fieldLink RX12 297 "SetHouseModel" "statements" "I", .fieldLink RX12 157 "SetHouseModel" "held" "[I", .fieldLink RX12 349 "SetHouseModel" "procs" "I", .fieldLink RX12 1029 "SetHouseModel" "views" "I"]
theorem o_x_count_good : o_x_count.all goodWord = true := by decide +kernel
def p_x_count : List Cond := o_x_count ++ ((.code yX12_good cX12_good 2 (some .boolean) :: p_x_good) ++ [])
theorem p_x_count_good : p_x_count.all goodWord = true := nb_all2 o_x_count_good (nb_all2 (nb_allc (by decide +kernel) p_x_good_good) rfl)
def w_x_count : List Cond := .code yX12_count cX12_count 2 (some .int) :: (p_x_count ++ fM)
theorem w_x_count_good : w_x_count.all goodWord = true := nb_allc (by decide +kernel) (nb_all2 p_x_count_good fM_good)
theorem in_x_count : ∀ w ∈ wsX120, w ∈ w_x_count := fun _ h => List.mem_cons_of_mem _ (List.mem_append_right _ h)
theorem hd_x_count : yX12_count.cls = RX12 ∧ yX12_count.cls ≠ "java/lang/invoke/MethodHandle" ∧ yX12_count.cls ≠ "java/lang/invoke/VarHandle" ∧ (parseMethodDescriptor yX12_count.desc).map (fun d => d.parameters.length) = some 1 := by decide +kernel
theorem gg_x_count_good : GoodIn w_x_count w_x_good := goodIn_sub (fun w h => (List.mem_cons.mp h).elim (fun e => (List.mem_cons_of_mem _ (List.mem_append_left _ (List.mem_append_right _ (List.mem_append_left _ (List.mem_cons.mpr (Or.inl e))))))) (fun h => (List.mem_append.mp h).elim (fun h => (List.mem_cons_of_mem _ (List.mem_append_left _ (List.mem_append_right _ (List.mem_append_left _ (List.mem_cons_of_mem _ h)))))) (fun h => List.mem_cons_of_mem _ (List.mem_append_right _ h)))) w_x_good_good
theorem g_x_count_good_1050 : GoodIn w_x_count (wsV RX12 1050 RX12 yX12_good w_x_good) := goodIn_app (nb_g4 (List.mem_cons_of_mem _ (List.mem_append_left _ (List.mem_append_left _ (List.mem_of_getElem? (i := 0) rfl)))) (List.mem_cons_of_mem _ (List.mem_append_left _ (List.mem_append_left _ (List.mem_of_getElem? (i := 1) rfl)))) (List.mem_cons_of_mem _ (List.mem_append_left _ (List.mem_append_left _ (List.mem_of_getElem? (i := 2) rfl)))) (List.mem_cons_of_mem _ (List.mem_append_left _ (List.mem_append_left _ (List.mem_of_getElem? (i := 3) rfl)))) (by decide +kernel)) gg_x_count_good
set_option maxHeartbeats 40000000 in
set_option maxRecDepth 100000 in
theorem c_x_count (l : Launch) (dC : Nat → ClassId) (dI : Nat → Nat → Nat) (cy : Nat → ClassId) (a : Nat → Nat) (k0 : Nat) (L0 : Nat → Int32) (σ0 : MS) (r0 : Int32 × MS) (h0 : x_count k0 0 L0 σ0 = some r0) (sz : Nat) : Met l yX12_count w_x_count ({ frames := 1, cells := 0, slots := 0, locals := 21 }) (va_Pc [.ref (a 0), .int (L0 1)] (nIn (dC, dI) cy sz (vM cy a σ0))) (va_Qi (fun (z : Int32) (_ : Unit) => z = r0.1) (fun _ t => nOut (dC, dI) cy (va_A (vM cy a σ0) sz) (vM cy a r0.2) t) (va_A (vM cy a σ0) sz)) 0 0 (va_A (vM cy a σ0) sz) := by
  refine Met.ofW (cc := cX12_count) (maxL := 2) (ret := (some .int)) (by decide) rfl ?_
  intro p e s m args below meth c s₁ B hml hv
  obtain ⟨rfl, hsz, hP, hK, hD0, hG⟩ := hv
  have hx := B.exec
  have hb := B.bytes
  have hr := B.returns
  have hts := atoms_spec (ws := w_x_count) B.pre
  have hown : s.vm.findClass RX12 = some m.cls := findClass_of_methodNamed B.named
  have hlocks := B.notSynchronized
  subst hsz
  have hD := hD0.self (sz := s.heap.size)
  generalize hAe : va_A (vM cy a σ0) s.heap.size = A at hD ⊢
  have hA : ∀ q : Nat, s.heap.size ≤ q → A q := fun q h => by rw [← hAe]; exact Or.inr h
  have hS : va_S A s.heap s.heap [] := va_S.rf
  have hl := lv_entry ([.ref (a 0), .int (L0 1)]) (n := 2) (Nat.le_of_ble_eq_true rfl)
  rw [lg_entry_eq]
  generalize (lg_sl ([.ref (a 0), .int (L0 1)]) ++ List.replicate (2 - (lg_sl ([.ref (a 0), .int (L0 1)])).length) Slot.unset).toArray = ls at hl ⊢
  have hl : lv_has ls 2 [(0, .ref (a 0)), (1, .int (L0 1))] := hl
  have blk : ∀ k : Nat, (bT p l e (headSpec w_x_count ({ frames := 1, cells := 0, slots := 0, locals := 21 })).room s m #[.ref (a 0), .int (L0 1)] below meth c dC dI cy a A (qI dC dI cy a A below #[.ref (a 0), .int (L0 1)] s) 2 (x_count k 0) (fun L => [(0, .ref (a 0)), (1, .int (L 1))]) 0 (fun L => [])) ∧ (bT p l e (headSpec w_x_count ({ frames := 1, cells := 0, slots := 0, locals := 21 })).room s m #[.ref (a 0), .int (L0 1)] below meth c dC dI cy a A (qI dC dI cy a A below #[.ref (a 0), .int (L0 1)] s) 2 (x_count k 1) (fun L => [(0, .ref (a 0)), (1, .int (L 1))]) 10 (fun L => [.ref (a 0)])) ∧ (bT p l e (headSpec w_x_count ({ frames := 1, cells := 0, slots := 0, locals := 21 })).room s m #[.ref (a 0), .int (L0 1)] below meth c dC dI cy a A (qI dC dI cy a A below #[.ref (a 0), .int (L0 1)] s) 2 (x_count k 2) (fun L => [(0, .ref (a 0)), (1, .int (L 1))]) 14 (fun L => [.ref (a 0)])) ∧ (bT p l e (headSpec w_x_count ({ frames := 1, cells := 0, slots := 0, locals := 21 })).room s m #[.ref (a 0), .int (L0 1)] below meth c dC dI cy a A (qI dC dI cy a A below #[.ref (a 0), .int (L0 1)] s) 2 (x_count k 3) (fun L => [(0, .ref (a 0)), (1, .int (L 1))]) 15 (fun L => [.int (L 100), .ref (a 0)])) ∧ (bT p l e (headSpec w_x_count ({ frames := 1, cells := 0, slots := 0, locals := 21 })).room s m #[.ref (a 0), .int (L0 1)] below meth c dC dI cy a A (qI dC dI cy a A below #[.ref (a 0), .int (L0 1)] s) 2 (x_count k 4) (fun L => [(0, .ref (a 0)), (1, .int (L 1))]) 23 (fun L => [])) ∧ (bT p l e (headSpec w_x_count ({ frames := 1, cells := 0, slots := 0, locals := 21 })).room s m #[.ref (a 0), .int (L0 1)] below meth c dC dI cy a A (qI dC dI cy a A below #[.ref (a 0), .int (L0 1)] s) 2 (x_count k 5) (fun L => [(0, .ref (a 0)), (1, .int (L 1))]) 56 (fun L => [])) ∧ (bT p l e (headSpec w_x_count ({ frames := 1, cells := 0, slots := 0, locals := 21 })).room s m #[.ref (a 0), .int (L0 1)] below meth c dC dI cy a A (qI dC dI cy a A below #[.ref (a 0), .int (L0 1)] s) 2 (x_count k 6) (fun L => [(0, .ref (a 0)), (1, .int (L 1))]) 61 (fun L => [])) ∧ (bT p l e (headSpec w_x_count ({ frames := 1, cells := 0, slots := 0, locals := 21 })).room s m #[.ref (a 0), .int (L0 1)] below meth c dC dI cy a A (qI dC dI cy a A below #[.ref (a 0), .int (L0 1)] s) 2 (x_count k 7) (fun L => [(0, .ref (a 0)), (1, .int (L 1))]) 75 (fun L => [])) ∧ (bT p l e (headSpec w_x_count ({ frames := 1, cells := 0, slots := 0, locals := 21 })).room s m #[.ref (a 0), .int (L0 1)] below meth c dC dI cy a A (qI dC dI cy a A below #[.ref (a 0), .int (L0 1)] s) 2 (x_count k 8) (fun L => [(0, .ref (a 0)), (1, .int (L 1))]) 76 (fun L => [.int (L 100)])) ∧ (bT p l e (headSpec w_x_count ({ frames := 1, cells := 0, slots := 0, locals := 21 })).room s m #[.ref (a 0), .int (L0 1)] below meth c dC dI cy a A (qI dC dI cy a A below #[.ref (a 0), .int (L0 1)] s) 2 (x_count k 9) (fun L => [(0, .ref (a 0)), (1, .int (L 1))]) 77 (fun L => [])) ∧ (bT p l e (headSpec w_x_count ({ frames := 1, cells := 0, slots := 0, locals := 21 })).room s m #[.ref (a 0), .int (L0 1)] below meth c dC dI cy a A (qI dC dI cy a A below #[.ref (a 0), .int (L0 1)] s) 2 (x_count k 10) (fun L => [(0, .ref (a 0)), (1, .int (L 1))]) 93 (fun L => [])) ∧ (bT p l e (headSpec w_x_count ({ frames := 1, cells := 0, slots := 0, locals := 21 })).room s m #[.ref (a 0), .int (L0 1)] below meth c dC dI cy a A (qI dC dI cy a A below #[.ref (a 0), .int (L0 1)] s) 2 (x_count k 11) (fun L => [(0, .ref (a 0)), (1, .int (L 1))]) 94 (fun L => [.int (L 100)])) ∧ (bT p l e (headSpec w_x_count ({ frames := 1, cells := 0, slots := 0, locals := 21 })).room s m #[.ref (a 0), .int (L0 1)] below meth c dC dI cy a A (qI dC dI cy a A below #[.ref (a 0), .int (L0 1)] s) 2 (x_count k 12) (fun L => [(0, .ref (a 0)), (1, .int (L 1))]) 95 (fun L => [])) ∧ (bT p l e (headSpec w_x_count ({ frames := 1, cells := 0, slots := 0, locals := 21 })).room s m #[.ref (a 0), .int (L0 1)] below meth c dC dI cy a A (qI dC dI cy a A below #[.ref (a 0), .int (L0 1)] s) 2 (x_count k 13) (fun L => [(0, .ref (a 0)), (1, .int (L 1))]) 109 (fun L => [])) ∧ (bT p l e (headSpec w_x_count ({ frames := 1, cells := 0, slots := 0, locals := 21 })).room s m #[.ref (a 0), .int (L0 1)] below meth c dC dI cy a A (qI dC dI cy a A below #[.ref (a 0), .int (L0 1)] s) 2 (x_count k 14) (fun L => [(0, .ref (a 0)), (1, .int (L 1))]) 110 (fun L => [.int (L 100)])) ∧ (bT p l e (headSpec w_x_count ({ frames := 1, cells := 0, slots := 0, locals := 21 })).room s m #[.ref (a 0), .int (L0 1)] below meth c dC dI cy a A (qI dC dI cy a A below #[.ref (a 0), .int (L0 1)] s) 2 (x_count k 15) (fun L => [(0, .ref (a 0)), (1, .int (L 1))]) 111 (fun L => [])) := by
    intro k
    induction k with
    | zero => exact ⟨fun L σ r h => (by cases h), fun L σ r h => (by cases h), fun L σ r h => (by cases h), fun L σ r h => (by cases h), fun L σ r h => (by cases h), fun L σ r h => (by cases h), fun L σ r h => (by cases h), fun L σ r h => (by cases h), fun L σ r h => (by cases h), fun L σ r h => (by cases h), fun L σ r h => (by cases h), fun L σ r h => (by cases h), fun L σ r h => (by cases h), fun L σ r h => (by cases h), fun L σ r h => (by cases h), fun L σ r h => (by cases h)⟩
    | succ k ih =>
      refine ⟨?_, ?_, ?_, ?_, ?_, ?_, ?_, ?_, ?_, ?_, ?_, ?_, ?_, ?_, ?_, ?_⟩
      · intro L σ r h H locs ls hP hD hS hl
        rw [x_count] at h
        refine lv_aload_n hx hb dX12_count_0 rfl (lv_at hl 0 rfl) ?_
        refine lv_iload_n hx hb dX12_count_1 rfl (lv_at hl 1 rfl) ?_
        refine lv_if_lt (tgt := 10) hx hb dX12_count_2 (by decide) (fun c1 => ?_) (fun c1 => ?_)
        · rw [if_pos c1] at h
          exact ih.2.1 L σ r h H locs ls hP hD hS (lv_sub hl [0, 1] rfl)
        · rw [if_neg c1] at h
          refine lv_iload_n hx hb dX12_count_5 rfl (lv_at hl 1 rfl) ?_
          refine lv_iconst (v := 4) hx hb dX12_count_6 (by decide) ?_
          refine lv_icmp_le (tgt := 14) hx hb dX12_count_7 (by decide) (fun c2 => ?_) (fun c2 => ?_)
          · rw [if_pos c2] at h
            exact ih.2.2.1 L σ r h H locs ls hP hD hS (lv_sub hl [0, 1] rfl)
          · rw [if_neg c2] at h
            exact ih.2.1 L σ r h H locs ls hP hD hS (lv_sub hl [0, 1] rfl)
      · intro L σ r h H locs ls hP hD hS hl
        rw [x_count] at h
        refine lv_iconst (v := 1) hx hb dX12_count_10 (by decide) ?_
        refine lv_goto (tgt := 15) hx hb dX12_count_11 (by decide) ?_
        exact ih.2.2.2.1 (upd L 100 1) σ r h H locs ls hP hD hS (lv_sub hl [0, 1] rfl)
      · intro L σ r h H locs ls hP hD hS hl
        rw [x_count] at h
        refine lv_iconst (v := 0) hx hb dX12_count_14 (by decide) ?_
        exact ih.2.2.2.1 (upd L 100 0) σ r h H locs ls hP hD hS (lv_sub hl [0, 1] rfl)
      · intro L σ r h H locs ls hP hD hS hl
        rw [x_count] at h
        obtain ⟨r1, hc1, h⟩ := ob_ex h
        refine nc_Vi (As := [.int (L 100)]) (rest := []) ⟨hx, hb, hml, hown, hts⟩ (c_x_good l dC dI cy a k (upd (fun _ => 0) 1 ((L 100))) σ r1 hc1 H.size) (cwV 1 hts g_x_count_good_1050 rfl rfl rfl hd_x_good ⟨Nat.le_of_ble_eq_true rfl, Nat.le_of_ble_eq_true rfl⟩) hK hG hA hP hD hS rfl hl.1 rfl (Nat.le_of_ble_eq_true rfl) dX12_count_15 ⟨Nat.le_refl _, Nat.le_refl _⟩ (fun H locs hP hD hS => ?_)
        refine lv_if_ne (tgt := 23) hx hb dX12_count_18 (by decide) (fun c2 => ?_) (fun c2 => ?_)
        · rw [if_neg c2] at h
          exact ih.2.2.2.2.1 L r1.2 r h H locs ls hP hD hS (lv_sub hl [0, 1] rfl)
        · rw [if_pos c2] at h
          refine lv_iconst (v := 0) hx hb dX12_count_21 (by decide) ?_
          cases h
          exact W.iret (v := 0) hx hb hr (fun t ht hW => ⟨⟨0, (), rfl, rfl, by rw [ht]; exact hP, va_K.moved hW.alike hK, hD⟩, hS.F ht⟩) hS.2.2 dX12_count_22
      · intro L σ r h H locs ls hP hD hS hl
        rw [x_count] at h
        refine lv_iload_n hx hb dX12_count_23 rfl (lv_at hl 1 rfl) ?_
        by_cases q1 : ((L 1)) = (0 : Int32)
        · rw [if_pos q1] at h
          refine lv_tableIn (off := 32) (tgt := 56) hx hb dX12_count_24 (by rw [q1]; decide) (by rw [q1]; decide) (by rw [q1]; decide) (by decide) ?_
          exact ih.2.2.2.2.2.1 L σ r h H locs ls hP hD hS (lv_sub hl [0, 1] rfl)
        · rw [if_neg q1] at h
          by_cases q2 : ((L 1)) = (1 : Int32)
          · rw [if_pos q2] at h
            refine lv_tableIn (off := 37) (tgt := 61) hx hb dX12_count_24 (by rw [q2]; decide) (by rw [q2]; decide) (by rw [q2]; decide) (by decide) ?_
            exact ih.2.2.2.2.2.2.1 L σ r h H locs ls hP hD hS (lv_sub hl [0, 1] rfl)
          · rw [if_neg q2] at h
            by_cases q3 : ((L 1)) = (2 : Int32)
            · rw [if_pos q3] at h
              refine lv_tableIn (off := 53) (tgt := 77) hx hb dX12_count_24 (by rw [q3]; decide) (by rw [q3]; decide) (by rw [q3]; decide) (by decide) ?_
              exact ih.2.2.2.2.2.2.2.2.2.1 L σ r h H locs ls hP hD hS (lv_sub hl [0, 1] rfl)
            · rw [if_neg q3] at h
              by_cases q4 : ((L 1)) = (3 : Int32)
              · rw [if_pos q4] at h
                refine lv_tableIn (off := 71) (tgt := 95) hx hb dX12_count_24 (by rw [q4]; decide) (by rw [q4]; decide) (by rw [q4]; decide) (by decide) ?_
                exact ih.2.2.2.2.2.2.2.2.2.2.2.2.1 L σ r h H locs ls hP hD hS (lv_sub hl [0, 1] rfl)
              · rw [if_neg q4] at h
                have nq1 : ¬ ((L 1)).toInt = 0 := nb_ti q1 rfl
                have nq2 : ¬ ((L 1)).toInt = 1 := nb_ti q2 rfl
                have nq3 : ¬ ((L 1)).toInt = 2 := nb_ti q3 rfl
                have nq4 : ¬ ((L 1)).toInt = 3 := nb_ti q4 rfl
                refine lv_tableOut (tgt := 111) hx hb dX12_count_24 (by omega) (by decide) ?_
                exact ih.2.2.2.2.2.2.2.2.2.2.2.2.2.2.2 L σ r h H locs ls hP hD hS (lv_sub hl [0, 1] rfl)
      · intro L σ r h H locs ls hP hD hS hl
        rw [x_count] at h
        refine lv_aload_n hx hb dX12_count_56 rfl (lv_at hl 0 rfl) ?_
        refine ng_4 hx hb hts in_x_count hown hK hP (hts _ (List.mem_cons_of_mem _ (List.mem_append_left _ (List.mem_append_left _ (List.mem_of_getElem? (i := 4) rfl))))) dX12_count_57 ?_
        cases h
        exact W.iret (v := (σ.1 4)) hx hb hr (fun t ht hW => ⟨⟨(σ.1 4), (), rfl, rfl, by rw [ht]; exact hP, va_K.moved hW.alike hK, hD⟩, hS.F ht⟩) hS.2.2 dX12_count_60
      · intro L σ r h H locs ls hP hD hS hl
        rw [x_count] at h
        refine lv_aload_n hx hb dX12_count_61 rfl (lv_at hl 0 rfl) ?_
        refine ng_111 hx hb hts in_x_count hown hK hP (hts _ (List.mem_cons_of_mem _ (List.mem_append_left _ (List.mem_append_left _ (List.mem_of_getElem? (i := 5) rfl))))) dX12_count_62 ?_
        refine lv_if_eq (tgt := 75) hx hb dX12_count_65 (by decide) (fun c1 => ?_) (fun c1 => ?_)
        · rw [if_pos c1] at h
          exact ih.2.2.2.2.2.2.2.1 L σ r h H locs ls hP hD hS (lv_sub hl [0, 1] rfl)
        · rw [if_neg c1] at h
          refine lv_aload_n hx hb dX12_count_68 rfl (lv_at hl 0 rfl) ?_
          refine ng_44 hx hb hts in_x_count hown hK hP (hts _ (List.mem_cons_of_mem _ (List.mem_append_left _ (List.mem_append_left _ (List.mem_of_getElem? (i := 6) rfl))))) dX12_count_69 ?_
          refine lv_goto (tgt := 76) hx hb dX12_count_72 (by decide) ?_
          exact ih.2.2.2.2.2.2.2.2.1 (upd L 100 ((σ.1 44))) σ r h H locs ls hP hD hS (lv_sub hl [0, 1] rfl)
      · intro L σ r h H locs ls hP hD hS hl
        rw [x_count] at h
        refine lv_iconst (v := 0) hx hb dX12_count_75 (by decide) ?_
        exact ih.2.2.2.2.2.2.2.2.1 (upd L 100 0) σ r h H locs ls hP hD hS (lv_sub hl [0, 1] rfl)
      · intro L σ r h H locs ls hP hD hS hl
        rw [x_count] at h
        cases h
        exact W.iret (v := (L 100)) hx hb hr (fun t ht hW => ⟨⟨(L 100), (), rfl, rfl, by rw [ht]; exact hP, va_K.moved hW.alike hK, hD⟩, hS.F ht⟩) hS.2.2 dX12_count_76
      · intro L σ r h H locs ls hP hD hS hl
        rw [x_count] at h
        refine lv_aload_n hx hb dX12_count_77 rfl (lv_at hl 0 rfl) ?_
        refine ng_111 hx hb hts in_x_count hown hK hP (hts _ (List.mem_cons_of_mem _ (List.mem_append_left _ (List.mem_append_left _ (List.mem_of_getElem? (i := 5) rfl))))) dX12_count_78 ?_
        refine lv_if_eq (tgt := 93) hx hb dX12_count_81 (by decide) (fun c1 => ?_) (fun c1 => ?_)
        · rw [if_pos c1] at h
          exact ih.2.2.2.2.2.2.2.2.2.2.1 L σ r h H locs ls hP hD hS (lv_sub hl [0, 1] rfl)
        · rw [if_neg c1] at h
          refine lv_aload_n hx hb dX12_count_84 rfl (lv_at hl 0 rfl) ?_
          refine ng_36 hx hb hts in_x_count hown hK hP (hts _ (List.mem_cons_of_mem _ (List.mem_append_left _ (List.mem_append_left _ (List.mem_of_getElem? (i := 7) rfl))))) dX12_count_85 ?_
          refine lv_iconst (v := 0) hx hb dX12_count_88 (by decide) ?_
          obtain ⟨q2, h⟩ := nb_ite1 h
          refine nl_21 hx hb hK hP q2 dX12_count_89 ?_
          refine lv_goto (tgt := 94) hx hb dX12_count_90 (by decide) ?_
          exact ih.2.2.2.2.2.2.2.2.2.2.2.1 (upd L 100 ((σ.2.2 21 (0 : Int32).toNatClampNeg))) σ r h H locs ls hP hD hS (lv_sub hl [0, 1] rfl)
      · intro L σ r h H locs ls hP hD hS hl
        rw [x_count] at h
        refine lv_iconst (v := 0) hx hb dX12_count_93 (by decide) ?_
        exact ih.2.2.2.2.2.2.2.2.2.2.2.1 (upd L 100 0) σ r h H locs ls hP hD hS (lv_sub hl [0, 1] rfl)
      · intro L σ r h H locs ls hP hD hS hl
        rw [x_count] at h
        cases h
        exact W.iret (v := (L 100)) hx hb hr (fun t ht hW => ⟨⟨(L 100), (), rfl, rfl, by rw [ht]; exact hP, va_K.moved hW.alike hK, hD⟩, hS.F ht⟩) hS.2.2 dX12_count_94
      · intro L σ r h H locs ls hP hD hS hl
        rw [x_count] at h
        refine lv_aload_n hx hb dX12_count_95 rfl (lv_at hl 0 rfl) ?_
        refine ng_111 hx hb hts in_x_count hown hK hP (hts _ (List.mem_cons_of_mem _ (List.mem_append_left _ (List.mem_append_left _ (List.mem_of_getElem? (i := 5) rfl))))) dX12_count_96 ?_
        refine lv_if_eq (tgt := 109) hx hb dX12_count_99 (by decide) (fun c1 => ?_) (fun c1 => ?_)
        · rw [if_pos c1] at h
          exact ih.2.2.2.2.2.2.2.2.2.2.2.2.2.1 L σ r h H locs ls hP hD hS (lv_sub hl [0, 1] rfl)
        · rw [if_neg c1] at h
          refine lv_aload_n hx hb dX12_count_102 rfl (lv_at hl 0 rfl) ?_
          refine ng_31 hx hb hts in_x_count hown hK hP (hts _ (List.mem_cons_of_mem _ (List.mem_append_left _ (List.mem_append_left _ (List.mem_of_getElem? (i := 8) rfl))))) dX12_count_103 ?_
          refine lv_goto (tgt := 110) hx hb dX12_count_106 (by decide) ?_
          exact ih.2.2.2.2.2.2.2.2.2.2.2.2.2.2.1 (upd L 100 ((σ.1 31))) σ r h H locs ls hP hD hS (lv_sub hl [0, 1] rfl)
      · intro L σ r h H locs ls hP hD hS hl
        rw [x_count] at h
        refine lv_iconst (v := 0) hx hb dX12_count_109 (by decide) ?_
        exact ih.2.2.2.2.2.2.2.2.2.2.2.2.2.2.1 (upd L 100 0) σ r h H locs ls hP hD hS (lv_sub hl [0, 1] rfl)
      · intro L σ r h H locs ls hP hD hS hl
        rw [x_count] at h
        cases h
        exact W.iret (v := (L 100)) hx hb hr (fun t ht hW => ⟨⟨(L 100), (), rfl, rfl, by rw [ht]; exact hP, va_K.moved hW.alike hK, hD⟩, hS.F ht⟩) hS.2.2 dX12_count_110
      · intro L σ r h H locs ls hP hD hS hl
        rw [x_count] at h
        refine lv_aload_n hx hb dX12_count_111 rfl (lv_at hl 0 rfl) ?_
        refine ng_73 hx hb hts in_x_count hown hK hP (hts _ (List.mem_cons_of_mem _ (List.mem_append_left _ (List.mem_append_left _ (List.mem_of_getElem? (i := 9) rfl))))) dX12_count_112 ?_
        cases h
        exact W.iret (v := (σ.1 73)) hx hb hr (fun t ht hW => ⟨⟨(σ.1 73), (), rfl, rfl, by rw [ht]; exact hP, va_K.moved hW.alike hK, hD⟩, hS.F ht⟩) hS.2.2 dX12_count_115
  exact (blk k0).1 L0 σ0 r0 h0 s.heap [] ls hP hD hS hl

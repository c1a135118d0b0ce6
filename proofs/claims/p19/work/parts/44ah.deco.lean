/-! isStatement -/
def x_isStatement : Nat → Nat → (Nat → Int32) → MS → Option (Int32 × MS)
  | 0, _, _, _ => none
  | k + 1, 0, L, σ => if ((σ.1 6)) = 1 then (x_isStatement k 1 L σ) else (ob (x_isSign k 0 (upd (fun _ => 0) 1 10) σ) (fun r2 => if r2.1 = 0 then (if ((r2.2.1 6)) = 5 then (if ((r2.2.1 7)) = 7 then (x_isStatement k 1 L r2.2) else (if ((r2.2.1 7)) = 11 then (x_isStatement k 1 L r2.2) else (if ((r2.2.1 7)) = 13 then (x_isStatement k 1 L r2.2) else (if ((r2.2.1 7)) < 17 then (x_isStatement k 2 L r2.2) else (if 24 < ((r2.2.1 7)) then (x_isStatement k 2 L r2.2) else (x_isStatement k 1 L r2.2)))))) else (x_isStatement k 2 L r2.2)) else (x_isStatement k 1 L r2.2)))
  | k + 1, 1, L, σ => x_isStatement k 3 (upd L 100 1) σ
  | k + 1, 2, L, σ => x_isStatement k 3 (upd L 100 0) σ
  | k + 1, 3, L, σ => if ((L 100)) = 0 ∨ ((L 100)) = 1 then some ((L 100), σ) else none
  | _ + 1, _ + 4, _, _ => none
def o_x_isStatement : List Cond := [.fieldLink RX12 35 "SetHouseModel" "tKind" "I", .methodLink RX12 65 yX12_isSign, .instanceMethod yX12_isSign, .selects RX12 yX12_isSign yX12_isSign, .initialized RX12, .fieldLink RX12 49 "SetHouseModel" "tWhat" "I"]
theorem o_x_isStatement_good : o_x_isStatement.all goodWord = true := by decide +kernel
def p_x_isStatement : List Cond := o_x_isStatement ++ ((.code yX12_isSign cX12_isSign 2 (some .boolean) :: p_x_isSign) ++ [])
theorem p_x_isStatement_good : p_x_isStatement.all goodWord = true := nb_all2 o_x_isStatement_good (nb_all2 (nb_allc (by decide +kernel) p_x_isSign_good) rfl)
def w_x_isStatement : List Cond := .code yX12_isStatement cX12_isStatement 1 (some .boolean) :: (p_x_isStatement ++ fM)
theorem w_x_isStatement_good : w_x_isStatement.all goodWord = true := nb_allc (by decide +kernel) (nb_all2 p_x_isStatement_good fM_good)
theorem in_x_isStatement : ∀ w ∈ wsX120, w ∈ w_x_isStatement := fun _ h => List.mem_cons_of_mem _ (List.mem_append_right _ h)
theorem hd_x_isStatement : yX12_isStatement.cls = RX12 ∧ yX12_isStatement.cls ≠ "java/lang/invoke/MethodHandle" ∧ yX12_isStatement.cls ≠ "java/lang/invoke/VarHandle" ∧ (parseMethodDescriptor yX12_isStatement.desc).map (fun d => d.parameters.length) = some 0 := by decide +kernel
theorem gg_x_isStatement_isSign : GoodIn w_x_isStatement w_x_isSign := goodIn_sub (fun w h => (List.mem_cons.mp h).elim (fun e => (List.mem_cons_of_mem _ (List.mem_append_left _ (List.mem_append_right _ (List.mem_append_left _ (List.mem_cons.mpr (Or.inl e))))))) (fun h => (List.mem_append.mp h).elim (fun h => (List.mem_cons_of_mem _ (List.mem_append_left _ (List.mem_append_right _ (List.mem_append_left _ (List.mem_cons_of_mem _ h)))))) (fun h => List.mem_cons_of_mem _ (List.mem_append_right _ h)))) w_x_isSign_good
theorem g_x_isStatement_isSign_65 : GoodIn w_x_isStatement (wsV RX12 65 RX12 yX12_isSign w_x_isSign) := goodIn_app (nb_g4 (List.mem_cons_of_mem _ (List.mem_append_left _ (List.mem_append_left _ (List.mem_of_getElem? (i := 1) rfl)))) (List.mem_cons_of_mem _ (List.mem_append_left _ (List.mem_append_left _ (List.mem_of_getElem? (i := 2) rfl)))) (List.mem_cons_of_mem _ (List.mem_append_left _ (List.mem_append_left _ (List.mem_of_getElem? (i := 3) rfl)))) (List.mem_cons_of_mem _ (List.mem_append_left _ (List.mem_append_left _ (List.mem_of_getElem? (i := 4) rfl)))) (by decide +kernel)) gg_x_isStatement_isSign
set_option maxHeartbeats 40000000 in
set_option maxRecDepth 100000 in
theorem c_x_isStatement (l : Launch) (dC : Nat → ClassId) (dI : Nat → Nat → Nat) (cy : Nat → ClassId) (a : Nat → Nat) (k0 : Nat) (L0 : Nat → Int32) (σ0 : MS) (r0 : Int32 × MS) (h0 : x_isStatement k0 0 L0 σ0 = some r0) (sz : Nat) : Met l yX12_isStatement w_x_isStatement ({ frames := 1, cells := 0, slots := 0, locals := 21 }) (va_Pc [.ref (a 0)] (nIn (dC, dI) cy sz (vM cy a σ0))) (va_Qi (fun (z : Int32) (_ : Unit) => z = r0.1) (fun _ t => nOut (dC, dI) cy (va_A (vM cy a σ0) sz) (vM cy a r0.2) t) (va_A (vM cy a σ0) sz)) 0 0 (va_A (vM cy a σ0) sz) := by
  refine Met.ofW (cc := cX12_isStatement) (maxL := 1) (ret := (some .boolean)) (by decide) rfl ?_
  intro p e s m args below meth c s₁ B hml hv
  obtain ⟨rfl, hsz, hP, hK, hD0, hG⟩ := hv
  have hx := B.exec
  have hb := B.bytes
  have hr := B.returns
  have hts := atoms_spec (ws := w_x_isStatement) B.pre
  have hown : s.vm.findClass RX12 = some m.cls := findClass_of_methodNamed B.named
  have hlocks := B.notSynchronized
  subst hsz
  have hD := hD0.self (sz := s.heap.size)
  generalize hAe : va_A (vM cy a σ0) s.heap.size = A at hD ⊢
  have hA : ∀ q : Nat, s.heap.size ≤ q → A q := fun q h => by rw [← hAe]; exact Or.inr h
  have hS : va_S A s.heap s.heap [] := va_S.rf
  have hl := lv_entry ([.ref (a 0)]) (n := 1) (Nat.le_of_ble_eq_true rfl)
  rw [lg_entry_eq]
  generalize (lg_sl ([.ref (a 0)]) ++ List.replicate (1 - (lg_sl ([.ref (a 0)])).length) Slot.unset).toArray = ls at hl ⊢
  have hl : lv_has ls 1 [(0, .ref (a 0))] := hl
  have blk : ∀ k : Nat, (bT p l e (headSpec w_x_isStatement ({ frames := 1, cells := 0, slots := 0, locals := 21 })).room s m #[.ref (a 0)] below meth c dC dI cy a A (qI dC dI cy a A below #[.ref (a 0)] s) 1 (x_isStatement k 0) (fun L => [(0, .ref (a 0))]) 0 (fun L => [])) ∧ (bT p l e (headSpec w_x_isStatement ({ frames := 1, cells := 0, slots := 0, locals := 21 })).room s m #[.ref (a 0)] below meth c dC dI cy a A (qI dC dI cy a A below #[.ref (a 0)] s) 1 (x_isStatement k 1) (fun L => [(0, .ref (a 0))]) 70 (fun L => [])) ∧ (bT p l e (headSpec w_x_isStatement ({ frames := 1, cells := 0, slots := 0, locals := 21 })).room s m #[.ref (a 0)] below meth c dC dI cy a A (qI dC dI cy a A below #[.ref (a 0)] s) 1 (x_isStatement k 2) (fun L => [(0, .ref (a 0))]) 74 (fun L => [])) ∧ (bT p l e (headSpec w_x_isStatement ({ frames := 1, cells := 0, slots := 0, locals := 21 })).room s m #[.ref (a 0)] below meth c dC dI cy a A (qI dC dI cy a A below #[.ref (a 0)] s) 1 (x_isStatement k 3) (fun L => [(0, .ref (a 0))]) 75 (fun L => [.int (L 100)])) := by
    intro k
    induction k with
    | zero => exact ⟨fun L σ r h => (by cases h), fun L σ r h => (by cases h), fun L σ r h => (by cases h), fun L σ r h => (by cases h)⟩
    | succ k ih =>
      refine ⟨?_, ?_, ?_, ?_⟩
      · intro L σ r h H locs ls hP hD hS hl
        rw [x_isStatement] at h
        refine lv_aload_n hx hb dX12_isStatement_0 rfl (lv_at hl 0 rfl) ?_
        refine ng_6 hx hb hts in_x_isStatement hown hK hP (hts _ (List.mem_cons_of_mem _ (List.mem_append_left _ (List.mem_append_left _ (List.mem_of_getElem? (i := 0) rfl))))) dX12_isStatement_1 ?_
        refine lv_iconst (v := 1) hx hb dX12_isStatement_4 (by decide) ?_
        refine lv_icmp_eq (tgt := 70) hx hb dX12_isStatement_5 (by decide) (fun c1 => ?_) (fun c1 => ?_)
        · rw [if_pos c1] at h
          exact ih.2.1 L σ r h H locs ls hP hD hS (lv_sub hl [0] rfl)
        · rw [if_neg c1] at h
          refine lv_aload_n hx hb dX12_isStatement_8 rfl (lv_at hl 0 rfl) ?_
          refine lv_bipush (v := 10) hx hb dX12_isStatement_9 (by decide) ?_
          obtain ⟨r2, hc2, h⟩ := ob_ex h
          refine nc_Vi (As := [.int 10]) (rest := []) ⟨hx, hb, hml, hown, hts⟩ (c_x_isSign l dC dI cy a k (upd (fun _ => 0) 1 10) σ r2 hc2 H.size) (cwV 1 hts g_x_isStatement_isSign_65 rfl rfl rfl hd_x_isSign ⟨Nat.le_of_ble_eq_true rfl, Nat.le_of_ble_eq_true rfl⟩) hK hG hA hP hD hS rfl hl.1 rfl (Nat.le_of_ble_eq_true rfl) dX12_isStatement_11 ⟨Nat.le_refl _, Nat.le_refl _⟩ (fun H locs hP hD hS => ?_)
          refine lv_if_ne (tgt := 70) hx hb dX12_isStatement_14 (by decide) (fun c3 => ?_) (fun c3 => ?_)
          · rw [if_neg c3] at h
            exact ih.2.1 L r2.2 r h H locs ls hP hD hS (lv_sub hl [0] rfl)
          · rw [if_pos c3] at h
            refine lv_aload_n hx hb dX12_isStatement_17 rfl (lv_at hl 0 rfl) ?_
            refine ng_6 hx hb hts in_x_isStatement hown hK hP (hts _ (List.mem_cons_of_mem _ (List.mem_append_left _ (List.mem_append_left _ (List.mem_of_getElem? (i := 0) rfl))))) dX12_isStatement_18 ?_
            refine lv_iconst (v := 5) hx hb dX12_isStatement_21 (by decide) ?_
            refine lv_icmp_ne (tgt := 74) hx hb dX12_isStatement_22 (by decide) (fun c4 => ?_) (fun c4 => ?_)
            · rw [if_neg c4] at h
              exact ih.2.2.1 L r2.2 r h H locs ls hP hD hS (lv_sub hl [0] rfl)
            · rw [if_pos c4] at h
              refine lv_aload_n hx hb dX12_isStatement_25 rfl (lv_at hl 0 rfl) ?_
              refine ng_7 hx hb hts in_x_isStatement hown hK hP (hts _ (List.mem_cons_of_mem _ (List.mem_append_left _ (List.mem_append_left _ (List.mem_of_getElem? (i := 5) rfl))))) dX12_isStatement_26 ?_
              refine lv_bipush (v := 7) hx hb dX12_isStatement_29 (by decide) ?_
              refine lv_icmp_eq (tgt := 70) hx hb dX12_isStatement_31 (by decide) (fun c5 => ?_) (fun c5 => ?_)
              · rw [if_pos c5] at h
                exact ih.2.1 L r2.2 r h H locs ls hP hD hS (lv_sub hl [0] rfl)
              · rw [if_neg c5] at h
                refine lv_aload_n hx hb dX12_isStatement_34 rfl (lv_at hl 0 rfl) ?_
                refine ng_7 hx hb hts in_x_isStatement hown hK hP (hts _ (List.mem_cons_of_mem _ (List.mem_append_left _ (List.mem_append_left _ (List.mem_of_getElem? (i := 5) rfl))))) dX12_isStatement_35 ?_
                refine lv_bipush (v := 11) hx hb dX12_isStatement_38 (by decide) ?_
                refine lv_icmp_eq (tgt := 70) hx hb dX12_isStatement_40 (by decide) (fun c6 => ?_) (fun c6 => ?_)
                · rw [if_pos c6] at h
                  exact ih.2.1 L r2.2 r h H locs ls hP hD hS (lv_sub hl [0] rfl)
                · rw [if_neg c6] at h
                  refine lv_aload_n hx hb dX12_isStatement_43 rfl (lv_at hl 0 rfl) ?_
                  refine ng_7 hx hb hts in_x_isStatement hown hK hP (hts _ (List.mem_cons_of_mem _ (List.mem_append_left _ (List.mem_append_left _ (List.mem_of_getElem? (i := 5) rfl))))) dX12_isStatement_44 ?_
                  refine lv_bipush (v := 13) hx hb dX12_isStatement_47 (by decide) ?_
                  refine lv_icmp_eq (tgt := 70) hx hb dX12_isStatement_49 (by decide) (fun c7 => ?_) (fun c7 => ?_)
                  · rw [if_pos c7] at h
                    exact ih.2.1 L r2.2 r h H locs ls hP hD hS (lv_sub hl [0] rfl)
                  · rw [if_neg c7] at h
                    refine lv_aload_n hx hb dX12_isStatement_52 rfl (lv_at hl 0 rfl) ?_
                    refine ng_7 hx hb hts in_x_isStatement hown hK hP (hts _ (List.mem_cons_of_mem _ (List.mem_append_left _ (List.mem_append_left _ (List.mem_of_getElem? (i := 5) rfl))))) dX12_isStatement_53 ?_
                    refine lv_bipush (v := 17) hx hb dX12_isStatement_56 (by decide) ?_
                    refine lv_icmp_lt (tgt := 74) hx hb dX12_isStatement_58 (by decide) (fun c8 => ?_) (fun c8 => ?_)
                    · rw [if_pos c8] at h
                      exact ih.2.2.1 L r2.2 r h H locs ls hP hD hS (lv_sub hl [0] rfl)
                    · rw [if_neg c8] at h
                      refine lv_aload_n hx hb dX12_isStatement_61 rfl (lv_at hl 0 rfl) ?_
                      refine ng_7 hx hb hts in_x_isStatement hown hK hP (hts _ (List.mem_cons_of_mem _ (List.mem_append_left _ (List.mem_append_left _ (List.mem_of_getElem? (i := 5) rfl))))) dX12_isStatement_62 ?_
                      refine lv_bipush (v := 24) hx hb dX12_isStatement_65 (by decide) ?_
                      refine lv_icmp_gt (tgt := 74) hx hb dX12_isStatement_67 (by decide) (fun c9 => ?_) (fun c9 => ?_)
                      · rw [if_pos c9] at h
                        exact ih.2.2.1 L r2.2 r h H locs ls hP hD hS (lv_sub hl [0] rfl)
                      · rw [if_neg c9] at h
                        exact ih.2.1 L r2.2 r h H locs ls hP hD hS (lv_sub hl [0] rfl)
      · intro L σ r h H locs ls hP hD hS hl
        rw [x_isStatement] at h
        refine lv_iconst (v := 1) hx hb dX12_isStatement_70 (by decide) ?_
        refine lv_goto (tgt := 75) hx hb dX12_isStatement_71 (by decide) ?_
        exact ih.2.2.2 (upd L 100 1) σ r h H locs ls hP hD hS (lv_sub hl [0] rfl)
      · intro L σ r h H locs ls hP hD hS hl
        rw [x_isStatement] at h
        refine lv_iconst (v := 0) hx hb dX12_isStatement_74 (by decide) ?_
        exact ih.2.2.2 (upd L 100 0) σ r h H locs ls hP hD hS (lv_sub hl [0] rfl)
      · intro L σ r h H locs ls hP hD hS hl
        rw [x_isStatement] at h
        obtain ⟨q1, h⟩ := nb_ite1 h
        cases h
        exact W.zret (v := (L 100)) hx hb hr (nb_bz q1) (fun t ht hW => ⟨⟨(L 100), (), rfl, rfl, by rw [ht]; exact hP, va_K.moved hW.alike hK, hD⟩, hS.F ht⟩) hS.2.2 dX12_isStatement_75
  exact (blk k0).1 L0 σ0 r0 h0 s.heap [] ls hP hD hS hl
/-! partsOf -/
def x_partsOf : Nat → Nat → (Nat → Int32) → MS → Option (Int32 × MS)
  | 0, _, _, _ => none
  | k + 1, 0, L, σ => ob (x_open k 0 (fun _ => 0) σ) (fun r1 => if ((r1.2.1 10)) = 0 then (ob (x_take k 0 (fun _ => 0) r1.2) (fun r3 => x_partsOf k 1 L r3.2)) else (x_partsOf k 1 L r1.2))
  | k + 1, 1, L, σ => x_partsOf k 2 (upd (upd (upd L 1 ((-1))) 2 ((-1))) 3 1) σ
  | k + 1, 2, L, σ => if ((L 3)) = 0 then (x_partsOf k 10 L σ) else (if ((σ.1 10)) = 0 then (ob (x_isSign k 0 (upd (fun _ => 0) 1 3) σ) (fun r3 => if r3.1 = 0 then (x_partsOf k 3 (upd L 4 0) r3.2) else (ob (x_node k 0 (upd (upd (upd (upd (fun _ => 0) 1 32) 2 0) 3 0) 4 0) r3.2) (fun r5 => ob (x_take k 0 (fun _ => 0) r5.2) (fun r6 => x_partsOf k 4 (upd L 4 r5.1) r6.2))))) else (x_partsOf k 10 L σ))
  | k + 1, 3, L, σ => ob (x_target k 0 (fun _ => 0) σ) (fun r1 => x_partsOf k 4 (upd L 4 r1.1) r1.2)
  | k + 1, 4, L, σ => if ((L 1)) = ((-1)) then (x_partsOf k 6 (upd L 1 ((L 4))) σ) else (x_partsOf k 5 L σ)
  | k + 1, 5, L, σ => if ¬ (((L 2)) < 0 ∨ 70000 ≤ ((L 2)).toNatClampNeg) then (x_partsOf k 6 L (σ.1, σ.2.1, updG σ.2.2 9 (upd (σ.2.2 9) ((L 2)).toNatClampNeg ((L 4))))) else none
  | k + 1, 6, L, σ => if ((σ.1 10)) = 0 then (ob (x_isSign k 0 (upd (fun _ => 0) 1 12) σ) (fun r2 => if r2.1 = 0 then (x_partsOf k 7 (upd L 2 ((L 4))) r2.2) else (x_partsOf k 8 (upd (upd L 2 ((L 4))) 100 1) r2.2))) else (x_partsOf k 7 (upd L 2 ((L 4))) σ)
  | k + 1, 7, L, σ => x_partsOf k 8 (upd L 100 0) σ
  | k + 1, 8, L, σ => if ((L 100)) = 0 then (x_partsOf k 9 (upd L 3 ((L 100))) σ) else (ob (x_take k 0 (fun _ => 0) σ) (fun r2 => x_partsOf k 9 (upd L 3 ((L 100))) r2.2))
  | k + 1, 9, L, σ => x_partsOf k 2 L σ
  | k + 1, 10, L, σ => ob (x_want k 0 (upd (fun _ => 0) 1 11) σ) (fun r1 => x_partsOf k 11 L (upd r1.2.1 13 ((((r1.2.1 13)) - 1)), r1.2.2.1, r1.2.2.2))
  | k + 1, 11, L, σ => ob (x_want k 0 (upd (fun _ => 0) 1 1) σ) (fun r1 => ob (x_exp k 0 (fun _ => 0) r1.2) (fun r2 => ob (x_want k 0 (upd (fun _ => 0) 1 13) r2.2) (fun r3 => ob (x_node k 0 (upd (upd (upd (upd (fun _ => 0) 1 42) 2 ((L 1))) 3 r2.1) 4 0) r3.2) (fun r4 => some (r4.1, r4.2)))))
  | _ + 1, _ + 12, _, _ => none
def o_x_partsOf : List Cond := [.methodLink RX12 177 yX12_open, .instanceMethod yX12_open, .selects RX12 yX12_open yX12_open, .initialized RX12, .fieldLink RX12 11 "SetHouseModel" "bad" "Z", .methodLink RX12 71 yX12_take, .instanceMethod yX12_take, .selects RX12 yX12_take yX12_take, .methodLink RX12 65 yX12_isSign, .instanceMethod yX12_isSign, .selects RX12 yX12_isSign yX12_isSign, .methodLink RX12 101 yX12_node, .instanceMethod yX12_node, .selects RX12 yX12_node yX12_node, .methodLink RX12 327 yX12_target, .instanceMethod yX12_target, .selects RX12 yX12_target yX12_target, .fieldLink RX12 98 "SetHouseModel" "next" "[I", .methodLink RX12 199 yX12_want, .instanceMethod yX12_want, .selects RX12 yX12_want yX12_want, .fieldLink RX12 77 "SetHouseModel" "opened" "I", .methodLink RX12 209 yX12_exp, .instanceMethod yX12_exp, .selects RX12 yX12_exp yX12_exp]
theorem o_x_partsOf_good : o_x_partsOf.all goodWord = true := by decide +kernel
def p_x_partsOf : List Cond := o_x_partsOf ++ ((.code yX12_open cX12_open 1 none :: p_x_open) ++ ((.code yX12_take cX12_take 2 none :: p_x_take) ++ ((.code yX12_isSign cX12_isSign 2 (some .boolean) :: p_x_isSign) ++ ((.code yX12_node cX12_node 6 (some .int) :: p_x_node) ++ ((.code yX12_target cX12_target 5 (some .int) :: p_x_target) ++ ((.code yX12_want cX12_want 2 none :: p_x_want) ++ ((.code yX12_exp cX12_exp 2 (some .int) :: p_x_GE) ++ [])))))))
theorem p_x_partsOf_good : p_x_partsOf.all goodWord = true := nb_all2 o_x_partsOf_good (nb_all2 (nb_allc (by decide +kernel) p_x_open_good) (nb_all2 (nb_allc (by decide +kernel) p_x_take_good) (nb_all2 (nb_allc (by decide +kernel) p_x_isSign_good) (nb_all2 (nb_allc (by decide +kernel) p_x_node_good) (nb_all2 (nb_allc (by decide +kernel) p_x_target_good) (nb_all2 (nb_allc (by decide +kernel) p_x_want_good) (nb_all2 (nb_allc (by decide +kernel) p_x_GE_good) rfl)))))))
def w_x_partsOf : List Cond := .code yX12_partsOf cX12_partsOf 5 (some .int) :: (p_x_partsOf ++ fM)
theorem w_x_partsOf_good : w_x_partsOf.all goodWord = true := nb_allc (by decide +kernel) (nb_all2 p_x_partsOf_good fM_good)
theorem in_x_partsOf : ∀ w ∈ wsX120, w ∈ w_x_partsOf := fun _ h => List.mem_cons_of_mem _ (List.mem_append_right _ h)
theorem hd_x_partsOf : yX12_partsOf.cls = RX12 ∧ yX12_partsOf.cls ≠ "java/lang/invoke/MethodHandle" ∧ yX12_partsOf.cls ≠ "java/lang/invoke/VarHandle" ∧ (parseMethodDescriptor yX12_partsOf.desc).map (fun d => d.parameters.length) = some 0 := by decide +kernel
theorem gg_x_partsOf_exp : GoodIn w_x_partsOf w_x_exp := goodIn_sub (fun w h => (List.mem_cons.mp h).elim (fun e => (List.mem_cons_of_mem _ (List.mem_append_left _ (List.mem_append_right _ (List.mem_append_right _ (List.mem_append_right _ (List.mem_append_right _ (List.mem_append_right _ (List.mem_append_right _ (List.mem_append_right _ (List.mem_append_left _ (List.mem_cons.mpr (Or.inl e))))))))))))) (fun h => (List.mem_append.mp h).elim (fun h => (List.mem_cons_of_mem _ (List.mem_append_left _ (List.mem_append_right _ (List.mem_append_right _ (List.mem_append_right _ (List.mem_append_right _ (List.mem_append_right _ (List.mem_append_right _ (List.mem_append_right _ (List.mem_append_left _ (List.mem_cons_of_mem _ h)))))))))))) (fun h => List.mem_cons_of_mem _ (List.mem_append_right _ h)))) w_x_exp_good
theorem g_x_partsOf_exp_209 : GoodIn w_x_partsOf (wsV RX12 209 RX12 yX12_exp w_x_exp) := goodIn_app (nb_g4 (List.mem_cons_of_mem _ (List.mem_append_left _ (List.mem_append_left _ (List.mem_of_getElem? (i := 22) rfl)))) (List.mem_cons_of_mem _ (List.mem_append_left _ (List.mem_append_left _ (List.mem_of_getElem? (i := 23) rfl)))) (List.mem_cons_of_mem _ (List.mem_append_left _ (List.mem_append_left _ (List.mem_of_getElem? (i := 24) rfl)))) (List.mem_cons_of_mem _ (List.mem_append_left _ (List.mem_append_left _ (List.mem_of_getElem? (i := 3) rfl)))) (by decide +kernel)) gg_x_partsOf_exp
theorem gg_x_partsOf_isSign : GoodIn w_x_partsOf w_x_isSign := goodIn_sub (fun w h => (List.mem_cons.mp h).elim (fun e => (List.mem_cons_of_mem _ (List.mem_append_left _ (List.mem_append_right _ (List.mem_append_right _ (List.mem_append_right _ (List.mem_append_left _ (List.mem_cons.mpr (Or.inl e))))))))) (fun h => (List.mem_append.mp h).elim (fun h => (List.mem_cons_of_mem _ (List.mem_append_left _ (List.mem_append_right _ (List.mem_append_right _ (List.mem_append_right _ (List.mem_append_left _ (List.mem_cons_of_mem _ h)))))))) (fun h => List.mem_cons_of_mem _ (List.mem_append_right _ h)))) w_x_isSign_good
theorem g_x_partsOf_isSign_65 : GoodIn w_x_partsOf (wsV RX12 65 RX12 yX12_isSign w_x_isSign) := goodIn_app (nb_g4 (List.mem_cons_of_mem _ (List.mem_append_left _ (List.mem_append_left _ (List.mem_of_getElem? (i := 8) rfl)))) (List.mem_cons_of_mem _ (List.mem_append_left _ (List.mem_append_left _ (List.mem_of_getElem? (i := 9) rfl)))) (List.mem_cons_of_mem _ (List.mem_append_left _ (List.mem_append_left _ (List.mem_of_getElem? (i := 10) rfl)))) (List.mem_cons_of_mem _ (List.mem_append_left _ (List.mem_append_left _ (List.mem_of_getElem? (i := 3) rfl)))) (by decide +kernel)) gg_x_partsOf_isSign
theorem gg_x_partsOf_node : GoodIn w_x_partsOf w_x_node := goodIn_sub (fun w h => (List.mem_cons.mp h).elim (fun e => (List.mem_cons_of_mem _ (List.mem_append_left _ (List.mem_append_right _ (List.mem_append_right _ (List.mem_append_right _ (List.mem_append_right _ (List.mem_append_left _ (List.mem_cons.mpr (Or.inl e)))))))))) (fun h => (List.mem_append.mp h).elim (fun h => (List.mem_cons_of_mem _ (List.mem_append_left _ (List.mem_append_right _ (List.mem_append_right _ (List.mem_append_right _ (List.mem_append_right _ (List.mem_append_left _ (List.mem_cons_of_mem _ h))))))))) (fun h => List.mem_cons_of_mem _ (List.mem_append_right _ h)))) w_x_node_good
theorem g_x_partsOf_node_101 : GoodIn w_x_partsOf (wsV RX12 101 RX12 yX12_node w_x_node) := goodIn_app (nb_g4 (List.mem_cons_of_mem _ (List.mem_append_left _ (List.mem_append_left _ (List.mem_of_getElem? (i := 11) rfl)))) (List.mem_cons_of_mem _ (List.mem_append_left _ (List.mem_append_left _ (List.mem_of_getElem? (i := 12) rfl)))) (List.mem_cons_of_mem _ (List.mem_append_left _ (List.mem_append_left _ (List.mem_of_getElem? (i := 13) rfl)))) (List.mem_cons_of_mem _ (List.mem_append_left _ (List.mem_append_left _ (List.mem_of_getElem? (i := 3) rfl)))) (by decide +kernel)) gg_x_partsOf_node
theorem gg_x_partsOf_open : GoodIn w_x_partsOf w_x_open := goodIn_sub (fun w h => (List.mem_cons.mp h).elim (fun e => (List.mem_cons_of_mem _ (List.mem_append_left _ (List.mem_append_right _ (List.mem_append_left _ (List.mem_cons.mpr (Or.inl e))))))) (fun h => (List.mem_append.mp h).elim (fun h => (List.mem_cons_of_mem _ (List.mem_append_left _ (List.mem_append_right _ (List.mem_append_left _ (List.mem_cons_of_mem _ h)))))) (fun h => List.mem_cons_of_mem _ (List.mem_append_right _ h)))) w_x_open_good
theorem g_x_partsOf_open_177 : GoodIn w_x_partsOf (wsV RX12 177 RX12 yX12_open w_x_open) := goodIn_app (nb_g4 (List.mem_cons_of_mem _ (List.mem_append_left _ (List.mem_append_left _ (List.mem_of_getElem? (i := 0) rfl)))) (List.mem_cons_of_mem _ (List.mem_append_left _ (List.mem_append_left _ (List.mem_of_getElem? (i := 1) rfl)))) (List.mem_cons_of_mem _ (List.mem_append_left _ (List.mem_append_left _ (List.mem_of_getElem? (i := 2) rfl)))) (List.mem_cons_of_mem _ (List.mem_append_left _ (List.mem_append_left _ (List.mem_of_getElem? (i := 3) rfl)))) (by decide +kernel)) gg_x_partsOf_open
theorem gg_x_partsOf_take : GoodIn w_x_partsOf w_x_take := goodIn_sub (fun w h => (List.mem_cons.mp h).elim (fun e => (List.mem_cons_of_mem _ (List.mem_append_left _ (List.mem_append_right _ (List.mem_append_right _ (List.mem_append_left _ (List.mem_cons.mpr (Or.inl e)))))))) (fun h => (List.mem_append.mp h).elim (fun h => (List.mem_cons_of_mem _ (List.mem_append_left _ (List.mem_append_right _ (List.mem_append_right _ (List.mem_append_left _ (List.mem_cons_of_mem _ h))))))) (fun h => List.mem_cons_of_mem _ (List.mem_append_right _ h)))) w_x_take_good
theorem g_x_partsOf_take_71 : GoodIn w_x_partsOf (wsV RX12 71 RX12 yX12_take w_x_take) := goodIn_app (nb_g4 (List.mem_cons_of_mem _ (List.mem_append_left _ (List.mem_append_left _ (List.mem_of_getElem? (i := 5) rfl)))) (List.mem_cons_of_mem _ (List.mem_append_left _ (List.mem_append_left _ (List.mem_of_getElem? (i := 6) rfl)))) (List.mem_cons_of_mem _ (List.mem_append_left _ (List.mem_append_left _ (List.mem_of_getElem? (i := 7) rfl)))) (List.mem_cons_of_mem _ (List.mem_append_left _ (List.mem_append_left _ (List.mem_of_getElem? (i := 3) rfl)))) (by decide +kernel)) gg_x_partsOf_take
theorem gg_x_partsOf_target : GoodIn w_x_partsOf w_x_target := goodIn_sub (fun w h => (List.mem_cons.mp h).elim (fun e => (List.mem_cons_of_mem _ (List.mem_append_left _ (List.mem_append_right _ (List.mem_append_right _ (List.mem_append_right _ (List.mem_append_right _ (List.mem_append_right _ (List.mem_append_left _ (List.mem_cons.mpr (Or.inl e))))))))))) (fun h => (List.mem_append.mp h).elim (fun h => (List.mem_cons_of_mem _ (List.mem_append_left _ (List.mem_append_right _ (List.mem_append_right _ (List.mem_append_right _ (List.mem_append_right _ (List.mem_append_right _ (List.mem_append_left _ (List.mem_cons_of_mem _ h)))))))))) (fun h => List.mem_cons_of_mem _ (List.mem_append_right _ h)))) w_x_target_good
theorem g_x_partsOf_target_327 : GoodIn w_x_partsOf (wsV RX12 327 RX12 yX12_target w_x_target) := goodIn_app (nb_g4 (List.mem_cons_of_mem _ (List.mem_append_left _ (List.mem_append_left _ (List.mem_of_getElem? (i := 14) rfl)))) (List.mem_cons_of_mem _ (List.mem_append_left _ (List.mem_append_left _ (List.mem_of_getElem? (i := 15) rfl)))) (List.mem_cons_of_mem _ (List.mem_append_left _ (List.mem_append_left _ (List.mem_of_getElem? (i := 16) rfl)))) (List.mem_cons_of_mem _ (List.mem_append_left _ (List.mem_append_left _ (List.mem_of_getElem? (i := 3) rfl)))) (by decide +kernel)) gg_x_partsOf_target
theorem gg_x_partsOf_want : GoodIn w_x_partsOf w_x_want := goodIn_sub (fun w h => (List.mem_cons.mp h).elim (fun e => (List.mem_cons_of_mem _ (List.mem_append_left _ (List.mem_append_right _ (List.mem_append_right _ (List.mem_append_right _ (List.mem_append_right _ (List.mem_append_right _ (List.mem_append_right _ (List.mem_append_left _ (List.mem_cons.mpr (Or.inl e)))))))))))) (fun h => (List.mem_append.mp h).elim (fun h => (List.mem_cons_of_mem _ (List.mem_append_left _ (List.mem_append_right _ (List.mem_append_right _ (List.mem_append_right _ (List.mem_append_right _ (List.mem_append_right _ (List.mem_append_right _ (List.mem_append_left _ (List.mem_cons_of_mem _ h))))))))))) (fun h => List.mem_cons_of_mem _ (List.mem_append_right _ h)))) w_x_want_good
theorem g_x_partsOf_want_199 : GoodIn w_x_partsOf (wsV RX12 199 RX12 yX12_want w_x_want) := goodIn_app (nb_g4 (List.mem_cons_of_mem _ (List.mem_append_left _ (List.mem_append_left _ (List.mem_of_getElem? (i := 18) rfl)))) (List.mem_cons_of_mem _ (List.mem_append_left _ (List.mem_append_left _ (List.mem_of_getElem? (i := 19) rfl)))) (List.mem_cons_of_mem _ (List.mem_append_left _ (List.mem_append_left _ (List.mem_of_getElem? (i := 20) rfl)))) (List.mem_cons_of_mem _ (List.mem_append_left _ (List.mem_append_left _ (List.mem_of_getElem? (i := 3) rfl)))) (by decide +kernel)) gg_x_partsOf_want
set_option maxHeartbeats 40000000 in
set_option maxRecDepth 100000 in
theorem c_x_partsOf (l : Launch) (dC : Nat → ClassId) (dI : Nat → Nat → Nat) (cy : Nat → ClassId) (a : Nat → Nat) (k0 : Nat) (L0 : Nat → Int32) (σ0 : MS) (r0 : Int32 × MS) (h0 : x_partsOf k0 0 L0 σ0 = some r0) (sz : Nat) : Met l yX12_partsOf w_x_partsOf ({ frames := 327, cells := 0, slots := 0, locals := 10082 }) (va_Pc [.ref (a 0)] (nIn (dC, dI) cy sz (vM cy a σ0))) (va_Qi (fun (z : Int32) (_ : Unit) => z = r0.1) (fun _ t => nOut (dC, dI) cy (va_A (vM cy a σ0) sz) (vM cy a r0.2) t) (va_A (vM cy a σ0) sz)) 0 0 (va_A (vM cy a σ0) sz) := by
  refine Met.ofW (cc := cX12_partsOf) (maxL := 5) (ret := (some .int)) (by decide) rfl ?_
  intro p e s m args below meth c s₁ B hml hv
  obtain ⟨rfl, hsz, hP, hK, hD0, hG⟩ := hv
  have hx := B.exec
  have hb := B.bytes
  have hr := B.returns
  have hts := atoms_spec (ws := w_x_partsOf) B.pre
  have hown : s.vm.findClass RX12 = some m.cls := findClass_of_methodNamed B.named
  have hlocks := B.notSynchronized
  subst hsz
  have hD := hD0.self (sz := s.heap.size)
  generalize hAe : va_A (vM cy a σ0) s.heap.size = A at hD ⊢
  have hA : ∀ q : Nat, s.heap.size ≤ q → A q := fun q h => by rw [← hAe]; exact Or.inr h
  have hS : va_S A s.heap s.heap [] := va_S.rf
  have hl := lv_entry ([.ref (a 0)]) (n := 5) (Nat.le_of_ble_eq_true rfl)
  rw [lg_entry_eq]
  generalize (lg_sl ([.ref (a 0)]) ++ List.replicate (5 - (lg_sl ([.ref (a 0)])).length) Slot.unset).toArray = ls at hl ⊢
  have hl : lv_has ls 5 [(0, .ref (a 0))] := hl
  have blk : ∀ k : Nat, (bT p l e (headSpec w_x_partsOf ({ frames := 327, cells := 0, slots := 0, locals := 10082 })).room s m #[.ref (a 0)] below meth c dC dI cy a A (qI dC dI cy a A below #[.ref (a 0)] s) 5 (x_partsOf k 0) (fun L => [(0, .ref (a 0))]) 0 (fun L => [])) ∧ (bT p l e (headSpec w_x_partsOf ({ frames := 327, cells := 0, slots := 0, locals := 10082 })).room s m #[.ref (a 0)] below meth c dC dI cy a A (qI dC dI cy a A below #[.ref (a 0)] s) 5 (x_partsOf k 1) (fun L => [(0, .ref (a 0))]) 15 (fun L => [])) ∧ (bT p l e (headSpec w_x_partsOf ({ frames := 327, cells := 0, slots := 0, locals := 10082 })).room s m #[.ref (a 0)] below meth c dC dI cy a A (qI dC dI cy a A below #[.ref (a 0)] s) 5 (x_partsOf k 2) (fun L => [(0, .ref (a 0)), (1, .int (L 1)), (2, .int (L 2)), (3, .int (L 3))]) 21 (fun L => [])) ∧ (bT p l e (headSpec w_x_partsOf ({ frames := 327, cells := 0, slots := 0, locals := 10082 })).room s m #[.ref (a 0)] below meth c dC dI cy a A (qI dC dI cy a A below #[.ref (a 0)] s) 5 (x_partsOf k 3) (fun L => [(0, .ref (a 0)), (1, .int (L 1)), (2, .int (L 2)), (3, .int (L 3)), (4, .int (L 4))]) 61 (fun L => [])) ∧ (bT p l e (headSpec w_x_partsOf ({ frames := 327, cells := 0, slots := 0, locals := 10082 })).room s m #[.ref (a 0)] below meth c dC dI cy a A (qI dC dI cy a A below #[.ref (a 0)] s) 5 (x_partsOf k 4) (fun L => [(0, .ref (a 0)), (1, .int (L 1)), (2, .int (L 2)), (3, .int (L 3)), (4, .int (L 4))]) 67 (fun L => [])) ∧ (bT p l e (headSpec w_x_partsOf ({ frames := 327, cells := 0, slots := 0, locals := 10082 })).room s m #[.ref (a 0)] below meth c dC dI cy a A (qI dC dI cy a A below #[.ref (a 0)] s) 5 (x_partsOf k 5) (fun L => [(0, .ref (a 0)), (1, .int (L 1)), (2, .int (L 2)), (3, .int (L 3)), (4, .int (L 4))]) 78 (fun L => [])) ∧ (bT p l e (headSpec w_x_partsOf ({ frames := 327, cells := 0, slots := 0, locals := 10082 })).room s m #[.ref (a 0)] below meth c dC dI cy a A (qI dC dI cy a A below #[.ref (a 0)] s) 5 (x_partsOf k 6) (fun L => [(0, .ref (a 0)), (1, .int (L 1)), (2, .int (L 2)), (3, .int (L 3)), (4, .int (L 4))]) 86 (fun L => [])) ∧ (bT p l e (headSpec w_x_partsOf ({ frames := 327, cells := 0, slots := 0, locals := 10082 })).room s m #[.ref (a 0)] below meth c dC dI cy a A (qI dC dI cy a A below #[.ref (a 0)] s) 5 (x_partsOf k 7) (fun L => [(0, .ref (a 0)), (1, .int (L 1)), (2, .int (L 2)), (3, .int (L 3)), (4, .int (L 4))]) 109 (fun L => [])) ∧ (bT p l e (headSpec w_x_partsOf ({ frames := 327, cells := 0, slots := 0, locals := 10082 })).room s m #[.ref (a 0)] below meth c dC dI cy a A (qI dC dI cy a A below #[.ref (a 0)] s) 5 (x_partsOf k 8) (fun L => [(0, .ref (a 0)), (1, .int (L 1)), (2, .int (L 2)), (3, .int (L 3)), (4, .int (L 4))]) 110 (fun L => [.int (L 100)])) ∧ (bT p l e (headSpec w_x_partsOf ({ frames := 327, cells := 0, slots := 0, locals := 10082 })).room s m #[.ref (a 0)] below meth c dC dI cy a A (qI dC dI cy a A below #[.ref (a 0)] s) 5 (x_partsOf k 9) (fun L => [(0, .ref (a 0)), (1, .int (L 1)), (2, .int (L 2)), (3, .int (L 3)), (4, .int (L 4))]) 119 (fun L => [])) ∧ (bT p l e (headSpec w_x_partsOf ({ frames := 327, cells := 0, slots := 0, locals := 10082 })).room s m #[.ref (a 0)] below meth c dC dI cy a A (qI dC dI cy a A below #[.ref (a 0)] s) 5 (x_partsOf k 10) (fun L => [(0, .ref (a 0)), (1, .int (L 1)), (2, .int (L 2)), (3, .int (L 3))]) 122 (fun L => [])) ∧ (bT p l e (headSpec w_x_partsOf ({ frames := 327, cells := 0, slots := 0, locals := 10082 })).room s m #[.ref (a 0)] below meth c dC dI cy a A (qI dC dI cy a A below #[.ref (a 0)] s) 5 (x_partsOf k 11) (fun L => [(0, .ref (a 0)), (1, .int (L 1)), (2, .int (L 2)), (3, .int (L 3))]) 138 (fun L => [])) := by
    intro k
    induction k with
    | zero => exact ⟨fun L σ r h => (by cases h), fun L σ r h => (by cases h), fun L σ r h => (by cases h), fun L σ r h => (by cases h), fun L σ r h => (by cases h), fun L σ r h => (by cases h), fun L σ r h => (by cases h), fun L σ r h => (by cases h), fun L σ r h => (by cases h), fun L σ r h => (by cases h), fun L σ r h => (by cases h), fun L σ r h => (by cases h)⟩
    | succ k ih =>
      refine ⟨?_, ?_, ?_, ?_, ?_, ?_, ?_, ?_, ?_, ?_, ?_, ?_⟩
      · intro L σ r h H locs ls hP hD hS hl
        rw [x_partsOf] at h
        refine lv_aload_n hx hb dX12_partsOf_0 rfl (lv_at hl 0 rfl) ?_
        obtain ⟨r1, hc1, h⟩ := ob_ex h
        refine nc_Vv (As := []) (rest := []) ⟨hx, hb, hml, hown, hts⟩ (c_x_open l dC dI cy a k (fun _ => 0) σ r1 hc1 H.size) (cwV 0 hts g_x_partsOf_open_177 rfl rfl rfl hd_x_open ⟨Nat.le_of_ble_eq_true rfl, Nat.le_of_ble_eq_true rfl⟩) hK hG hA hP hD hS rfl hl.1 rfl (Nat.le_of_ble_eq_true rfl) dX12_partsOf_1 ⟨Nat.le_refl _, Nat.le_refl _⟩ (fun H locs hP hD hS => ?_)
        refine lv_aload_n hx hb dX12_partsOf_4 rfl (lv_at hl 0 rfl) ?_
        refine ng_10 hx hb hts in_x_partsOf hown hK hP (hts _ (List.mem_cons_of_mem _ (List.mem_append_left _ (List.mem_append_left _ (List.mem_of_getElem? (i := 4) rfl))))) dX12_partsOf_5 ?_
        refine lv_if_ne (tgt := 15) hx hb dX12_partsOf_8 (by decide) (fun c2 => ?_) (fun c2 => ?_)
        · rw [if_neg c2] at h
          exact ih.2.1 L r1.2 r h H locs ls hP hD hS (lv_sub hl [0] rfl)
        · rw [if_pos c2] at h
          refine lv_aload_n hx hb dX12_partsOf_11 rfl (lv_at hl 0 rfl) ?_
          obtain ⟨r3, hc3, h⟩ := ob_ex h
          refine nc_Vv (As := []) (rest := []) ⟨hx, hb, hml, hown, hts⟩ (c_x_take l dC dI cy a k (fun _ => 0) r1.2 r3 hc3 H.size) (cwV 0 hts g_x_partsOf_take_71 rfl rfl rfl hd_x_take ⟨Nat.le_of_ble_eq_true rfl, Nat.le_of_ble_eq_true rfl⟩) hK hG hA hP hD hS rfl hl.1 rfl (Nat.le_of_ble_eq_true rfl) dX12_partsOf_12 ⟨Nat.le_refl _, Nat.le_refl _⟩ (fun H locs hP hD hS => ?_)
          exact ih.2.1 L r3.2 r h H locs ls hP hD hS (lv_sub hl [0] rfl)
      · intro L σ r h H locs ls hP hD hS hl
        rw [x_partsOf] at h
        refine lv_iconst (v := (-1)) hx hb dX12_partsOf_15 (by decide) ?_
        refine lv_istore_n (lv' := [(1, .int (-1)), (0, .ref (a 0))]) hx hb dX12_partsOf_16 rfl hl (by decide) rfl (fun ls hl => ?_)
        refine lv_iconst (v := (-1)) hx hb dX12_partsOf_17 (by decide) ?_
        refine lv_istore_n (lv' := [(2, .int (-1)), (1, .int (-1)), (0, .ref (a 0))]) hx hb dX12_partsOf_18 rfl hl (by decide) rfl (fun ls hl => ?_)
        refine lv_iconst (v := 1) hx hb dX12_partsOf_19 (by decide) ?_
        refine lv_istore_n (lv' := [(3, .int 1), (2, .int (-1)), (1, .int (-1)), (0, .ref (a 0))]) hx hb dX12_partsOf_20 rfl hl (by decide) rfl (fun ls hl => ?_)
        exact ih.2.2.1 (upd (upd (upd L 1 ((-1))) 2 ((-1))) 3 1) σ r h H locs ls hP hD hS (lv_sub hl [3, 2, 1, 0] rfl)
      · intro L σ r h H locs ls hP hD hS hl
        rw [x_partsOf] at h
        refine lv_iload_n hx hb dX12_partsOf_21 rfl (lv_at hl 3 rfl) ?_
        refine lv_if_eq (tgt := 122) hx hb dX12_partsOf_22 (by decide) (fun c1 => ?_) (fun c1 => ?_)
        · rw [if_pos c1] at h
          exact ih.2.2.2.2.2.2.2.2.2.2.1 L σ r h H locs ls hP hD hS (lv_sub hl [0, 1, 2, 3] rfl)
        · rw [if_neg c1] at h
          refine lv_aload_n hx hb dX12_partsOf_25 rfl (lv_at hl 0 rfl) ?_
          refine ng_10 hx hb hts in_x_partsOf hown hK hP (hts _ (List.mem_cons_of_mem _ (List.mem_append_left _ (List.mem_append_left _ (List.mem_of_getElem? (i := 4) rfl))))) dX12_partsOf_26 ?_
          refine lv_if_ne (tgt := 122) hx hb dX12_partsOf_29 (by decide) (fun c2 => ?_) (fun c2 => ?_)
          · rw [if_neg c2] at h
            exact ih.2.2.2.2.2.2.2.2.2.2.1 L σ r h H locs ls hP hD hS (lv_sub hl [0, 1, 2, 3] rfl)
          · rw [if_pos c2] at h
            refine lv_iconst (v := 0) hx hb dX12_partsOf_32 (by decide) ?_
            refine lv_istore (lv' := [(4, .int 0), (0, .ref (a 0)), (1, .int (L 1)), (2, .int (L 2)), (3, .int (L 3))]) hx hb dX12_partsOf_33 hl (by decide) rfl (fun ls hl => ?_)
            refine lv_aload_n hx hb dX12_partsOf_35 rfl (lv_at hl 1 rfl) ?_
            refine lv_iconst (v := 3) hx hb dX12_partsOf_36 (by decide) ?_
            obtain ⟨r3, hc3, h⟩ := ob_ex h
            refine nc_Vi (As := [.int 3]) (rest := []) ⟨hx, hb, hml, hown, hts⟩ (c_x_isSign l dC dI cy a k (upd (fun _ => 0) 1 3) σ r3 hc3 H.size) (cwV 1 hts g_x_partsOf_isSign_65 rfl rfl rfl hd_x_isSign ⟨Nat.le_of_ble_eq_true rfl, Nat.le_of_ble_eq_true rfl⟩) hK hG hA hP hD hS rfl hl.1 rfl (Nat.le_of_ble_eq_true rfl) dX12_partsOf_37 ⟨Nat.le_refl _, Nat.le_refl _⟩ (fun H locs hP hD hS => ?_)
            refine lv_if_eq (tgt := 61) hx hb dX12_partsOf_40 (by decide) (fun c4 => ?_) (fun c4 => ?_)
            · rw [if_pos c4] at h
              exact ih.2.2.2.1 (upd L 4 0) r3.2 r h H locs ls hP hD hS (lv_sub hl [1, 2, 3, 4, 0] rfl)
            · rw [if_neg c4] at h
              refine lv_aload_n hx hb dX12_partsOf_43 rfl (lv_at hl 1 rfl) ?_
              refine lv_bipush (v := 32) hx hb dX12_partsOf_44 (by decide) ?_
              refine lv_iconst (v := 0) hx hb dX12_partsOf_46 (by decide) ?_
              refine lv_iconst (v := 0) hx hb dX12_partsOf_47 (by decide) ?_
              refine lv_iconst (v := 0) hx hb dX12_partsOf_48 (by decide) ?_
              obtain ⟨r5, hc5, h⟩ := ob_ex h
              refine nc_Vi (As := [.int 32, .int 0, .int 0, .int 0]) (rest := []) ⟨hx, hb, hml, hown, hts⟩ (c_x_node l dC dI cy a k (upd (upd (upd (upd (fun _ => 0) 1 32) 2 0) 3 0) 4 0) r3.2 r5 hc5 H.size) (cwV 4 hts g_x_partsOf_node_101 rfl rfl rfl hd_x_node ⟨Nat.le_of_ble_eq_true rfl, Nat.le_of_ble_eq_true rfl⟩) hK hG hA hP hD hS rfl hl.1 rfl (Nat.le_of_ble_eq_true rfl) dX12_partsOf_49 ⟨Nat.le_refl _, Nat.le_refl _⟩ (fun H locs hP hD hS => ?_)
              refine lv_istore (lv' := [(4, .int r5.1), (0, .ref (a 0)), (1, .int (L 1)), (2, .int (L 2)), (3, .int (L 3))]) hx hb dX12_partsOf_52 hl (by decide) rfl (fun ls hl => ?_)
              refine lv_aload_n hx hb dX12_partsOf_54 rfl (lv_at hl 1 rfl) ?_
              obtain ⟨r6, hc6, h⟩ := ob_ex h
              refine nc_Vv (As := []) (rest := []) ⟨hx, hb, hml, hown, hts⟩ (c_x_take l dC dI cy a k (fun _ => 0) r5.2 r6 hc6 H.size) (cwV 0 hts g_x_partsOf_take_71 rfl rfl rfl hd_x_take ⟨Nat.le_of_ble_eq_true rfl, Nat.le_of_ble_eq_true rfl⟩) hK hG hA hP hD hS rfl hl.1 rfl (Nat.le_of_ble_eq_true rfl) dX12_partsOf_55 ⟨Nat.le_refl _, Nat.le_refl _⟩ (fun H locs hP hD hS => ?_)
              refine lv_goto (tgt := 67) hx hb dX12_partsOf_58 (by decide) ?_
              exact ih.2.2.2.2.1 (upd L 4 r5.1) r6.2 r h H locs ls hP hD hS (lv_sub hl [1, 2, 3, 4, 0] rfl)
      · intro L σ r h H locs ls hP hD hS hl
        rw [x_partsOf] at h
        refine lv_aload_n hx hb dX12_partsOf_61 rfl (lv_at hl 0 rfl) ?_
        obtain ⟨r1, hc1, h⟩ := ob_ex h
        refine nc_Vi (As := []) (rest := []) ⟨hx, hb, hml, hown, hts⟩ (c_x_target l dC dI cy a k (fun _ => 0) σ r1 hc1 H.size) (cwV 0 hts g_x_partsOf_target_327 rfl rfl rfl hd_x_target ⟨Nat.le_of_ble_eq_true rfl, Nat.le_of_ble_eq_true rfl⟩) hK hG hA hP hD hS rfl hl.1 rfl (Nat.le_of_ble_eq_true rfl) dX12_partsOf_62 ⟨Nat.le_refl _, Nat.le_refl _⟩ (fun H locs hP hD hS => ?_)
        refine lv_istore (lv' := [(4, .int r1.1), (0, .ref (a 0)), (1, .int (L 1)), (2, .int (L 2)), (3, .int (L 3))]) hx hb dX12_partsOf_65 hl (by decide) rfl (fun ls hl => ?_)
        exact ih.2.2.2.2.1 (upd L 4 r1.1) r1.2 r h H locs ls hP hD hS (lv_sub hl [1, 2, 3, 4, 0] rfl)
      · intro L σ r h H locs ls hP hD hS hl
        rw [x_partsOf] at h
        refine lv_iload_n hx hb dX12_partsOf_67 rfl (lv_at hl 1 rfl) ?_
        refine lv_iconst (v := (-1)) hx hb dX12_partsOf_68 (by decide) ?_
        refine lv_icmp_ne (tgt := 78) hx hb dX12_partsOf_69 (by decide) (fun c1 => ?_) (fun c1 => ?_)
        · rw [if_neg c1] at h
          exact ih.2.2.2.2.2.1 L σ r h H locs ls hP hD hS (lv_sub hl [0, 1, 2, 3, 4] rfl)
        · rw [if_pos c1] at h
          refine lv_iload hx hb dX12_partsOf_72 (lv_at hl 4 rfl) ?_
          refine lv_istore_n (lv' := [(1, .int (L 4)), (0, .ref (a 0)), (2, .int (L 2)), (3, .int (L 3)), (4, .int (L 4))]) hx hb dX12_partsOf_74 rfl hl (by decide) rfl (fun ls hl => ?_)
          refine lv_goto (tgt := 86) hx hb dX12_partsOf_75 (by decide) ?_
          exact ih.2.2.2.2.2.2.1 (upd L 1 ((L 4))) σ r h H locs ls hP hD hS (lv_sub hl [1, 0, 2, 3, 4] rfl)
      · intro L σ r h H locs ls hP hD hS hl
        rw [x_partsOf] at h
        refine lv_aload_n hx hb dX12_partsOf_78 rfl (lv_at hl 0 rfl) ?_
        refine ng_19 hx hb hts in_x_partsOf hown hK hP (hts _ (List.mem_cons_of_mem _ (List.mem_append_left _ (List.mem_append_left _ (List.mem_of_getElem? (i := 17) rfl))))) dX12_partsOf_79 ?_
        refine lv_iload_n hx hb dX12_partsOf_82 rfl (lv_at hl 2 rfl) ?_
        refine lv_iload hx hb dX12_partsOf_83 (lv_at hl 4 rfl) ?_
        obtain ⟨q1, h⟩ := nb_ite1 h
        refine ns_9 hx hb hK hP hD hS q1 dX12_partsOf_85 (fun H locs hP hD hS => ?_)
        exact ih.2.2.2.2.2.2.1 L (σ.1, σ.2.1, updG σ.2.2 9 (upd (σ.2.2 9) ((L 2)).toNatClampNeg ((L 4)))) r h H locs ls hP hD hS (lv_sub hl [0, 1, 2, 3, 4] rfl)
      · intro L σ r h H locs ls hP hD hS hl
        rw [x_partsOf] at h
        refine lv_iload hx hb dX12_partsOf_86 (lv_at hl 4 rfl) ?_
        refine lv_istore_n (lv' := [(2, .int (L 4)), (0, .ref (a 0)), (1, .int (L 1)), (3, .int (L 3)), (4, .int (L 4))]) hx hb dX12_partsOf_88 rfl hl (by decide) rfl (fun ls hl => ?_)
        refine lv_aload_n hx hb dX12_partsOf_89 rfl (lv_at hl 1 rfl) ?_
        refine ng_10 hx hb hts in_x_partsOf hown hK hP (hts _ (List.mem_cons_of_mem _ (List.mem_append_left _ (List.mem_append_left _ (List.mem_of_getElem? (i := 4) rfl))))) dX12_partsOf_90 ?_
        refine lv_if_ne (tgt := 109) hx hb dX12_partsOf_93 (by decide) (fun c1 => ?_) (fun c1 => ?_)
        · rw [if_neg c1] at h
          exact ih.2.2.2.2.2.2.2.1 (upd L 2 ((L 4))) σ r h H locs ls hP hD hS (lv_sub hl [1, 2, 0, 3, 4] rfl)
        · rw [if_pos c1] at h
          refine lv_aload_n hx hb dX12_partsOf_96 rfl (lv_at hl 1 rfl) ?_
          refine lv_bipush (v := 12) hx hb dX12_partsOf_97 (by decide) ?_
          obtain ⟨r2, hc2, h⟩ := ob_ex h
          refine nc_Vi (As := [.int 12]) (rest := []) ⟨hx, hb, hml, hown, hts⟩ (c_x_isSign l dC dI cy a k (upd (fun _ => 0) 1 12) σ r2 hc2 H.size) (cwV 1 hts g_x_partsOf_isSign_65 rfl rfl rfl hd_x_isSign ⟨Nat.le_of_ble_eq_true rfl, Nat.le_of_ble_eq_true rfl⟩) hK hG hA hP hD hS rfl hl.1 rfl (Nat.le_of_ble_eq_true rfl) dX12_partsOf_99 ⟨Nat.le_refl _, Nat.le_refl _⟩ (fun H locs hP hD hS => ?_)
          refine lv_if_eq (tgt := 109) hx hb dX12_partsOf_102 (by decide) (fun c3 => ?_) (fun c3 => ?_)
          · rw [if_pos c3] at h
            exact ih.2.2.2.2.2.2.2.1 (upd L 2 ((L 4))) r2.2 r h H locs ls hP hD hS (lv_sub hl [1, 2, 0, 3, 4] rfl)
          · rw [if_neg c3] at h
            refine lv_iconst (v := 1) hx hb dX12_partsOf_105 (by decide) ?_
            refine lv_goto (tgt := 110) hx hb dX12_partsOf_106 (by decide) ?_
            exact ih.2.2.2.2.2.2.2.2.1 (upd (upd L 2 ((L 4))) 100 1) r2.2 r h H locs ls hP hD hS (lv_sub hl [1, 2, 0, 3, 4] rfl)
      · intro L σ r h H locs ls hP hD hS hl
        rw [x_partsOf] at h
        refine lv_iconst (v := 0) hx hb dX12_partsOf_109 (by decide) ?_
        exact ih.2.2.2.2.2.2.2.2.1 (upd L 100 0) σ r h H locs ls hP hD hS (lv_sub hl [0, 1, 2, 3, 4] rfl)
      · intro L σ r h H locs ls hP hD hS hl
        rw [x_partsOf] at h
        refine lv_istore_n (lv' := [(3, .int (L 100)), (0, .ref (a 0)), (1, .int (L 1)), (2, .int (L 2)), (4, .int (L 4))]) hx hb dX12_partsOf_110 rfl hl (by decide) rfl (fun ls hl => ?_)
        refine lv_iload_n hx hb dX12_partsOf_111 rfl (lv_at hl 0 rfl) ?_
        refine lv_if_eq (tgt := 119) hx hb dX12_partsOf_112 (by decide) (fun c1 => ?_) (fun c1 => ?_)
        · rw [if_pos c1] at h
          exact ih.2.2.2.2.2.2.2.2.2.1 (upd L 3 ((L 100))) σ r h H locs ls hP hD hS (lv_sub hl [1, 2, 3, 0, 4] rfl)
        · rw [if_neg c1] at h
          refine lv_aload_n hx hb dX12_partsOf_115 rfl (lv_at hl 1 rfl) ?_
          obtain ⟨r2, hc2, h⟩ := ob_ex h
          refine nc_Vv (As := []) (rest := []) ⟨hx, hb, hml, hown, hts⟩ (c_x_take l dC dI cy a k (fun _ => 0) σ r2 hc2 H.size) (cwV 0 hts g_x_partsOf_take_71 rfl rfl rfl hd_x_take ⟨Nat.le_of_ble_eq_true rfl, Nat.le_of_ble_eq_true rfl⟩) hK hG hA hP hD hS rfl hl.1 rfl (Nat.le_of_ble_eq_true rfl) dX12_partsOf_116 ⟨Nat.le_refl _, Nat.le_refl _⟩ (fun H locs hP hD hS => ?_)
          exact ih.2.2.2.2.2.2.2.2.2.1 (upd L 3 ((L 100))) r2.2 r h H locs ls hP hD hS (lv_sub hl [1, 2, 3, 0, 4] rfl)
      · intro L σ r h H locs ls hP hD hS hl
        rw [x_partsOf] at h
        refine lv_goto (tgt := 21) hx hb dX12_partsOf_119 (by decide) ?_
        exact ih.2.2.1 L σ r h H locs ls hP hD hS (lv_sub hl [0, 1, 2, 3] rfl)
      · intro L σ r h H locs ls hP hD hS hl
        rw [x_partsOf] at h
        refine lv_aload_n hx hb dX12_partsOf_122 rfl (lv_at hl 0 rfl) ?_
        refine lv_bipush (v := 11) hx hb dX12_partsOf_123 (by decide) ?_
        obtain ⟨r1, hc1, h⟩ := ob_ex h
        refine nc_Vv (As := [.int 11]) (rest := []) ⟨hx, hb, hml, hown, hts⟩ (c_x_want l dC dI cy a k (upd (fun _ => 0) 1 11) σ r1 hc1 H.size) (cwV 1 hts g_x_partsOf_want_199 rfl rfl rfl hd_x_want ⟨Nat.le_of_ble_eq_true rfl, Nat.le_of_ble_eq_true rfl⟩) hK hG hA hP hD hS rfl hl.1 rfl (Nat.le_of_ble_eq_true rfl) dX12_partsOf_125 ⟨Nat.le_refl _, Nat.le_refl _⟩ (fun H locs hP hD hS => ?_)
        refine lv_aload_n hx hb dX12_partsOf_128 rfl (lv_at hl 0 rfl) ?_
        refine lv_dup hx hb dX12_partsOf_129 rfl ?_
        refine ng_13 hx hb hts in_x_partsOf hown hK hP (hts _ (List.mem_cons_of_mem _ (List.mem_append_left _ (List.mem_append_left _ (List.mem_of_getElem? (i := 21) rfl))))) dX12_partsOf_130 ?_
        refine lv_iconst (v := 1) hx hb dX12_partsOf_133 (by decide) ?_
        refine lv_isub hx hb dX12_partsOf_134 ?_
        refine np_13 hx hb hts in_x_partsOf hown hK hP hD hS (hts _ (List.mem_cons_of_mem _ (List.mem_append_left _ (List.mem_append_left _ (List.mem_of_getElem? (i := 21) rfl))))) dX12_partsOf_135 (fun H locs hP hD hS => ?_)
        exact ih.2.2.2.2.2.2.2.2.2.2.2 L (upd r1.2.1 13 ((((r1.2.1 13)) - 1)), r1.2.2.1, r1.2.2.2) r h H locs ls hP hD hS (lv_sub hl [0, 1, 2, 3] rfl)
      · intro L σ r h H locs ls hP hD hS hl
        rw [x_partsOf] at h
        refine lv_aload_n hx hb dX12_partsOf_138 rfl (lv_at hl 0 rfl) ?_
        refine lv_iconst (v := 1) hx hb dX12_partsOf_139 (by decide) ?_
        obtain ⟨r1, hc1, h⟩ := ob_ex h
        refine nc_Vv (As := [.int 1]) (rest := []) ⟨hx, hb, hml, hown, hts⟩ (c_x_want l dC dI cy a k (upd (fun _ => 0) 1 1) σ r1 hc1 H.size) (cwV 1 hts g_x_partsOf_want_199 rfl rfl rfl hd_x_want ⟨Nat.le_of_ble_eq_true rfl, Nat.le_of_ble_eq_true rfl⟩) hK hG hA hP hD hS rfl hl.1 rfl (Nat.le_of_ble_eq_true rfl) dX12_partsOf_140 ⟨Nat.le_refl _, Nat.le_refl _⟩ (fun H locs hP hD hS => ?_)
        refine lv_aload_n hx hb dX12_partsOf_143 rfl (lv_at hl 0 rfl) ?_
        obtain ⟨r2, hc2, h⟩ := ob_ex h
        refine nc_Vi (As := []) (rest := []) ⟨hx, hb, hml, hown, hts⟩ (c_x_exp l dC dI cy a k (fun _ => 0) r1.2 r2 hc2 H.size) (cwV 0 hts g_x_partsOf_exp_209 rfl rfl rfl hd_x_exp ⟨Nat.le_of_ble_eq_true rfl, Nat.le_of_ble_eq_true rfl⟩) hK hG hA hP hD hS rfl hl.1 rfl (Nat.le_of_ble_eq_true rfl) dX12_partsOf_144 ⟨Nat.le_refl _, Nat.le_refl _⟩ (fun H locs hP hD hS => ?_)
        refine lv_istore (lv' := [(4, .int r2.1), (0, .ref (a 0)), (1, .int (L 1)), (2, .int (L 2)), (3, .int (L 3))]) hx hb dX12_partsOf_147 hl (by decide) rfl (fun ls hl => ?_)
        refine lv_aload_n hx hb dX12_partsOf_149 rfl (lv_at hl 1 rfl) ?_
        refine lv_bipush (v := 13) hx hb dX12_partsOf_150 (by decide) ?_
        obtain ⟨r3, hc3, h⟩ := ob_ex h
        refine nc_Vv (As := [.int 13]) (rest := []) ⟨hx, hb, hml, hown, hts⟩ (c_x_want l dC dI cy a k (upd (fun _ => 0) 1 13) r2.2 r3 hc3 H.size) (cwV 1 hts g_x_partsOf_want_199 rfl rfl rfl hd_x_want ⟨Nat.le_of_ble_eq_true rfl, Nat.le_of_ble_eq_true rfl⟩) hK hG hA hP hD hS rfl hl.1 rfl (Nat.le_of_ble_eq_true rfl) dX12_partsOf_152 ⟨Nat.le_refl _, Nat.le_refl _⟩ (fun H locs hP hD hS => ?_)
        refine lv_aload_n hx hb dX12_partsOf_155 rfl (lv_at hl 1 rfl) ?_
        refine lv_bipush (v := 42) hx hb dX12_partsOf_156 (by decide) ?_
        refine lv_iload_n hx hb dX12_partsOf_158 rfl (lv_at hl 2 rfl) ?_
        refine lv_iload hx hb dX12_partsOf_159 (lv_at hl 0 rfl) ?_
        refine lv_iconst (v := 0) hx hb dX12_partsOf_161 (by decide) ?_
        obtain ⟨r4, hc4, h⟩ := ob_ex h
        refine nc_Vi (As := [.int 42, .int (L 1), .int r2.1, .int 0]) (rest := []) ⟨hx, hb, hml, hown, hts⟩ (c_x_node l dC dI cy a k (upd (upd (upd (upd (fun _ => 0) 1 42) 2 ((L 1))) 3 r2.1) 4 0) r3.2 r4 hc4 H.size) (cwV 4 hts g_x_partsOf_node_101 rfl rfl rfl hd_x_node ⟨Nat.le_of_ble_eq_true rfl, Nat.le_of_ble_eq_true rfl⟩) hK hG hA hP hD hS rfl hl.1 rfl (Nat.le_of_ble_eq_true rfl) dX12_partsOf_162 ⟨Nat.le_refl _, Nat.le_refl _⟩ (fun H locs hP hD hS => ?_)
        cases h
        exact W.iret (v := r4.1) hx hb hr (fun t ht hW => ⟨⟨r4.1, (), rfl, rfl, by rw [ht]; exact hP, va_K.moved hW.alike hK, hD⟩, hS.F ht⟩) hS.2.2 dX12_partsOf_165
  exact (blk k0).1 L0 σ0 r0 h0 s.heap [] ls hP hD hS hl
/-! simple -/
def x_simple : Nat → Nat → (Nat → Int32) → MS → Option (Int32 × MS)
  | 0, _, _, _ => none
  | k + 1, 0, L, σ => if ((σ.1 7)) = 17 then (x_simple k 1 (upd L 1 ((σ.1 7))) σ) else (if ((σ.1 7)) = 18 then (x_simple k 1 (upd L 1 ((σ.1 7))) σ) else (x_simple k 2 (upd L 1 ((σ.1 7))) σ))
  | k + 1, 1, L, σ => if ((σ.1 45)) = 0 then (x_simple k 3 L σ) else (x_simple k 2 L σ)
  | k + 1, 2, L, σ => if ((L 1)) = 19 then (if ((σ.1 37)) = 0 then (x_simple k 3 L σ) else (if ((σ.1 37)) ≤ 41 then (x_simple k 4 L σ) else (x_simple k 3 L σ))) else (x_simple k 4 L σ)
  | k + 1, 3, L, σ => ob (x_fault k 0 (upd (upd (fun _ => 0) 1 7) 2 ((σ.1 8))) σ) (fun r1 => some (0, r1.2))
  | k + 1, 4, L, σ => ob (x_take k 0 (fun _ => 0) σ) (fun r1 => if ((L 1)) = 17 then (x_simple k 5 (upd L 2 0) r1.2) else (if ((L 1)) = 18 then (x_simple k 5 (upd L 2 0) r1.2) else (x_simple k 8 (upd L 2 0) r1.2)))
  | k + 1, 5, L, σ => if ((L 1)) = 17 then (x_simple k 7 (upd L 100 49) σ) else (x_simple k 6 L σ)
  | k + 1, 6, L, σ => x_simple k 7 (upd L 100 50) σ
  | k + 1, 7, L, σ => ob (x_node k 0 (upd (upd (upd (upd (fun _ => 0) 1 ((L 100))) 2 0) 3 0) 4 0) σ) (fun r1 => x_simple k 25 (upd L 2 r1.1) r1.2)
  | k + 1, 8, L, σ => if ((L 1)) = 19 then (if ((σ.1 10)) = 0 then (ob (x_isSign k 0 (upd (fun _ => 0) 1 13) σ) (fun r3 => if r3.1 = 0 then (x_simple k 10 L r3.2) else (x_simple k 9 L r3.2))) else (x_simple k 9 L σ)) else (x_simple k 12 L σ)
  | k + 1, 9, L, σ => x_simple k 11 (upd L 100 ((-1))) σ
  | k + 1, 10, L, σ => ob (x_exp k 0 (fun _ => 0) σ) (fun r1 => x_simple k 11 (upd L 100 r1.1) r1.2)
  | k + 1, 11, L, σ => ob (x_node k 0 (upd (upd (upd (upd (fun _ => 0) 1 51) 2 ((L 100))) 3 0) 4 0) σ) (fun r1 => x_simple k 25 (upd (upd L 3 ((L 100))) 2 r1.1) r1.2)
  | k + 1, 12, L, σ => if ((L 1)) = 20 then (if ((σ.1 10)) = 0 then (ob (x_isSign k 0 (upd (fun _ => 0) 1 6) σ) (fun r3 => if r3.1 = 0 then (ob (x_cannot k 0 (fun _ => 0) r3.2) (fun r5 => x_simple k 13 L r5.2)) else (x_simple k 13 L r3.2))) else (x_simple k 13 L σ)) else (x_simple k 20 L σ)
  | k + 1, 13, L, σ => if ((σ.1 10)) = 0 then (ob (x_open k 0 (fun _ => 0) σ) (fun r2 => x_simple k 14 L r2.2)) else (x_simple k 14 L σ)
  | k + 1, 14, L, σ => if ((σ.1 10)) = 0 then (ob (x_take k 0 (fun _ => 0) σ) (fun r2 => x_simple k 15 L r2.2)) else (x_simple k 15 L σ)
  | k + 1, 15, L, σ => ob (x_exp k 0 (fun _ => 0) σ) (fun r1 => x_simple k 16 (upd (upd L 3 r1.1) 4 r1.1) r1.2)
  | k + 1, 16, L, σ => if ((σ.1 10)) = 0 then (ob (x_isSign k 0 (upd (fun _ => 0) 1 12) σ) (fun r2 => if r2.1 = 0 then (x_simple k 18 L r2.2) else (ob (x_take k 0 (fun _ => 0) r2.2) (fun r4 => ob (x_exp k 0 (fun _ => 0) r4.2) (fun r5 => if ¬ (((L 4)) < 0 ∨ 70000 ≤ ((L 4)).toNatClampNeg) then (x_simple k 17 (upd L 5 r5.1) (r5.2.1, r5.2.2.1, updG r5.2.2.2 9 (upd (r5.2.2.2 9) ((L 4)).toNatClampNeg r5.1))) else none))))) else (x_simple k 18 L σ)
  | k + 1, 17, L, σ => x_simple k 16 (upd L 4 ((L 5))) σ
  | k + 1, 18, L, σ => ob (x_want k 0 (upd (fun _ => 0) 1 7) σ) (fun r1 => x_simple k 19 L (upd r1.2.1 13 ((((r1.2.1 13)) - 1)), r1.2.2.1, r1.2.2.2))
  | k + 1, 19, L, σ => ob (x_node k 0 (upd (upd (upd (upd (fun _ => 0) 1 52) 2 ((L 3))) 3 0) 4 0) σ) (fun r1 => x_simple k 25 (upd L 2 r1.1) r1.2)
  | k + 1, 20, L, σ => if ((L 1)) = 21 then (ob (x_exp k 0 (fun _ => 0) σ) (fun r2 => ob (x_node k 0 (upd (upd (upd (upd (fun _ => 0) 1 53) 2 r2.1) 3 0) 4 0) r2.2) (fun r3 => x_simple k 25 (upd (upd L 3 r2.1) 2 r3.1) r3.2))) else (x_simple k 21 L σ)
  | k + 1, 21, L, σ => if ((L 1)) = 22 then (x_simple k 24 (upd L 100 54) σ) else (x_simple k 22 L σ)
  | k + 1, 22, L, σ => if ((L 1)) = 23 then (x_simple k 24 (upd L 100 55) σ) else (x_simple k 23 L σ)
  | k + 1, 23, L, σ => x_simple k 24 (upd L 100 56) σ
  | k + 1, 24, L, σ => ob (x_node k 0 (upd (upd (upd (upd (fun _ => 0) 1 ((L 100))) 2 0) 3 0) 4 0) σ) (fun r1 => x_simple k 25 (upd L 2 r1.1) r1.2)
  | k + 1, 25, L, σ => ob (x_want k 0 (upd (fun _ => 0) 1 13) σ) (fun r1 => some ((L 2), r1.2))
  | _ + 1, _ + 26, _, _ => none
def o_x_simple : List Cond := [.fieldLink RX12 49 "SetHouseModel" "tWhat" "I", .fieldLink RX12 321 "SetHouseModel" "loops" "I", .fieldLink RX12 133 "SetHouseModel" "owner" "I", .fieldLink RX12 32 "SetHouseModel" "tFrom" "I", .methodLink RX12 58 yX12_fault, .instanceMethod yX12_fault, .selects RX12 yX12_fault yX12_fault, .initialized RX12, .methodLink RX12 71 yX12_take, .instanceMethod yX12_take, .selects RX12 yX12_take yX12_take, .methodLink RX12 101 yX12_node, .instanceMethod yX12_node, .selects RX12 yX12_node yX12_node, .fieldLink RX12 11 "SetHouseModel" "bad" "Z", .methodLink RX12 65 yX12_isSign, .instanceMethod yX12_isSign, .selects RX12 yX12_isSign yX12_isSign, .methodLink RX12 209 yX12_exp, .instanceMethod yX12_exp, .selects RX12 yX12_exp yX12_exp, .methodLink RX12 68 yX12_cannot, .instanceMethod yX12_cannot, .selects RX12 yX12_cannot yX12_cannot, .methodLink RX12 177 yX12_open, .instanceMethod yX12_open, .selects RX12 yX12_open yX12_open, .fieldLink RX12 98 "SetHouseModel" "next" "[I", .methodLink RX12 199 yX12_want, .instanceMethod yX12_want, .selects RX12 yX12_want yX12_want, .fieldLink RX12 77 "SetHouseModel" "opened" "I"]
theorem o_x_simple_good : o_x_simple.all goodWord = true := by decide +kernel
def p_x_simple : List Cond := o_x_simple ++ ((.code yX12_fault cX12_fault 3 none :: p_x_fault) ++ ((.code yX12_take cX12_take 2 none :: p_x_take) ++ ((.code yX12_node cX12_node 6 (some .int) :: p_x_node) ++ ((.code yX12_isSign cX12_isSign 2 (some .boolean) :: p_x_isSign) ++ ((.code yX12_exp cX12_exp 2 (some .int) :: p_x_GE) ++ ((.code yX12_cannot cX12_cannot 1 none :: p_x_cannot) ++ ((.code yX12_open cX12_open 1 none :: p_x_open) ++ ((.code yX12_want cX12_want 2 none :: p_x_want) ++ []))))))))
theorem p_x_simple_good : p_x_simple.all goodWord = true := nb_all2 o_x_simple_good (nb_all2 (nb_allc (by decide +kernel) p_x_fault_good) (nb_all2 (nb_allc (by decide +kernel) p_x_take_good) (nb_all2 (nb_allc (by decide +kernel) p_x_node_good) (nb_all2 (nb_allc (by decide +kernel) p_x_isSign_good) (nb_all2 (nb_allc (by decide +kernel) p_x_GE_good) (nb_all2 (nb_allc (by decide +kernel) p_x_cannot_good) (nb_all2 (nb_allc (by decide +kernel) p_x_open_good) (nb_all2 (nb_allc (by decide +kernel) p_x_want_good) rfl))))))))
def w_x_simple : List Cond := .code yX12_simple cX12_simple 6 (some .int) :: (p_x_simple ++ fM)
theorem w_x_simple_good : w_x_simple.all goodWord = true := nb_allc (by decide +kernel) (nb_all2 p_x_simple_good fM_good)
theorem in_x_simple : ∀ w ∈ wsX120, w ∈ w_x_simple := fun _ h => List.mem_cons_of_mem _ (List.mem_append_right _ h)
theorem hd_x_simple : yX12_simple.cls = RX12 ∧ yX12_simple.cls ≠ "java/lang/invoke/MethodHandle" ∧ yX12_simple.cls ≠ "java/lang/invoke/VarHandle" ∧ (parseMethodDescriptor yX12_simple.desc).map (fun d => d.parameters.length) = some 0 := by decide +kernel
theorem gg_x_simple_cannot : GoodIn w_x_simple w_x_cannot := goodIn_sub (fun w h => (List.mem_cons.mp h).elim (fun e => (List.mem_cons_of_mem _ (List.mem_append_left _ (List.mem_append_right _ (List.mem_append_right _ (List.mem_append_right _ (List.mem_append_right _ (List.mem_append_right _ (List.mem_append_right _ (List.mem_append_left _ (List.mem_cons.mpr (Or.inl e)))))))))))) (fun h => (List.mem_append.mp h).elim (fun h => (List.mem_cons_of_mem _ (List.mem_append_left _ (List.mem_append_right _ (List.mem_append_right _ (List.mem_append_right _ (List.mem_append_right _ (List.mem_append_right _ (List.mem_append_right _ (List.mem_append_left _ (List.mem_cons_of_mem _ h))))))))))) (fun h => List.mem_cons_of_mem _ (List.mem_append_right _ h)))) w_x_cannot_good
theorem g_x_simple_cannot_68 : GoodIn w_x_simple (wsV RX12 68 RX12 yX12_cannot w_x_cannot) := goodIn_app (nb_g4 (List.mem_cons_of_mem _ (List.mem_append_left _ (List.mem_append_left _ (List.mem_of_getElem? (i := 21) rfl)))) (List.mem_cons_of_mem _ (List.mem_append_left _ (List.mem_append_left _ (List.mem_of_getElem? (i := 22) rfl)))) (List.mem_cons_of_mem _ (List.mem_append_left _ (List.mem_append_left _ (List.mem_of_getElem? (i := 23) rfl)))) (List.mem_cons_of_mem _ (List.mem_append_left _ (List.mem_append_left _ (List.mem_of_getElem? (i := 7) rfl)))) (by decide +kernel)) gg_x_simple_cannot
theorem gg_x_simple_exp : GoodIn w_x_simple w_x_exp := goodIn_sub (fun w h => (List.mem_cons.mp h).elim (fun e => (List.mem_cons_of_mem _ (List.mem_append_left _ (List.mem_append_right _ (List.mem_append_right _ (List.mem_append_right _ (List.mem_append_right _ (List.mem_append_right _ (List.mem_append_left _ (List.mem_cons.mpr (Or.inl e))))))))))) (fun h => (List.mem_append.mp h).elim (fun h => (List.mem_cons_of_mem _ (List.mem_append_left _ (List.mem_append_right _ (List.mem_append_right _ (List.mem_append_right _ (List.mem_append_right _ (List.mem_append_right _ (List.mem_append_left _ (List.mem_cons_of_mem _ h)))))))))) (fun h => List.mem_cons_of_mem _ (List.mem_append_right _ h)))) w_x_exp_good
theorem g_x_simple_exp_209 : GoodIn w_x_simple (wsV RX12 209 RX12 yX12_exp w_x_exp) := goodIn_app (nb_g4 (List.mem_cons_of_mem _ (List.mem_append_left _ (List.mem_append_left _ (List.mem_of_getElem? (i := 18) rfl)))) (List.mem_cons_of_mem _ (List.mem_append_left _ (List.mem_append_left _ (List.mem_of_getElem? (i := 19) rfl)))) (List.mem_cons_of_mem _ (List.mem_append_left _ (List.mem_append_left _ (List.mem_of_getElem? (i := 20) rfl)))) (List.mem_cons_of_mem _ (List.mem_append_left _ (List.mem_append_left _ (List.mem_of_getElem? (i := 7) rfl)))) (by decide +kernel)) gg_x_simple_exp
theorem gg_x_simple_fault : GoodIn w_x_simple w_x_fault := goodIn_sub (fun w h => (List.mem_cons.mp h).elim (fun e => (List.mem_cons_of_mem _ (List.mem_append_left _ (List.mem_append_right _ (List.mem_append_left _ (List.mem_cons.mpr (Or.inl e))))))) (fun h => (List.mem_append.mp h).elim (fun h => (List.mem_cons_of_mem _ (List.mem_append_left _ (List.mem_append_right _ (List.mem_append_left _ (List.mem_cons_of_mem _ h)))))) (fun h => List.mem_cons_of_mem _ (List.mem_append_right _ h)))) w_x_fault_good
theorem g_x_simple_fault_58 : GoodIn w_x_simple (wsV RX12 58 RX12 yX12_fault w_x_fault) := goodIn_app (nb_g4 (List.mem_cons_of_mem _ (List.mem_append_left _ (List.mem_append_left _ (List.mem_of_getElem? (i := 4) rfl)))) (List.mem_cons_of_mem _ (List.mem_append_left _ (List.mem_append_left _ (List.mem_of_getElem? (i := 5) rfl)))) (List.mem_cons_of_mem _ (List.mem_append_left _ (List.mem_append_left _ (List.mem_of_getElem? (i := 6) rfl)))) (List.mem_cons_of_mem _ (List.mem_append_left _ (List.mem_append_left _ (List.mem_of_getElem? (i := 7) rfl)))) (by decide +kernel)) gg_x_simple_fault
theorem gg_x_simple_isSign : GoodIn w_x_simple w_x_isSign := goodIn_sub (fun w h => (List.mem_cons.mp h).elim (fun e => (List.mem_cons_of_mem _ (List.mem_append_left _ (List.mem_append_right _ (List.mem_append_right _ (List.mem_append_right _ (List.mem_append_right _ (List.mem_append_left _ (List.mem_cons.mpr (Or.inl e)))))))))) (fun h => (List.mem_append.mp h).elim (fun h => (List.mem_cons_of_mem _ (List.mem_append_left _ (List.mem_append_right _ (List.mem_append_right _ (List.mem_append_right _ (List.mem_append_right _ (List.mem_append_left _ (List.mem_cons_of_mem _ h))))))))) (fun h => List.mem_cons_of_mem _ (List.mem_append_right _ h)))) w_x_isSign_good
theorem g_x_simple_isSign_65 : GoodIn w_x_simple (wsV RX12 65 RX12 yX12_isSign w_x_isSign) := goodIn_app (nb_g4 (List.mem_cons_of_mem _ (List.mem_append_left _ (List.mem_append_left _ (List.mem_of_getElem? (i := 15) rfl)))) (List.mem_cons_of_mem _ (List.mem_append_left _ (List.mem_append_left _ (List.mem_of_getElem? (i := 16) rfl)))) (List.mem_cons_of_mem _ (List.mem_append_left _ (List.mem_append_left _ (List.mem_of_getElem? (i := 17) rfl)))) (List.mem_cons_of_mem _ (List.mem_append_left _ (List.mem_append_left _ (List.mem_of_getElem? (i := 7) rfl)))) (by decide +kernel)) gg_x_simple_isSign
theorem gg_x_simple_node : GoodIn w_x_simple w_x_node := goodIn_sub (fun w h => (List.mem_cons.mp h).elim (fun e => (List.mem_cons_of_mem _ (List.mem_append_left _ (List.mem_append_right _ (List.mem_append_right _ (List.mem_append_right _ (List.mem_append_left _ (List.mem_cons.mpr (Or.inl e))))))))) (fun h => (List.mem_append.mp h).elim (fun h => (List.mem_cons_of_mem _ (List.mem_append_left _ (List.mem_append_right _ (List.mem_append_right _ (List.mem_append_right _ (List.mem_append_left _ (List.mem_cons_of_mem _ h)))))))) (fun h => List.mem_cons_of_mem _ (List.mem_append_right _ h)))) w_x_node_good
theorem g_x_simple_node_101 : GoodIn w_x_simple (wsV RX12 101 RX12 yX12_node w_x_node) := goodIn_app (nb_g4 (List.mem_cons_of_mem _ (List.mem_append_left _ (List.mem_append_left _ (List.mem_of_getElem? (i := 11) rfl)))) (List.mem_cons_of_mem _ (List.mem_append_left _ (List.mem_append_left _ (List.mem_of_getElem? (i := 12) rfl)))) (List.mem_cons_of_mem _ (List.mem_append_left _ (List.mem_append_left _ (List.mem_of_getElem? (i := 13) rfl)))) (List.mem_cons_of_mem _ (List.mem_append_left _ (List.mem_append_left _ (List.mem_of_getElem? (i := 7) rfl)))) (by decide +kernel)) gg_x_simple_node
theorem gg_x_simple_open : GoodIn w_x_simple w_x_open := goodIn_sub (fun w h => (List.mem_cons.mp h).elim (fun e => (List.mem_cons_of_mem _ (List.mem_append_left _ (List.mem_append_right _ (List.mem_append_right _ (List.mem_append_right _ (List.mem_append_right _ (List.mem_append_right _ (List.mem_append_right _ (List.mem_append_right _ (List.mem_append_left _ (List.mem_cons.mpr (Or.inl e))))))))))))) (fun h => (List.mem_append.mp h).elim (fun h => (List.mem_cons_of_mem _ (List.mem_append_left _ (List.mem_append_right _ (List.mem_append_right _ (List.mem_append_right _ (List.mem_append_right _ (List.mem_append_right _ (List.mem_append_right _ (List.mem_append_right _ (List.mem_append_left _ (List.mem_cons_of_mem _ h)))))))))))) (fun h => List.mem_cons_of_mem _ (List.mem_append_right _ h)))) w_x_open_good
theorem g_x_simple_open_177 : GoodIn w_x_simple (wsV RX12 177 RX12 yX12_open w_x_open) := goodIn_app (nb_g4 (List.mem_cons_of_mem _ (List.mem_append_left _ (List.mem_append_left _ (List.mem_of_getElem? (i := 24) rfl)))) (List.mem_cons_of_mem _ (List.mem_append_left _ (List.mem_append_left _ (List.mem_of_getElem? (i := 25) rfl)))) (List.mem_cons_of_mem _ (List.mem_append_left _ (List.mem_append_left _ (List.mem_of_getElem? (i := 26) rfl)))) (List.mem_cons_of_mem _ (List.mem_append_left _ (List.mem_append_left _ (List.mem_of_getElem? (i := 7) rfl)))) (by decide +kernel)) gg_x_simple_open
theorem gg_x_simple_take : GoodIn w_x_simple w_x_take := goodIn_sub (fun w h => (List.mem_cons.mp h).elim (fun e => (List.mem_cons_of_mem _ (List.mem_append_left _ (List.mem_append_right _ (List.mem_append_right _ (List.mem_append_left _ (List.mem_cons.mpr (Or.inl e)))))))) (fun h => (List.mem_append.mp h).elim (fun h => (List.mem_cons_of_mem _ (List.mem_append_left _ (List.mem_append_right _ (List.mem_append_right _ (List.mem_append_left _ (List.mem_cons_of_mem _ h))))))) (fun h => List.mem_cons_of_mem _ (List.mem_append_right _ h)))) w_x_take_good
theorem g_x_simple_take_71 : GoodIn w_x_simple (wsV RX12 71 RX12 yX12_take w_x_take) := goodIn_app (nb_g4 (List.mem_cons_of_mem _ (List.mem_append_left _ (List.mem_append_left _ (List.mem_of_getElem? (i := 8) rfl)))) (List.mem_cons_of_mem _ (List.mem_append_left _ (List.mem_append_left _ (List.mem_of_getElem? (i := 9) rfl)))) (List.mem_cons_of_mem _ (List.mem_append_left _ (List.mem_append_left _ (List.mem_of_getElem? (i := 10) rfl)))) (List.mem_cons_of_mem _ (List.mem_append_left _ (List.mem_append_left _ (List.mem_of_getElem? (i := 7) rfl)))) (by decide +kernel)) gg_x_simple_take
theorem gg_x_simple_want : GoodIn w_x_simple w_x_want := goodIn_sub (fun w h => (List.mem_cons.mp h).elim (fun e => (List.mem_cons_of_mem _ (List.mem_append_left _ (List.mem_append_right _ (List.mem_append_right _ (List.mem_append_right _ (List.mem_append_right _ (List.mem_append_right _ (List.mem_append_right _ (List.mem_append_right _ (List.mem_append_right _ (List.mem_append_left _ (List.mem_cons.mpr (Or.inl e)))))))))))))) (fun h => (List.mem_append.mp h).elim (fun h => (List.mem_cons_of_mem _ (List.mem_append_left _ (List.mem_append_right _ (List.mem_append_right _ (List.mem_append_right _ (List.mem_append_right _ (List.mem_append_right _ (List.mem_append_right _ (List.mem_append_right _ (List.mem_append_right _ (List.mem_append_left _ (List.mem_cons_of_mem _ h))))))))))))) (fun h => List.mem_cons_of_mem _ (List.mem_append_right _ h)))) w_x_want_good
theorem g_x_simple_want_199 : GoodIn w_x_simple (wsV RX12 199 RX12 yX12_want w_x_want) := goodIn_app (nb_g4 (List.mem_cons_of_mem _ (List.mem_append_left _ (List.mem_append_left _ (List.mem_of_getElem? (i := 28) rfl)))) (List.mem_cons_of_mem _ (List.mem_append_left _ (List.mem_append_left _ (List.mem_of_getElem? (i := 29) rfl)))) (List.mem_cons_of_mem _ (List.mem_append_left _ (List.mem_append_left _ (List.mem_of_getElem? (i := 30) rfl)))) (List.mem_cons_of_mem _ (List.mem_append_left _ (List.mem_append_left _ (List.mem_of_getElem? (i := 7) rfl)))) (by decide +kernel)) gg_x_simple_want
set_option maxHeartbeats 40000000 in
set_option maxRecDepth 100000 in
theorem c_x_simple (l : Launch) (dC : Nat → ClassId) (dI : Nat → Nat → Nat) (cy : Nat → ClassId) (a : Nat → Nat) (k0 : Nat) (L0 : Nat → Int32) (σ0 : MS) (r0 : Int32 × MS) (h0 : x_simple k0 0 L0 σ0 = some r0) (sz : Nat) : Met l yX12_simple w_x_simple ({ frames := 326, cells := 0, slots := 0, locals := 10054 }) (va_Pc [.ref (a 0)] (nIn (dC, dI) cy sz (vM cy a σ0))) (va_Qi (fun (z : Int32) (_ : Unit) => z = r0.1) (fun _ t => nOut (dC, dI) cy (va_A (vM cy a σ0) sz) (vM cy a r0.2) t) (va_A (vM cy a σ0) sz)) 0 0 (va_A (vM cy a σ0) sz) := by
  refine Met.ofW (cc := cX12_simple) (maxL := 6) (ret := (some .int)) (by decide) rfl ?_
  intro p e s m args below meth c s₁ B hml hv
  obtain ⟨rfl, hsz, hP, hK, hD0, hG⟩ := hv
  have hx := B.exec
  have hb := B.bytes
  have hr := B.returns
  have hts := atoms_spec (ws := w_x_simple) B.pre
  have hown : s.vm.findClass RX12 = some m.cls := findClass_of_methodNamed B.named
  have hlocks := B.notSynchronized
  subst hsz
  have hD := hD0.self (sz := s.heap.size)
  generalize hAe : va_A (vM cy a σ0) s.heap.size = A at hD ⊢
  have hA : ∀ q : Nat, s.heap.size ≤ q → A q := fun q h => by rw [← hAe]; exact Or.inr h
  have hS : va_S A s.heap s.heap [] := va_S.rf
  have hl := lv_entry ([.ref (a 0)]) (n := 6) (Nat.le_of_ble_eq_true rfl)
  rw [lg_entry_eq]
  generalize (lg_sl ([.ref (a 0)]) ++ List.replicate (6 - (lg_sl ([.ref (a 0)])).length) Slot.unset).toArray = ls at hl ⊢
  have hl : lv_has ls 6 [(0, .ref (a 0))] := hl
  have blk : ∀ k : Nat, (bT p l e (headSpec w_x_simple ({ frames := 326, cells := 0, slots := 0, locals := 10054 })).room s m #[.ref (a 0)] below meth c dC dI cy a A (qI dC dI cy a A below #[.ref (a 0)] s) 6 (x_simple k 0) (fun L => [(0, .ref (a 0))]) 0 (fun L => [])) ∧ (bT p l e (headSpec w_x_simple ({ frames := 326, cells := 0, slots := 0, locals := 10054 })).room s m #[.ref (a 0)] below meth c dC dI cy a A (qI dC dI cy a A below #[.ref (a 0)] s) 6 (x_simple k 1) (fun L => [(0, .ref (a 0)), (1, .int (L 1))]) 17 (fun L => [])) ∧ (bT p l e (headSpec w_x_simple ({ frames := 326, cells := 0, slots := 0, locals := 10054 })).room s m #[.ref (a 0)] below meth c dC dI cy a A (qI dC dI cy a A below #[.ref (a 0)] s) 6 (x_simple k 2) (fun L => [(0, .ref (a 0)), (1, .int (L 1))]) 24 (fun L => [])) ∧ (bT p l e (headSpec w_x_simple ({ frames := 326, cells := 0, slots := 0, locals := 10054 })).room s m #[.ref (a 0)] below meth c dC dI cy a A (qI dC dI cy a A below #[.ref (a 0)] s) 6 (x_simple k 3) (fun L => [(0, .ref (a 0)), (1, .int (L 1))]) 46 (fun L => [])) ∧ (bT p l e (headSpec w_x_simple ({ frames := 326, cells := 0, slots := 0, locals := 10054 })).room s m #[.ref (a 0)] below meth c dC dI cy a A (qI dC dI cy a A below #[.ref (a 0)] s) 6 (x_simple k 4) (fun L => [(0, .ref (a 0)), (1, .int (L 1))]) 58 (fun L => [])) ∧ (bT p l e (headSpec w_x_simple ({ frames := 326, cells := 0, slots := 0, locals := 10054 })).room s m #[.ref (a 0)] below meth c dC dI cy a A (qI dC dI cy a A below #[.ref (a 0)] s) 6 (x_simple k 5) (fun L => [(0, .ref (a 0)), (1, .int (L 1)), (2, .int (L 2))]) 76 (fun L => [])) ∧ (bT p l e (headSpec w_x_simple ({ frames := 326, cells := 0, slots := 0, locals := 10054 })).room s m #[.ref (a 0)] below meth c dC dI cy a A (qI dC dI cy a A below #[.ref (a 0)] s) 6 (x_simple k 6) (fun L => [(0, .ref (a 0)), (1, .int (L 1)), (2, .int (L 2))]) 88 (fun L => [.ref (a 0)])) ∧ (bT p l e (headSpec w_x_simple ({ frames := 326, cells := 0, slots := 0, locals := 10054 })).room s m #[.ref (a 0)] below meth c dC dI cy a A (qI dC dI cy a A below #[.ref (a 0)] s) 6 (x_simple k 7) (fun L => [(0, .ref (a 0)), (1, .int (L 1)), (2, .int (L 2))]) 90 (fun L => [.int (L 100), .ref (a 0)])) ∧ (bT p l e (headSpec w_x_simple ({ frames := 326, cells := 0, slots := 0, locals := 10054 })).room s m #[.ref (a 0)] below meth c dC dI cy a A (qI dC dI cy a A below #[.ref (a 0)] s) 6 (x_simple k 8) (fun L => [(0, .ref (a 0)), (1, .int (L 1)), (2, .int (L 2))]) 100 (fun L => [])) ∧ (bT p l e (headSpec w_x_simple ({ frames := 326, cells := 0, slots := 0, locals := 10054 })).room s m #[.ref (a 0)] below meth c dC dI cy a A (qI dC dI cy a A below #[.ref (a 0)] s) 6 (x_simple k 9) (fun L => [(0, .ref (a 0)), (1, .int (L 1)), (2, .int (L 2))]) 122 (fun L => [])) ∧ (bT p l e (headSpec w_x_simple ({ frames := 326, cells := 0, slots := 0, locals := 10054 })).room s m #[.ref (a 0)] below meth c dC dI cy a A (qI dC dI cy a A below #[.ref (a 0)] s) 6 (x_simple k 10) (fun L => [(0, .ref (a 0)), (1, .int (L 1)), (2, .int (L 2))]) 126 (fun L => [])) ∧ (bT p l e (headSpec w_x_simple ({ frames := 326, cells := 0, slots := 0, locals := 10054 })).room s m #[.ref (a 0)] below meth c dC dI cy a A (qI dC dI cy a A below #[.ref (a 0)] s) 6 (x_simple k 11) (fun L => [(0, .ref (a 0)), (1, .int (L 1)), (2, .int (L 2))]) 130 (fun L => [.int (L 100)])) ∧ (bT p l e (headSpec w_x_simple ({ frames := 326, cells := 0, slots := 0, locals := 10054 })).room s m #[.ref (a 0)] below meth c dC dI cy a A (qI dC dI cy a A below #[.ref (a 0)] s) 6 (x_simple k 12) (fun L => [(0, .ref (a 0)), (1, .int (L 1)), (2, .int (L 2))]) 144 (fun L => [])) ∧ (bT p l e (headSpec w_x_simple ({ frames := 326, cells := 0, slots := 0, locals := 10054 })).room s m #[.ref (a 0)] below meth c dC dI cy a A (qI dC dI cy a A below #[.ref (a 0)] s) 6 (x_simple k 13) (fun L => [(0, .ref (a 0)), (1, .int (L 1)), (2, .int (L 2))]) 170 (fun L => [])) ∧ (bT p l e (headSpec w_x_simple ({ frames := 326, cells := 0, slots := 0, locals := 10054 })).room s m #[.ref (a 0)] below meth c dC dI cy a A (qI dC dI cy a A below #[.ref (a 0)] s) 6 (x_simple k 14) (fun L => [(0, .ref (a 0)), (1, .int (L 1)), (2, .int (L 2))]) 181 (fun L => [])) ∧ (bT p l e (headSpec w_x_simple ({ frames := 326, cells := 0, slots := 0, locals := 10054 })).room s m #[.ref (a 0)] below meth c dC dI cy a A (qI dC dI cy a A below #[.ref (a 0)] s) 6 (x_simple k 15) (fun L => [(0, .ref (a 0)), (1, .int (L 1)), (2, .int (L 2))]) 192 (fun L => [])) ∧ (bT p l e (headSpec w_x_simple ({ frames := 326, cells := 0, slots := 0, locals := 10054 })).room s m #[.ref (a 0)] below meth c dC dI cy a A (qI dC dI cy a A below #[.ref (a 0)] s) 6 (x_simple k 16) (fun L => [(0, .ref (a 0)), (1, .int (L 1)), (2, .int (L 2)), (3, .int (L 3)), (4, .int (L 4))]) 200 (fun L => [])) ∧ (bT p l e (headSpec w_x_simple ({ frames := 326, cells := 0, slots := 0, locals := 10054 })).room s m #[.ref (a 0)] below meth c dC dI cy a A (qI dC dI cy a A below #[.ref (a 0)] s) 6 (x_simple k 17) (fun L => [(0, .ref (a 0)), (1, .int (L 1)), (2, .int (L 2)), (3, .int (L 3)), (4, .int (L 4)), (5, .int (L 5))]) 235 (fun L => [])) ∧ (bT p l e (headSpec w_x_simple ({ frames := 326, cells := 0, slots := 0, locals := 10054 })).room s m #[.ref (a 0)] below meth c dC dI cy a A (qI dC dI cy a A below #[.ref (a 0)] s) 6 (x_simple k 18) (fun L => [(0, .ref (a 0)), (1, .int (L 1)), (2, .int (L 2)), (3, .int (L 3)), (4, .int (L 4))]) 242 (fun L => [])) ∧ (bT p l e (headSpec w_x_simple ({ frames := 326, cells := 0, slots := 0, locals := 10054 })).room s m #[.ref (a 0)] below meth c dC dI cy a A (qI dC dI cy a A below #[.ref (a 0)] s) 6 (x_simple k 19) (fun L => [(0, .ref (a 0)), (1, .int (L 1)), (2, .int (L 2)), (3, .int (L 3)), (4, .int (L 4))]) 258 (fun L => [])) ∧ (bT p l e (headSpec w_x_simple ({ frames := 326, cells := 0, slots := 0, locals := 10054 })).room s m #[.ref (a 0)] below meth c dC dI cy a A (qI dC dI cy a A below #[.ref (a 0)] s) 6 (x_simple k 20) (fun L => [(0, .ref (a 0)), (1, .int (L 1)), (2, .int (L 2))]) 271 (fun L => [])) ∧ (bT p l e (headSpec w_x_simple ({ frames := 326, cells := 0, slots := 0, locals := 10054 })).room s m #[.ref (a 0)] below meth c dC dI cy a A (qI dC dI cy a A below #[.ref (a 0)] s) 6 (x_simple k 21) (fun L => [(0, .ref (a 0)), (1, .int (L 1)), (2, .int (L 2))]) 295 (fun L => [])) ∧ (bT p l e (headSpec w_x_simple ({ frames := 326, cells := 0, slots := 0, locals := 10054 })).room s m #[.ref (a 0)] below meth c dC dI cy a A (qI dC dI cy a A below #[.ref (a 0)] s) 6 (x_simple k 22) (fun L => [(0, .ref (a 0)), (1, .int (L 1)), (2, .int (L 2))]) 307 (fun L => [.ref (a 0)])) ∧ (bT p l e (headSpec w_x_simple ({ frames := 326, cells := 0, slots := 0, locals := 10054 })).room s m #[.ref (a 0)] below meth c dC dI cy a A (qI dC dI cy a A below #[.ref (a 0)] s) 6 (x_simple k 23) (fun L => [(0, .ref (a 0)), (1, .int (L 1)), (2, .int (L 2))]) 318 (fun L => [.ref (a 0)])) ∧ (bT p l e (headSpec w_x_simple ({ frames := 326, cells := 0, slots := 0, locals := 10054 })).room s m #[.ref (a 0)] below meth c dC dI cy a A (qI dC dI cy a A below #[.ref (a 0)] s) 6 (x_simple k 24) (fun L => [(0, .ref (a 0)), (1, .int (L 1)), (2, .int (L 2))]) 320 (fun L => [.int (L 100), .ref (a 0)])) ∧ (bT p l e (headSpec w_x_simple ({ frames := 326, cells := 0, slots := 0, locals := 10054 })).room s m #[.ref (a 0)] below meth c dC dI cy a A (qI dC dI cy a A below #[.ref (a 0)] s) 6 (x_simple k 25) (fun L => [(0, .ref (a 0)), (1, .int (L 1)), (2, .int (L 2))]) 327 (fun L => [])) := by
    intro k
    induction k with
    | zero => exact ⟨fun L σ r h => (by cases h), fun L σ r h => (by cases h), fun L σ r h => (by cases h), fun L σ r h => (by cases h), fun L σ r h => (by cases h), fun L σ r h => (by cases h), fun L σ r h => (by cases h), fun L σ r h => (by cases h), fun L σ r h => (by cases h), fun L σ r h => (by cases h), fun L σ r h => (by cases h), fun L σ r h => (by cases h), fun L σ r h => (by cases h), fun L σ r h => (by cases h), fun L σ r h => (by cases h), fun L σ r h => (by cases h), fun L σ r h => (by cases h), fun L σ r h => (by cases h), fun L σ r h => (by cases h), fun L σ r h => (by cases h), fun L σ r h => (by cases h), fun L σ r h => (by cases h), fun L σ r h => (by cases h), fun L σ r h => (by cases h), fun L σ r h => (by cases h), fun L σ r h => (by cases h)⟩
    | succ k ih =>
      refine ⟨?_, ?_, ?_, ?_, ?_, ?_, ?_, ?_, ?_, ?_, ?_, ?_, ?_, ?_, ?_, ?_, ?_, ?_, ?_, ?_, ?_, ?_, ?_, ?_, ?_, ?_⟩
      · intro L σ r h H locs ls hP hD hS hl
        rw [x_simple] at h
        refine lv_aload_n hx hb dX12_simple_0 rfl (lv_at hl 0 rfl) ?_
        refine ng_7 hx hb hts in_x_simple hown hK hP (hts _ (List.mem_cons_of_mem _ (List.mem_append_left _ (List.mem_append_left _ (List.mem_of_getElem? (i := 0) rfl))))) dX12_simple_1 ?_
        refine lv_istore_n (lv' := [(1, .int (σ.1 7)), (0, .ref (a 0))]) hx hb dX12_simple_4 rfl hl (by decide) rfl (fun ls hl => ?_)
        refine lv_iload_n hx hb dX12_simple_5 rfl (lv_at hl 0 rfl) ?_
        refine lv_bipush (v := 17) hx hb dX12_simple_6 (by decide) ?_
        refine lv_icmp_eq (tgt := 17) hx hb dX12_simple_8 (by decide) (fun c1 => ?_) (fun c1 => ?_)
        · rw [if_pos c1] at h
          exact ih.2.1 (upd L 1 ((σ.1 7))) σ r h H locs ls hP hD hS (lv_sub hl [1, 0] rfl)
        · rw [if_neg c1] at h
          refine lv_iload_n hx hb dX12_simple_11 rfl (lv_at hl 0 rfl) ?_
          refine lv_bipush (v := 18) hx hb dX12_simple_12 (by decide) ?_
          refine lv_icmp_ne (tgt := 24) hx hb dX12_simple_14 (by decide) (fun c2 => ?_) (fun c2 => ?_)
          · rw [if_neg c2] at h
            exact ih.2.2.1 (upd L 1 ((σ.1 7))) σ r h H locs ls hP hD hS (lv_sub hl [1, 0] rfl)
          · rw [if_pos c2] at h
            exact ih.2.1 (upd L 1 ((σ.1 7))) σ r h H locs ls hP hD hS (lv_sub hl [1, 0] rfl)
      · intro L σ r h H locs ls hP hD hS hl
        rw [x_simple] at h
        refine lv_aload_n hx hb dX12_simple_17 rfl (lv_at hl 0 rfl) ?_
        refine ng_45 hx hb hts in_x_simple hown hK hP (hts _ (List.mem_cons_of_mem _ (List.mem_append_left _ (List.mem_append_left _ (List.mem_of_getElem? (i := 1) rfl))))) dX12_simple_18 ?_
        refine lv_if_eq (tgt := 46) hx hb dX12_simple_21 (by decide) (fun c1 => ?_) (fun c1 => ?_)
        · rw [if_pos c1] at h
          exact ih.2.2.2.1 L σ r h H locs ls hP hD hS (lv_sub hl [0, 1] rfl)
        · rw [if_neg c1] at h
          exact ih.2.2.1 L σ r h H locs ls hP hD hS (lv_sub hl [0, 1] rfl)
      · intro L σ r h H locs ls hP hD hS hl
        rw [x_simple] at h
        refine lv_iload_n hx hb dX12_simple_24 rfl (lv_at hl 1 rfl) ?_
        refine lv_bipush (v := 19) hx hb dX12_simple_25 (by decide) ?_
        refine lv_icmp_ne (tgt := 58) hx hb dX12_simple_27 (by decide) (fun c1 => ?_) (fun c1 => ?_)
        · rw [if_neg c1] at h
          exact ih.2.2.2.2.1 L σ r h H locs ls hP hD hS (lv_sub hl [0, 1] rfl)
        · rw [if_pos c1] at h
          refine lv_aload_n hx hb dX12_simple_30 rfl (lv_at hl 0 rfl) ?_
          refine ng_37 hx hb hts in_x_simple hown hK hP (hts _ (List.mem_cons_of_mem _ (List.mem_append_left _ (List.mem_append_left _ (List.mem_of_getElem? (i := 2) rfl))))) dX12_simple_31 ?_
          refine lv_if_eq (tgt := 46) hx hb dX12_simple_34 (by decide) (fun c2 => ?_) (fun c2 => ?_)
          · rw [if_pos c2] at h
            exact ih.2.2.2.1 L σ r h H locs ls hP hD hS (lv_sub hl [0, 1] rfl)
          · rw [if_neg c2] at h
            refine lv_aload_n hx hb dX12_simple_37 rfl (lv_at hl 0 rfl) ?_
            refine ng_37 hx hb hts in_x_simple hown hK hP (hts _ (List.mem_cons_of_mem _ (List.mem_append_left _ (List.mem_append_left _ (List.mem_of_getElem? (i := 2) rfl))))) dX12_simple_38 ?_
            refine lv_bipush (v := 41) hx hb dX12_simple_41 (by decide) ?_
            refine lv_icmp_le (tgt := 58) hx hb dX12_simple_43 (by decide) (fun c3 => ?_) (fun c3 => ?_)
            · rw [if_pos c3] at h
              exact ih.2.2.2.2.1 L σ r h H locs ls hP hD hS (lv_sub hl [0, 1] rfl)
            · rw [if_neg c3] at h
              exact ih.2.2.2.1 L σ r h H locs ls hP hD hS (lv_sub hl [0, 1] rfl)
      · intro L σ r h H locs ls hP hD hS hl
        rw [x_simple] at h
        refine lv_aload_n hx hb dX12_simple_46 rfl (lv_at hl 0 rfl) ?_
        refine lv_bipush (v := 7) hx hb dX12_simple_47 (by decide) ?_
        refine lv_aload_n hx hb dX12_simple_49 rfl (lv_at hl 0 rfl) ?_
        refine ng_8 hx hb hts in_x_simple hown hK hP (hts _ (List.mem_cons_of_mem _ (List.mem_append_left _ (List.mem_append_left _ (List.mem_of_getElem? (i := 3) rfl))))) dX12_simple_50 ?_
        obtain ⟨r1, hc1, h⟩ := ob_ex h
        refine nc_Vv (As := [.int 7, .int (σ.1 8)]) (rest := []) ⟨hx, hb, hml, hown, hts⟩ (c_x_fault l dC dI cy a k (upd (upd (fun _ => 0) 1 7) 2 ((σ.1 8))) σ r1 hc1 H.size) (cwV 2 hts g_x_simple_fault_58 rfl rfl rfl hd_x_fault ⟨Nat.le_of_ble_eq_true rfl, Nat.le_of_ble_eq_true rfl⟩) hK hG hA hP hD hS rfl hl.1 rfl (Nat.le_of_ble_eq_true rfl) dX12_simple_53 ⟨Nat.le_refl _, Nat.le_refl _⟩ (fun H locs hP hD hS => ?_)
        refine lv_iconst (v := 0) hx hb dX12_simple_56 (by decide) ?_
        cases h
        exact W.iret (v := 0) hx hb hr (fun t ht hW => ⟨⟨0, (), rfl, rfl, by rw [ht]; exact hP, va_K.moved hW.alike hK, hD⟩, hS.F ht⟩) hS.2.2 dX12_simple_57
      · intro L σ r h H locs ls hP hD hS hl
        rw [x_simple] at h
        refine lv_aload_n hx hb dX12_simple_58 rfl (lv_at hl 0 rfl) ?_
        obtain ⟨r1, hc1, h⟩ := ob_ex h
        refine nc_Vv (As := []) (rest := []) ⟨hx, hb, hml, hown, hts⟩ (c_x_take l dC dI cy a k (fun _ => 0) σ r1 hc1 H.size) (cwV 0 hts g_x_simple_take_71 rfl rfl rfl hd_x_take ⟨Nat.le_of_ble_eq_true rfl, Nat.le_of_ble_eq_true rfl⟩) hK hG hA hP hD hS rfl hl.1 rfl (Nat.le_of_ble_eq_true rfl) dX12_simple_59 ⟨Nat.le_refl _, Nat.le_refl _⟩ (fun H locs hP hD hS => ?_)
        refine lv_iconst (v := 0) hx hb dX12_simple_62 (by decide) ?_
        refine lv_istore_n (lv' := [(2, .int 0), (0, .ref (a 0)), (1, .int (L 1))]) hx hb dX12_simple_63 rfl hl (by decide) rfl (fun ls hl => ?_)
        refine lv_iload_n hx hb dX12_simple_64 rfl (lv_at hl 2 rfl) ?_
        refine lv_bipush (v := 17) hx hb dX12_simple_65 (by decide) ?_
        refine lv_icmp_eq (tgt := 76) hx hb dX12_simple_67 (by decide) (fun c2 => ?_) (fun c2 => ?_)
        · rw [if_pos c2] at h
          exact ih.2.2.2.2.2.1 (upd L 2 0) r1.2 r h H locs ls hP hD hS (lv_sub hl [1, 2, 0] rfl)
        · rw [if_neg c2] at h
          refine lv_iload_n hx hb dX12_simple_70 rfl (lv_at hl 2 rfl) ?_
          refine lv_bipush (v := 18) hx hb dX12_simple_71 (by decide) ?_
          refine lv_icmp_ne (tgt := 100) hx hb dX12_simple_73 (by decide) (fun c3 => ?_) (fun c3 => ?_)
          · rw [if_neg c3] at h
            exact ih.2.2.2.2.2.2.2.2.1 (upd L 2 0) r1.2 r h H locs ls hP hD hS (lv_sub hl [1, 2, 0] rfl)
          · rw [if_pos c3] at h
            exact ih.2.2.2.2.2.1 (upd L 2 0) r1.2 r h H locs ls hP hD hS (lv_sub hl [1, 2, 0] rfl)
      · intro L σ r h H locs ls hP hD hS hl
        rw [x_simple] at h
        refine lv_aload_n hx hb dX12_simple_76 rfl (lv_at hl 0 rfl) ?_
        refine lv_iload_n hx hb dX12_simple_77 rfl (lv_at hl 1 rfl) ?_
        refine lv_bipush (v := 17) hx hb dX12_simple_78 (by decide) ?_
        refine lv_icmp_ne (tgt := 88) hx hb dX12_simple_80 (by decide) (fun c1 => ?_) (fun c1 => ?_)
        · rw [if_neg c1] at h
          exact ih.2.2.2.2.2.2.1 L σ r h H locs ls hP hD hS (lv_sub hl [0, 1, 2] rfl)
        · rw [if_pos c1] at h
          refine lv_bipush (v := 49) hx hb dX12_simple_83 (by decide) ?_
          refine lv_goto (tgt := 90) hx hb dX12_simple_85 (by decide) ?_
          exact ih.2.2.2.2.2.2.2.1 (upd L 100 49) σ r h H locs ls hP hD hS (lv_sub hl [0, 1, 2] rfl)
      · intro L σ r h H locs ls hP hD hS hl
        rw [x_simple] at h
        refine lv_bipush (v := 50) hx hb dX12_simple_88 (by decide) ?_
        exact ih.2.2.2.2.2.2.2.1 (upd L 100 50) σ r h H locs ls hP hD hS (lv_sub hl [0, 1, 2] rfl)
      · intro L σ r h H locs ls hP hD hS hl
        rw [x_simple] at h
        refine lv_iconst (v := 0) hx hb dX12_simple_90 (by decide) ?_
        refine lv_iconst (v := 0) hx hb dX12_simple_91 (by decide) ?_
        refine lv_iconst (v := 0) hx hb dX12_simple_92 (by decide) ?_
        obtain ⟨r1, hc1, h⟩ := ob_ex h
        refine nc_Vi (As := [.int (L 100), .int 0, .int 0, .int 0]) (rest := []) ⟨hx, hb, hml, hown, hts⟩ (c_x_node l dC dI cy a k (upd (upd (upd (upd (fun _ => 0) 1 ((L 100))) 2 0) 3 0) 4 0) σ r1 hc1 H.size) (cwV 4 hts g_x_simple_node_101 rfl rfl rfl hd_x_node ⟨Nat.le_of_ble_eq_true rfl, Nat.le_of_ble_eq_true rfl⟩) hK hG hA hP hD hS rfl hl.1 rfl (Nat.le_of_ble_eq_true rfl) dX12_simple_93 ⟨Nat.le_refl _, Nat.le_refl _⟩ (fun H locs hP hD hS => ?_)
        refine lv_istore_n (lv' := [(2, .int r1.1), (0, .ref (a 0)), (1, .int (L 1))]) hx hb dX12_simple_96 rfl hl (by decide) rfl (fun ls hl => ?_)
        refine lv_goto (tgt := 327) hx hb dX12_simple_97 (by decide) ?_
        exact ih.2.2.2.2.2.2.2.2.2.2.2.2.2.2.2.2.2.2.2.2.2.2.2.2.2 (upd L 2 r1.1) r1.2 r h H locs ls hP hD hS (lv_sub hl [1, 2, 0] rfl)
      · intro L σ r h H locs ls hP hD hS hl
        rw [x_simple] at h
        refine lv_iload_n hx hb dX12_simple_100 rfl (lv_at hl 1 rfl) ?_
        refine lv_bipush (v := 19) hx hb dX12_simple_101 (by decide) ?_
        refine lv_icmp_ne (tgt := 144) hx hb dX12_simple_103 (by decide) (fun c1 => ?_) (fun c1 => ?_)
        · rw [if_neg c1] at h
          exact ih.2.2.2.2.2.2.2.2.2.2.2.2.1 L σ r h H locs ls hP hD hS (lv_sub hl [0, 1, 2] rfl)
        · rw [if_pos c1] at h
          refine lv_aload_n hx hb dX12_simple_106 rfl (lv_at hl 0 rfl) ?_
          refine ng_10 hx hb hts in_x_simple hown hK hP (hts _ (List.mem_cons_of_mem _ (List.mem_append_left _ (List.mem_append_left _ (List.mem_of_getElem? (i := 14) rfl))))) dX12_simple_107 ?_
          refine lv_if_ne (tgt := 122) hx hb dX12_simple_110 (by decide) (fun c2 => ?_) (fun c2 => ?_)
          · rw [if_neg c2] at h
            exact ih.2.2.2.2.2.2.2.2.2.1 L σ r h H locs ls hP hD hS (lv_sub hl [0, 1, 2] rfl)
          · rw [if_pos c2] at h
            refine lv_aload_n hx hb dX12_simple_113 rfl (lv_at hl 0 rfl) ?_
            refine lv_bipush (v := 13) hx hb dX12_simple_114 (by decide) ?_
            obtain ⟨r3, hc3, h⟩ := ob_ex h
            refine nc_Vi (As := [.int 13]) (rest := []) ⟨hx, hb, hml, hown, hts⟩ (c_x_isSign l dC dI cy a k (upd (fun _ => 0) 1 13) σ r3 hc3 H.size) (cwV 1 hts g_x_simple_isSign_65 rfl rfl rfl hd_x_isSign ⟨Nat.le_of_ble_eq_true rfl, Nat.le_of_ble_eq_true rfl⟩) hK hG hA hP hD hS rfl hl.1 rfl (Nat.le_of_ble_eq_true rfl) dX12_simple_116 ⟨Nat.le_refl _, Nat.le_refl _⟩ (fun H locs hP hD hS => ?_)
            refine lv_if_eq (tgt := 126) hx hb dX12_simple_119 (by decide) (fun c4 => ?_) (fun c4 => ?_)
            · rw [if_pos c4] at h
              exact ih.2.2.2.2.2.2.2.2.2.2.1 L r3.2 r h H locs ls hP hD hS (lv_sub hl [0, 1, 2] rfl)
            · rw [if_neg c4] at h
              exact ih.2.2.2.2.2.2.2.2.2.1 L r3.2 r h H locs ls hP hD hS (lv_sub hl [0, 1, 2] rfl)
      · intro L σ r h H locs ls hP hD hS hl
        rw [x_simple] at h
        refine lv_iconst (v := (-1)) hx hb dX12_simple_122 (by decide) ?_
        refine lv_goto (tgt := 130) hx hb dX12_simple_123 (by decide) ?_
        exact ih.2.2.2.2.2.2.2.2.2.2.2.1 (upd L 100 ((-1))) σ r h H locs ls hP hD hS (lv_sub hl [0, 1, 2] rfl)
      · intro L σ r h H locs ls hP hD hS hl
        rw [x_simple] at h
        refine lv_aload_n hx hb dX12_simple_126 rfl (lv_at hl 0 rfl) ?_
        obtain ⟨r1, hc1, h⟩ := ob_ex h
        refine nc_Vi (As := []) (rest := []) ⟨hx, hb, hml, hown, hts⟩ (c_x_exp l dC dI cy a k (fun _ => 0) σ r1 hc1 H.size) (cwV 0 hts g_x_simple_exp_209 rfl rfl rfl hd_x_exp ⟨Nat.le_of_ble_eq_true rfl, Nat.le_of_ble_eq_true rfl⟩) hK hG hA hP hD hS rfl hl.1 rfl (Nat.le_of_ble_eq_true rfl) dX12_simple_127 ⟨Nat.le_refl _, Nat.le_refl _⟩ (fun H locs hP hD hS => ?_)
        exact ih.2.2.2.2.2.2.2.2.2.2.2.1 (upd L 100 r1.1) r1.2 r h H locs ls hP hD hS (lv_sub hl [0, 1, 2] rfl)
      · intro L σ r h H locs ls hP hD hS hl
        rw [x_simple] at h
        refine lv_istore_n (lv' := [(3, .int (L 100)), (0, .ref (a 0)), (1, .int (L 1)), (2, .int (L 2))]) hx hb dX12_simple_130 rfl hl (by decide) rfl (fun ls hl => ?_)
        refine lv_aload_n hx hb dX12_simple_131 rfl (lv_at hl 1 rfl) ?_
        refine lv_bipush (v := 51) hx hb dX12_simple_132 (by decide) ?_
        refine lv_iload_n hx hb dX12_simple_134 rfl (lv_at hl 0 rfl) ?_
        refine lv_iconst (v := 0) hx hb dX12_simple_135 (by decide) ?_
        refine lv_iconst (v := 0) hx hb dX12_simple_136 (by decide) ?_
        obtain ⟨r1, hc1, h⟩ := ob_ex h
        refine nc_Vi (As := [.int 51, .int (L 100), .int 0, .int 0]) (rest := []) ⟨hx, hb, hml, hown, hts⟩ (c_x_node l dC dI cy a k (upd (upd (upd (upd (fun _ => 0) 1 51) 2 ((L 100))) 3 0) 4 0) σ r1 hc1 H.size) (cwV 4 hts g_x_simple_node_101 rfl rfl rfl hd_x_node ⟨Nat.le_of_ble_eq_true rfl, Nat.le_of_ble_eq_true rfl⟩) hK hG hA hP hD hS rfl hl.1 rfl (Nat.le_of_ble_eq_true rfl) dX12_simple_137 ⟨Nat.le_refl _, Nat.le_refl _⟩ (fun H locs hP hD hS => ?_)
        refine lv_istore_n (lv' := [(2, .int r1.1), (3, .int (L 100)), (0, .ref (a 0)), (1, .int (L 1))]) hx hb dX12_simple_140 rfl hl (by decide) rfl (fun ls hl => ?_)
        refine lv_goto (tgt := 327) hx hb dX12_simple_141 (by decide) ?_
        exact ih.2.2.2.2.2.2.2.2.2.2.2.2.2.2.2.2.2.2.2.2.2.2.2.2.2 (upd (upd L 3 ((L 100))) 2 r1.1) r1.2 r h H locs ls hP hD hS (lv_sub hl [2, 3, 0] rfl)
      · intro L σ r h H locs ls hP hD hS hl
        rw [x_simple] at h
        refine lv_iload_n hx hb dX12_simple_144 rfl (lv_at hl 1 rfl) ?_
        refine lv_bipush (v := 20) hx hb dX12_simple_145 (by decide) ?_
        refine lv_icmp_ne (tgt := 271) hx hb dX12_simple_147 (by decide) (fun c1 => ?_) (fun c1 => ?_)
        · rw [if_neg c1] at h
          exact ih.2.2.2.2.2.2.2.2.2.2.2.2.2.2.2.2.2.2.2.2.1 L σ r h H locs ls hP hD hS (lv_sub hl [0, 1, 2] rfl)
        · rw [if_pos c1] at h
          refine lv_aload_n hx hb dX12_simple_150 rfl (lv_at hl 0 rfl) ?_
          refine ng_10 hx hb hts in_x_simple hown hK hP (hts _ (List.mem_cons_of_mem _ (List.mem_append_left _ (List.mem_append_left _ (List.mem_of_getElem? (i := 14) rfl))))) dX12_simple_151 ?_
          refine lv_if_ne (tgt := 170) hx hb dX12_simple_154 (by decide) (fun c2 => ?_) (fun c2 => ?_)
          · rw [if_neg c2] at h
            exact ih.2.2.2.2.2.2.2.2.2.2.2.2.2.1 L σ r h H locs ls hP hD hS (lv_sub hl [0, 1, 2] rfl)
          · rw [if_pos c2] at h
            refine lv_aload_n hx hb dX12_simple_157 rfl (lv_at hl 0 rfl) ?_
            refine lv_bipush (v := 6) hx hb dX12_simple_158 (by decide) ?_
            obtain ⟨r3, hc3, h⟩ := ob_ex h
            refine nc_Vi (As := [.int 6]) (rest := []) ⟨hx, hb, hml, hown, hts⟩ (c_x_isSign l dC dI cy a k (upd (fun _ => 0) 1 6) σ r3 hc3 H.size) (cwV 1 hts g_x_simple_isSign_65 rfl rfl rfl hd_x_isSign ⟨Nat.le_of_ble_eq_true rfl, Nat.le_of_ble_eq_true rfl⟩) hK hG hA hP hD hS rfl hl.1 rfl (Nat.le_of_ble_eq_true rfl) dX12_simple_160 ⟨Nat.le_refl _, Nat.le_refl _⟩ (fun H locs hP hD hS => ?_)
            refine lv_if_ne (tgt := 170) hx hb dX12_simple_163 (by decide) (fun c4 => ?_) (fun c4 => ?_)
            · rw [if_neg c4] at h
              exact ih.2.2.2.2.2.2.2.2.2.2.2.2.2.1 L r3.2 r h H locs ls hP hD hS (lv_sub hl [0, 1, 2] rfl)
            · rw [if_pos c4] at h
              refine lv_aload_n hx hb dX12_simple_166 rfl (lv_at hl 0 rfl) ?_
              obtain ⟨r5, hc5, h⟩ := ob_ex h
              refine nc_Vv (As := []) (rest := []) ⟨hx, hb, hml, hown, hts⟩ (c_x_cannot l dC dI cy a k (fun _ => 0) r3.2 r5 hc5 H.size) (cwV 0 hts g_x_simple_cannot_68 rfl rfl rfl hd_x_cannot ⟨Nat.le_of_ble_eq_true rfl, Nat.le_of_ble_eq_true rfl⟩) hK hG hA hP hD hS rfl hl.1 rfl (Nat.le_of_ble_eq_true rfl) dX12_simple_167 ⟨Nat.le_refl _, Nat.le_refl _⟩ (fun H locs hP hD hS => ?_)
              exact ih.2.2.2.2.2.2.2.2.2.2.2.2.2.1 L r5.2 r h H locs ls hP hD hS (lv_sub hl [0, 1, 2] rfl)
      · intro L σ r h H locs ls hP hD hS hl
        rw [x_simple] at h
        refine lv_aload_n hx hb dX12_simple_170 rfl (lv_at hl 0 rfl) ?_
        refine ng_10 hx hb hts in_x_simple hown hK hP (hts _ (List.mem_cons_of_mem _ (List.mem_append_left _ (List.mem_append_left _ (List.mem_of_getElem? (i := 14) rfl))))) dX12_simple_171 ?_
        refine lv_if_ne (tgt := 181) hx hb dX12_simple_174 (by decide) (fun c1 => ?_) (fun c1 => ?_)
        · rw [if_neg c1] at h
          exact ih.2.2.2.2.2.2.2.2.2.2.2.2.2.2.1 L σ r h H locs ls hP hD hS (lv_sub hl [0, 1, 2] rfl)
        · rw [if_pos c1] at h
          refine lv_aload_n hx hb dX12_simple_177 rfl (lv_at hl 0 rfl) ?_
          obtain ⟨r2, hc2, h⟩ := ob_ex h
          refine nc_Vv (As := []) (rest := []) ⟨hx, hb, hml, hown, hts⟩ (c_x_open l dC dI cy a k (fun _ => 0) σ r2 hc2 H.size) (cwV 0 hts g_x_simple_open_177 rfl rfl rfl hd_x_open ⟨Nat.le_of_ble_eq_true rfl, Nat.le_of_ble_eq_true rfl⟩) hK hG hA hP hD hS rfl hl.1 rfl (Nat.le_of_ble_eq_true rfl) dX12_simple_178 ⟨Nat.le_refl _, Nat.le_refl _⟩ (fun H locs hP hD hS => ?_)
          exact ih.2.2.2.2.2.2.2.2.2.2.2.2.2.2.1 L r2.2 r h H locs ls hP hD hS (lv_sub hl [0, 1, 2] rfl)
      · intro L σ r h H locs ls hP hD hS hl
        rw [x_simple] at h
        refine lv_aload_n hx hb dX12_simple_181 rfl (lv_at hl 0 rfl) ?_
        refine ng_10 hx hb hts in_x_simple hown hK hP (hts _ (List.mem_cons_of_mem _ (List.mem_append_left _ (List.mem_append_left _ (List.mem_of_getElem? (i := 14) rfl))))) dX12_simple_182 ?_
        refine lv_if_ne (tgt := 192) hx hb dX12_simple_185 (by decide) (fun c1 => ?_) (fun c1 => ?_)
        · rw [if_neg c1] at h
          exact ih.2.2.2.2.2.2.2.2.2.2.2.2.2.2.2.1 L σ r h H locs ls hP hD hS (lv_sub hl [0, 1, 2] rfl)
        · rw [if_pos c1] at h
          refine lv_aload_n hx hb dX12_simple_188 rfl (lv_at hl 0 rfl) ?_
          obtain ⟨r2, hc2, h⟩ := ob_ex h
          refine nc_Vv (As := []) (rest := []) ⟨hx, hb, hml, hown, hts⟩ (c_x_take l dC dI cy a k (fun _ => 0) σ r2 hc2 H.size) (cwV 0 hts g_x_simple_take_71 rfl rfl rfl hd_x_take ⟨Nat.le_of_ble_eq_true rfl, Nat.le_of_ble_eq_true rfl⟩) hK hG hA hP hD hS rfl hl.1 rfl (Nat.le_of_ble_eq_true rfl) dX12_simple_189 ⟨Nat.le_refl _, Nat.le_refl _⟩ (fun H locs hP hD hS => ?_)
          exact ih.2.2.2.2.2.2.2.2.2.2.2.2.2.2.2.1 L r2.2 r h H locs ls hP hD hS (lv_sub hl [0, 1, 2] rfl)
      · intro L σ r h H locs ls hP hD hS hl
        rw [x_simple] at h
        refine lv_aload_n hx hb dX12_simple_192 rfl (lv_at hl 0 rfl) ?_
        obtain ⟨r1, hc1, h⟩ := ob_ex h
        refine nc_Vi (As := []) (rest := []) ⟨hx, hb, hml, hown, hts⟩ (c_x_exp l dC dI cy a k (fun _ => 0) σ r1 hc1 H.size) (cwV 0 hts g_x_simple_exp_209 rfl rfl rfl hd_x_exp ⟨Nat.le_of_ble_eq_true rfl, Nat.le_of_ble_eq_true rfl⟩) hK hG hA hP hD hS rfl hl.1 rfl (Nat.le_of_ble_eq_true rfl) dX12_simple_193 ⟨Nat.le_refl _, Nat.le_refl _⟩ (fun H locs hP hD hS => ?_)
        refine lv_istore_n (lv' := [(3, .int r1.1), (0, .ref (a 0)), (1, .int (L 1)), (2, .int (L 2))]) hx hb dX12_simple_196 rfl hl (by decide) rfl (fun ls hl => ?_)
        refine lv_iload_n hx hb dX12_simple_197 rfl (lv_at hl 0 rfl) ?_
        refine lv_istore (lv' := [(4, .int r1.1), (3, .int r1.1), (0, .ref (a 0)), (1, .int (L 1)), (2, .int (L 2))]) hx hb dX12_simple_198 hl (by decide) rfl (fun ls hl => ?_)
        exact ih.2.2.2.2.2.2.2.2.2.2.2.2.2.2.2.2.1 (upd (upd L 3 r1.1) 4 r1.1) r1.2 r h H locs ls hP hD hS (lv_sub hl [2, 3, 4, 1, 0] rfl)
      · intro L σ r h H locs ls hP hD hS hl
        rw [x_simple] at h
        refine lv_aload_n hx hb dX12_simple_200 rfl (lv_at hl 0 rfl) ?_
        refine ng_10 hx hb hts in_x_simple hown hK hP (hts _ (List.mem_cons_of_mem _ (List.mem_append_left _ (List.mem_append_left _ (List.mem_of_getElem? (i := 14) rfl))))) dX12_simple_201 ?_
        refine lv_if_ne (tgt := 242) hx hb dX12_simple_204 (by decide) (fun c1 => ?_) (fun c1 => ?_)
        · rw [if_neg c1] at h
          exact ih.2.2.2.2.2.2.2.2.2.2.2.2.2.2.2.2.2.2.1 L σ r h H locs ls hP hD hS (lv_sub hl [0, 1, 2, 3, 4] rfl)
        · rw [if_pos c1] at h
          refine lv_aload_n hx hb dX12_simple_207 rfl (lv_at hl 0 rfl) ?_
          refine lv_bipush (v := 12) hx hb dX12_simple_208 (by decide) ?_
          obtain ⟨r2, hc2, h⟩ := ob_ex h
          refine nc_Vi (As := [.int 12]) (rest := []) ⟨hx, hb, hml, hown, hts⟩ (c_x_isSign l dC dI cy a k (upd (fun _ => 0) 1 12) σ r2 hc2 H.size) (cwV 1 hts g_x_simple_isSign_65 rfl rfl rfl hd_x_isSign ⟨Nat.le_of_ble_eq_true rfl, Nat.le_of_ble_eq_true rfl⟩) hK hG hA hP hD hS rfl hl.1 rfl (Nat.le_of_ble_eq_true rfl) dX12_simple_210 ⟨Nat.le_refl _, Nat.le_refl _⟩ (fun H locs hP hD hS => ?_)
          refine lv_if_eq (tgt := 242) hx hb dX12_simple_213 (by decide) (fun c3 => ?_) (fun c3 => ?_)
          · rw [if_pos c3] at h
            exact ih.2.2.2.2.2.2.2.2.2.2.2.2.2.2.2.2.2.2.1 L r2.2 r h H locs ls hP hD hS (lv_sub hl [0, 1, 2, 3, 4] rfl)
          · rw [if_neg c3] at h
            refine lv_aload_n hx hb dX12_simple_216 rfl (lv_at hl 0 rfl) ?_
            obtain ⟨r4, hc4, h⟩ := ob_ex h
            refine nc_Vv (As := []) (rest := []) ⟨hx, hb, hml, hown, hts⟩ (c_x_take l dC dI cy a k (fun _ => 0) r2.2 r4 hc4 H.size) (cwV 0 hts g_x_simple_take_71 rfl rfl rfl hd_x_take ⟨Nat.le_of_ble_eq_true rfl, Nat.le_of_ble_eq_true rfl⟩) hK hG hA hP hD hS rfl hl.1 rfl (Nat.le_of_ble_eq_true rfl) dX12_simple_217 ⟨Nat.le_refl _, Nat.le_refl _⟩ (fun H locs hP hD hS => ?_)
            refine lv_aload_n hx hb dX12_simple_220 rfl (lv_at hl 0 rfl) ?_
            obtain ⟨r5, hc5, h⟩ := ob_ex h
            refine nc_Vi (As := []) (rest := []) ⟨hx, hb, hml, hown, hts⟩ (c_x_exp l dC dI cy a k (fun _ => 0) r4.2 r5 hc5 H.size) (cwV 0 hts g_x_simple_exp_209 rfl rfl rfl hd_x_exp ⟨Nat.le_of_ble_eq_true rfl, Nat.le_of_ble_eq_true rfl⟩) hK hG hA hP hD hS rfl hl.1 rfl (Nat.le_of_ble_eq_true rfl) dX12_simple_221 ⟨Nat.le_refl _, Nat.le_refl _⟩ (fun H locs hP hD hS => ?_)
            refine lv_istore (lv' := [(5, .int r5.1), (0, .ref (a 0)), (1, .int (L 1)), (2, .int (L 2)), (3, .int (L 3)), (4, .int (L 4))]) hx hb dX12_simple_224 hl (by decide) rfl (fun ls hl => ?_)
            refine lv_aload_n hx hb dX12_simple_226 rfl (lv_at hl 1 rfl) ?_
            refine ng_19 hx hb hts in_x_simple hown hK hP (hts _ (List.mem_cons_of_mem _ (List.mem_append_left _ (List.mem_append_left _ (List.mem_of_getElem? (i := 27) rfl))))) dX12_simple_227 ?_
            refine lv_iload hx hb dX12_simple_230 (lv_at hl 5 rfl) ?_
            refine lv_iload hx hb dX12_simple_232 (lv_at hl 0 rfl) ?_
            obtain ⟨q6, h⟩ := nb_ite1 h
            refine ns_9 hx hb hK hP hD hS q6 dX12_simple_234 (fun H locs hP hD hS => ?_)
            exact ih.2.2.2.2.2.2.2.2.2.2.2.2.2.2.2.2.2.1 (upd L 5 r5.1) (r5.2.1, r5.2.2.1, updG r5.2.2.2 9 (upd (r5.2.2.2 9) ((L 4)).toNatClampNeg r5.1)) r h H locs ls hP hD hS (lv_sub hl [1, 2, 3, 4, 5, 0] rfl)
      · intro L σ r h H locs ls hP hD hS hl
        rw [x_simple] at h
        refine lv_iload hx hb dX12_simple_235 (lv_at hl 5 rfl) ?_
        refine lv_istore (lv' := [(4, .int (L 5)), (0, .ref (a 0)), (1, .int (L 1)), (2, .int (L 2)), (3, .int (L 3)), (5, .int (L 5))]) hx hb dX12_simple_237 hl (by decide) rfl (fun ls hl => ?_)
        refine lv_goto (tgt := 200) hx hb dX12_simple_239 (by decide) ?_
        exact ih.2.2.2.2.2.2.2.2.2.2.2.2.2.2.2.2.1 (upd L 4 ((L 5))) σ r h H locs ls hP hD hS (lv_sub hl [1, 2, 3, 4, 0] rfl)
      · intro L σ r h H locs ls hP hD hS hl
        rw [x_simple] at h
        refine lv_aload_n hx hb dX12_simple_242 rfl (lv_at hl 0 rfl) ?_
        refine lv_bipush (v := 7) hx hb dX12_simple_243 (by decide) ?_
        obtain ⟨r1, hc1, h⟩ := ob_ex h
        refine nc_Vv (As := [.int 7]) (rest := []) ⟨hx, hb, hml, hown, hts⟩ (c_x_want l dC dI cy a k (upd (fun _ => 0) 1 7) σ r1 hc1 H.size) (cwV 1 hts g_x_simple_want_199 rfl rfl rfl hd_x_want ⟨Nat.le_of_ble_eq_true rfl, Nat.le_of_ble_eq_true rfl⟩) hK hG hA hP hD hS rfl hl.1 rfl (Nat.le_of_ble_eq_true rfl) dX12_simple_245 ⟨Nat.le_refl _, Nat.le_refl _⟩ (fun H locs hP hD hS => ?_)
        refine lv_aload_n hx hb dX12_simple_248 rfl (lv_at hl 0 rfl) ?_
        refine lv_dup hx hb dX12_simple_249 rfl ?_
        refine ng_13 hx hb hts in_x_simple hown hK hP (hts _ (List.mem_cons_of_mem _ (List.mem_append_left _ (List.mem_append_left _ (List.mem_of_getElem? (i := 31) rfl))))) dX12_simple_250 ?_
        refine lv_iconst (v := 1) hx hb dX12_simple_253 (by decide) ?_
        refine lv_isub hx hb dX12_simple_254 ?_
        refine np_13 hx hb hts in_x_simple hown hK hP hD hS (hts _ (List.mem_cons_of_mem _ (List.mem_append_left _ (List.mem_append_left _ (List.mem_of_getElem? (i := 31) rfl))))) dX12_simple_255 (fun H locs hP hD hS => ?_)
        exact ih.2.2.2.2.2.2.2.2.2.2.2.2.2.2.2.2.2.2.2.1 L (upd r1.2.1 13 ((((r1.2.1 13)) - 1)), r1.2.2.1, r1.2.2.2) r h H locs ls hP hD hS (lv_sub hl [0, 1, 2, 3, 4] rfl)
      · intro L σ r h H locs ls hP hD hS hl
        rw [x_simple] at h
        refine lv_aload_n hx hb dX12_simple_258 rfl (lv_at hl 0 rfl) ?_
        refine lv_bipush (v := 52) hx hb dX12_simple_259 (by decide) ?_
        refine lv_iload_n hx hb dX12_simple_261 rfl (lv_at hl 3 rfl) ?_
        refine lv_iconst (v := 0) hx hb dX12_simple_262 (by decide) ?_
        refine lv_iconst (v := 0) hx hb dX12_simple_263 (by decide) ?_
        obtain ⟨r1, hc1, h⟩ := ob_ex h
        refine nc_Vi (As := [.int 52, .int (L 3), .int 0, .int 0]) (rest := []) ⟨hx, hb, hml, hown, hts⟩ (c_x_node l dC dI cy a k (upd (upd (upd (upd (fun _ => 0) 1 52) 2 ((L 3))) 3 0) 4 0) σ r1 hc1 H.size) (cwV 4 hts g_x_simple_node_101 rfl rfl rfl hd_x_node ⟨Nat.le_of_ble_eq_true rfl, Nat.le_of_ble_eq_true rfl⟩) hK hG hA hP hD hS rfl hl.1 rfl (Nat.le_of_ble_eq_true rfl) dX12_simple_264 ⟨Nat.le_refl _, Nat.le_refl _⟩ (fun H locs hP hD hS => ?_)
        refine lv_istore_n (lv' := [(2, .int r1.1), (0, .ref (a 0)), (1, .int (L 1)), (3, .int (L 3)), (4, .int (L 4))]) hx hb dX12_simple_267 rfl hl (by decide) rfl (fun ls hl => ?_)
        refine lv_goto (tgt := 327) hx hb dX12_simple_268 (by decide) ?_
        exact ih.2.2.2.2.2.2.2.2.2.2.2.2.2.2.2.2.2.2.2.2.2.2.2.2.2 (upd L 2 r1.1) r1.2 r h H locs ls hP hD hS (lv_sub hl [1, 2, 0] rfl)
      · intro L σ r h H locs ls hP hD hS hl
        rw [x_simple] at h
        refine lv_iload_n hx hb dX12_simple_271 rfl (lv_at hl 1 rfl) ?_
        refine lv_bipush (v := 21) hx hb dX12_simple_272 (by decide) ?_
        refine lv_icmp_ne (tgt := 295) hx hb dX12_simple_274 (by decide) (fun c1 => ?_) (fun c1 => ?_)
        · rw [if_neg c1] at h
          exact ih.2.2.2.2.2.2.2.2.2.2.2.2.2.2.2.2.2.2.2.2.2.1 L σ r h H locs ls hP hD hS (lv_sub hl [0, 1, 2] rfl)
        · rw [if_pos c1] at h
          refine lv_aload_n hx hb dX12_simple_277 rfl (lv_at hl 0 rfl) ?_
          obtain ⟨r2, hc2, h⟩ := ob_ex h
          refine nc_Vi (As := []) (rest := []) ⟨hx, hb, hml, hown, hts⟩ (c_x_exp l dC dI cy a k (fun _ => 0) σ r2 hc2 H.size) (cwV 0 hts g_x_simple_exp_209 rfl rfl rfl hd_x_exp ⟨Nat.le_of_ble_eq_true rfl, Nat.le_of_ble_eq_true rfl⟩) hK hG hA hP hD hS rfl hl.1 rfl (Nat.le_of_ble_eq_true rfl) dX12_simple_278 ⟨Nat.le_refl _, Nat.le_refl _⟩ (fun H locs hP hD hS => ?_)
          refine lv_istore_n (lv' := [(3, .int r2.1), (0, .ref (a 0)), (1, .int (L 1)), (2, .int (L 2))]) hx hb dX12_simple_281 rfl hl (by decide) rfl (fun ls hl => ?_)
          refine lv_aload_n hx hb dX12_simple_282 rfl (lv_at hl 1 rfl) ?_
          refine lv_bipush (v := 53) hx hb dX12_simple_283 (by decide) ?_
          refine lv_iload_n hx hb dX12_simple_285 rfl (lv_at hl 0 rfl) ?_
          refine lv_iconst (v := 0) hx hb dX12_simple_286 (by decide) ?_
          refine lv_iconst (v := 0) hx hb dX12_simple_287 (by decide) ?_
          obtain ⟨r3, hc3, h⟩ := ob_ex h
          refine nc_Vi (As := [.int 53, .int r2.1, .int 0, .int 0]) (rest := []) ⟨hx, hb, hml, hown, hts⟩ (c_x_node l dC dI cy a k (upd (upd (upd (upd (fun _ => 0) 1 53) 2 r2.1) 3 0) 4 0) r2.2 r3 hc3 H.size) (cwV 4 hts g_x_simple_node_101 rfl rfl rfl hd_x_node ⟨Nat.le_of_ble_eq_true rfl, Nat.le_of_ble_eq_true rfl⟩) hK hG hA hP hD hS rfl hl.1 rfl (Nat.le_of_ble_eq_true rfl) dX12_simple_288 ⟨Nat.le_refl _, Nat.le_refl _⟩ (fun H locs hP hD hS => ?_)
          refine lv_istore_n (lv' := [(2, .int r3.1), (3, .int r2.1), (0, .ref (a 0)), (1, .int (L 1))]) hx hb dX12_simple_291 rfl hl (by decide) rfl (fun ls hl => ?_)
          refine lv_goto (tgt := 327) hx hb dX12_simple_292 (by decide) ?_
          exact ih.2.2.2.2.2.2.2.2.2.2.2.2.2.2.2.2.2.2.2.2.2.2.2.2.2 (upd (upd L 3 r2.1) 2 r3.1) r3.2 r h H locs ls hP hD hS (lv_sub hl [2, 3, 0] rfl)
      · intro L σ r h H locs ls hP hD hS hl
        rw [x_simple] at h
        refine lv_aload_n hx hb dX12_simple_295 rfl (lv_at hl 0 rfl) ?_
        refine lv_iload_n hx hb dX12_simple_296 rfl (lv_at hl 1 rfl) ?_
        refine lv_bipush (v := 22) hx hb dX12_simple_297 (by decide) ?_
        refine lv_icmp_ne (tgt := 307) hx hb dX12_simple_299 (by decide) (fun c1 => ?_) (fun c1 => ?_)
        · rw [if_neg c1] at h
          exact ih.2.2.2.2.2.2.2.2.2.2.2.2.2.2.2.2.2.2.2.2.2.2.1 L σ r h H locs ls hP hD hS (lv_sub hl [0, 1, 2] rfl)
        · rw [if_pos c1] at h
          refine lv_bipush (v := 54) hx hb dX12_simple_302 (by decide) ?_
          refine lv_goto (tgt := 320) hx hb dX12_simple_304 (by decide) ?_
          exact ih.2.2.2.2.2.2.2.2.2.2.2.2.2.2.2.2.2.2.2.2.2.2.2.2.1 (upd L 100 54) σ r h H locs ls hP hD hS (lv_sub hl [0, 1, 2] rfl)
      · intro L σ r h H locs ls hP hD hS hl
        rw [x_simple] at h
        refine lv_iload_n hx hb dX12_simple_307 rfl (lv_at hl 1 rfl) ?_
        refine lv_bipush (v := 23) hx hb dX12_simple_308 (by decide) ?_
        refine lv_icmp_ne (tgt := 318) hx hb dX12_simple_310 (by decide) (fun c1 => ?_) (fun c1 => ?_)
        · rw [if_neg c1] at h
          exact ih.2.2.2.2.2.2.2.2.2.2.2.2.2.2.2.2.2.2.2.2.2.2.2.1 L σ r h H locs ls hP hD hS (lv_sub hl [0, 1, 2] rfl)
        · rw [if_pos c1] at h
          refine lv_bipush (v := 55) hx hb dX12_simple_313 (by decide) ?_
          refine lv_goto (tgt := 320) hx hb dX12_simple_315 (by decide) ?_
          exact ih.2.2.2.2.2.2.2.2.2.2.2.2.2.2.2.2.2.2.2.2.2.2.2.2.1 (upd L 100 55) σ r h H locs ls hP hD hS (lv_sub hl [0, 1, 2] rfl)
      · intro L σ r h H locs ls hP hD hS hl
        rw [x_simple] at h
        refine lv_bipush (v := 56) hx hb dX12_simple_318 (by decide) ?_
        exact ih.2.2.2.2.2.2.2.2.2.2.2.2.2.2.2.2.2.2.2.2.2.2.2.2.1 (upd L 100 56) σ r h H locs ls hP hD hS (lv_sub hl [0, 1, 2] rfl)
      · intro L σ r h H locs ls hP hD hS hl
        rw [x_simple] at h
        refine lv_iconst (v := 0) hx hb dX12_simple_320 (by decide) ?_
        refine lv_iconst (v := 0) hx hb dX12_simple_321 (by decide) ?_
        refine lv_iconst (v := 0) hx hb dX12_simple_322 (by decide) ?_
        obtain ⟨r1, hc1, h⟩ := ob_ex h
        refine nc_Vi (As := [.int (L 100), .int 0, .int 0, .int 0]) (rest := []) ⟨hx, hb, hml, hown, hts⟩ (c_x_node l dC dI cy a k (upd (upd (upd (upd (fun _ => 0) 1 ((L 100))) 2 0) 3 0) 4 0) σ r1 hc1 H.size) (cwV 4 hts g_x_simple_node_101 rfl rfl rfl hd_x_node ⟨Nat.le_of_ble_eq_true rfl, Nat.le_of_ble_eq_true rfl⟩) hK hG hA hP hD hS rfl hl.1 rfl (Nat.le_of_ble_eq_true rfl) dX12_simple_323 ⟨Nat.le_refl _, Nat.le_refl _⟩ (fun H locs hP hD hS => ?_)
        refine lv_istore_n (lv' := [(2, .int r1.1), (0, .ref (a 0)), (1, .int (L 1))]) hx hb dX12_simple_326 rfl hl (by decide) rfl (fun ls hl => ?_)
        exact ih.2.2.2.2.2.2.2.2.2.2.2.2.2.2.2.2.2.2.2.2.2.2.2.2.2 (upd L 2 r1.1) r1.2 r h H locs ls hP hD hS (lv_sub hl [1, 2, 0] rfl)
      · intro L σ r h H locs ls hP hD hS hl
        rw [x_simple] at h
        refine lv_aload_n hx hb dX12_simple_327 rfl (lv_at hl 0 rfl) ?_
        refine lv_bipush (v := 13) hx hb dX12_simple_328 (by decide) ?_
        obtain ⟨r1, hc1, h⟩ := ob_ex h
        refine nc_Vv (As := [.int 13]) (rest := []) ⟨hx, hb, hml, hown, hts⟩ (c_x_want l dC dI cy a k (upd (fun _ => 0) 1 13) σ r1 hc1 H.size) (cwV 1 hts g_x_simple_want_199 rfl rfl rfl hd_x_want ⟨Nat.le_of_ble_eq_true rfl, Nat.le_of_ble_eq_true rfl⟩) hK hG hA hP hD hS rfl hl.1 rfl (Nat.le_of_ble_eq_true rfl) dX12_simple_330 ⟨Nat.le_refl _, Nat.le_refl _⟩ (fun H locs hP hD hS => ?_)
        refine lv_iload_n hx hb dX12_simple_333 rfl (lv_at hl 2 rfl) ?_
        cases h
        exact W.iret (v := (L 2)) hx hb hr (fun t ht hW => ⟨⟨(L 2), (), rfl, rfl, by rw [ht]; exact hP, va_K.moved hW.alike hK, hD⟩, hS.F ht⟩) hS.2.2 dX12_simple_334
  exact (blk k0).1 L0 σ0 r0 h0 s.heap [] ls hP hD hS hl
/-! GS: block, fors, ifs, statement, whiles -/
def s_block (X : Nat → Nat → Nat → (Nat → Int32) → MS → Option (Int32 × MS)) (K d : Nat) (b : Nat) (L : Nat → Int32) (σ : MS) : Option (Int32 × MS) := match b with
  | 0 => X d 0 1 (upd (upd L 2 ((-1))) 3 ((-1))) σ
  | 1 => if ((σ.1 10)) = 0 then (ob (x_isBlockEnd K 0 (fun _ => 0) σ) (fun r2 => if r2.1 = 0 then (od d (fun e4 => ob (X e4 3 0 (fun _ => 0) r2.2) (fun r4 => if ((r4.2.1 10)) = 0 then (X d 0 2 (upd L 4 r4.1) r4.2) else (some ((L 2), r4.2))))) else (X d 0 6 L r2.2))) else (X d 0 6 L σ)
  | 2 => if ¬ (((L 4)) < 0 ∨ 70000 ≤ ((L 4)).toNatClampNeg) then (if ¬ (((σ.2.2 8 ((L 4)).toNatClampNeg)) < 0 ∨ 401 ≤ ((σ.2.2 8 ((L 4)).toNatClampNeg)).toNatClampNeg) then (X d 0 3 L (σ.1, σ.2.1, updG σ.2.2 10 (upd (σ.2.2 10) ((σ.2.2 8 ((L 4)).toNatClampNeg)).toNatClampNeg ((L 1))))) else none) else none
  | 3 => if ((L 2)) = ((-1)) then (X d 0 5 (upd L 2 ((L 4))) σ) else (X d 0 4 L σ)
  | 4 => if ¬ (((L 3)) < 0 ∨ 70000 ≤ ((L 3)).toNatClampNeg) then (X d 0 5 L (σ.1, σ.2.1, updG σ.2.2 9 (upd (σ.2.2 9) ((L 3)).toNatClampNeg ((L 4))))) else none
  | 5 => X d 0 1 (upd L 3 ((L 4))) σ
  | 6 => some ((L 2), σ)
  | _ => none
theorem s_block_0 (X : Nat → Nat → Nat → (Nat → Int32) → MS → Option (Int32 × MS)) (K d : Nat) (L : Nat → Int32) (σ : MS) : s_block X K d 0 L σ = (X d 0 1 (upd (upd L 2 ((-1))) 3 ((-1))) σ) := rfl
theorem s_block_1 (X : Nat → Nat → Nat → (Nat → Int32) → MS → Option (Int32 × MS)) (K d : Nat) (L : Nat → Int32) (σ : MS) : s_block X K d 1 L σ = (if ((σ.1 10)) = 0 then (ob (x_isBlockEnd K 0 (fun _ => 0) σ) (fun r2 => if r2.1 = 0 then (od d (fun e4 => ob (X e4 3 0 (fun _ => 0) r2.2) (fun r4 => if ((r4.2.1 10)) = 0 then (X d 0 2 (upd L 4 r4.1) r4.2) else (some ((L 2), r4.2))))) else (X d 0 6 L r2.2))) else (X d 0 6 L σ)) := rfl
theorem s_block_2 (X : Nat → Nat → Nat → (Nat → Int32) → MS → Option (Int32 × MS)) (K d : Nat) (L : Nat → Int32) (σ : MS) : s_block X K d 2 L σ = (if ¬ (((L 4)) < 0 ∨ 70000 ≤ ((L 4)).toNatClampNeg) then (if ¬ (((σ.2.2 8 ((L 4)).toNatClampNeg)) < 0 ∨ 401 ≤ ((σ.2.2 8 ((L 4)).toNatClampNeg)).toNatClampNeg) then (X d 0 3 L (σ.1, σ.2.1, updG σ.2.2 10 (upd (σ.2.2 10) ((σ.2.2 8 ((L 4)).toNatClampNeg)).toNatClampNeg ((L 1))))) else none) else none) := rfl
theorem s_block_3 (X : Nat → Nat → Nat → (Nat → Int32) → MS → Option (Int32 × MS)) (K d : Nat) (L : Nat → Int32) (σ : MS) : s_block X K d 3 L σ = (if ((L 2)) = ((-1)) then (X d 0 5 (upd L 2 ((L 4))) σ) else (X d 0 4 L σ)) := rfl
theorem s_block_4 (X : Nat → Nat → Nat → (Nat → Int32) → MS → Option (Int32 × MS)) (K d : Nat) (L : Nat → Int32) (σ : MS) : s_block X K d 4 L σ = (if ¬ (((L 3)) < 0 ∨ 70000 ≤ ((L 3)).toNatClampNeg) then (X d 0 5 L (σ.1, σ.2.1, updG σ.2.2 9 (upd (σ.2.2 9) ((L 3)).toNatClampNeg ((L 4))))) else none) := rfl
theorem s_block_5 (X : Nat → Nat → Nat → (Nat → Int32) → MS → Option (Int32 × MS)) (K d : Nat) (L : Nat → Int32) (σ : MS) : s_block X K d 5 L σ = (X d 0 1 (upd L 3 ((L 4))) σ) := rfl
theorem s_block_6 (X : Nat → Nat → Nat → (Nat → Int32) → MS → Option (Int32 × MS)) (K d : Nat) (L : Nat → Int32) (σ : MS) : s_block X K d 6 L σ = (some ((L 2), σ)) := rfl
def s_fors (X : Nat → Nat → Nat → (Nat → Int32) → MS → Option (Int32 × MS)) (K d : Nat) (b : Nat) (L : Nat → Int32) (σ : MS) : Option (Int32 × MS) := match b with
  | 0 => ob (x_node K 0 (upd (upd (upd (upd (fun _ => 0) 1 48) 2 0) 3 ((-1))) 4 0) σ) (fun r1 => X d 1 1 (upd L 1 r1.1) (upd r1.2.1 13 ((((r1.2.1 13)) + 1)), r1.2.2.1, r1.2.2.2))
  | 1 => ob (x_take K 0 (fun _ => 0) σ) (fun r1 => ob (x_iters K 0 (upd (fun _ => 0) 1 1) r1.2) (fun r2 => if ¬ (((L 1)) < 0 ∨ 70000 ≤ ((L 1)).toNatClampNeg) then (X d 1 2 (upd L 2 ((r1.2.1 38))) (r2.2.1, r2.2.2.1, updG r2.2.2.2 5 (upd (r2.2.2.2 5) ((L 1)).toNatClampNeg r2.1))) else none))
  | 2 => if ((σ.1 10)) = 0 then (ob (x_isSign K 0 (upd (fun _ => 0) 1 15) σ) (fun r2 => if r2.1 = 0 then (X d 1 3 L r2.2) else (ob (x_take K 0 (fun _ => 0) r2.2) (fun r4 => ob (x_exp K 0 (fun _ => 0) r4.2) (fun r5 => if ¬ (((L 1)) < 0 ∨ 70000 ≤ ((L 1)).toNatClampNeg) then (X d 1 3 L (r5.2.1, r5.2.2.1, updG r5.2.2.2 6 (upd (r5.2.2.2 6) ((L 1)).toNatClampNeg r5.1))) else none))))) else (X d 1 3 L σ)
  | 3 => ob (x_wantWord K 0 (upd (fun _ => 0) 1 12) σ) (fun r1 => X d 1 4 L (upd r1.2.1 45 ((((r1.2.1 45)) + 1)), r1.2.2.1, r1.2.2.2))
  | 4 => od d (fun e1 => ob (X e1 0 0 (upd (fun _ => 0) 1 ((L 1))) σ) (fun r1 => if ¬ (((L 1)) < 0 ∨ 70000 ≤ ((L 1)).toNatClampNeg) then (X d 1 5 L (r1.2.1, r1.2.2.1, updG r1.2.2.2 7 (upd (r1.2.2.2 7) ((L 1)).toNatClampNeg r1.1))) else none))
  | 5 => X d 1 6 L (upd σ.1 45 ((((σ.1 45)) - 1)), σ.2.1, σ.2.2)
  | 6 => ob (x_wantWord K 0 (upd (fun _ => 0) 1 6) σ) (fun r1 => ob (x_want K 0 (upd (fun _ => 0) 1 13) r1.2) (fun r2 => X d 1 7 L (upd r2.2.1 38 ((L 2)), r2.2.2.1, r2.2.2.2)))
  | 7 => X d 1 8 L (upd σ.1 13 ((((σ.1 13)) - 1)), σ.2.1, σ.2.2)
  | 8 => some ((L 1), σ)
  | _ => none
theorem s_fors_0 (X : Nat → Nat → Nat → (Nat → Int32) → MS → Option (Int32 × MS)) (K d : Nat) (L : Nat → Int32) (σ : MS) : s_fors X K d 0 L σ = (ob (x_node K 0 (upd (upd (upd (upd (fun _ => 0) 1 48) 2 0) 3 ((-1))) 4 0) σ) (fun r1 => X d 1 1 (upd L 1 r1.1) (upd r1.2.1 13 ((((r1.2.1 13)) + 1)), r1.2.2.1, r1.2.2.2))) := rfl
theorem s_fors_1 (X : Nat → Nat → Nat → (Nat → Int32) → MS → Option (Int32 × MS)) (K d : Nat) (L : Nat → Int32) (σ : MS) : s_fors X K d 1 L σ = (ob (x_take K 0 (fun _ => 0) σ) (fun r1 => ob (x_iters K 0 (upd (fun _ => 0) 1 1) r1.2) (fun r2 => if ¬ (((L 1)) < 0 ∨ 70000 ≤ ((L 1)).toNatClampNeg) then (X d 1 2 (upd L 2 ((r1.2.1 38))) (r2.2.1, r2.2.2.1, updG r2.2.2.2 5 (upd (r2.2.2.2 5) ((L 1)).toNatClampNeg r2.1))) else none))) := rfl
theorem s_fors_2 (X : Nat → Nat → Nat → (Nat → Int32) → MS → Option (Int32 × MS)) (K d : Nat) (L : Nat → Int32) (σ : MS) : s_fors X K d 2 L σ = (if ((σ.1 10)) = 0 then (ob (x_isSign K 0 (upd (fun _ => 0) 1 15) σ) (fun r2 => if r2.1 = 0 then (X d 1 3 L r2.2) else (ob (x_take K 0 (fun _ => 0) r2.2) (fun r4 => ob (x_exp K 0 (fun _ => 0) r4.2) (fun r5 => if ¬ (((L 1)) < 0 ∨ 70000 ≤ ((L 1)).toNatClampNeg) then (X d 1 3 L (r5.2.1, r5.2.2.1, updG r5.2.2.2 6 (upd (r5.2.2.2 6) ((L 1)).toNatClampNeg r5.1))) else none))))) else (X d 1 3 L σ)) := rfl
theorem s_fors_3 (X : Nat → Nat → Nat → (Nat → Int32) → MS → Option (Int32 × MS)) (K d : Nat) (L : Nat → Int32) (σ : MS) : s_fors X K d 3 L σ = (ob (x_wantWord K 0 (upd (fun _ => 0) 1 12) σ) (fun r1 => X d 1 4 L (upd r1.2.1 45 ((((r1.2.1 45)) + 1)), r1.2.2.1, r1.2.2.2))) := rfl
theorem s_fors_4 (X : Nat → Nat → Nat → (Nat → Int32) → MS → Option (Int32 × MS)) (K d : Nat) (L : Nat → Int32) (σ : MS) : s_fors X K d 4 L σ = (od d (fun e1 => ob (X e1 0 0 (upd (fun _ => 0) 1 ((L 1))) σ) (fun r1 => if ¬ (((L 1)) < 0 ∨ 70000 ≤ ((L 1)).toNatClampNeg) then (X d 1 5 L (r1.2.1, r1.2.2.1, updG r1.2.2.2 7 (upd (r1.2.2.2 7) ((L 1)).toNatClampNeg r1.1))) else none))) := rfl
theorem s_fors_5 (X : Nat → Nat → Nat → (Nat → Int32) → MS → Option (Int32 × MS)) (K d : Nat) (L : Nat → Int32) (σ : MS) : s_fors X K d 5 L σ = (X d 1 6 L (upd σ.1 45 ((((σ.1 45)) - 1)), σ.2.1, σ.2.2)) := rfl
theorem s_fors_6 (X : Nat → Nat → Nat → (Nat → Int32) → MS → Option (Int32 × MS)) (K d : Nat) (L : Nat → Int32) (σ : MS) : s_fors X K d 6 L σ = (ob (x_wantWord K 0 (upd (fun _ => 0) 1 6) σ) (fun r1 => ob (x_want K 0 (upd (fun _ => 0) 1 13) r1.2) (fun r2 => X d 1 7 L (upd r2.2.1 38 ((L 2)), r2.2.2.1, r2.2.2.2)))) := rfl
theorem s_fors_7 (X : Nat → Nat → Nat → (Nat → Int32) → MS → Option (Int32 × MS)) (K d : Nat) (L : Nat → Int32) (σ : MS) : s_fors X K d 7 L σ = (X d 1 8 L (upd σ.1 13 ((((σ.1 13)) - 1)), σ.2.1, σ.2.2)) := rfl
theorem s_fors_8 (X : Nat → Nat → Nat → (Nat → Int32) → MS → Option (Int32 × MS)) (K d : Nat) (L : Nat → Int32) (σ : MS) : s_fors X K d 8 L σ = (some ((L 1), σ)) := rfl
def s_ifs (X : Nat → Nat → Nat → (Nat → Int32) → MS → Option (Int32 × MS)) (K d : Nat) (b : Nat) (L : Nat → Int32) (σ : MS) : Option (Int32 × MS) := match b with
  | 0 => ob (x_node K 0 (upd (upd (upd (upd (fun _ => 0) 1 46) 2 ((-1))) 3 0) 4 0) σ) (fun r1 => X d 2 1 (upd L 1 r1.1) (upd r1.2.1 13 ((((r1.2.1 13)) + 1)), r1.2.2.1, r1.2.2.2))
  | 1 => ob (x_take K 0 (fun _ => 0) σ) (fun r1 => X d 2 2 (upd (upd (upd L 2 ((-1))) 3 1) 4 1) r1.2)
  | 2 => if ((L 3)) = 0 then (X d 2 10 L σ) else (if ((σ.1 10)) = 0 then (if ((L 4)) = 0 then (X d 2 3 (upd L 5 ((-1))) σ) else (ob (x_isWord K 0 (upd (fun _ => 0) 1 31) σ) (fun r4 => if r4.1 = 0 then (X d 2 3 (upd L 5 ((-1))) r4.2) else (ob (x_take K 0 (fun _ => 0) r4.2) (fun r6 => X d 2 4 (upd L 5 ((-3))) r6.2))))) else (X d 2 10 L σ))
  | 3 => ob (x_exp K 0 (fun _ => 0) σ) (fun r1 => X d 2 4 (upd L 5 r1.1) r1.2)
  | 4 => ob (x_wantWord K 0 (upd (fun _ => 0) 1 8) σ) (fun r1 => od d (fun e2 => ob (X e2 0 0 (upd (fun _ => 0) 1 ((L 1))) r1.2) (fun r2 => ob (x_node K 0 (upd (upd (upd (upd (fun _ => 0) 1 33) 2 ((L 5))) 3 r2.1) 4 0) r2.2) (fun r3 => if ((L 4)) = 0 then (X d 2 5 (upd L 6 r3.1) r3.2) else (if ¬ (((L 1)) < 0 ∨ 70000 ≤ ((L 1)).toNatClampNeg) then (X d 2 6 (upd L 6 r3.1) (r3.2.1, r3.2.2.1, updG r3.2.2.2 5 (upd (r3.2.2.2 5) ((L 1)).toNatClampNeg r3.1))) else none)))))
  | 5 => if ¬ (((L 2)) < 0 ∨ 70000 ≤ ((L 2)).toNatClampNeg) then (X d 2 6 L (σ.1, σ.2.1, updG σ.2.2 9 (upd (σ.2.2 9) ((L 2)).toNatClampNeg ((L 6))))) else none
  | 6 => if ((σ.1 10)) = 0 then (ob (x_isWord K 0 (upd (fun _ => 0) 1 9) σ) (fun r2 => if r2.1 = 0 then (X d 2 7 (upd (upd L 2 ((L 6))) 4 0) r2.2) else (X d 2 8 (upd (upd (upd L 2 ((L 6))) 4 0) 100 1) r2.2))) else (X d 2 7 (upd (upd L 2 ((L 6))) 4 0) σ)
  | 7 => X d 2 8 (upd L 100 0) σ
  | 8 => if ((L 100)) = 0 then (X d 2 9 (upd L 3 ((L 100))) σ) else (ob (x_take K 0 (fun _ => 0) σ) (fun r2 => X d 2 9 (upd L 3 ((L 100))) r2.2))
  | 9 => X d 2 2 L σ
  | 10 => if ((σ.1 10)) = 0 then (ob (x_isWord K 0 (upd (fun _ => 0) 1 10) σ) (fun r2 => if r2.1 = 0 then (X d 2 11 L r2.2) else (ob (x_take K 0 (fun _ => 0) r2.2) (fun r4 => od d (fun e5 => ob (X e5 0 0 (upd (fun _ => 0) 1 ((L 1))) r4.2) (fun r5 => ob (x_node K 0 (upd (upd (upd (upd (fun _ => 0) 1 33) 2 ((-2))) 3 r5.1) 4 0) r5.2) (fun r6 => if ¬ (((L 2)) < 0 ∨ 70000 ≤ ((L 2)).toNatClampNeg) then (X d 2 11 L (r6.2.1, r6.2.2.1, updG r6.2.2.2 9 (upd (r6.2.2.2 9) ((L 2)).toNatClampNeg r6.1))) else none))))))) else (X d 2 11 L σ)
  | 11 => ob (x_wantWord K 0 (upd (fun _ => 0) 1 6) σ) (fun r1 => ob (x_want K 0 (upd (fun _ => 0) 1 13) r1.2) (fun r2 => X d 2 12 L (upd r2.2.1 13 ((((r2.2.1 13)) - 1)), r2.2.2.1, r2.2.2.2)))
  | 12 => some ((L 1), σ)
  | _ => none
theorem s_ifs_0 (X : Nat → Nat → Nat → (Nat → Int32) → MS → Option (Int32 × MS)) (K d : Nat) (L : Nat → Int32) (σ : MS) : s_ifs X K d 0 L σ = (ob (x_node K 0 (upd (upd (upd (upd (fun _ => 0) 1 46) 2 ((-1))) 3 0) 4 0) σ) (fun r1 => X d 2 1 (upd L 1 r1.1) (upd r1.2.1 13 ((((r1.2.1 13)) + 1)), r1.2.2.1, r1.2.2.2))) := rfl
theorem s_ifs_1 (X : Nat → Nat → Nat → (Nat → Int32) → MS → Option (Int32 × MS)) (K d : Nat) (L : Nat → Int32) (σ : MS) : s_ifs X K d 1 L σ = (ob (x_take K 0 (fun _ => 0) σ) (fun r1 => X d 2 2 (upd (upd (upd L 2 ((-1))) 3 1) 4 1) r1.2)) := rfl
theorem s_ifs_2 (X : Nat → Nat → Nat → (Nat → Int32) → MS → Option (Int32 × MS)) (K d : Nat) (L : Nat → Int32) (σ : MS) : s_ifs X K d 2 L σ = (if ((L 3)) = 0 then (X d 2 10 L σ) else (if ((σ.1 10)) = 0 then (if ((L 4)) = 0 then (X d 2 3 (upd L 5 ((-1))) σ) else (ob (x_isWord K 0 (upd (fun _ => 0) 1 31) σ) (fun r4 => if r4.1 = 0 then (X d 2 3 (upd L 5 ((-1))) r4.2) else (ob (x_take K 0 (fun _ => 0) r4.2) (fun r6 => X d 2 4 (upd L 5 ((-3))) r6.2))))) else (X d 2 10 L σ))) := rfl
theorem s_ifs_3 (X : Nat → Nat → Nat → (Nat → Int32) → MS → Option (Int32 × MS)) (K d : Nat) (L : Nat → Int32) (σ : MS) : s_ifs X K d 3 L σ = (ob (x_exp K 0 (fun _ => 0) σ) (fun r1 => X d 2 4 (upd L 5 r1.1) r1.2)) := rfl
theorem s_ifs_4 (X : Nat → Nat → Nat → (Nat → Int32) → MS → Option (Int32 × MS)) (K d : Nat) (L : Nat → Int32) (σ : MS) : s_ifs X K d 4 L σ = (ob (x_wantWord K 0 (upd (fun _ => 0) 1 8) σ) (fun r1 => od d (fun e2 => ob (X e2 0 0 (upd (fun _ => 0) 1 ((L 1))) r1.2) (fun r2 => ob (x_node K 0 (upd (upd (upd (upd (fun _ => 0) 1 33) 2 ((L 5))) 3 r2.1) 4 0) r2.2) (fun r3 => if ((L 4)) = 0 then (X d 2 5 (upd L 6 r3.1) r3.2) else (if ¬ (((L 1)) < 0 ∨ 70000 ≤ ((L 1)).toNatClampNeg) then (X d 2 6 (upd L 6 r3.1) (r3.2.1, r3.2.2.1, updG r3.2.2.2 5 (upd (r3.2.2.2 5) ((L 1)).toNatClampNeg r3.1))) else none)))))) := rfl
theorem s_ifs_5 (X : Nat → Nat → Nat → (Nat → Int32) → MS → Option (Int32 × MS)) (K d : Nat) (L : Nat → Int32) (σ : MS) : s_ifs X K d 5 L σ = (if ¬ (((L 2)) < 0 ∨ 70000 ≤ ((L 2)).toNatClampNeg) then (X d 2 6 L (σ.1, σ.2.1, updG σ.2.2 9 (upd (σ.2.2 9) ((L 2)).toNatClampNeg ((L 6))))) else none) := rfl
theorem s_ifs_6 (X : Nat → Nat → Nat → (Nat → Int32) → MS → Option (Int32 × MS)) (K d : Nat) (L : Nat → Int32) (σ : MS) : s_ifs X K d 6 L σ = (if ((σ.1 10)) = 0 then (ob (x_isWord K 0 (upd (fun _ => 0) 1 9) σ) (fun r2 => if r2.1 = 0 then (X d 2 7 (upd (upd L 2 ((L 6))) 4 0) r2.2) else (X d 2 8 (upd (upd (upd L 2 ((L 6))) 4 0) 100 1) r2.2))) else (X d 2 7 (upd (upd L 2 ((L 6))) 4 0) σ)) := rfl
theorem s_ifs_7 (X : Nat → Nat → Nat → (Nat → Int32) → MS → Option (Int32 × MS)) (K d : Nat) (L : Nat → Int32) (σ : MS) : s_ifs X K d 7 L σ = (X d 2 8 (upd L 100 0) σ) := rfl
theorem s_ifs_8 (X : Nat → Nat → Nat → (Nat → Int32) → MS → Option (Int32 × MS)) (K d : Nat) (L : Nat → Int32) (σ : MS) : s_ifs X K d 8 L σ = (if ((L 100)) = 0 then (X d 2 9 (upd L 3 ((L 100))) σ) else (ob (x_take K 0 (fun _ => 0) σ) (fun r2 => X d 2 9 (upd L 3 ((L 100))) r2.2))) := rfl
theorem s_ifs_9 (X : Nat → Nat → Nat → (Nat → Int32) → MS → Option (Int32 × MS)) (K d : Nat) (L : Nat → Int32) (σ : MS) : s_ifs X K d 9 L σ = (X d 2 2 L σ) := rfl
theorem s_ifs_10 (X : Nat → Nat → Nat → (Nat → Int32) → MS → Option (Int32 × MS)) (K d : Nat) (L : Nat → Int32) (σ : MS) : s_ifs X K d 10 L σ = (if ((σ.1 10)) = 0 then (ob (x_isWord K 0 (upd (fun _ => 0) 1 10) σ) (fun r2 => if r2.1 = 0 then (X d 2 11 L r2.2) else (ob (x_take K 0 (fun _ => 0) r2.2) (fun r4 => od d (fun e5 => ob (X e5 0 0 (upd (fun _ => 0) 1 ((L 1))) r4.2) (fun r5 => ob (x_node K 0 (upd (upd (upd (upd (fun _ => 0) 1 33) 2 ((-2))) 3 r5.1) 4 0) r5.2) (fun r6 => if ¬ (((L 2)) < 0 ∨ 70000 ≤ ((L 2)).toNatClampNeg) then (X d 2 11 L (r6.2.1, r6.2.2.1, updG r6.2.2.2 9 (upd (r6.2.2.2 9) ((L 2)).toNatClampNeg r6.1))) else none))))))) else (X d 2 11 L σ)) := rfl
theorem s_ifs_11 (X : Nat → Nat → Nat → (Nat → Int32) → MS → Option (Int32 × MS)) (K d : Nat) (L : Nat → Int32) (σ : MS) : s_ifs X K d 11 L σ = (ob (x_wantWord K 0 (upd (fun _ => 0) 1 6) σ) (fun r1 => ob (x_want K 0 (upd (fun _ => 0) 1 13) r1.2) (fun r2 => X d 2 12 L (upd r2.2.1 13 ((((r2.2.1 13)) - 1)), r2.2.2.1, r2.2.2.2)))) := rfl
theorem s_ifs_12 (X : Nat → Nat → Nat → (Nat → Int32) → MS → Option (Int32 × MS)) (K d : Nat) (L : Nat → Int32) (σ : MS) : s_ifs X K d 12 L σ = (some ((L 1), σ)) := rfl
def s_statement (X : Nat → Nat → Nat → (Nat → Int32) → MS → Option (Int32 × MS)) (K d : Nat) (b : Nat) (L : Nat → Int32) (σ : MS) : Option (Int32 × MS) := match b with
  | 0 => ob (x_isStatement K 0 (fun _ => 0) σ) (fun r1 => if r1.1 = 0 then (ob (x_cannot K 0 (fun _ => 0) r1.2) (fun r3 => some (0, r3.2))) else (X d 3 1 L r1.2))
  | 1 => ob (x_isWord K 0 (upd (fun _ => 0) 1 7) σ) (fun r1 => if r1.1 = 0 then (ob (x_isWord K 0 (upd (fun _ => 0) 1 11) r1.2) (fun r3 => if r3.1 = 0 then (ob (x_isWord K 0 (upd (fun _ => 0) 1 13) r3.2) (fun r5 => if r5.1 = 0 then (ob (x_isSign K 0 (upd (fun _ => 0) 1 10) r5.2) (fun r7 => if r7.1 = 0 then (X d 3 3 L r7.2) else (X d 3 2 L r7.2))) else (X d 3 2 L r5.2))) else (X d 3 2 L r3.2))) else (X d 3 2 L r1.2))
  | 2 => X d 3 4 (upd L 100 1) σ
  | 3 => X d 3 4 (upd L 100 0) σ
  | 4 => if ((L 100)) = 0 then (X d 3 5 (upd L 1 ((L 100))) σ) else (if ((σ.1 13)) = 20 then (ob (x_fault K 0 (upd (upd (fun _ => 0) 1 3) 2 ((σ.1 8))) σ) (fun r3 => X d 3 5 (upd L 1 ((L 100))) r3.2)) else (X d 3 5 (upd L 1 ((L 100))) σ))
  | 5 => if ((σ.1 10)) = 0 then (if ((σ.1 44)) = 400 then (ob (x_fault K 0 (upd (upd (fun _ => 0) 1 8) 2 ((σ.1 8))) σ) (fun r3 => X d 3 6 L r3.2)) else (X d 3 6 L σ)) else (X d 3 6 L σ)
  | 6 => if ((σ.1 10)) = 0 then (X d 3 7 L σ) else (some (0, σ))
  | 7 => X d 3 8 (upd L 2 ((σ.1 44))) (upd σ.1 44 ((((σ.1 44)) + 1)), σ.2.1, σ.2.2)
  | 8 => if ((σ.1 6)) = 1 then (ob (x_begun K 0 (fun _ => 0) σ) (fun r2 => X d 3 14 (upd (upd L 3 ((σ.1 8))) 4 r2.1) r2.2)) else (X d 3 9 (upd (upd L 3 ((σ.1 8))) 4 0) σ)
  | 9 => ob (x_isSign K 0 (upd (fun _ => 0) 1 10) σ) (fun r1 => if r1.1 = 0 then (X d 3 10 L r1.2) else (ob (x_partsOf K 0 (fun _ => 0) r1.2) (fun r3 => X d 3 14 (upd L 4 r3.1) r3.2)))
  | 10 => if ((σ.1 7)) = 7 then (od d (fun e2 => ob (X e2 2 0 (fun _ => 0) σ) (fun r2 => X d 3 14 (upd L 4 r2.1) r2.2))) else (X d 3 11 L σ)
  | 11 => if ((σ.1 7)) = 11 then (od d (fun e2 => ob (X e2 4 0 (fun _ => 0) σ) (fun r2 => X d 3 14 (upd L 4 r2.1) r2.2))) else (X d 3 12 L σ)
  | 12 => if ((σ.1 7)) = 13 then (od d (fun e2 => ob (X e2 1 0 (fun _ => 0) σ) (fun r2 => X d 3 14 (upd L 4 r2.1) r2.2))) else (X d 3 13 L σ)
  | 13 => ob (x_simple K 0 (fun _ => 0) σ) (fun r1 => X d 3 14 (upd L 4 r1.1) r1.2)
  | 14 => if ¬ (((L 4)) < 0 ∨ 70000 ≤ ((L 4)).toNatClampNeg) then (X d 3 15 L (σ.1, σ.2.1, updG σ.2.2 8 (upd (σ.2.2 8) ((L 4)).toNatClampNeg ((L 2))))) else none
  | 15 => if ¬ (((L 2)) < 0 ∨ 401 ≤ ((L 2)).toNatClampNeg) then (X d 3 16 L (σ.1, σ.2.1, updG σ.2.2 11 (upd (σ.2.2 11) ((L 2)).toNatClampNeg ((L 3))))) else none
  | 16 => some ((L 4), σ)
  | _ => none
theorem s_statement_0 (X : Nat → Nat → Nat → (Nat → Int32) → MS → Option (Int32 × MS)) (K d : Nat) (L : Nat → Int32) (σ : MS) : s_statement X K d 0 L σ = (ob (x_isStatement K 0 (fun _ => 0) σ) (fun r1 => if r1.1 = 0 then (ob (x_cannot K 0 (fun _ => 0) r1.2) (fun r3 => some (0, r3.2))) else (X d 3 1 L r1.2))) := rfl
theorem s_statement_1 (X : Nat → Nat → Nat → (Nat → Int32) → MS → Option (Int32 × MS)) (K d : Nat) (L : Nat → Int32) (σ : MS) : s_statement X K d 1 L σ = (ob (x_isWord K 0 (upd (fun _ => 0) 1 7) σ) (fun r1 => if r1.1 = 0 then (ob (x_isWord K 0 (upd (fun _ => 0) 1 11) r1.2) (fun r3 => if r3.1 = 0 then (ob (x_isWord K 0 (upd (fun _ => 0) 1 13) r3.2) (fun r5 => if r5.1 = 0 then (ob (x_isSign K 0 (upd (fun _ => 0) 1 10) r5.2) (fun r7 => if r7.1 = 0 then (X d 3 3 L r7.2) else (X d 3 2 L r7.2))) else (X d 3 2 L r5.2))) else (X d 3 2 L r3.2))) else (X d 3 2 L r1.2))) := rfl
theorem s_statement_2 (X : Nat → Nat → Nat → (Nat → Int32) → MS → Option (Int32 × MS)) (K d : Nat) (L : Nat → Int32) (σ : MS) : s_statement X K d 2 L σ = (X d 3 4 (upd L 100 1) σ) := rfl
theorem s_statement_3 (X : Nat → Nat → Nat → (Nat → Int32) → MS → Option (Int32 × MS)) (K d : Nat) (L : Nat → Int32) (σ : MS) : s_statement X K d 3 L σ = (X d 3 4 (upd L 100 0) σ) := rfl
theorem s_statement_4 (X : Nat → Nat → Nat → (Nat → Int32) → MS → Option (Int32 × MS)) (K d : Nat) (L : Nat → Int32) (σ : MS) : s_statement X K d 4 L σ = (if ((L 100)) = 0 then (X d 3 5 (upd L 1 ((L 100))) σ) else (if ((σ.1 13)) = 20 then (ob (x_fault K 0 (upd (upd (fun _ => 0) 1 3) 2 ((σ.1 8))) σ) (fun r3 => X d 3 5 (upd L 1 ((L 100))) r3.2)) else (X d 3 5 (upd L 1 ((L 100))) σ))) := rfl
theorem s_statement_5 (X : Nat → Nat → Nat → (Nat → Int32) → MS → Option (Int32 × MS)) (K d : Nat) (L : Nat → Int32) (σ : MS) : s_statement X K d 5 L σ = (if ((σ.1 10)) = 0 then (if ((σ.1 44)) = 400 then (ob (x_fault K 0 (upd (upd (fun _ => 0) 1 8) 2 ((σ.1 8))) σ) (fun r3 => X d 3 6 L r3.2)) else (X d 3 6 L σ)) else (X d 3 6 L σ)) := rfl
theorem s_statement_6 (X : Nat → Nat → Nat → (Nat → Int32) → MS → Option (Int32 × MS)) (K d : Nat) (L : Nat → Int32) (σ : MS) : s_statement X K d 6 L σ = (if ((σ.1 10)) = 0 then (X d 3 7 L σ) else (some (0, σ))) := rfl
theorem s_statement_7 (X : Nat → Nat → Nat → (Nat → Int32) → MS → Option (Int32 × MS)) (K d : Nat) (L : Nat → Int32) (σ : MS) : s_statement X K d 7 L σ = (X d 3 8 (upd L 2 ((σ.1 44))) (upd σ.1 44 ((((σ.1 44)) + 1)), σ.2.1, σ.2.2)) := rfl
theorem s_statement_8 (X : Nat → Nat → Nat → (Nat → Int32) → MS → Option (Int32 × MS)) (K d : Nat) (L : Nat → Int32) (σ : MS) : s_statement X K d 8 L σ = (if ((σ.1 6)) = 1 then (ob (x_begun K 0 (fun _ => 0) σ) (fun r2 => X d 3 14 (upd (upd L 3 ((σ.1 8))) 4 r2.1) r2.2)) else (X d 3 9 (upd (upd L 3 ((σ.1 8))) 4 0) σ)) := rfl
theorem s_statement_9 (X : Nat → Nat → Nat → (Nat → Int32) → MS → Option (Int32 × MS)) (K d : Nat) (L : Nat → Int32) (σ : MS) : s_statement X K d 9 L σ = (ob (x_isSign K 0 (upd (fun _ => 0) 1 10) σ) (fun r1 => if r1.1 = 0 then (X d 3 10 L r1.2) else (ob (x_partsOf K 0 (fun _ => 0) r1.2) (fun r3 => X d 3 14 (upd L 4 r3.1) r3.2)))) := rfl
theorem s_statement_10 (X : Nat → Nat → Nat → (Nat → Int32) → MS → Option (Int32 × MS)) (K d : Nat) (L : Nat → Int32) (σ : MS) : s_statement X K d 10 L σ = (if ((σ.1 7)) = 7 then (od d (fun e2 => ob (X e2 2 0 (fun _ => 0) σ) (fun r2 => X d 3 14 (upd L 4 r2.1) r2.2))) else (X d 3 11 L σ)) := rfl
theorem s_statement_11 (X : Nat → Nat → Nat → (Nat → Int32) → MS → Option (Int32 × MS)) (K d : Nat) (L : Nat → Int32) (σ : MS) : s_statement X K d 11 L σ = (if ((σ.1 7)) = 11 then (od d (fun e2 => ob (X e2 4 0 (fun _ => 0) σ) (fun r2 => X d 3 14 (upd L 4 r2.1) r2.2))) else (X d 3 12 L σ)) := rfl
theorem s_statement_12 (X : Nat → Nat → Nat → (Nat → Int32) → MS → Option (Int32 × MS)) (K d : Nat) (L : Nat → Int32) (σ : MS) : s_statement X K d 12 L σ = (if ((σ.1 7)) = 13 then (od d (fun e2 => ob (X e2 1 0 (fun _ => 0) σ) (fun r2 => X d 3 14 (upd L 4 r2.1) r2.2))) else (X d 3 13 L σ)) := rfl
theorem s_statement_13 (X : Nat → Nat → Nat → (Nat → Int32) → MS → Option (Int32 × MS)) (K d : Nat) (L : Nat → Int32) (σ : MS) : s_statement X K d 13 L σ = (ob (x_simple K 0 (fun _ => 0) σ) (fun r1 => X d 3 14 (upd L 4 r1.1) r1.2)) := rfl
theorem s_statement_14 (X : Nat → Nat → Nat → (Nat → Int32) → MS → Option (Int32 × MS)) (K d : Nat) (L : Nat → Int32) (σ : MS) : s_statement X K d 14 L σ = (if ¬ (((L 4)) < 0 ∨ 70000 ≤ ((L 4)).toNatClampNeg) then (X d 3 15 L (σ.1, σ.2.1, updG σ.2.2 8 (upd (σ.2.2 8) ((L 4)).toNatClampNeg ((L 2))))) else none) := rfl
theorem s_statement_15 (X : Nat → Nat → Nat → (Nat → Int32) → MS → Option (Int32 × MS)) (K d : Nat) (L : Nat → Int32) (σ : MS) : s_statement X K d 15 L σ = (if ¬ (((L 2)) < 0 ∨ 401 ≤ ((L 2)).toNatClampNeg) then (X d 3 16 L (σ.1, σ.2.1, updG σ.2.2 11 (upd (σ.2.2 11) ((L 2)).toNatClampNeg ((L 3))))) else none) := rfl
theorem s_statement_16 (X : Nat → Nat → Nat → (Nat → Int32) → MS → Option (Int32 × MS)) (K d : Nat) (L : Nat → Int32) (σ : MS) : s_statement X K d 16 L σ = (some ((L 4), σ)) := rfl
def s_whiles (X : Nat → Nat → Nat → (Nat → Int32) → MS → Option (Int32 × MS)) (K d : Nat) (b : Nat) (L : Nat → Int32) (σ : MS) : Option (Int32 × MS) := match b with
  | 0 => ob (x_node K 0 (upd (upd (upd (upd (fun _ => 0) 1 47) 2 0) 3 0) 4 0) σ) (fun r1 => X d 4 1 (upd L 1 r1.1) (upd r1.2.1 13 ((((r1.2.1 13)) + 1)), r1.2.2.1, r1.2.2.2))
  | 1 => ob (x_take K 0 (fun _ => 0) σ) (fun r1 => ob (x_exp K 0 (fun _ => 0) r1.2) (fun r2 => if ¬ (((L 1)) < 0 ∨ 70000 ≤ ((L 1)).toNatClampNeg) then (X d 4 2 L (r2.2.1, r2.2.2.1, updG r2.2.2.2 5 (upd (r2.2.2.2 5) ((L 1)).toNatClampNeg r2.1))) else none))
  | 2 => ob (x_wantWord K 0 (upd (fun _ => 0) 1 12) σ) (fun r1 => X d 4 3 L (upd r1.2.1 45 ((((r1.2.1 45)) + 1)), r1.2.2.1, r1.2.2.2))
  | 3 => od d (fun e1 => ob (X e1 0 0 (upd (fun _ => 0) 1 ((L 1))) σ) (fun r1 => if ¬ (((L 1)) < 0 ∨ 70000 ≤ ((L 1)).toNatClampNeg) then (X d 4 4 L (r1.2.1, r1.2.2.1, updG r1.2.2.2 6 (upd (r1.2.2.2 6) ((L 1)).toNatClampNeg r1.1))) else none))
  | 4 => X d 4 5 L (upd σ.1 45 ((((σ.1 45)) - 1)), σ.2.1, σ.2.2)
  | 5 => ob (x_wantWord K 0 (upd (fun _ => 0) 1 6) σ) (fun r1 => ob (x_want K 0 (upd (fun _ => 0) 1 13) r1.2) (fun r2 => X d 4 6 L (upd r2.2.1 13 ((((r2.2.1 13)) - 1)), r2.2.2.1, r2.2.2.2)))
  | 6 => some ((L 1), σ)
  | _ => none
theorem s_whiles_0 (X : Nat → Nat → Nat → (Nat → Int32) → MS → Option (Int32 × MS)) (K d : Nat) (L : Nat → Int32) (σ : MS) : s_whiles X K d 0 L σ = (ob (x_node K 0 (upd (upd (upd (upd (fun _ => 0) 1 47) 2 0) 3 0) 4 0) σ) (fun r1 => X d 4 1 (upd L 1 r1.1) (upd r1.2.1 13 ((((r1.2.1 13)) + 1)), r1.2.2.1, r1.2.2.2))) := rfl
theorem s_whiles_1 (X : Nat → Nat → Nat → (Nat → Int32) → MS → Option (Int32 × MS)) (K d : Nat) (L : Nat → Int32) (σ : MS) : s_whiles X K d 1 L σ = (ob (x_take K 0 (fun _ => 0) σ) (fun r1 => ob (x_exp K 0 (fun _ => 0) r1.2) (fun r2 => if ¬ (((L 1)) < 0 ∨ 70000 ≤ ((L 1)).toNatClampNeg) then (X d 4 2 L (r2.2.1, r2.2.2.1, updG r2.2.2.2 5 (upd (r2.2.2.2 5) ((L 1)).toNatClampNeg r2.1))) else none))) := rfl
theorem s_whiles_2 (X : Nat → Nat → Nat → (Nat → Int32) → MS → Option (Int32 × MS)) (K d : Nat) (L : Nat → Int32) (σ : MS) : s_whiles X K d 2 L σ = (ob (x_wantWord K 0 (upd (fun _ => 0) 1 12) σ) (fun r1 => X d 4 3 L (upd r1.2.1 45 ((((r1.2.1 45)) + 1)), r1.2.2.1, r1.2.2.2))) := rfl
theorem s_whiles_3 (X : Nat → Nat → Nat → (Nat → Int32) → MS → Option (Int32 × MS)) (K d : Nat) (L : Nat → Int32) (σ : MS) : s_whiles X K d 3 L σ = (od d (fun e1 => ob (X e1 0 0 (upd (fun _ => 0) 1 ((L 1))) σ) (fun r1 => if ¬ (((L 1)) < 0 ∨ 70000 ≤ ((L 1)).toNatClampNeg) then (X d 4 4 L (r1.2.1, r1.2.2.1, updG r1.2.2.2 6 (upd (r1.2.2.2 6) ((L 1)).toNatClampNeg r1.1))) else none))) := rfl
theorem s_whiles_4 (X : Nat → Nat → Nat → (Nat → Int32) → MS → Option (Int32 × MS)) (K d : Nat) (L : Nat → Int32) (σ : MS) : s_whiles X K d 4 L σ = (X d 4 5 L (upd σ.1 45 ((((σ.1 45)) - 1)), σ.2.1, σ.2.2)) := rfl
theorem s_whiles_5 (X : Nat → Nat → Nat → (Nat → Int32) → MS → Option (Int32 × MS)) (K d : Nat) (L : Nat → Int32) (σ : MS) : s_whiles X K d 5 L σ = (ob (x_wantWord K 0 (upd (fun _ => 0) 1 6) σ) (fun r1 => ob (x_want K 0 (upd (fun _ => 0) 1 13) r1.2) (fun r2 => X d 4 6 L (upd r2.2.1 13 ((((r2.2.1 13)) - 1)), r2.2.2.1, r2.2.2.2)))) := rfl
theorem s_whiles_6 (X : Nat → Nat → Nat → (Nat → Int32) → MS → Option (Int32 × MS)) (K d : Nat) (L : Nat → Int32) (σ : MS) : s_whiles X K d 6 L σ = (some ((L 1), σ)) := rfl
def x_GS : Nat → Nat → Nat → Nat → (Nat → Int32) → MS → Option (Int32 × MS)
  | 0 => fun _ _ _ _ _ => none
  | k + 1 => fun d m b L σ => match m with
    | 0 => s_block (x_GS k) k d b L σ
    | 1 => s_fors (x_GS k) k d b L σ
    | 2 => s_ifs (x_GS k) k d b L σ
    | 3 => s_statement (x_GS k) k d b L σ
    | 4 => s_whiles (x_GS k) k d b L σ
    | _ => none
theorem x_GS_0 (k d b : Nat) (L : Nat → Int32) (σ : MS) : x_GS (k + 1) d 0 b L σ = s_block (x_GS k) k d b L σ := rfl
theorem x_GS_1 (k d b : Nat) (L : Nat → Int32) (σ : MS) : x_GS (k + 1) d 1 b L σ = s_fors (x_GS k) k d b L σ := rfl
theorem x_GS_2 (k d b : Nat) (L : Nat → Int32) (σ : MS) : x_GS (k + 1) d 2 b L σ = s_ifs (x_GS k) k d b L σ := rfl
theorem x_GS_3 (k d b : Nat) (L : Nat → Int32) (σ : MS) : x_GS (k + 1) d 3 b L σ = s_statement (x_GS k) k d b L σ := rfl
theorem x_GS_4 (k d b : Nat) (L : Nat → Int32) (σ : MS) : x_GS (k + 1) d 4 b L σ = s_whiles (x_GS k) k d b L σ := rfl
def o_x_GS : List Cond := [.code yX12_block cX12_block 5 (some .int), .code yX12_fors cX12_fors 3 (some .int), .code yX12_ifs cX12_ifs 7 (some .int), .code yX12_statement cX12_statement 5 (some .int), .code yX12_whiles cX12_whiles 2 (some .int), .fieldLink RX12 11 "SetHouseModel" "bad" "Z", .methodLink RX12 285 yX12_isBlockEnd, .instanceMethod yX12_isBlockEnd, .selects RX12 yX12_isBlockEnd yX12_isBlockEnd, .initialized RX12, .methodLink RX12 288 yX12_statement, .instanceMethod yX12_statement, .selects RX12 yX12_statement yX12_statement, .fieldLink RX12 291 "SetHouseModel" "up" "[I", .fieldLink RX12 95 "SetHouseModel" "x4" "[I", .fieldLink RX12 98 "SetHouseModel" "next" "[I", .methodLink RX12 101 yX12_node, .instanceMethod yX12_node, .selects RX12 yX12_node yX12_node, .fieldLink RX12 77 "SetHouseModel" "opened" "I", .methodLink RX12 71 yX12_take, .instanceMethod yX12_take, .selects RX12 yX12_take yX12_take, .fieldLink RX12 114 "SetHouseModel" "seenNames" "I", .fieldLink RX12 86 "SetHouseModel" "x1" "[I", .methodLink RX12 246 yX12_iters, .instanceMethod yX12_iters, .selects RX12 yX12_iters yX12_iters, .methodLink RX12 65 yX12_isSign, .instanceMethod yX12_isSign, .selects RX12 yX12_isSign yX12_isSign, .fieldLink RX12 89 "SetHouseModel" "x2" "[I", .methodLink RX12 209 yX12_exp, .instanceMethod yX12_exp, .selects RX12 yX12_exp yX12_exp, .methodLink RX12 253 yX12_wantWord, .instanceMethod yX12_wantWord, .selects RX12 yX12_wantWord yX12_wantWord, .fieldLink RX12 321 "SetHouseModel" "loops" "I", .fieldLink RX12 92 "SetHouseModel" "x3" "[I", .methodLink RX12 336 yX12_block, .instanceMethod yX12_block, .selects RX12 yX12_block yX12_block, .methodLink RX12 199 yX12_want, .instanceMethod yX12_want, .selects RX12 yX12_want yX12_want, .methodLink RX12 74 yX12_isWord, .instanceMethod yX12_isWord, .selects RX12 yX12_isWord yX12_isWord, .methodLink RX12 294 yX12_isStatement, .instanceMethod yX12_isStatement, .selects RX12 yX12_isStatement yX12_isStatement, .methodLink RX12 68 yX12_cannot, .instanceMethod yX12_cannot, .selects RX12 yX12_cannot yX12_cannot, .fieldLink RX12 32 "SetHouseModel" "tFrom" "I", .methodLink RX12 58 yX12_fault, .instanceMethod yX12_fault, .selects RX12 yX12_fault yX12_fault, .fieldLink RX12 297 "SetHouseModel" "statements" "I", .fieldLink RX12 35 "SetHouseModel" "tKind" "I", .methodLink RX12 300 yX12_begun, .instanceMethod yX12_begun, .selects RX12 yX12_begun yX12_begun, .methodLink RX12 303 yX12_partsOf, .instanceMethod yX12_partsOf, .selects RX12 yX12_partsOf yX12_partsOf, .fieldLink RX12 49 "SetHouseModel" "tWhat" "I", .methodLink RX12 306 yX12_ifs, .instanceMethod yX12_ifs, .selects RX12 yX12_ifs yX12_ifs, .methodLink RX12 309 yX12_whiles, .instanceMethod yX12_whiles, .selects RX12 yX12_whiles yX12_whiles, .methodLink RX12 312 yX12_fors, .instanceMethod yX12_fors, .selects RX12 yX12_fors yX12_fors, .methodLink RX12 315 yX12_simple, .instanceMethod yX12_simple, .selects RX12 yX12_simple yX12_simple, .fieldLink RX12 318 "SetHouseModel" "place" "[I"]
theorem o_x_GS_good : o_x_GS.all goodWord = true := by decide +kernel
def p_x_GS : List Cond := o_x_GS ++ ((.code yX12_isBlockEnd cX12_isBlockEnd 1 (some .boolean) :: p_x_isBlockEnd) ++ ((.code yX12_node cX12_node 6 (some .int) :: p_x_node) ++ ((.code yX12_take cX12_take 2 none :: p_x_take) ++ ((.code yX12_iters cX12_iters 12 (some .int) :: p_x_GE) ++ ((.code yX12_isSign cX12_isSign 2 (some .boolean) :: p_x_isSign) ++ ((.code yX12_exp cX12_exp 2 (some .int) :: p_x_GE) ++ ((.code yX12_wantWord cX12_wantWord 2 none :: p_x_wantWord) ++ ((.code yX12_want cX12_want 2 none :: p_x_want) ++ ((.code yX12_isWord cX12_isWord 2 (some .boolean) :: p_x_isWord) ++ ((.code yX12_isStatement cX12_isStatement 1 (some .boolean) :: p_x_isStatement) ++ ((.code yX12_cannot cX12_cannot 1 none :: p_x_cannot) ++ ((.code yX12_fault cX12_fault 3 none :: p_x_fault) ++ ((.code yX12_begun cX12_begun 4 (some .int) :: p_x_begun) ++ ((.code yX12_partsOf cX12_partsOf 5 (some .int) :: p_x_partsOf) ++ ((.code yX12_simple cX12_simple 6 (some .int) :: p_x_simple) ++ [])))))))))))))))
theorem p_x_GS_good : p_x_GS.all goodWord = true := nb_all2 o_x_GS_good (nb_all2 (nb_allc (by decide +kernel) p_x_isBlockEnd_good) (nb_all2 (nb_allc (by decide +kernel) p_x_node_good) (nb_all2 (nb_allc (by decide +kernel) p_x_take_good) (nb_all2 (nb_allc (by decide +kernel) p_x_GE_good) (nb_all2 (nb_allc (by decide +kernel) p_x_isSign_good) (nb_all2 (nb_allc (by decide +kernel) p_x_GE_good) (nb_all2 (nb_allc (by decide +kernel) p_x_wantWord_good) (nb_all2 (nb_allc (by decide +kernel) p_x_want_good) (nb_all2 (nb_allc (by decide +kernel) p_x_isWord_good) (nb_all2 (nb_allc (by decide +kernel) p_x_isStatement_good) (nb_all2 (nb_allc (by decide +kernel) p_x_cannot_good) (nb_all2 (nb_allc (by decide +kernel) p_x_fault_good) (nb_all2 (nb_allc (by decide +kernel) p_x_begun_good) (nb_all2 (nb_allc (by decide +kernel) p_x_partsOf_good) (nb_all2 (nb_allc (by decide +kernel) p_x_simple_good) rfl)))))))))))))))
def w_x_block : List Cond := .code yX12_block cX12_block 5 (some .int) :: (p_x_GS ++ fM)
theorem w_x_block_good : w_x_block.all goodWord = true := nb_allc (by decide +kernel) (nb_all2 p_x_GS_good fM_good)
theorem in_x_block : ∀ w ∈ wsX120, w ∈ w_x_block := fun _ h => List.mem_cons_of_mem _ (List.mem_append_right _ h)
theorem hd_x_block : yX12_block.cls = RX12 ∧ yX12_block.cls ≠ "java/lang/invoke/MethodHandle" ∧ yX12_block.cls ≠ "java/lang/invoke/VarHandle" ∧ (parseMethodDescriptor yX12_block.desc).map (fun d => d.parameters.length) = some 1 := by decide +kernel
def w_x_fors : List Cond := .code yX12_fors cX12_fors 3 (some .int) :: (p_x_GS ++ fM)
theorem w_x_fors_good : w_x_fors.all goodWord = true := nb_allc (by decide +kernel) (nb_all2 p_x_GS_good fM_good)
theorem in_x_fors : ∀ w ∈ wsX120, w ∈ w_x_fors := fun _ h => List.mem_cons_of_mem _ (List.mem_append_right _ h)
theorem hd_x_fors : yX12_fors.cls = RX12 ∧ yX12_fors.cls ≠ "java/lang/invoke/MethodHandle" ∧ yX12_fors.cls ≠ "java/lang/invoke/VarHandle" ∧ (parseMethodDescriptor yX12_fors.desc).map (fun d => d.parameters.length) = some 0 := by decide +kernel
def w_x_ifs : List Cond := .code yX12_ifs cX12_ifs 7 (some .int) :: (p_x_GS ++ fM)
theorem w_x_ifs_good : w_x_ifs.all goodWord = true := nb_allc (by decide +kernel) (nb_all2 p_x_GS_good fM_good)
theorem in_x_ifs : ∀ w ∈ wsX120, w ∈ w_x_ifs := fun _ h => List.mem_cons_of_mem _ (List.mem_append_right _ h)
theorem hd_x_ifs : yX12_ifs.cls = RX12 ∧ yX12_ifs.cls ≠ "java/lang/invoke/MethodHandle" ∧ yX12_ifs.cls ≠ "java/lang/invoke/VarHandle" ∧ (parseMethodDescriptor yX12_ifs.desc).map (fun d => d.parameters.length) = some 0 := by decide +kernel
def w_x_statement : List Cond := .code yX12_statement cX12_statement 5 (some .int) :: (p_x_GS ++ fM)
theorem w_x_statement_good : w_x_statement.all goodWord = true := nb_allc (by decide +kernel) (nb_all2 p_x_GS_good fM_good)
theorem in_x_statement : ∀ w ∈ wsX120, w ∈ w_x_statement := fun _ h => List.mem_cons_of_mem _ (List.mem_append_right _ h)
theorem hd_x_statement : yX12_statement.cls = RX12 ∧ yX12_statement.cls ≠ "java/lang/invoke/MethodHandle" ∧ yX12_statement.cls ≠ "java/lang/invoke/VarHandle" ∧ (parseMethodDescriptor yX12_statement.desc).map (fun d => d.parameters.length) = some 0 := by decide +kernel
def w_x_whiles : List Cond := .code yX12_whiles cX12_whiles 2 (some .int) :: (p_x_GS ++ fM)
theorem w_x_whiles_good : w_x_whiles.all goodWord = true := nb_allc (by decide +kernel) (nb_all2 p_x_GS_good fM_good)
theorem in_x_whiles : ∀ w ∈ wsX120, w ∈ w_x_whiles := fun _ h => List.mem_cons_of_mem _ (List.mem_append_right _ h)
theorem hd_x_whiles : yX12_whiles.cls = RX12 ∧ yX12_whiles.cls ≠ "java/lang/invoke/MethodHandle" ∧ yX12_whiles.cls ≠ "java/lang/invoke/VarHandle" ∧ (parseMethodDescriptor yX12_whiles.desc).map (fun d => d.parameters.length) = some 0 := by decide +kernel
abbrev P_GS (l : Launch) (dC : Nat → ClassId) (dI : Nat → Nat → Nat) (cy : Nat → ClassId) (a : Nat → Nat) (k0 : Nat) : Prop := (∀ (d : Nat) (L0 : Nat → Int32) (σ0 : MS) (r0 : Int32 × MS), x_GS k0 d 0 0 L0 σ0 = some r0 → ∀ (sz : Nat), Met l yX12_block w_x_block ({ frames := 328 + d, cells := 0, slots := 0, locals := 10106 + 26 * d }) (va_Pc [.ref (a 0), .int (L0 1)] (nIn (dC, dI) cy sz (vM cy a σ0))) (va_Qi (fun (z : Int32) (_ : Unit) => z = r0.1) (fun _ t => nOut (dC, dI) cy (va_A (vM cy a σ0) sz) (vM cy a r0.2) t) (va_A (vM cy a σ0) sz)) 0 0 (va_A (vM cy a σ0) sz)) ∧ (∀ (d : Nat) (L0 : Nat → Int32) (σ0 : MS) (r0 : Int32 × MS), x_GS k0 d 1 0 L0 σ0 = some r0 → ∀ (sz : Nat), Met l yX12_fors w_x_fors ({ frames := 328 + d, cells := 0, slots := 0, locals := 10106 + 26 * d }) (va_Pc [.ref (a 0)] (nIn (dC, dI) cy sz (vM cy a σ0))) (va_Qi (fun (z : Int32) (_ : Unit) => z = r0.1) (fun _ t => nOut (dC, dI) cy (va_A (vM cy a σ0) sz) (vM cy a r0.2) t) (va_A (vM cy a σ0) sz)) 0 0 (va_A (vM cy a σ0) sz)) ∧ (∀ (d : Nat) (L0 : Nat → Int32) (σ0 : MS) (r0 : Int32 × MS), x_GS k0 d 2 0 L0 σ0 = some r0 → ∀ (sz : Nat), Met l yX12_ifs w_x_ifs ({ frames := 328 + d, cells := 0, slots := 0, locals := 10106 + 26 * d }) (va_Pc [.ref (a 0)] (nIn (dC, dI) cy sz (vM cy a σ0))) (va_Qi (fun (z : Int32) (_ : Unit) => z = r0.1) (fun _ t => nOut (dC, dI) cy (va_A (vM cy a σ0) sz) (vM cy a r0.2) t) (va_A (vM cy a σ0) sz)) 0 0 (va_A (vM cy a σ0) sz)) ∧ (∀ (d : Nat) (L0 : Nat → Int32) (σ0 : MS) (r0 : Int32 × MS), x_GS k0 d 3 0 L0 σ0 = some r0 → ∀ (sz : Nat), Met l yX12_statement w_x_statement ({ frames := 328 + d, cells := 0, slots := 0, locals := 10106 + 26 * d }) (va_Pc [.ref (a 0)] (nIn (dC, dI) cy sz (vM cy a σ0))) (va_Qi (fun (z : Int32) (_ : Unit) => z = r0.1) (fun _ t => nOut (dC, dI) cy (va_A (vM cy a σ0) sz) (vM cy a r0.2) t) (va_A (vM cy a σ0) sz)) 0 0 (va_A (vM cy a σ0) sz)) ∧ (∀ (d : Nat) (L0 : Nat → Int32) (σ0 : MS) (r0 : Int32 × MS), x_GS k0 d 4 0 L0 σ0 = some r0 → ∀ (sz : Nat), Met l yX12_whiles w_x_whiles ({ frames := 328 + d, cells := 0, slots := 0, locals := 10106 + 26 * d }) (va_Pc [.ref (a 0)] (nIn (dC, dI) cy sz (vM cy a σ0))) (va_Qi (fun (z : Int32) (_ : Unit) => z = r0.1) (fun _ t => nOut (dC, dI) cy (va_A (vM cy a σ0) sz) (vM cy a r0.2) t) (va_A (vM cy a σ0) sz)) 0 0 (va_A (vM cy a σ0) sz))
theorem gg_x_block_isBlockEnd : GoodIn w_x_block w_x_isBlockEnd := goodIn_sub (fun w h => (List.mem_cons.mp h).elim (fun e => (List.mem_cons_of_mem _ (List.mem_append_left _ (List.mem_append_right _ (List.mem_append_left _ (List.mem_cons.mpr (Or.inl e))))))) (fun h => (List.mem_append.mp h).elim (fun h => (List.mem_cons_of_mem _ (List.mem_append_left _ (List.mem_append_right _ (List.mem_append_left _ (List.mem_cons_of_mem _ h)))))) (fun h => List.mem_cons_of_mem _ (List.mem_append_right _ h)))) w_x_isBlockEnd_good
theorem g_x_block_isBlockEnd_285 : GoodIn w_x_block (wsV RX12 285 RX12 yX12_isBlockEnd w_x_isBlockEnd) := goodIn_app (nb_g4 (List.mem_cons_of_mem _ (List.mem_append_left _ (List.mem_append_left _ (List.mem_of_getElem? (i := 6) rfl)))) (List.mem_cons_of_mem _ (List.mem_append_left _ (List.mem_append_left _ (List.mem_of_getElem? (i := 7) rfl)))) (List.mem_cons_of_mem _ (List.mem_append_left _ (List.mem_append_left _ (List.mem_of_getElem? (i := 8) rfl)))) (List.mem_cons_of_mem _ (List.mem_append_left _ (List.mem_append_left _ (List.mem_of_getElem? (i := 9) rfl)))) (by decide +kernel)) gg_x_block_isBlockEnd
theorem gg_x_block_statement : GoodIn w_x_block w_x_statement := goodIn_sub (fun w h => (List.mem_cons.mp h).elim (fun e => e ▸ (List.mem_cons_of_mem _ (List.mem_append_left _ (List.mem_append_left _ (List.mem_of_getElem? (i := 3) rfl))))) (fun h => List.mem_cons_of_mem _ h)) w_x_statement_good
theorem g_x_block_statement_288 : GoodIn w_x_block (wsV RX12 288 RX12 yX12_statement w_x_statement) := goodIn_app (nb_g4 (List.mem_cons_of_mem _ (List.mem_append_left _ (List.mem_append_left _ (List.mem_of_getElem? (i := 10) rfl)))) (List.mem_cons_of_mem _ (List.mem_append_left _ (List.mem_append_left _ (List.mem_of_getElem? (i := 11) rfl)))) (List.mem_cons_of_mem _ (List.mem_append_left _ (List.mem_append_left _ (List.mem_of_getElem? (i := 12) rfl)))) (List.mem_cons_of_mem _ (List.mem_append_left _ (List.mem_append_left _ (List.mem_of_getElem? (i := 9) rfl)))) (by decide +kernel)) gg_x_block_statement
set_option maxHeartbeats 40000000 in
set_option maxRecDepth 100000 in
theorem c_s_block (l : Launch) (dC : Nat → ClassId) (dI : Nat → Nat → Nat) (cy : Nat → ClassId) (a : Nat → Nat) (k0 : Nat) (IH : ∀ j : Nat, j < k0 → P_GS l dC dI cy a j) (d : Nat) (L0 : Nat → Int32) (σ0 : MS) (r0 : Int32 × MS) (h0 : x_GS k0 d 0 0 L0 σ0 = some r0) (sz : Nat) : Met l yX12_block w_x_block ({ frames := 328 + d, cells := 0, slots := 0, locals := 10106 + 26 * d }) (va_Pc [.ref (a 0), .int (L0 1)] (nIn (dC, dI) cy sz (vM cy a σ0))) (va_Qi (fun (z : Int32) (_ : Unit) => z = r0.1) (fun _ t => nOut (dC, dI) cy (va_A (vM cy a σ0) sz) (vM cy a r0.2) t) (va_A (vM cy a σ0) sz)) 0 0 (va_A (vM cy a σ0) sz) := by
  refine Met.ofW (cc := cX12_block) (maxL := 5) (ret := (some .int)) (by decide) rfl ?_
  intro p e s m args below meth c s₁ B hml hv
  obtain ⟨rfl, hsz, hP, hK, hD0, hG⟩ := hv
  have hx := B.exec
  have hb := B.bytes
  have hr := B.returns
  have hts := atoms_spec (ws := w_x_block) B.pre
  have hown : s.vm.findClass RX12 = some m.cls := findClass_of_methodNamed B.named
  have hlocks := B.notSynchronized
  subst hsz
  have hD := hD0.self (sz := s.heap.size)
  generalize hAe : va_A (vM cy a σ0) s.heap.size = A at hD ⊢
  have hA : ∀ q : Nat, s.heap.size ≤ q → A q := fun q h => by rw [← hAe]; exact Or.inr h
  have hS : va_S A s.heap s.heap [] := va_S.rf
  have hl := lv_entry ([.ref (a 0), .int (L0 1)]) (n := 5) (Nat.le_of_ble_eq_true rfl)
  rw [lg_entry_eq]
  generalize (lg_sl ([.ref (a 0), .int (L0 1)]) ++ List.replicate (5 - (lg_sl ([.ref (a 0), .int (L0 1)])).length) Slot.unset).toArray = ls at hl ⊢
  have hl : lv_has ls 5 [(0, .ref (a 0)), (1, .int (L0 1))] := hl
  have blk : ∀ k : Nat, k ≤ k0 → (bT p l e (headSpec w_x_block ({ frames := 328 + d, cells := 0, slots := 0, locals := 10106 + 26 * d })).room s m #[.ref (a 0), .int (L0 1)] below meth c dC dI cy a A (qI dC dI cy a A below #[.ref (a 0), .int (L0 1)] s) 5 (x_GS k d 0 0) (fun L => [(0, .ref (a 0)), (1, .int (L 1))]) 0 (fun L => [])) ∧ (bT p l e (headSpec w_x_block ({ frames := 328 + d, cells := 0, slots := 0, locals := 10106 + 26 * d })).room s m #[.ref (a 0), .int (L0 1)] below meth c dC dI cy a A (qI dC dI cy a A below #[.ref (a 0), .int (L0 1)] s) 5 (x_GS k d 0 1) (fun L => [(0, .ref (a 0)), (1, .int (L 1)), (2, .int (L 2)), (3, .int (L 3))]) 4 (fun L => [])) ∧ (bT p l e (headSpec w_x_block ({ frames := 328 + d, cells := 0, slots := 0, locals := 10106 + 26 * d })).room s m #[.ref (a 0), .int (L0 1)] below meth c dC dI cy a A (qI dC dI cy a A below #[.ref (a 0), .int (L0 1)] s) 5 (x_GS k d 0 2) (fun L => [(0, .ref (a 0)), (1, .int (L 1)), (2, .int (L 2)), (3, .int (L 3)), (4, .int (L 4))]) 33 (fun L => [])) ∧ (bT p l e (headSpec w_x_block ({ frames := 328 + d, cells := 0, slots := 0, locals := 10106 + 26 * d })).room s m #[.ref (a 0), .int (L0 1)] below meth c dC dI cy a A (qI dC dI cy a A below #[.ref (a 0), .int (L0 1)] s) 5 (x_GS k d 0 3) (fun L => [(0, .ref (a 0)), (1, .int (L 1)), (2, .int (L 2)), (3, .int (L 3)), (4, .int (L 4))]) 46 (fun L => [])) ∧ (bT p l e (headSpec w_x_block ({ frames := 328 + d, cells := 0, slots := 0, locals := 10106 + 26 * d })).room s m #[.ref (a 0), .int (L0 1)] below meth c dC dI cy a A (qI dC dI cy a A below #[.ref (a 0), .int (L0 1)] s) 5 (x_GS k d 0 4) (fun L => [(0, .ref (a 0)), (1, .int (L 1)), (2, .int (L 2)), (3, .int (L 3)), (4, .int (L 4))]) 57 (fun L => [])) ∧ (bT p l e (headSpec w_x_block ({ frames := 328 + d, cells := 0, slots := 0, locals := 10106 + 26 * d })).room s m #[.ref (a 0), .int (L0 1)] below meth c dC dI cy a A (qI dC dI cy a A below #[.ref (a 0), .int (L0 1)] s) 5 (x_GS k d 0 5) (fun L => [(0, .ref (a 0)), (1, .int (L 1)), (2, .int (L 2)), (3, .int (L 3)), (4, .int (L 4))]) 65 (fun L => [])) ∧ (bT p l e (headSpec w_x_block ({ frames := 328 + d, cells := 0, slots := 0, locals := 10106 + 26 * d })).room s m #[.ref (a 0), .int (L0 1)] below meth c dC dI cy a A (qI dC dI cy a A below #[.ref (a 0), .int (L0 1)] s) 5 (x_GS k d 0 6) (fun L => [(0, .ref (a 0)), (1, .int (L 1)), (2, .int (L 2)), (3, .int (L 3))]) 71 (fun L => [])) := by
    intro k
    induction k with
    | zero => exact fun _ => ⟨fun L σ r h => (by cases h), fun L σ r h => (by cases h), fun L σ r h => (by cases h), fun L σ r h => (by cases h), fun L σ r h => (by cases h), fun L σ r h => (by cases h), fun L σ r h => (by cases h)⟩
    | succ k ih =>
      intro hk
      replace ih := ih (by omega)
      refine ⟨?_, ?_, ?_, ?_, ?_, ?_, ?_⟩
      · intro L σ r h H locs ls hP hD hS hl
        rw [x_GS_0, s_block_0] at h
        refine lv_iconst (v := (-1)) hx hb dX12_block_0 (by decide) ?_
        refine lv_istore_n (lv' := [(2, .int (-1)), (0, .ref (a 0)), (1, .int (L 1))]) hx hb dX12_block_1 rfl hl (by decide) rfl (fun ls hl => ?_)
        refine lv_iconst (v := (-1)) hx hb dX12_block_2 (by decide) ?_
        refine lv_istore_n (lv' := [(3, .int (-1)), (2, .int (-1)), (0, .ref (a 0)), (1, .int (L 1))]) hx hb dX12_block_3 rfl hl (by decide) rfl (fun ls hl => ?_)
        exact ih.2.1 (upd (upd L 2 ((-1))) 3 ((-1))) σ r h H locs ls hP hD hS (lv_sub hl [2, 3, 1, 0] rfl)
      · intro L σ r h H locs ls hP hD hS hl
        rw [x_GS_0, s_block_1] at h
        refine lv_aload_n hx hb dX12_block_4 rfl (lv_at hl 0 rfl) ?_
        refine ng_10 hx hb hts in_x_block hown hK hP (hts _ (List.mem_cons_of_mem _ (List.mem_append_left _ (List.mem_append_left _ (List.mem_of_getElem? (i := 5) rfl))))) dX12_block_5 ?_
        refine lv_if_ne (tgt := 71) hx hb dX12_block_8 (by decide) (fun c1 => ?_) (fun c1 => ?_)
        · rw [if_neg c1] at h
          exact ih.2.2.2.2.2.2 L σ r h H locs ls hP hD hS (lv_sub hl [0, 1, 2, 3] rfl)
        · rw [if_pos c1] at h
          refine lv_aload_n hx hb dX12_block_11 rfl (lv_at hl 0 rfl) ?_
          obtain ⟨r2, hc2, h⟩ := ob_ex h
          refine nc_Vi (As := []) (rest := []) ⟨hx, hb, hml, hown, hts⟩ (c_x_isBlockEnd l dC dI cy a k (fun _ => 0) σ r2 hc2 H.size) (cwV 0 hts g_x_block_isBlockEnd_285 rfl rfl rfl hd_x_isBlockEnd (by show 1 + 1 ≤ 328 + d ∧ 8 + (1 + 11) + 21 ≤ 10106 + 26 * d; omega)) hK hG hA hP hD hS rfl hl.1 rfl (Nat.le_of_ble_eq_true rfl) dX12_block_12 ⟨Nat.le_refl _, Nat.le_refl _⟩ (fun H locs hP hD hS => ?_)
          refine lv_if_ne (tgt := 71) hx hb dX12_block_15 (by decide) (fun c3 => ?_) (fun c3 => ?_)
          · rw [if_neg c3] at h
            exact ih.2.2.2.2.2.2 L r2.2 r h H locs ls hP hD hS (lv_sub hl [0, 1, 2, 3] rfl)
          · rw [if_pos c3] at h
            refine lv_aload_n hx hb dX12_block_18 rfl (lv_at hl 0 rfl) ?_
            obtain ⟨e4, he4, h⟩ := od_ex h
            obtain ⟨r4, hc4, h⟩ := ob_ex h
            refine nc_Vi (As := []) (rest := []) ⟨hx, hb, hml, hown, hts⟩ ((IH k (by omega)).2.2.2.1 e4 (fun _ => 0) r2.2 r4 hc4 H.size) (cwV 0 hts g_x_block_statement_288 rfl rfl rfl hd_x_statement (by show (328 + e4) + 1 ≤ 328 + d ∧ 8 + (5 + 11) + (10106 + 26 * e4) ≤ 10106 + 26 * d; omega)) hK hG hA hP hD hS rfl hl.1 rfl (Nat.le_of_ble_eq_true rfl) dX12_block_19 ⟨Nat.le_refl _, Nat.le_refl _⟩ (fun H locs hP hD hS => ?_)
            refine lv_istore (lv' := [(4, .int r4.1), (0, .ref (a 0)), (1, .int (L 1)), (2, .int (L 2)), (3, .int (L 3))]) hx hb dX12_block_22 hl (by decide) rfl (fun ls hl => ?_)
            refine lv_aload_n hx hb dX12_block_24 rfl (lv_at hl 1 rfl) ?_
            refine ng_10 hx hb hts in_x_block hown hK hP (hts _ (List.mem_cons_of_mem _ (List.mem_append_left _ (List.mem_append_left _ (List.mem_of_getElem? (i := 5) rfl))))) dX12_block_25 ?_
            refine lv_if_eq (tgt := 33) hx hb dX12_block_28 (by decide) (fun c5 => ?_) (fun c5 => ?_)
            · rw [if_pos c5] at h
              exact ih.2.2.1 (upd L 4 r4.1) r4.2 r h H locs ls hP hD hS (lv_sub hl [1, 2, 3, 4, 0] rfl)
            · rw [if_neg c5] at h
              refine lv_iload_n hx hb dX12_block_31 rfl (lv_at hl 3 rfl) ?_
              cases h
              exact W.iret (v := (L 2)) hx hb hr (fun t ht hW => ⟨⟨(L 2), (), rfl, rfl, by rw [ht]; exact hP, va_K.moved hW.alike hK, hD⟩, hS.F ht⟩) hS.2.2 dX12_block_32
      · intro L σ r h H locs ls hP hD hS hl
        rw [x_GS_0, s_block_2] at h
        refine lv_aload_n hx hb dX12_block_33 rfl (lv_at hl 0 rfl) ?_
        refine ng_20 hx hb hts in_x_block hown hK hP (hts _ (List.mem_cons_of_mem _ (List.mem_append_left _ (List.mem_append_left _ (List.mem_of_getElem? (i := 13) rfl))))) dX12_block_34 ?_
        refine lv_aload_n hx hb dX12_block_37 rfl (lv_at hl 0 rfl) ?_
        refine ng_18 hx hb hts in_x_block hown hK hP (hts _ (List.mem_cons_of_mem _ (List.mem_append_left _ (List.mem_append_left _ (List.mem_of_getElem? (i := 14) rfl))))) dX12_block_38 ?_
        refine lv_iload hx hb dX12_block_41 (lv_at hl 4 rfl) ?_
        obtain ⟨q1, h⟩ := nb_ite1 h
        refine nl_8 hx hb hK hP q1 dX12_block_43 ?_
        refine lv_iload_n hx hb dX12_block_44 rfl (lv_at hl 1 rfl) ?_
        obtain ⟨q2, h⟩ := nb_ite1 h
        refine ns_10 hx hb hK hP hD hS q2 dX12_block_45 (fun H locs hP hD hS => ?_)
        exact ih.2.2.2.1 L (σ.1, σ.2.1, updG σ.2.2 10 (upd (σ.2.2 10) ((σ.2.2 8 ((L 4)).toNatClampNeg)).toNatClampNeg ((L 1)))) r h H locs ls hP hD hS (lv_sub hl [0, 1, 2, 3, 4] rfl)
      · intro L σ r h H locs ls hP hD hS hl
        rw [x_GS_0, s_block_3] at h
        refine lv_iload_n hx hb dX12_block_46 rfl (lv_at hl 2 rfl) ?_
        refine lv_iconst (v := (-1)) hx hb dX12_block_47 (by decide) ?_
        refine lv_icmp_ne (tgt := 57) hx hb dX12_block_48 (by decide) (fun c1 => ?_) (fun c1 => ?_)
        · rw [if_neg c1] at h
          exact ih.2.2.2.2.1 L σ r h H locs ls hP hD hS (lv_sub hl [0, 1, 2, 3, 4] rfl)
        · rw [if_pos c1] at h
          refine lv_iload hx hb dX12_block_51 (lv_at hl 4 rfl) ?_
          refine lv_istore_n (lv' := [(2, .int (L 4)), (0, .ref (a 0)), (1, .int (L 1)), (3, .int (L 3)), (4, .int (L 4))]) hx hb dX12_block_53 rfl hl (by decide) rfl (fun ls hl => ?_)
          refine lv_goto (tgt := 65) hx hb dX12_block_54 (by decide) ?_
          exact ih.2.2.2.2.2.1 (upd L 2 ((L 4))) σ r h H locs ls hP hD hS (lv_sub hl [1, 2, 0, 3, 4] rfl)
      · intro L σ r h H locs ls hP hD hS hl
        rw [x_GS_0, s_block_4] at h
        refine lv_aload_n hx hb dX12_block_57 rfl (lv_at hl 0 rfl) ?_
        refine ng_19 hx hb hts in_x_block hown hK hP (hts _ (List.mem_cons_of_mem _ (List.mem_append_left _ (List.mem_append_left _ (List.mem_of_getElem? (i := 15) rfl))))) dX12_block_58 ?_
        refine lv_iload_n hx hb dX12_block_61 rfl (lv_at hl 3 rfl) ?_
        refine lv_iload hx hb dX12_block_62 (lv_at hl 4 rfl) ?_
        obtain ⟨q1, h⟩ := nb_ite1 h
        refine ns_9 hx hb hK hP hD hS q1 dX12_block_64 (fun H locs hP hD hS => ?_)
        exact ih.2.2.2.2.2.1 L (σ.1, σ.2.1, updG σ.2.2 9 (upd (σ.2.2 9) ((L 3)).toNatClampNeg ((L 4)))) r h H locs ls hP hD hS (lv_sub hl [0, 1, 2, 3, 4] rfl)
      · intro L σ r h H locs ls hP hD hS hl
        rw [x_GS_0, s_block_5] at h
        refine lv_iload hx hb dX12_block_65 (lv_at hl 4 rfl) ?_
        refine lv_istore_n (lv' := [(3, .int (L 4)), (0, .ref (a 0)), (1, .int (L 1)), (2, .int (L 2)), (4, .int (L 4))]) hx hb dX12_block_67 rfl hl (by decide) rfl (fun ls hl => ?_)
        refine lv_goto (tgt := 4) hx hb dX12_block_68 (by decide) ?_
        exact ih.2.1 (upd L 3 ((L 4))) σ r h H locs ls hP hD hS (lv_sub hl [1, 2, 3, 0] rfl)
      · intro L σ r h H locs ls hP hD hS hl
        rw [x_GS_0, s_block_6] at h
        refine lv_iload_n hx hb dX12_block_71 rfl (lv_at hl 2 rfl) ?_
        cases h
        exact W.iret (v := (L 2)) hx hb hr (fun t ht hW => ⟨⟨(L 2), (), rfl, rfl, by rw [ht]; exact hP, va_K.moved hW.alike hK, hD⟩, hS.F ht⟩) hS.2.2 dX12_block_72
  exact (blk k0 (Nat.le_refl _)).1 L0 σ0 r0 h0 s.heap [] ls hP hD hS hl

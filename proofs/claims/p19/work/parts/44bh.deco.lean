/-! readAgain -/
def x_readAgain : Nat → Nat → (Nat → Int32) → MS → Option (Int32 × MS)
  | 0, _, _, _ => none
  | k + 1, 0, L, σ => if ((σ.1 111)) = 0 then (x_readAgain k 1 L (upd σ.1 22 1, σ.2.1, σ.2.2)) else (x_readAgain k 6 L σ)
  | k + 1, 1, L, σ => x_readAgain k 2 L (upd σ.1 24 0, σ.2.1, σ.2.2)
  | k + 1, 2, L, σ => x_readAgain k 3 L (upd σ.1 25 0, σ.2.1, σ.2.2)
  | k + 1, 3, L, σ => if ¬ ((0 : Int32) < 0 ∨ 43 ≤ (0 : Int32).toNatClampNeg) then (x_readAgain k 4 L (σ.1, σ.2.1, updG σ.2.2 21 (upd (σ.2.2 21) (0 : Int32).toNatClampNeg 0))) else none
  | k + 1, 4, L, σ => x_readAgain k 5 L (upd σ.1 44 0, σ.2.1, σ.2.2)
  | k + 1, 5, L, σ => some (0, (upd σ.1 31 0, σ.2.1, σ.2.2))
  | k + 1, 6, L, σ => ob (x_load__53 k 0 (upd (upd (fun _ => 0) 2 0) 3 ((σ.1 115))) σ) (fun r1 => ob (x_readProgram k 0 (fun _ => 0) r1.2) (fun r2 => some (0, r2.2)))
  | _ + 1, _ + 7, _, _ => none
def o_x_readAgain : List Cond := [.fieldLink RX12 1041 "SetHouseModel" "isProgram" "Z", .fieldLink RX12 80 "SetHouseModel" "nodes" "I", .fieldLink RX12 105 "SetHouseModel" "pooled" "I", .fieldLink RX12 139 "SetHouseModel" "entities" "I", .fieldLink RX12 157 "SetHouseModel" "held" "[I", .fieldLink RX12 297 "SetHouseModel" "statements" "I", .fieldLink RX12 349 "SetHouseModel" "procs" "I", .fieldLink RX12 1010 "SetHouseModel" "programText" "[I", .fieldLink RX12 1047 "SetHouseModel" "programSize" "I", .methodLink RX12 1059 yX12_load, .instanceMethod yX12_load, .selects RX12 yX12_load yX12_load, .initialized RX12, .methodLink RX12 1053 yX12_readProgram, .instanceMethod yX12_readProgram, .selects RX12 yX12_readProgram yX12_readProgram]
theorem o_x_readAgain_good : o_x_readAgain.all goodWord = true := by decide +kernel
def p_x_readAgain : List Cond := o_x_readAgain ++ ((.code yX12_load cX12_load 5 none :: p_x_load__53) ++ ((.code yX12_readProgram cX12_readProgram 1 none :: p_x_readProgram) ++ []))
theorem p_x_readAgain_good : p_x_readAgain.all goodWord = true := nb_all2 o_x_readAgain_good (nb_all2 (nb_allc (by decide +kernel) p_x_load__53_good) (nb_all2 (nb_allc (by decide +kernel) p_x_readProgram_good) rfl))
def w_x_readAgain : List Cond := .code yX12_readAgain cX12_readAgain 1 none :: (p_x_readAgain ++ fM)
theorem w_x_readAgain_good : w_x_readAgain.all goodWord = true := nb_allc (by decide +kernel) (nb_all2 p_x_readAgain_good fM_good)
theorem in_x_readAgain : ∀ w ∈ wsX120, w ∈ w_x_readAgain := fun _ h => List.mem_cons_of_mem _ (List.mem_append_right _ h)
theorem hd_x_readAgain : yX12_readAgain.cls = RX12 ∧ yX12_readAgain.cls ≠ "java/lang/invoke/MethodHandle" ∧ yX12_readAgain.cls ≠ "java/lang/invoke/VarHandle" ∧ (parseMethodDescriptor yX12_readAgain.desc).map (fun d => d.parameters.length) = some 0 := by decide +kernel
theorem gg_x_readAgain_load__53 : GoodIn w_x_readAgain w_x_load__53 := goodIn_sub (fun w h => (List.mem_cons.mp h).elim (fun e => (List.mem_cons_of_mem _ (List.mem_append_left _ (List.mem_append_right _ (List.mem_append_left _ (List.mem_cons.mpr (Or.inl e))))))) (fun h => (List.mem_append.mp h).elim (fun h => (List.mem_cons_of_mem _ (List.mem_append_left _ (List.mem_append_right _ (List.mem_append_left _ (List.mem_cons_of_mem _ h)))))) (fun h => List.mem_cons_of_mem _ (List.mem_append_right _ h)))) w_x_load__53_good
theorem g_x_readAgain_load__53_1059 : GoodIn w_x_readAgain (wsV RX12 1059 RX12 yX12_load w_x_load__53) := goodIn_app (nb_g4 (List.mem_cons_of_mem _ (List.mem_append_left _ (List.mem_append_left _ (List.mem_of_getElem? (i := 9) rfl)))) (List.mem_cons_of_mem _ (List.mem_append_left _ (List.mem_append_left _ (List.mem_of_getElem? (i := 10) rfl)))) (List.mem_cons_of_mem _ (List.mem_append_left _ (List.mem_append_left _ (List.mem_of_getElem? (i := 11) rfl)))) (List.mem_cons_of_mem _ (List.mem_append_left _ (List.mem_append_left _ (List.mem_of_getElem? (i := 12) rfl)))) (by decide +kernel)) gg_x_readAgain_load__53
theorem gg_x_readAgain_readProgram : GoodIn w_x_readAgain w_x_readProgram := goodIn_sub (fun w h => (List.mem_cons.mp h).elim (fun e => (List.mem_cons_of_mem _ (List.mem_append_left _ (List.mem_append_right _ (List.mem_append_right _ (List.mem_append_left _ (List.mem_cons.mpr (Or.inl e)))))))) (fun h => (List.mem_append.mp h).elim (fun h => (List.mem_cons_of_mem _ (List.mem_append_left _ (List.mem_append_right _ (List.mem_append_right _ (List.mem_append_left _ (List.mem_cons_of_mem _ h))))))) (fun h => List.mem_cons_of_mem _ (List.mem_append_right _ h)))) w_x_readProgram_good
theorem g_x_readAgain_readProgram_1053 : GoodIn w_x_readAgain (wsV RX12 1053 RX12 yX12_readProgram w_x_readProgram) := goodIn_app (nb_g4 (List.mem_cons_of_mem _ (List.mem_append_left _ (List.mem_append_left _ (List.mem_of_getElem? (i := 13) rfl)))) (List.mem_cons_of_mem _ (List.mem_append_left _ (List.mem_append_left _ (List.mem_of_getElem? (i := 14) rfl)))) (List.mem_cons_of_mem _ (List.mem_append_left _ (List.mem_append_left _ (List.mem_of_getElem? (i := 15) rfl)))) (List.mem_cons_of_mem _ (List.mem_append_left _ (List.mem_append_left _ (List.mem_of_getElem? (i := 12) rfl)))) (by decide +kernel)) gg_x_readAgain_readProgram
set_option maxHeartbeats 40000000 in
set_option maxRecDepth 100000 in
theorem c_x_readAgain (l : Launch) (dC : Nat → ClassId) (dI : Nat → Nat → Nat) (cy : Nat → ClassId) (a : Nat → Nat) (k0 : Nat) (L0 : Nat → Int32) (σ0 : MS) (r0 : Int32 × MS) (h0 : x_readAgain k0 0 L0 σ0 = some r0) (sz : Nat) : Met l yX12_readAgain w_x_readAgain ({ frames := 431, cells := 0, slots := 0, locals := 12773 }) (va_Pc [.ref (a 0)] (nIn (dC, dI) cy sz (vM cy a σ0))) (va_Qv (fun _ : Unit => True) (fun _ t => nOut (dC, dI) cy (va_A (vM cy a σ0) sz) (vM cy a r0.2) t) (va_A (vM cy a σ0) sz)) 0 0 (va_A (vM cy a σ0) sz) := by
  refine Met.ofW (cc := cX12_readAgain) (maxL := 1) (ret := none) (by decide) rfl ?_
  intro p e s m args below meth c s₁ B hml hv
  obtain ⟨rfl, hsz, hP, hK, hD0, hG⟩ := hv
  have hx := B.exec
  have hb := B.bytes
  have hr := B.returns
  have hts := atoms_spec (ws := w_x_readAgain) B.pre
  have hown : s.vm.findClass RX12 = some m.cls := findClass_of_methodNamed B.named
  have hlocks := B.notSynchronized
  subst hsz
  have hD := hD0.self (sz := s.heap.size)
  generalize hAe : va_A (vM cy a σ0) s.heap.size = A at hD ⊢
  have hA : ∀ q : Nat, s.heap.size ≤ q → A q := fun q h => by rw [← hAe]; exact Or.inr h
  have hS : va_S A s.heap s.heap [] := va_S.rf
  have hl := lv_entry ([.ref (a 0)]) (n := 1) (Nat.le_of_ble_eq_true rfl)
  rw [lg_entry_eq]
  generalize (lg_sl ([.ref (a 0)]) ++ List.replicate (1 - (lg_sl ([.ref (a 0)])).length) Slot.unset).toArray = ls at hl ⊢
  have hl : lv_has ls 1 [(0, .ref (a 0))] := hl
  have blk : ∀ k : Nat, (bT p l e (headSpec w_x_readAgain ({ frames := 431, cells := 0, slots := 0, locals := 12773 })).room s m #[.ref (a 0)] below meth c dC dI cy a A (qV dC dI cy a A below #[.ref (a 0)] s) 1 (x_readAgain k 0) (fun L => [(0, .ref (a 0))]) 0 (fun L => [])) ∧ (bT p l e (headSpec w_x_readAgain ({ frames := 431, cells := 0, slots := 0, locals := 12773 })).room s m #[.ref (a 0)] below meth c dC dI cy a A (qV dC dI cy a A below #[.ref (a 0)] s) 1 (x_readAgain k 1) (fun L => [(0, .ref (a 0))]) 12 (fun L => [])) ∧ (bT p l e (headSpec w_x_readAgain ({ frames := 431, cells := 0, slots := 0, locals := 12773 })).room s m #[.ref (a 0)] below meth c dC dI cy a A (qV dC dI cy a A below #[.ref (a 0)] s) 1 (x_readAgain k 2) (fun L => [(0, .ref (a 0))]) 17 (fun L => [])) ∧ (bT p l e (headSpec w_x_readAgain ({ frames := 431, cells := 0, slots := 0, locals := 12773 })).room s m #[.ref (a 0)] below meth c dC dI cy a A (qV dC dI cy a A below #[.ref (a 0)] s) 1 (x_readAgain k 3) (fun L => [(0, .ref (a 0))]) 22 (fun L => [])) ∧ (bT p l e (headSpec w_x_readAgain ({ frames := 431, cells := 0, slots := 0, locals := 12773 })).room s m #[.ref (a 0)] below meth c dC dI cy a A (qV dC dI cy a A below #[.ref (a 0)] s) 1 (x_readAgain k 4) (fun L => [(0, .ref (a 0))]) 29 (fun L => [])) ∧ (bT p l e (headSpec w_x_readAgain ({ frames := 431, cells := 0, slots := 0, locals := 12773 })).room s m #[.ref (a 0)] below meth c dC dI cy a A (qV dC dI cy a A below #[.ref (a 0)] s) 1 (x_readAgain k 5) (fun L => [(0, .ref (a 0))]) 34 (fun L => [])) ∧ (bT p l e (headSpec w_x_readAgain ({ frames := 431, cells := 0, slots := 0, locals := 12773 })).room s m #[.ref (a 0)] below meth c dC dI cy a A (qV dC dI cy a A below #[.ref (a 0)] s) 1 (x_readAgain k 6) (fun L => [(0, .ref (a 0))]) 40 (fun L => [])) := by
    intro k
    induction k with
    | zero => exact ⟨fun L σ r h => (by cases h), fun L σ r h => (by cases h), fun L σ r h => (by cases h), fun L σ r h => (by cases h), fun L σ r h => (by cases h), fun L σ r h => (by cases h), fun L σ r h => (by cases h)⟩
    | succ k ih =>
      refine ⟨?_, ?_, ?_, ?_, ?_, ?_, ?_⟩
      · intro L σ r h H locs ls hP hD hS hl
        rw [x_readAgain] at h
        refine lv_aload_n hx hb dX12_readAgain_0 rfl (lv_at hl 0 rfl) ?_
        refine ng_111 hx hb hts in_x_readAgain hown hK hP (hts _ (List.mem_cons_of_mem _ (List.mem_append_left _ (List.mem_append_left _ (List.mem_of_getElem? (i := 0) rfl))))) dX12_readAgain_1 ?_
        refine lv_if_ne (tgt := 40) hx hb dX12_readAgain_4 (by decide) (fun c1 => ?_) (fun c1 => ?_)
        · rw [if_neg c1] at h
          exact ih.2.2.2.2.2.2 L σ r h H locs ls hP hD hS (lv_sub hl [0] rfl)
        · rw [if_pos c1] at h
          refine lv_aload_n hx hb dX12_readAgain_7 rfl (lv_at hl 0 rfl) ?_
          refine lv_iconst (v := 1) hx hb dX12_readAgain_8 (by decide) ?_
          refine np_22 hx hb hts in_x_readAgain hown hK hP hD hS (hts _ (List.mem_cons_of_mem _ (List.mem_append_left _ (List.mem_append_left _ (List.mem_of_getElem? (i := 1) rfl))))) dX12_readAgain_9 (fun H locs hP hD hS => ?_)
          exact ih.2.1 L (upd σ.1 22 1, σ.2.1, σ.2.2) r h H locs ls hP hD hS (lv_sub hl [0] rfl)
      · intro L σ r h H locs ls hP hD hS hl
        rw [x_readAgain] at h
        refine lv_aload_n hx hb dX12_readAgain_12 rfl (lv_at hl 0 rfl) ?_
        refine lv_iconst (v := 0) hx hb dX12_readAgain_13 (by decide) ?_
        refine np_24 hx hb hts in_x_readAgain hown hK hP hD hS (hts _ (List.mem_cons_of_mem _ (List.mem_append_left _ (List.mem_append_left _ (List.mem_of_getElem? (i := 2) rfl))))) dX12_readAgain_14 (fun H locs hP hD hS => ?_)
        exact ih.2.2.1 L (upd σ.1 24 0, σ.2.1, σ.2.2) r h H locs ls hP hD hS (lv_sub hl [0] rfl)
      · intro L σ r h H locs ls hP hD hS hl
        rw [x_readAgain] at h
        refine lv_aload_n hx hb dX12_readAgain_17 rfl (lv_at hl 0 rfl) ?_
        refine lv_iconst (v := 0) hx hb dX12_readAgain_18 (by decide) ?_
        refine np_25 hx hb hts in_x_readAgain hown hK hP hD hS (hts _ (List.mem_cons_of_mem _ (List.mem_append_left _ (List.mem_append_left _ (List.mem_of_getElem? (i := 3) rfl))))) dX12_readAgain_19 (fun H locs hP hD hS => ?_)
        exact ih.2.2.2.1 L (upd σ.1 25 0, σ.2.1, σ.2.2) r h H locs ls hP hD hS (lv_sub hl [0] rfl)
      · intro L σ r h H locs ls hP hD hS hl
        rw [x_readAgain] at h
        refine lv_aload_n hx hb dX12_readAgain_22 rfl (lv_at hl 0 rfl) ?_
        refine ng_36 hx hb hts in_x_readAgain hown hK hP (hts _ (List.mem_cons_of_mem _ (List.mem_append_left _ (List.mem_append_left _ (List.mem_of_getElem? (i := 4) rfl))))) dX12_readAgain_23 ?_
        refine lv_iconst (v := 0) hx hb dX12_readAgain_26 (by decide) ?_
        refine lv_iconst (v := 0) hx hb dX12_readAgain_27 (by decide) ?_
        obtain ⟨q1, h⟩ := nb_ite1 h
        refine ns_21 hx hb hK hP hD hS q1 dX12_readAgain_28 (fun H locs hP hD hS => ?_)
        exact ih.2.2.2.2.1 L (σ.1, σ.2.1, updG σ.2.2 21 (upd (σ.2.2 21) (0 : Int32).toNatClampNeg 0)) r h H locs ls hP hD hS (lv_sub hl [0] rfl)
      · intro L σ r h H locs ls hP hD hS hl
        rw [x_readAgain] at h
        refine lv_aload_n hx hb dX12_readAgain_29 rfl (lv_at hl 0 rfl) ?_
        refine lv_iconst (v := 0) hx hb dX12_readAgain_30 (by decide) ?_
        refine np_44 hx hb hts in_x_readAgain hown hK hP hD hS (hts _ (List.mem_cons_of_mem _ (List.mem_append_left _ (List.mem_append_left _ (List.mem_of_getElem? (i := 5) rfl))))) dX12_readAgain_31 (fun H locs hP hD hS => ?_)
        exact ih.2.2.2.2.2.1 L (upd σ.1 44 0, σ.2.1, σ.2.2) r h H locs ls hP hD hS (lv_sub hl [0] rfl)
      · intro L σ r h H locs ls hP hD hS hl
        rw [x_readAgain] at h
        refine lv_aload_n hx hb dX12_readAgain_34 rfl (lv_at hl 0 rfl) ?_
        refine lv_iconst (v := 0) hx hb dX12_readAgain_35 (by decide) ?_
        refine np_31 hx hb hts in_x_readAgain hown hK hP hD hS (hts _ (List.mem_cons_of_mem _ (List.mem_append_left _ (List.mem_append_left _ (List.mem_of_getElem? (i := 6) rfl))))) dX12_readAgain_36 (fun H locs hP hD hS => ?_)
        cases h
        exact W.vret hx hb hr (fun t ht hW => ⟨⟨(), rfl, trivial, by rw [ht]; exact hP, va_K.moved hW.alike hK, hD⟩, hS.F ht⟩) hS.2.2 dX12_readAgain_39
      · intro L σ r h H locs ls hP hD hS hl
        rw [x_readAgain] at h
        refine lv_aload_n hx hb dX12_readAgain_40 rfl (lv_at hl 0 rfl) ?_
        refine lv_aload_n hx hb dX12_readAgain_41 rfl (lv_at hl 0 rfl) ?_
        refine ng_114 hx hb hts in_x_readAgain hown hK hP (hts _ (List.mem_cons_of_mem _ (List.mem_append_left _ (List.mem_append_left _ (List.mem_of_getElem? (i := 7) rfl))))) dX12_readAgain_42 ?_
        refine lv_iconst (v := 0) hx hb dX12_readAgain_45 (by decide) ?_
        refine lv_aload_n hx hb dX12_readAgain_46 rfl (lv_at hl 0 rfl) ?_
        refine ng_115 hx hb hts in_x_readAgain hown hK hP (hts _ (List.mem_cons_of_mem _ (List.mem_append_left _ (List.mem_append_left _ (List.mem_of_getElem? (i := 8) rfl))))) dX12_readAgain_47 ?_
        obtain ⟨r1, hc1, h⟩ := ob_ex h
        refine nc_Vv (As := [.ref (a 53), .int 0, .int (σ.1 115)]) (rest := []) ⟨hx, hb, hml, hown, hts⟩ (c_x_load__53 l dC dI cy a k (upd (upd (fun _ => 0) 2 0) 3 ((σ.1 115))) σ r1 hc1 H.size) (cwV 3 hts g_x_readAgain_load__53_1059 rfl rfl rfl hd_x_load__53 ⟨Nat.le_of_ble_eq_true rfl, Nat.le_of_ble_eq_true rfl⟩) hK hG hA hP hD hS rfl hl.1 rfl (Nat.le_of_ble_eq_true rfl) dX12_readAgain_50 ⟨Nat.le_refl _, Nat.le_refl _⟩ (fun H locs hP hD hS => ?_)
        refine lv_aload_n hx hb dX12_readAgain_53 rfl (lv_at hl 0 rfl) ?_
        obtain ⟨r2, hc2, h⟩ := ob_ex h
        refine nc_Vv (As := []) (rest := []) ⟨hx, hb, hml, hown, hts⟩ (c_x_readProgram l dC dI cy a k (fun _ => 0) r1.2 r2 hc2 H.size) (cwV 0 hts g_x_readAgain_readProgram_1053 rfl rfl rfl hd_x_readProgram ⟨Nat.le_of_ble_eq_true rfl, Nat.le_of_ble_eq_true rfl⟩) hK hG hA hP hD hS rfl hl.1 rfl (Nat.le_of_ble_eq_true rfl) dX12_readAgain_54 ⟨Nat.le_refl _, Nat.le_refl _⟩ (fun H locs hP hD hS => ?_)
        cases h
        exact W.vret hx hb hr (fun t ht hW => ⟨⟨(), rfl, trivial, by rw [ht]; exact hP, va_K.moved hW.alike hK, hD⟩, hS.F ht⟩) hS.2.2 dX12_readAgain_57
  exact (blk k0).1 L0 σ0 r0 h0 s.heap [] ls hP hD hS hl
/-! program -/
def x_program : Nat → Nat → (Nat → Int32) → MS → Option (Int32 × MS)
  | 0, _, _, _ => none
  | k + 1, 0, L, σ => x_program k 1 L (upd σ.1 2 0, σ.2.1, σ.2.2)
  | k + 1, 1, L, σ => x_program k 2 L (upd σ.1 11 0, σ.2.1, σ.2.2)
  | k + 1, 2, L, σ => x_program k 3 (upd (upd L 1 ((σ.1 4))) 2 0) σ
  | k + 1, 3, L, σ => if ((L 1)) ≤ ((L 2)) then (x_program k 5 L σ) else (if ¬ (((L 2)) < 0 ∨ 32768 ≤ ((L 2)).toNatClampNeg) then (if ¬ (((L 2)) < 0 ∨ 32768 ≤ ((L 2)).toNatClampNeg) then (x_program k 4 L (σ.1, σ.2.1, updG σ.2.2 56 (upd (σ.2.2 56) ((L 2)).toNatClampNeg ((σ.2.2 3 ((L 2)).toNatClampNeg))))) else none) else none)
  | k + 1, 4, L, σ => x_program k 3 (upd L 2 (((L 2)) + 1)) σ
  | k + 1, 5, L, σ => ob (x_readProgram k 0 (fun _ => 0) σ) (fun r1 => if ((r1.2.1 10)) = 0 then (x_program k 8 L r1.2) else (ob (x_readAgain k 0 (fun _ => 0) r1.2) (fun r3 => x_program k 6 (upd (upd L 2 ((r1.2.1 11))) 3 ((r1.2.1 12))) (upd r3.2.1 11 ((r1.2.1 11)), r3.2.2.1, r3.2.2.2))))
  | k + 1, 6, L, σ => x_program k 7 L (upd σ.1 4 0, σ.2.1, σ.2.2)
  | k + 1, 7, L, σ => some ((((-1)) - ((L 3))), σ)
  | k + 1, 8, L, σ => x_program k 9 (upd L 2 0) σ
  | k + 1, 9, L, σ => if ((L 1)) ≤ ((L 2)) then (x_program k 11 L σ) else (if ¬ (((L 2)) < 0 ∨ 32768 ≤ ((L 2)).toNatClampNeg) then (if ¬ (((L 2)) < 0 ∨ 32768 ≤ ((L 2)).toNatClampNeg) then (x_program k 10 L (σ.1, σ.2.1, updG σ.2.2 53 (upd (σ.2.2 53) ((L 2)).toNatClampNeg ((σ.2.2 56 ((L 2)).toNatClampNeg))))) else none) else none)
  | k + 1, 10, L, σ => x_program k 9 (upd L 2 (((L 2)) + 1)) σ
  | k + 1, 11, L, σ => x_program k 12 L (upd σ.1 115 ((L 1)), σ.2.1, σ.2.2)
  | k + 1, 12, L, σ => x_program k 13 L (upd σ.1 4 0, σ.2.1, σ.2.2)
  | k + 1, 13, L, σ => x_program k 14 L (upd σ.1 111 1, σ.2.1, σ.2.2)
  | k + 1, 14, L, σ => x_program k 15 L (upd σ.1 112 0, σ.2.1, σ.2.2)
  | k + 1, 15, L, σ => x_program k 16 L (upd σ.1 73 0, σ.2.1, σ.2.2)
  | k + 1, 16, L, σ => some ((σ.1 44), σ)
  | _ + 1, _ + 17, _, _ => none
def o_x_program : List Cond := [.fieldLink RX12 993 "SetHouseModel" "code" "I", .fieldLink RX12 15 "SetHouseModel" "faultCode" "I", .fieldLink RX12 1 "SetHouseModel" "taped" "I", .fieldLink RX12 1020 "SetHouseModel" "tried" "[I", .fieldLink RX12 7 "SetHouseModel" "tape" "[I", .methodLink RX12 1053 yX12_readProgram, .instanceMethod yX12_readProgram, .selects RX12 yX12_readProgram yX12_readProgram, .initialized RX12, .fieldLink RX12 11 "SetHouseModel" "bad" "Z", .fieldLink RX12 18 "SetHouseModel" "faultPlace" "I", .methodLink RX12 1056 yX12_readAgain, .instanceMethod yX12_readAgain, .selects RX12 yX12_readAgain yX12_readAgain, .fieldLink RX12 1010 "SetHouseModel" "programText" "[I", .fieldLink RX12 1047 "SetHouseModel" "programSize" "I", .fieldLink RX12 1041 "SetHouseModel" "isProgram" "Z", .fieldLink RX12 1044 "SetHouseModel" "isRun" "Z", .fieldLink RX12 1029 "SetHouseModel" "views" "I", .fieldLink RX12 297 "SetHouseModel" "statements" "I"]
theorem o_x_program_good : o_x_program.all goodWord = true := by decide +kernel
def p_x_program : List Cond := o_x_program ++ ((.code yX12_readProgram cX12_readProgram 1 none :: p_x_readProgram) ++ ((.code yX12_readAgain cX12_readAgain 1 none :: p_x_readAgain) ++ []))
theorem p_x_program_good : p_x_program.all goodWord = true := nb_all2 o_x_program_good (nb_all2 (nb_allc (by decide +kernel) p_x_readProgram_good) (nb_all2 (nb_allc (by decide +kernel) p_x_readAgain_good) rfl))
def w_x_program : List Cond := .code yX12_program cX12_program 4 (some .int) :: (p_x_program ++ fM)
theorem w_x_program_good : w_x_program.all goodWord = true := nb_allc (by decide +kernel) (nb_all2 p_x_program_good fM_good)
theorem in_x_program : ∀ w ∈ wsX120, w ∈ w_x_program := fun _ h => List.mem_cons_of_mem _ (List.mem_append_right _ h)
theorem hd_x_program : yX12_program.cls = RX12 ∧ yX12_program.cls ≠ "java/lang/invoke/MethodHandle" ∧ yX12_program.cls ≠ "java/lang/invoke/VarHandle" ∧ (parseMethodDescriptor yX12_program.desc).map (fun d => d.parameters.length) = some 0 := by decide +kernel
theorem gg_x_program_readAgain : GoodIn w_x_program w_x_readAgain := goodIn_sub (fun w h => (List.mem_cons.mp h).elim (fun e => (List.mem_cons_of_mem _ (List.mem_append_left _ (List.mem_append_right _ (List.mem_append_right _ (List.mem_append_left _ (List.mem_cons.mpr (Or.inl e)))))))) (fun h => (List.mem_append.mp h).elim (fun h => (List.mem_cons_of_mem _ (List.mem_append_left _ (List.mem_append_right _ (List.mem_append_right _ (List.mem_append_left _ (List.mem_cons_of_mem _ h))))))) (fun h => List.mem_cons_of_mem _ (List.mem_append_right _ h)))) w_x_readAgain_good
theorem g_x_program_readAgain_1056 : GoodIn w_x_program (wsV RX12 1056 RX12 yX12_readAgain w_x_readAgain) := goodIn_app (nb_g4 (List.mem_cons_of_mem _ (List.mem_append_left _ (List.mem_append_left _ (List.mem_of_getElem? (i := 11) rfl)))) (List.mem_cons_of_mem _ (List.mem_append_left _ (List.mem_append_left _ (List.mem_of_getElem? (i := 12) rfl)))) (List.mem_cons_of_mem _ (List.mem_append_left _ (List.mem_append_left _ (List.mem_of_getElem? (i := 13) rfl)))) (List.mem_cons_of_mem _ (List.mem_append_left _ (List.mem_append_left _ (List.mem_of_getElem? (i := 8) rfl)))) (by decide +kernel)) gg_x_program_readAgain
theorem gg_x_program_readProgram : GoodIn w_x_program w_x_readProgram := goodIn_sub (fun w h => (List.mem_cons.mp h).elim (fun e => (List.mem_cons_of_mem _ (List.mem_append_left _ (List.mem_append_right _ (List.mem_append_left _ (List.mem_cons.mpr (Or.inl e))))))) (fun h => (List.mem_append.mp h).elim (fun h => (List.mem_cons_of_mem _ (List.mem_append_left _ (List.mem_append_right _ (List.mem_append_left _ (List.mem_cons_of_mem _ h)))))) (fun h => List.mem_cons_of_mem _ (List.mem_append_right _ h)))) w_x_readProgram_good
theorem g_x_program_readProgram_1053 : GoodIn w_x_program (wsV RX12 1053 RX12 yX12_readProgram w_x_readProgram) := goodIn_app (nb_g4 (List.mem_cons_of_mem _ (List.mem_append_left _ (List.mem_append_left _ (List.mem_of_getElem? (i := 5) rfl)))) (List.mem_cons_of_mem _ (List.mem_append_left _ (List.mem_append_left _ (List.mem_of_getElem? (i := 6) rfl)))) (List.mem_cons_of_mem _ (List.mem_append_left _ (List.mem_append_left _ (List.mem_of_getElem? (i := 7) rfl)))) (List.mem_cons_of_mem _ (List.mem_append_left _ (List.mem_append_left _ (List.mem_of_getElem? (i := 8) rfl)))) (by decide +kernel)) gg_x_program_readProgram
set_option maxHeartbeats 40000000 in
set_option maxRecDepth 100000 in
theorem c_x_program (l : Launch) (dC : Nat → ClassId) (dI : Nat → Nat → Nat) (cy : Nat → ClassId) (a : Nat → Nat) (k0 : Nat) (L0 : Nat → Int32) (σ0 : MS) (r0 : Int32 × MS) (h0 : x_program k0 0 L0 σ0 = some r0) (sz : Nat) : Met l yX12_program w_x_program ({ frames := 432, cells := 0, slots := 0, locals := 12793 }) (va_Pc [.ref (a 0)] (nIn (dC, dI) cy sz (vM cy a σ0))) (va_Qi (fun (z : Int32) (_ : Unit) => z = r0.1) (fun _ t => nOut (dC, dI) cy (va_A (vM cy a σ0) sz) (vM cy a r0.2) t) (va_A (vM cy a σ0) sz)) 0 0 (va_A (vM cy a σ0) sz) := by
  refine Met.ofW (cc := cX12_program) (maxL := 4) (ret := (some .int)) (by decide) rfl ?_
  intro p e s m args below meth c s₁ B hml hv
  obtain ⟨rfl, hsz, hP, hK, hD0, hG⟩ := hv
  have hx := B.exec
  have hb := B.bytes
  have hr := B.returns
  have hts := atoms_spec (ws := w_x_program) B.pre
  have hown : s.vm.findClass RX12 = some m.cls := findClass_of_methodNamed B.named
  have hlocks := B.notSynchronized
  subst hsz
  have hD := hD0.self (sz := s.heap.size)
  generalize hAe : va_A (vM cy a σ0) s.heap.size = A at hD ⊢
  have hA : ∀ q : Nat, s.heap.size ≤ q → A q := fun q h => by rw [← hAe]; exact Or.inr h
  have hS : va_S A s.heap s.heap [] := va_S.rf
  have hl := lv_entry ([.ref (a 0)]) (n := 4) (Nat.le_of_ble_eq_true rfl)
  rw [lg_entry_eq]
  generalize (lg_sl ([.ref (a 0)]) ++ List.replicate (4 - (lg_sl ([.ref (a 0)])).length) Slot.unset).toArray = ls at hl ⊢
  have hl : lv_has ls 4 [(0, .ref (a 0))] := hl
  have blk : ∀ k : Nat, (bT p l e (headSpec w_x_program ({ frames := 432, cells := 0, slots := 0, locals := 12793 })).room s m #[.ref (a 0)] below meth c dC dI cy a A (qI dC dI cy a A below #[.ref (a 0)] s) 4 (x_program k 0) (fun L => [(0, .ref (a 0))]) 0 (fun L => [])) ∧ (bT p l e (headSpec w_x_program ({ frames := 432, cells := 0, slots := 0, locals := 12793 })).room s m #[.ref (a 0)] below meth c dC dI cy a A (qI dC dI cy a A below #[.ref (a 0)] s) 4 (x_program k 1) (fun L => [(0, .ref (a 0))]) 5 (fun L => [])) ∧ (bT p l e (headSpec w_x_program ({ frames := 432, cells := 0, slots := 0, locals := 12793 })).room s m #[.ref (a 0)] below meth c dC dI cy a A (qI dC dI cy a A below #[.ref (a 0)] s) 4 (x_program k 2) (fun L => [(0, .ref (a 0))]) 10 (fun L => [])) ∧ (bT p l e (headSpec w_x_program ({ frames := 432, cells := 0, slots := 0, locals := 12793 })).room s m #[.ref (a 0)] below meth c dC dI cy a A (qI dC dI cy a A below #[.ref (a 0)] s) 4 (x_program k 3) (fun L => [(0, .ref (a 0)), (1, .int (L 1)), (2, .int (L 2))]) 17 (fun L => [])) ∧ (bT p l e (headSpec w_x_program ({ frames := 432, cells := 0, slots := 0, locals := 12793 })).room s m #[.ref (a 0)] below meth c dC dI cy a A (qI dC dI cy a A below #[.ref (a 0)] s) 4 (x_program k 4) (fun L => [(0, .ref (a 0)), (1, .int (L 1)), (2, .int (L 2))]) 34 (fun L => [])) ∧ (bT p l e (headSpec w_x_program ({ frames := 432, cells := 0, slots := 0, locals := 12793 })).room s m #[.ref (a 0)] below meth c dC dI cy a A (qI dC dI cy a A below #[.ref (a 0)] s) 4 (x_program k 5) (fun L => [(0, .ref (a 0)), (1, .int (L 1)), (2, .int (L 2))]) 40 (fun L => [])) ∧ (bT p l e (headSpec w_x_program ({ frames := 432, cells := 0, slots := 0, locals := 12793 })).room s m #[.ref (a 0)] below meth c dC dI cy a A (qI dC dI cy a A below #[.ref (a 0)] s) 4 (x_program k 6) (fun L => [(0, .ref (a 0)), (1, .int (L 1)), (2, .int (L 2)), (3, .int (L 3))]) 70 (fun L => [])) ∧ (bT p l e (headSpec w_x_program ({ frames := 432, cells := 0, slots := 0, locals := 12793 })).room s m #[.ref (a 0)] below meth c dC dI cy a A (qI dC dI cy a A below #[.ref (a 0)] s) 4 (x_program k 7) (fun L => [(0, .ref (a 0)), (1, .int (L 1)), (2, .int (L 2)), (3, .int (L 3))]) 75 (fun L => [])) ∧ (bT p l e (headSpec w_x_program ({ frames := 432, cells := 0, slots := 0, locals := 12793 })).room s m #[.ref (a 0)] below meth c dC dI cy a A (qI dC dI cy a A below #[.ref (a 0)] s) 4 (x_program k 8) (fun L => [(0, .ref (a 0)), (1, .int (L 1)), (2, .int (L 2))]) 79 (fun L => [])) ∧ (bT p l e (headSpec w_x_program ({ frames := 432, cells := 0, slots := 0, locals := 12793 })).room s m #[.ref (a 0)] below meth c dC dI cy a A (qI dC dI cy a A below #[.ref (a 0)] s) 4 (x_program k 9) (fun L => [(0, .ref (a 0)), (1, .int (L 1)), (2, .int (L 2))]) 81 (fun L => [])) ∧ (bT p l e (headSpec w_x_program ({ frames := 432, cells := 0, slots := 0, locals := 12793 })).room s m #[.ref (a 0)] below meth c dC dI cy a A (qI dC dI cy a A below #[.ref (a 0)] s) 4 (x_program k 10) (fun L => [(0, .ref (a 0)), (1, .int (L 1)), (2, .int (L 2))]) 98 (fun L => [])) ∧ (bT p l e (headSpec w_x_program ({ frames := 432, cells := 0, slots := 0, locals := 12793 })).room s m #[.ref (a 0)] below meth c dC dI cy a A (qI dC dI cy a A below #[.ref (a 0)] s) 4 (x_program k 11) (fun L => [(0, .ref (a 0)), (1, .int (L 1)), (2, .int (L 2))]) 104 (fun L => [])) ∧ (bT p l e (headSpec w_x_program ({ frames := 432, cells := 0, slots := 0, locals := 12793 })).room s m #[.ref (a 0)] below meth c dC dI cy a A (qI dC dI cy a A below #[.ref (a 0)] s) 4 (x_program k 12) (fun L => [(0, .ref (a 0)), (1, .int (L 1)), (2, .int (L 2))]) 109 (fun L => [])) ∧ (bT p l e (headSpec w_x_program ({ frames := 432, cells := 0, slots := 0, locals := 12793 })).room s m #[.ref (a 0)] below meth c dC dI cy a A (qI dC dI cy a A below #[.ref (a 0)] s) 4 (x_program k 13) (fun L => [(0, .ref (a 0)), (1, .int (L 1)), (2, .int (L 2))]) 114 (fun L => [])) ∧ (bT p l e (headSpec w_x_program ({ frames := 432, cells := 0, slots := 0, locals := 12793 })).room s m #[.ref (a 0)] below meth c dC dI cy a A (qI dC dI cy a A below #[.ref (a 0)] s) 4 (x_program k 14) (fun L => [(0, .ref (a 0)), (1, .int (L 1)), (2, .int (L 2))]) 119 (fun L => [])) ∧ (bT p l e (headSpec w_x_program ({ frames := 432, cells := 0, slots := 0, locals := 12793 })).room s m #[.ref (a 0)] below meth c dC dI cy a A (qI dC dI cy a A below #[.ref (a 0)] s) 4 (x_program k 15) (fun L => [(0, .ref (a 0)), (1, .int (L 1)), (2, .int (L 2))]) 124 (fun L => [])) ∧ (bT p l e (headSpec w_x_program ({ frames := 432, cells := 0, slots := 0, locals := 12793 })).room s m #[.ref (a 0)] below meth c dC dI cy a A (qI dC dI cy a A below #[.ref (a 0)] s) 4 (x_program k 16) (fun L => [(0, .ref (a 0)), (1, .int (L 1)), (2, .int (L 2))]) 129 (fun L => [])) := by
    intro k
    induction k with
    | zero => exact ⟨fun L σ r h => (by cases h), fun L σ r h => (by cases h), fun L σ r h => (by cases h), fun L σ r h => (by cases h), fun L σ r h => (by cases h), fun L σ r h => (by cases h), fun L σ r h => (by cases h), fun L σ r h => (by cases h), fun L σ r h => (by cases h), fun L σ r h => (by cases h), fun L σ r h => (by cases h), fun L σ r h => (by cases h), fun L σ r h => (by cases h), fun L σ r h => (by cases h), fun L σ r h => (by cases h), fun L σ r h => (by cases h), fun L σ r h => (by cases h)⟩
    | succ k ih =>
      refine ⟨?_, ?_, ?_, ?_, ?_, ?_, ?_, ?_, ?_, ?_, ?_, ?_, ?_, ?_, ?_, ?_, ?_⟩
      · intro L σ r h H locs ls hP hD hS hl
        rw [x_program] at h
        refine lv_aload_n hx hb dX12_program_0 rfl (lv_at hl 0 rfl) ?_
        refine lv_iconst (v := 0) hx hb dX12_program_1 (by decide) ?_
        refine np_2 hx hb hts in_x_program hown hK hP hD hS (hts _ (List.mem_cons_of_mem _ (List.mem_append_left _ (List.mem_append_left _ (List.mem_of_getElem? (i := 0) rfl))))) dX12_program_2 (fun H locs hP hD hS => ?_)
        exact ih.2.1 L (upd σ.1 2 0, σ.2.1, σ.2.2) r h H locs ls hP hD hS (lv_sub hl [0] rfl)
      · intro L σ r h H locs ls hP hD hS hl
        rw [x_program] at h
        refine lv_aload_n hx hb dX12_program_5 rfl (lv_at hl 0 rfl) ?_
        refine lv_iconst (v := 0) hx hb dX12_program_6 (by decide) ?_
        refine np_11 hx hb hts in_x_program hown hK hP hD hS (hts _ (List.mem_cons_of_mem _ (List.mem_append_left _ (List.mem_append_left _ (List.mem_of_getElem? (i := 1) rfl))))) dX12_program_7 (fun H locs hP hD hS => ?_)
        exact ih.2.2.1 L (upd σ.1 11 0, σ.2.1, σ.2.2) r h H locs ls hP hD hS (lv_sub hl [0] rfl)
      · intro L σ r h H locs ls hP hD hS hl
        rw [x_program] at h
        refine lv_aload_n hx hb dX12_program_10 rfl (lv_at hl 0 rfl) ?_
        refine ng_4 hx hb hts in_x_program hown hK hP (hts _ (List.mem_cons_of_mem _ (List.mem_append_left _ (List.mem_append_left _ (List.mem_of_getElem? (i := 2) rfl))))) dX12_program_11 ?_
        refine lv_istore_n (lv' := [(1, .int (σ.1 4)), (0, .ref (a 0))]) hx hb dX12_program_14 rfl hl (by decide) rfl (fun ls hl => ?_)
        refine lv_iconst (v := 0) hx hb dX12_program_15 (by decide) ?_
        refine lv_istore_n (lv' := [(2, .int 0), (1, .int (σ.1 4)), (0, .ref (a 0))]) hx hb dX12_program_16 rfl hl (by decide) rfl (fun ls hl => ?_)
        exact ih.2.2.2.1 (upd (upd L 1 ((σ.1 4))) 2 0) σ r h H locs ls hP hD hS (lv_sub hl [2, 1, 0] rfl)
      · intro L σ r h H locs ls hP hD hS hl
        rw [x_program] at h
        refine lv_iload_n hx hb dX12_program_17 rfl (lv_at hl 2 rfl) ?_
        refine lv_iload_n hx hb dX12_program_18 rfl (lv_at hl 1 rfl) ?_
        refine lv_icmp_ge (tgt := 40) hx hb dX12_program_19 (by decide) (fun c1 => ?_) (fun c1 => ?_)
        · rw [if_pos c1] at h
          exact ih.2.2.2.2.2.1 L σ r h H locs ls hP hD hS (lv_sub hl [0, 1, 2] rfl)
        · rw [if_neg c1] at h
          refine lv_aload_n hx hb dX12_program_22 rfl (lv_at hl 0 rfl) ?_
          refine ng_118 hx hb hts in_x_program hown hK hP (hts _ (List.mem_cons_of_mem _ (List.mem_append_left _ (List.mem_append_left _ (List.mem_of_getElem? (i := 3) rfl))))) dX12_program_23 ?_
          refine lv_iload_n hx hb dX12_program_26 rfl (lv_at hl 2 rfl) ?_
          refine lv_aload_n hx hb dX12_program_27 rfl (lv_at hl 0 rfl) ?_
          refine ng_3 hx hb hts in_x_program hown hK hP (hts _ (List.mem_cons_of_mem _ (List.mem_append_left _ (List.mem_append_left _ (List.mem_of_getElem? (i := 4) rfl))))) dX12_program_28 ?_
          refine lv_iload_n hx hb dX12_program_31 rfl (lv_at hl 2 rfl) ?_
          obtain ⟨q2, h⟩ := nb_ite1 h
          refine nl_3 hx hb hK hP q2 dX12_program_32 ?_
          obtain ⟨q3, h⟩ := nb_ite1 h
          refine ns_56 hx hb hK hP hD hS q3 dX12_program_33 (fun H locs hP hD hS => ?_)
          exact ih.2.2.2.2.1 L (σ.1, σ.2.1, updG σ.2.2 56 (upd (σ.2.2 56) ((L 2)).toNatClampNeg ((σ.2.2 3 ((L 2)).toNatClampNeg)))) r h H locs ls hP hD hS (lv_sub hl [0, 1, 2] rfl)
      · intro L σ r h H locs ls hP hD hS hl
        rw [x_program] at h
        refine lv_iinc (v := ((L 2)) + 1) (lv' := [(2, .int (((L 2)) + 1)), (0, .ref (a 0)), (1, .int (L 1))]) hx hb dX12_program_34 hl (k := 2) rfl rfl (by decide) rfl (fun ls hl => ?_)
        refine lv_goto (tgt := 17) hx hb dX12_program_37 (by decide) ?_
        exact ih.2.2.2.1 (upd L 2 (((L 2)) + 1)) σ r h H locs ls hP hD hS (lv_sub hl [1, 2, 0] rfl)
      · intro L σ r h H locs ls hP hD hS hl
        rw [x_program] at h
        refine lv_aload_n hx hb dX12_program_40 rfl (lv_at hl 0 rfl) ?_
        obtain ⟨r1, hc1, h⟩ := ob_ex h
        refine nc_Vv (As := []) (rest := []) ⟨hx, hb, hml, hown, hts⟩ (c_x_readProgram l dC dI cy a k (fun _ => 0) σ r1 hc1 H.size) (cwV 0 hts g_x_program_readProgram_1053 rfl rfl rfl hd_x_readProgram ⟨Nat.le_of_ble_eq_true rfl, Nat.le_of_ble_eq_true rfl⟩) hK hG hA hP hD hS rfl hl.1 rfl (Nat.le_of_ble_eq_true rfl) dX12_program_41 ⟨Nat.le_refl _, Nat.le_refl _⟩ (fun H locs hP hD hS => ?_)
        refine lv_aload_n hx hb dX12_program_44 rfl (lv_at hl 0 rfl) ?_
        refine ng_10 hx hb hts in_x_program hown hK hP (hts _ (List.mem_cons_of_mem _ (List.mem_append_left _ (List.mem_append_left _ (List.mem_of_getElem? (i := 9) rfl))))) dX12_program_45 ?_
        refine lv_if_eq (tgt := 79) hx hb dX12_program_48 (by decide) (fun c2 => ?_) (fun c2 => ?_)
        · rw [if_pos c2] at h
          exact ih.2.2.2.2.2.2.2.2.1 L r1.2 r h H locs ls hP hD hS (lv_sub hl [0, 1, 2] rfl)
        · rw [if_neg c2] at h
          refine lv_aload_n hx hb dX12_program_51 rfl (lv_at hl 0 rfl) ?_
          refine ng_11 hx hb hts in_x_program hown hK hP (hts _ (List.mem_cons_of_mem _ (List.mem_append_left _ (List.mem_append_left _ (List.mem_of_getElem? (i := 1) rfl))))) dX12_program_52 ?_
          refine lv_istore_n (lv' := [(2, .int (r1.2.1 11)), (0, .ref (a 0)), (1, .int (L 1))]) hx hb dX12_program_55 rfl hl (by decide) rfl (fun ls hl => ?_)
          refine lv_aload_n hx hb dX12_program_56 rfl (lv_at hl 1 rfl) ?_
          refine ng_12 hx hb hts in_x_program hown hK hP (hts _ (List.mem_cons_of_mem _ (List.mem_append_left _ (List.mem_append_left _ (List.mem_of_getElem? (i := 10) rfl))))) dX12_program_57 ?_
          refine lv_istore_n (lv' := [(3, .int (r1.2.1 12)), (2, .int (r1.2.1 11)), (0, .ref (a 0)), (1, .int (L 1))]) hx hb dX12_program_60 rfl hl (by decide) rfl (fun ls hl => ?_)
          refine lv_aload_n hx hb dX12_program_61 rfl (lv_at hl 2 rfl) ?_
          obtain ⟨r3, hc3, h⟩ := ob_ex h
          refine nc_Vv (As := []) (rest := []) ⟨hx, hb, hml, hown, hts⟩ (c_x_readAgain l dC dI cy a k (fun _ => 0) r1.2 r3 hc3 H.size) (cwV 0 hts g_x_program_readAgain_1056 rfl rfl rfl hd_x_readAgain ⟨Nat.le_of_ble_eq_true rfl, Nat.le_of_ble_eq_true rfl⟩) hK hG hA hP hD hS rfl hl.1 rfl (Nat.le_of_ble_eq_true rfl) dX12_program_62 ⟨Nat.le_refl _, Nat.le_refl _⟩ (fun H locs hP hD hS => ?_)
          refine lv_aload_n hx hb dX12_program_65 rfl (lv_at hl 2 rfl) ?_
          refine lv_iload_n hx hb dX12_program_66 rfl (lv_at hl 1 rfl) ?_
          refine np_11 hx hb hts in_x_program hown hK hP hD hS (hts _ (List.mem_cons_of_mem _ (List.mem_append_left _ (List.mem_append_left _ (List.mem_of_getElem? (i := 1) rfl))))) dX12_program_67 (fun H locs hP hD hS => ?_)
          exact ih.2.2.2.2.2.2.1 (upd (upd L 2 ((r1.2.1 11))) 3 ((r1.2.1 12))) (upd r3.2.1 11 ((r1.2.1 11)), r3.2.2.1, r3.2.2.2) r h H locs ls hP hD hS (lv_sub hl [2, 3, 1, 0] rfl)
      · intro L σ r h H locs ls hP hD hS hl
        rw [x_program] at h
        refine lv_aload_n hx hb dX12_program_70 rfl (lv_at hl 0 rfl) ?_
        refine lv_iconst (v := 0) hx hb dX12_program_71 (by decide) ?_
        refine np_4 hx hb hts in_x_program hown hK hP hD hS (hts _ (List.mem_cons_of_mem _ (List.mem_append_left _ (List.mem_append_left _ (List.mem_of_getElem? (i := 2) rfl))))) dX12_program_72 (fun H locs hP hD hS => ?_)
        exact ih.2.2.2.2.2.2.2.1 L (upd σ.1 4 0, σ.2.1, σ.2.2) r h H locs ls hP hD hS (lv_sub hl [0, 1, 2, 3] rfl)
      · intro L σ r h H locs ls hP hD hS hl
        rw [x_program] at h
        refine lv_iconst (v := (-1)) hx hb dX12_program_75 (by decide) ?_
        refine lv_iload_n hx hb dX12_program_76 rfl (lv_at hl 3 rfl) ?_
        refine lv_isub hx hb dX12_program_77 ?_
        obtain rfl := Option.some.inj h
        exact W.iret (v := (((-1)) - ((L 3)))) hx hb hr (fun t ht hW => ⟨⟨(((-1)) - ((L 3))), (), rfl, rfl, by rw [ht]; exact hP, va_K.moved hW.alike hK, hD⟩, hS.F ht⟩) hS.2.2 dX12_program_78
      · intro L σ r h H locs ls hP hD hS hl
        rw [x_program] at h
        refine lv_iconst (v := 0) hx hb dX12_program_79 (by decide) ?_
        refine lv_istore_n (lv' := [(2, .int 0), (0, .ref (a 0)), (1, .int (L 1))]) hx hb dX12_program_80 rfl hl (by decide) rfl (fun ls hl => ?_)
        exact ih.2.2.2.2.2.2.2.2.2.1 (upd L 2 0) σ r h H locs ls hP hD hS (lv_sub hl [1, 2, 0] rfl)
      · intro L σ r h H locs ls hP hD hS hl
        rw [x_program] at h
        refine lv_iload_n hx hb dX12_program_81 rfl (lv_at hl 2 rfl) ?_
        refine lv_iload_n hx hb dX12_program_82 rfl (lv_at hl 1 rfl) ?_
        refine lv_icmp_ge (tgt := 104) hx hb dX12_program_83 (by decide) (fun c1 => ?_) (fun c1 => ?_)
        · rw [if_pos c1] at h
          exact ih.2.2.2.2.2.2.2.2.2.2.2.1 L σ r h H locs ls hP hD hS (lv_sub hl [0, 1, 2] rfl)
        · rw [if_neg c1] at h
          refine lv_aload_n hx hb dX12_program_86 rfl (lv_at hl 0 rfl) ?_
          refine ng_114 hx hb hts in_x_program hown hK hP (hts _ (List.mem_cons_of_mem _ (List.mem_append_left _ (List.mem_append_left _ (List.mem_of_getElem? (i := 14) rfl))))) dX12_program_87 ?_
          refine lv_iload_n hx hb dX12_program_90 rfl (lv_at hl 2 rfl) ?_
          refine lv_aload_n hx hb dX12_program_91 rfl (lv_at hl 0 rfl) ?_
          refine ng_118 hx hb hts in_x_program hown hK hP (hts _ (List.mem_cons_of_mem _ (List.mem_append_left _ (List.mem_append_left _ (List.mem_of_getElem? (i := 3) rfl))))) dX12_program_92 ?_
          refine lv_iload_n hx hb dX12_program_95 rfl (lv_at hl 2 rfl) ?_
          obtain ⟨q2, h⟩ := nb_ite1 h
          refine nl_56 hx hb hK hP q2 dX12_program_96 ?_
          obtain ⟨q3, h⟩ := nb_ite1 h
          refine ns_53 hx hb hK hP hD hS q3 dX12_program_97 (fun H locs hP hD hS => ?_)
          exact ih.2.2.2.2.2.2.2.2.2.2.1 L (σ.1, σ.2.1, updG σ.2.2 53 (upd (σ.2.2 53) ((L 2)).toNatClampNeg ((σ.2.2 56 ((L 2)).toNatClampNeg)))) r h H locs ls hP hD hS (lv_sub hl [0, 1, 2] rfl)
      · intro L σ r h H locs ls hP hD hS hl
        rw [x_program] at h
        refine lv_iinc (v := ((L 2)) + 1) (lv' := [(2, .int (((L 2)) + 1)), (0, .ref (a 0)), (1, .int (L 1))]) hx hb dX12_program_98 hl (k := 2) rfl rfl (by decide) rfl (fun ls hl => ?_)
        refine lv_goto (tgt := 81) hx hb dX12_program_101 (by decide) ?_
        exact ih.2.2.2.2.2.2.2.2.2.1 (upd L 2 (((L 2)) + 1)) σ r h H locs ls hP hD hS (lv_sub hl [1, 2, 0] rfl)
      · intro L σ r h H locs ls hP hD hS hl
        rw [x_program] at h
        refine lv_aload_n hx hb dX12_program_104 rfl (lv_at hl 0 rfl) ?_
        refine lv_iload_n hx hb dX12_program_105 rfl (lv_at hl 1 rfl) ?_
        refine np_115 hx hb hts in_x_program hown hK hP hD hS (hts _ (List.mem_cons_of_mem _ (List.mem_append_left _ (List.mem_append_left _ (List.mem_of_getElem? (i := 15) rfl))))) dX12_program_106 (fun H locs hP hD hS => ?_)
        exact ih.2.2.2.2.2.2.2.2.2.2.2.2.1 L (upd σ.1 115 ((L 1)), σ.2.1, σ.2.2) r h H locs ls hP hD hS (lv_sub hl [0, 1, 2] rfl)
      · intro L σ r h H locs ls hP hD hS hl
        rw [x_program] at h
        refine lv_aload_n hx hb dX12_program_109 rfl (lv_at hl 0 rfl) ?_
        refine lv_iconst (v := 0) hx hb dX12_program_110 (by decide) ?_
        refine np_4 hx hb hts in_x_program hown hK hP hD hS (hts _ (List.mem_cons_of_mem _ (List.mem_append_left _ (List.mem_append_left _ (List.mem_of_getElem? (i := 2) rfl))))) dX12_program_111 (fun H locs hP hD hS => ?_)
        exact ih.2.2.2.2.2.2.2.2.2.2.2.2.2.1 L (upd σ.1 4 0, σ.2.1, σ.2.2) r h H locs ls hP hD hS (lv_sub hl [0, 1, 2] rfl)
      · intro L σ r h H locs ls hP hD hS hl
        rw [x_program] at h
        refine lv_aload_n hx hb dX12_program_114 rfl (lv_at hl 0 rfl) ?_
        refine lv_iconst (v := 1) hx hb dX12_program_115 (by decide) ?_
        refine np_111 hx hb hts in_x_program hown hK hP hD hS (hts _ (List.mem_cons_of_mem _ (List.mem_append_left _ (List.mem_append_left _ (List.mem_of_getElem? (i := 16) rfl))))) (Or.inr rfl) dX12_program_116 (fun H locs hP hD hS => ?_)
        exact ih.2.2.2.2.2.2.2.2.2.2.2.2.2.2.1 L (upd σ.1 111 1, σ.2.1, σ.2.2) r h H locs ls hP hD hS (lv_sub hl [0, 1, 2] rfl)
      · intro L σ r h H locs ls hP hD hS hl
        rw [x_program] at h
        refine lv_aload_n hx hb dX12_program_119 rfl (lv_at hl 0 rfl) ?_
        refine lv_iconst (v := 0) hx hb dX12_program_120 (by decide) ?_
        refine np_112 hx hb hts in_x_program hown hK hP hD hS (hts _ (List.mem_cons_of_mem _ (List.mem_append_left _ (List.mem_append_left _ (List.mem_of_getElem? (i := 17) rfl))))) (Or.inl rfl) dX12_program_121 (fun H locs hP hD hS => ?_)
        exact ih.2.2.2.2.2.2.2.2.2.2.2.2.2.2.2.1 L (upd σ.1 112 0, σ.2.1, σ.2.2) r h H locs ls hP hD hS (lv_sub hl [0, 1, 2] rfl)
      · intro L σ r h H locs ls hP hD hS hl
        rw [x_program] at h
        refine lv_aload_n hx hb dX12_program_124 rfl (lv_at hl 0 rfl) ?_
        refine lv_iconst (v := 0) hx hb dX12_program_125 (by decide) ?_
        refine np_73 hx hb hts in_x_program hown hK hP hD hS (hts _ (List.mem_cons_of_mem _ (List.mem_append_left _ (List.mem_append_left _ (List.mem_of_getElem? (i := 18) rfl))))) dX12_program_126 (fun H locs hP hD hS => ?_)
        exact ih.2.2.2.2.2.2.2.2.2.2.2.2.2.2.2.2 L (upd σ.1 73 0, σ.2.1, σ.2.2) r h H locs ls hP hD hS (lv_sub hl [0, 1, 2] rfl)
      · intro L σ r h H locs ls hP hD hS hl
        rw [x_program] at h
        refine lv_aload_n hx hb dX12_program_129 rfl (lv_at hl 0 rfl) ?_
        refine ng_44 hx hb hts in_x_program hown hK hP (hts _ (List.mem_cons_of_mem _ (List.mem_append_left _ (List.mem_append_left _ (List.mem_of_getElem? (i := 19) rfl))))) dX12_program_130 ?_
        cases h
        exact W.iret (v := (σ.1 44)) hx hb hr (fun t ht hW => ⟨⟨(σ.1 44), (), rfl, rfl, by rw [ht]; exact hP, va_K.moved hW.alike hK, hD⟩, hS.F ht⟩) hS.2.2 dX12_program_133
  exact (blk k0).1 L0 σ0 r0 h0 s.heap [] ls hP hD hS hl
/-! fault_ -/
def x_fault_ : Nat → Nat → (Nat → Int32) → MS → Option (Int32 × MS)
  | 0, _, _, _ => none
  | k + 1, 0, L, σ => x_fault_ k 1 L (upd σ.1 2 0, σ.2.1, σ.2.2)
  | k + 1, 1, L, σ => some ((σ.1 11), σ)
  | _ + 1, _ + 2, _, _ => none
def o_x_fault_ : List Cond := [.fieldLink RX12 993 "SetHouseModel" "code" "I", .fieldLink RX12 15 "SetHouseModel" "faultCode" "I"]
theorem o_x_fault__good : o_x_fault_.all goodWord = true := by decide +kernel
def p_x_fault_ : List Cond := o_x_fault_ ++ []
theorem p_x_fault__good : p_x_fault_.all goodWord = true := nb_all2 o_x_fault__good rfl
def w_x_fault_ : List Cond := .code yX12_fault_ cX12_fault_ 1 (some .int) :: (p_x_fault_ ++ fM)
theorem w_x_fault__good : w_x_fault_.all goodWord = true := nb_allc (by decide +kernel) (nb_all2 p_x_fault__good fM_good)
theorem in_x_fault_ : ∀ w ∈ wsX120, w ∈ w_x_fault_ := fun _ h => List.mem_cons_of_mem _ (List.mem_append_right _ h)
theorem hd_x_fault_ : yX12_fault_.cls = RX12 ∧ yX12_fault_.cls ≠ "java/lang/invoke/MethodHandle" ∧ yX12_fault_.cls ≠ "java/lang/invoke/VarHandle" ∧ (parseMethodDescriptor yX12_fault_.desc).map (fun d => d.parameters.length) = some 0 := by decide +kernel
set_option maxHeartbeats 40000000 in
set_option maxRecDepth 100000 in
theorem c_x_fault_ (l : Launch) (dC : Nat → ClassId) (dI : Nat → Nat → Nat) (cy : Nat → ClassId) (a : Nat → Nat) (k0 : Nat) (L0 : Nat → Int32) (σ0 : MS) (r0 : Int32 × MS) (h0 : x_fault_ k0 0 L0 σ0 = some r0) (sz : Nat) : Met l yX12_fault_ w_x_fault_ ({ frames := 0, cells := 0, slots := 0, locals := 0 }) (va_Pc [.ref (a 0)] (nIn (dC, dI) cy sz (vM cy a σ0))) (va_Qi (fun (z : Int32) (_ : Unit) => z = r0.1) (fun _ t => nOut (dC, dI) cy (va_A (vM cy a σ0) sz) (vM cy a r0.2) t) (va_A (vM cy a σ0) sz)) 0 0 (va_A (vM cy a σ0) sz) := by
  refine Met.ofW (cc := cX12_fault_) (maxL := 1) (ret := (some .int)) (by decide) rfl ?_
  intro p e s m args below meth c s₁ B hml hv
  obtain ⟨rfl, hsz, hP, hK, hD0, hG⟩ := hv
  have hx := B.exec
  have hb := B.bytes
  have hr := B.returns
  have hts := atoms_spec (ws := w_x_fault_) B.pre
  have hown : s.vm.findClass RX12 = some m.cls := findClass_of_methodNamed B.named
  have hlocks := B.notSynchronized
  subst hsz
  have hD := hD0.self (sz := s.heap.size)
  generalize hAe : va_A (vM cy a σ0) s.heap.size = A at hD ⊢
  have hA : ∀ q : Nat, s.heap.size ≤ q → A q := fun q h => by rw [← hAe]; exact Or.inr h
  have hS : va_S A s.heap s.heap [] := va_S.rf
  have hl := lv_entry ([.ref (a 0)]) (n := 1) (Nat.le_of_ble_eq_true rfl)
  rw [lg_entry_eq]
  generalize (lg_sl ([.ref (a 0)]) ++ List.replicate (1 - (lg_sl ([.ref (a 0)])).length) Slot.unset).toArray = ls at hl ⊢
  have hl : lv_has ls 1 [(0, .ref (a 0))] := hl
  have blk : ∀ k : Nat, (bT p l e (headSpec w_x_fault_ ({ frames := 0, cells := 0, slots := 0, locals := 0 })).room s m #[.ref (a 0)] below meth c dC dI cy a A (qI dC dI cy a A below #[.ref (a 0)] s) 1 (x_fault_ k 0) (fun L => [(0, .ref (a 0))]) 0 (fun L => [])) ∧ (bT p l e (headSpec w_x_fault_ ({ frames := 0, cells := 0, slots := 0, locals := 0 })).room s m #[.ref (a 0)] below meth c dC dI cy a A (qI dC dI cy a A below #[.ref (a 0)] s) 1 (x_fault_ k 1) (fun L => [(0, .ref (a 0))]) 5 (fun L => [])) := by
    intro k
    induction k with
    | zero => exact ⟨fun L σ r h => (by cases h), fun L σ r h => (by cases h)⟩
    | succ k ih =>
      refine ⟨?_, ?_⟩
      · intro L σ r h H locs ls hP hD hS hl
        rw [x_fault_] at h
        refine lv_aload_n hx hb dX12_fault__0 rfl (lv_at hl 0 rfl) ?_
        refine lv_iconst (v := 0) hx hb dX12_fault__1 (by decide) ?_
        refine np_2 hx hb hts in_x_fault_ hown hK hP hD hS (hts _ (List.mem_cons_of_mem _ (List.mem_append_left _ (List.mem_append_left _ (List.mem_of_getElem? (i := 0) rfl))))) dX12_fault__2 (fun H locs hP hD hS => ?_)
        exact ih.2 L (upd σ.1 2 0, σ.2.1, σ.2.2) r h H locs ls hP hD hS (lv_sub hl [0] rfl)
      · intro L σ r h H locs ls hP hD hS hl
        rw [x_fault_] at h
        refine lv_aload_n hx hb dX12_fault__5 rfl (lv_at hl 0 rfl) ?_
        refine ng_11 hx hb hts in_x_fault_ hown hK hP (hts _ (List.mem_cons_of_mem _ (List.mem_append_left _ (List.mem_append_left _ (List.mem_of_getElem? (i := 1) rfl))))) dX12_fault__6 ?_
        cases h
        exact W.iret (v := (σ.1 11)) hx hb hr (fun t ht hW => ⟨⟨(σ.1 11), (), rfl, rfl, by rw [ht]; exact hP, va_K.moved hW.alike hK, hD⟩, hS.F ht⟩) hS.2.2 dX12_fault__9
  exact (blk k0).1 L0 σ0 r0 h0 s.heap [] ls hP hD hS hl
/-! reset -/
def x_reset : Nat → Nat → (Nat → Int32) → MS → Option (Int32 × MS)
  | 0, _, _, _ => none
  | k + 1, 0, L, σ => x_reset k 1 L (σ.1, updW σ.2.1 96 ((σ.2.1 113)), σ.2.2)
  | k + 1, 1, L, σ => x_reset k 2 L (upd σ.1 105 0, σ.2.1, σ.2.2)
  | k + 1, 2, L, σ => x_reset k 3 L (upd σ.1 56 0, σ.2.1, σ.2.2)
  | k + 1, 3, L, σ => x_reset k 4 L (upd σ.1 102 0, σ.2.1, σ.2.2)
  | k + 1, 4, L, σ => x_reset k 5 L (upd σ.1 103 0, σ.2.1, σ.2.2)
  | k + 1, 5, L, σ => x_reset k 6 L (upd σ.1 108 0, σ.2.1, σ.2.2)
  | k + 1, 6, L, σ => x_reset k 7 L (upd σ.1 104 ((-1)), σ.2.1, σ.2.2)
  | k + 1, 7, L, σ => x_reset k 8 L (upd σ.1 106 0, σ.2.1, σ.2.2)
  | k + 1, 8, L, σ => x_reset k 9 L (upd σ.1 95 0, σ.2.1, σ.2.2)
  | k + 1, 9, L, σ => x_reset k 10 L (upd σ.1 63 0, σ.2.1, σ.2.2)
  | k + 1, 10, L, σ => x_reset k 11 L (upd σ.1 65 0, σ.2.1, σ.2.2)
  | k + 1, 11, L, σ => x_reset k 12 L (upd σ.1 64 0, σ.2.1, σ.2.2)
  | k + 1, 12, L, σ => if ¬ ((1 : Int32) < 0 ∨ 11514 ≤ (1 : Int32).toNatClampNeg) then (x_reset k 13 L (σ.1, σ.2.1, updG σ.2.2 30 (upd (σ.2.2 30) (1 : Int32).toNatClampNeg 0))) else none
  | k + 1, 13, L, σ => if ¬ ((2 : Int32) < 0 ∨ 11514 ≤ (2 : Int32).toNatClampNeg) then (x_reset k 14 L (σ.1, σ.2.1, updG σ.2.2 30 (upd (σ.2.2 30) (2 : Int32).toNatClampNeg 0))) else none
  | k + 1, 14, L, σ => if ¬ ((3 : Int32) < 0 ∨ 11514 ≤ (3 : Int32).toNatClampNeg) then (x_reset k 15 L (σ.1, σ.2.1, updG σ.2.2 30 (upd (σ.2.2 30) (3 : Int32).toNatClampNeg 0))) else none
  | k + 1, 15, L, σ => x_reset k 16 (upd L 1 0) σ
  | k + 1, 16, L, σ => if 60 ≤ ((L 1)) then (x_reset k 21 L σ) else (if ¬ (((4 + ((L 1)))) < 0 ∨ 11514 ≤ ((4 + ((L 1)))).toNatClampNeg) then (x_reset k 17 L (σ.1, σ.2.1, updG σ.2.2 30 (upd (σ.2.2 30) ((4 + ((L 1)))).toNatClampNeg 0))) else none)
  | k + 1, 17, L, σ => if ¬ ((0 : Int32) < 0 ∨ 43 ≤ (0 : Int32).toNatClampNeg) then (if ((σ.2.2 21 (0 : Int32).toNatClampNeg)) ≤ ((L 1)) then (x_reset k 18 (upd L 100 ((σ.1 64))) σ) else (if ¬ (((L 1)) < 0 ∨ 2580 ≤ ((L 1)).toNatClampNeg) then (if ((σ.2.2 20 ((L 1)).toNatClampNeg)) = 0 then (x_reset k 18 (upd L 100 ((σ.1 64))) σ) else (x_reset k 19 (upd (upd L 100 1) 101 ((σ.1 64))) σ)) else none)) else none
  | k + 1, 18, L, σ => x_reset k 19 (upd (upd L 100 0) 101 ((L 100))) σ
  | k + 1, 19, L, σ => x_reset k 20 L (upd σ.1 64 ((((L 101)) + ((L 100)))), σ.2.1, σ.2.2)
  | k + 1, 20, L, σ => x_reset k 16 (upd L 1 (((L 1)) + 1)) σ
  | k + 1, 21, L, σ => ob (x_enter k 0 (upd (upd (fun _ => 0) 1 ((σ.1 110))) 2 ((-1))) σ) (fun r1 => some (0, r1.2))
  | _ + 1, _ + 22, _, _ => none
def o_x_reset : List Cond := [.fieldLink RX12 1062 "SetHouseModel" "seedOfRun" "J", .fieldLink RX12 791 "SetHouseModel" "seed" "J", .fieldLink RX12 959 "SetHouseModel" "error" "I", .fieldLink RX12 362 "SetHouseModel" "err" "I", .fieldLink RX12 868 "SetHouseModel" "ended" "Z", .fieldLink RX12 907 "SetHouseModel" "begunCount" "I", .fieldLink RX12 956 "SetHouseModel" "workOfStatement" "I", .fieldLink RX12 910 "SetHouseModel" "lastPlace" "I", .fieldLink RX12 977 "SetHouseModel" "outSize" "I", .fieldLink RX12 681 "SetHouseModel" "atoms" "I", .fieldLink RX12 402 "SetHouseModel" "points" "I", .fieldLink RX12 855 "SetHouseModel" "pointsTotal" "I", .fieldLink RX12 852 "SetHouseModel" "total" "I", .fieldLink RX12 395 "SetHouseModel" "st" "[I", .fieldLink RX12 157 "SetHouseModel" "held" "[I", .fieldLink RX12 160 "SetHouseModel" "counts" "[Z", .fieldLink RX12 990 "SetHouseModel" "main" "I", .methodLink RX12 895 yX12_enter, .instanceMethod yX12_enter, .selects RX12 yX12_enter yX12_enter, .initialized RX12]
theorem o_x_reset_good : o_x_reset.all goodWord = true := by decide +kernel
def p_x_reset : List Cond := o_x_reset ++ ((.code yX12_enter cX12_enter 3 none :: p_x_enter) ++ [])
theorem p_x_reset_good : p_x_reset.all goodWord = true := nb_all2 o_x_reset_good (nb_all2 (nb_allc (by decide +kernel) p_x_enter_good) rfl)
def w_x_reset : List Cond := .code yX12_reset cX12_reset 2 none :: (p_x_reset ++ fM)
theorem w_x_reset_good : w_x_reset.all goodWord = true := nb_allc (by decide +kernel) (nb_all2 p_x_reset_good fM_good)
theorem in_x_reset : ∀ w ∈ wsX120, w ∈ w_x_reset := fun _ h => List.mem_cons_of_mem _ (List.mem_append_right _ h)
theorem hd_x_reset : yX12_reset.cls = RX12 ∧ yX12_reset.cls ≠ "java/lang/invoke/MethodHandle" ∧ yX12_reset.cls ≠ "java/lang/invoke/VarHandle" ∧ (parseMethodDescriptor yX12_reset.desc).map (fun d => d.parameters.length) = some 0 := by decide +kernel
theorem gg_x_reset_enter : GoodIn w_x_reset w_x_enter := goodIn_sub (fun w h => (List.mem_cons.mp h).elim (fun e => (List.mem_cons_of_mem _ (List.mem_append_left _ (List.mem_append_right _ (List.mem_append_left _ (List.mem_cons.mpr (Or.inl e))))))) (fun h => (List.mem_append.mp h).elim (fun h => (List.mem_cons_of_mem _ (List.mem_append_left _ (List.mem_append_right _ (List.mem_append_left _ (List.mem_cons_of_mem _ h)))))) (fun h => List.mem_cons_of_mem _ (List.mem_append_right _ h)))) w_x_enter_good
theorem g_x_reset_enter_895 : GoodIn w_x_reset (wsV RX12 895 RX12 yX12_enter w_x_enter) := goodIn_app (nb_g4 (List.mem_cons_of_mem _ (List.mem_append_left _ (List.mem_append_left _ (List.mem_of_getElem? (i := 17) rfl)))) (List.mem_cons_of_mem _ (List.mem_append_left _ (List.mem_append_left _ (List.mem_of_getElem? (i := 18) rfl)))) (List.mem_cons_of_mem _ (List.mem_append_left _ (List.mem_append_left _ (List.mem_of_getElem? (i := 19) rfl)))) (List.mem_cons_of_mem _ (List.mem_append_left _ (List.mem_append_left _ (List.mem_of_getElem? (i := 20) rfl)))) (by decide +kernel)) gg_x_reset_enter
set_option maxHeartbeats 40000000 in
set_option maxRecDepth 100000 in
theorem c_x_reset (l : Launch) (dC : Nat → ClassId) (dI : Nat → Nat → Nat) (cy : Nat → ClassId) (a : Nat → Nat) (k0 : Nat) (L0 : Nat → Int32) (σ0 : MS) (r0 : Int32 × MS) (h0 : x_reset k0 0 L0 σ0 = some r0) (sz : Nat) : Met l yX12_reset w_x_reset ({ frames := 1364, cells := 0, slots := 0, locals := 36637 }) (va_Pc [.ref (a 0)] (nIn (dC, dI) cy sz (vM cy a σ0))) (va_Qv (fun _ : Unit => True) (fun _ t => nOut (dC, dI) cy (va_A (vM cy a σ0) sz) (vM cy a r0.2) t) (va_A (vM cy a σ0) sz)) 0 0 (va_A (vM cy a σ0) sz) := by
  refine Met.ofW (cc := cX12_reset) (maxL := 2) (ret := none) (by decide) rfl ?_
  intro p e s m args below meth c s₁ B hml hv
  obtain ⟨rfl, hsz, hP, hK, hD0, hG⟩ := hv
  have hx := B.exec
  have hb := B.bytes
  have hr := B.returns
  have hts := atoms_spec (ws := w_x_reset) B.pre
  have hown : s.vm.findClass RX12 = some m.cls := findClass_of_methodNamed B.named
  have hlocks := B.notSynchronized
  subst hsz
  have hD := hD0.self (sz := s.heap.size)
  generalize hAe : va_A (vM cy a σ0) s.heap.size = A at hD ⊢
  have hA : ∀ q : Nat, s.heap.size ≤ q → A q := fun q h => by rw [← hAe]; exact Or.inr h
  have hS : va_S A s.heap s.heap [] := va_S.rf
  have hl := lv_entry ([.ref (a 0)]) (n := 2) (Nat.le_of_ble_eq_true rfl)
  rw [lg_entry_eq]
  generalize (lg_sl ([.ref (a 0)]) ++ List.replicate (2 - (lg_sl ([.ref (a 0)])).length) Slot.unset).toArray = ls at hl ⊢
  have hl : lv_has ls 2 [(0, .ref (a 0))] := hl
  have blk : ∀ k : Nat, (bT p l e (headSpec w_x_reset ({ frames := 1364, cells := 0, slots := 0, locals := 36637 })).room s m #[.ref (a 0)] below meth c dC dI cy a A (qV dC dI cy a A below #[.ref (a 0)] s) 2 (x_reset k 0) (fun L => [(0, .ref (a 0))]) 0 (fun L => [])) ∧ (bT p l e (headSpec w_x_reset ({ frames := 1364, cells := 0, slots := 0, locals := 36637 })).room s m #[.ref (a 0)] below meth c dC dI cy a A (qV dC dI cy a A below #[.ref (a 0)] s) 2 (x_reset k 1) (fun L => [(0, .ref (a 0))]) 8 (fun L => [])) ∧ (bT p l e (headSpec w_x_reset ({ frames := 1364, cells := 0, slots := 0, locals := 36637 })).room s m #[.ref (a 0)] below meth c dC dI cy a A (qV dC dI cy a A below #[.ref (a 0)] s) 2 (x_reset k 2) (fun L => [(0, .ref (a 0))]) 13 (fun L => [])) ∧ (bT p l e (headSpec w_x_reset ({ frames := 1364, cells := 0, slots := 0, locals := 36637 })).room s m #[.ref (a 0)] below meth c dC dI cy a A (qV dC dI cy a A below #[.ref (a 0)] s) 2 (x_reset k 3) (fun L => [(0, .ref (a 0))]) 18 (fun L => [])) ∧ (bT p l e (headSpec w_x_reset ({ frames := 1364, cells := 0, slots := 0, locals := 36637 })).room s m #[.ref (a 0)] below meth c dC dI cy a A (qV dC dI cy a A below #[.ref (a 0)] s) 2 (x_reset k 4) (fun L => [(0, .ref (a 0))]) 23 (fun L => [])) ∧ (bT p l e (headSpec w_x_reset ({ frames := 1364, cells := 0, slots := 0, locals := 36637 })).room s m #[.ref (a 0)] below meth c dC dI cy a A (qV dC dI cy a A below #[.ref (a 0)] s) 2 (x_reset k 5) (fun L => [(0, .ref (a 0))]) 28 (fun L => [])) ∧ (bT p l e (headSpec w_x_reset ({ frames := 1364, cells := 0, slots := 0, locals := 36637 })).room s m #[.ref (a 0)] below meth c dC dI cy a A (qV dC dI cy a A below #[.ref (a 0)] s) 2 (x_reset k 6) (fun L => [(0, .ref (a 0))]) 33 (fun L => [])) ∧ (bT p l e (headSpec w_x_reset ({ frames := 1364, cells := 0, slots := 0, locals := 36637 })).room s m #[.ref (a 0)] below meth c dC dI cy a A (qV dC dI cy a A below #[.ref (a 0)] s) 2 (x_reset k 7) (fun L => [(0, .ref (a 0))]) 38 (fun L => [])) ∧ (bT p l e (headSpec w_x_reset ({ frames := 1364, cells := 0, slots := 0, locals := 36637 })).room s m #[.ref (a 0)] below meth c dC dI cy a A (qV dC dI cy a A below #[.ref (a 0)] s) 2 (x_reset k 8) (fun L => [(0, .ref (a 0))]) 43 (fun L => [])) ∧ (bT p l e (headSpec w_x_reset ({ frames := 1364, cells := 0, slots := 0, locals := 36637 })).room s m #[.ref (a 0)] below meth c dC dI cy a A (qV dC dI cy a A below #[.ref (a 0)] s) 2 (x_reset k 9) (fun L => [(0, .ref (a 0))]) 48 (fun L => [])) ∧ (bT p l e (headSpec w_x_reset ({ frames := 1364, cells := 0, slots := 0, locals := 36637 })).room s m #[.ref (a 0)] below meth c dC dI cy a A (qV dC dI cy a A below #[.ref (a 0)] s) 2 (x_reset k 10) (fun L => [(0, .ref (a 0))]) 53 (fun L => [])) ∧ (bT p l e (headSpec w_x_reset ({ frames := 1364, cells := 0, slots := 0, locals := 36637 })).room s m #[.ref (a 0)] below meth c dC dI cy a A (qV dC dI cy a A below #[.ref (a 0)] s) 2 (x_reset k 11) (fun L => [(0, .ref (a 0))]) 58 (fun L => [])) ∧ (bT p l e (headSpec w_x_reset ({ frames := 1364, cells := 0, slots := 0, locals := 36637 })).room s m #[.ref (a 0)] below meth c dC dI cy a A (qV dC dI cy a A below #[.ref (a 0)] s) 2 (x_reset k 12) (fun L => [(0, .ref (a 0))]) 63 (fun L => [])) ∧ (bT p l e (headSpec w_x_reset ({ frames := 1364, cells := 0, slots := 0, locals := 36637 })).room s m #[.ref (a 0)] below meth c dC dI cy a A (qV dC dI cy a A below #[.ref (a 0)] s) 2 (x_reset k 13) (fun L => [(0, .ref (a 0))]) 70 (fun L => [])) ∧ (bT p l e (headSpec w_x_reset ({ frames := 1364, cells := 0, slots := 0, locals := 36637 })).room s m #[.ref (a 0)] below meth c dC dI cy a A (qV dC dI cy a A below #[.ref (a 0)] s) 2 (x_reset k 14) (fun L => [(0, .ref (a 0))]) 77 (fun L => [])) ∧ (bT p l e (headSpec w_x_reset ({ frames := 1364, cells := 0, slots := 0, locals := 36637 })).room s m #[.ref (a 0)] below meth c dC dI cy a A (qV dC dI cy a A below #[.ref (a 0)] s) 2 (x_reset k 15) (fun L => [(0, .ref (a 0))]) 84 (fun L => [])) ∧ (bT p l e (headSpec w_x_reset ({ frames := 1364, cells := 0, slots := 0, locals := 36637 })).room s m #[.ref (a 0)] below meth c dC dI cy a A (qV dC dI cy a A below #[.ref (a 0)] s) 2 (x_reset k 16) (fun L => [(0, .ref (a 0)), (1, .int (L 1))]) 86 (fun L => [])) ∧ (bT p l e (headSpec w_x_reset ({ frames := 1364, cells := 0, slots := 0, locals := 36637 })).room s m #[.ref (a 0)] below meth c dC dI cy a A (qV dC dI cy a A below #[.ref (a 0)] s) 2 (x_reset k 17) (fun L => [(0, .ref (a 0)), (1, .int (L 1))]) 101 (fun L => [])) ∧ (bT p l e (headSpec w_x_reset ({ frames := 1364, cells := 0, slots := 0, locals := 36637 })).room s m #[.ref (a 0)] below meth c dC dI cy a A (qV dC dI cy a A below #[.ref (a 0)] s) 2 (x_reset k 18) (fun L => [(0, .ref (a 0)), (1, .int (L 1))]) 129 (fun L => [.int (L 100), .ref (a 0)])) ∧ (bT p l e (headSpec w_x_reset ({ frames := 1364, cells := 0, slots := 0, locals := 36637 })).room s m #[.ref (a 0)] below meth c dC dI cy a A (qV dC dI cy a A below #[.ref (a 0)] s) 2 (x_reset k 19) (fun L => [(0, .ref (a 0)), (1, .int (L 1))]) 130 (fun L => [.int (L 100), .int (L 101), .ref (a 0)])) ∧ (bT p l e (headSpec w_x_reset ({ frames := 1364, cells := 0, slots := 0, locals := 36637 })).room s m #[.ref (a 0)] below meth c dC dI cy a A (qV dC dI cy a A below #[.ref (a 0)] s) 2 (x_reset k 20) (fun L => [(0, .ref (a 0)), (1, .int (L 1))]) 134 (fun L => [])) ∧ (bT p l e (headSpec w_x_reset ({ frames := 1364, cells := 0, slots := 0, locals := 36637 })).room s m #[.ref (a 0)] below meth c dC dI cy a A (qV dC dI cy a A below #[.ref (a 0)] s) 2 (x_reset k 21) (fun L => [(0, .ref (a 0)), (1, .int (L 1))]) 140 (fun L => [])) := by
    intro k
    induction k with
    | zero => exact ⟨fun L σ r h => (by cases h), fun L σ r h => (by cases h), fun L σ r h => (by cases h), fun L σ r h => (by cases h), fun L σ r h => (by cases h), fun L σ r h => (by cases h), fun L σ r h => (by cases h), fun L σ r h => (by cases h), fun L σ r h => (by cases h), fun L σ r h => (by cases h), fun L σ r h => (by cases h), fun L σ r h => (by cases h), fun L σ r h => (by cases h), fun L σ r h => (by cases h), fun L σ r h => (by cases h), fun L σ r h => (by cases h), fun L σ r h => (by cases h), fun L σ r h => (by cases h), fun L σ r h => (by cases h), fun L σ r h => (by cases h), fun L σ r h => (by cases h), fun L σ r h => (by cases h)⟩
    | succ k ih =>
      refine ⟨?_, ?_, ?_, ?_, ?_, ?_, ?_, ?_, ?_, ?_, ?_, ?_, ?_, ?_, ?_, ?_, ?_, ?_, ?_, ?_, ?_, ?_⟩
      · intro L σ r h H locs ls hP hD hS hl
        rw [x_reset] at h
        refine lv_aload_n hx hb dX12_reset_0 rfl (lv_at hl 0 rfl) ?_
        refine lv_aload_n hx hb dX12_reset_1 rfl (lv_at hl 0 rfl) ?_
        refine ng_113 hx hb hts in_x_reset hown hK hP (hts _ (List.mem_cons_of_mem _ (List.mem_append_left _ (List.mem_append_left _ (List.mem_of_getElem? (i := 0) rfl))))) dX12_reset_2 ?_
        refine np_96 hx hb hts in_x_reset hown hK hP hD hS (hts _ (List.mem_cons_of_mem _ (List.mem_append_left _ (List.mem_append_left _ (List.mem_of_getElem? (i := 1) rfl))))) dX12_reset_5 (fun H locs hP hD hS => ?_)
        exact ih.2.1 L (σ.1, updW σ.2.1 96 ((σ.2.1 113)), σ.2.2) r h H locs ls hP hD hS (lv_sub hl [0] rfl)
      · intro L σ r h H locs ls hP hD hS hl
        rw [x_reset] at h
        refine lv_aload_n hx hb dX12_reset_8 rfl (lv_at hl 0 rfl) ?_
        refine lv_iconst (v := 0) hx hb dX12_reset_9 (by decide) ?_
        refine np_105 hx hb hts in_x_reset hown hK hP hD hS (hts _ (List.mem_cons_of_mem _ (List.mem_append_left _ (List.mem_append_left _ (List.mem_of_getElem? (i := 2) rfl))))) dX12_reset_10 (fun H locs hP hD hS => ?_)
        exact ih.2.2.1 L (upd σ.1 105 0, σ.2.1, σ.2.2) r h H locs ls hP hD hS (lv_sub hl [0] rfl)
      · intro L σ r h H locs ls hP hD hS hl
        rw [x_reset] at h
        refine lv_aload_n hx hb dX12_reset_13 rfl (lv_at hl 0 rfl) ?_
        refine lv_iconst (v := 0) hx hb dX12_reset_14 (by decide) ?_
        refine np_56 hx hb hts in_x_reset hown hK hP hD hS (hts _ (List.mem_cons_of_mem _ (List.mem_append_left _ (List.mem_append_left _ (List.mem_of_getElem? (i := 3) rfl))))) dX12_reset_15 (fun H locs hP hD hS => ?_)
        exact ih.2.2.2.1 L (upd σ.1 56 0, σ.2.1, σ.2.2) r h H locs ls hP hD hS (lv_sub hl [0] rfl)
      · intro L σ r h H locs ls hP hD hS hl
        rw [x_reset] at h
        refine lv_aload_n hx hb dX12_reset_18 rfl (lv_at hl 0 rfl) ?_
        refine lv_iconst (v := 0) hx hb dX12_reset_19 (by decide) ?_
        refine np_102 hx hb hts in_x_reset hown hK hP hD hS (hts _ (List.mem_cons_of_mem _ (List.mem_append_left _ (List.mem_append_left _ (List.mem_of_getElem? (i := 4) rfl))))) (Or.inl rfl) dX12_reset_20 (fun H locs hP hD hS => ?_)
        exact ih.2.2.2.2.1 L (upd σ.1 102 0, σ.2.1, σ.2.2) r h H locs ls hP hD hS (lv_sub hl [0] rfl)
      · intro L σ r h H locs ls hP hD hS hl
        rw [x_reset] at h
        refine lv_aload_n hx hb dX12_reset_23 rfl (lv_at hl 0 rfl) ?_
        refine lv_iconst (v := 0) hx hb dX12_reset_24 (by decide) ?_
        refine np_103 hx hb hts in_x_reset hown hK hP hD hS (hts _ (List.mem_cons_of_mem _ (List.mem_append_left _ (List.mem_append_left _ (List.mem_of_getElem? (i := 5) rfl))))) dX12_reset_25 (fun H locs hP hD hS => ?_)
        exact ih.2.2.2.2.2.1 L (upd σ.1 103 0, σ.2.1, σ.2.2) r h H locs ls hP hD hS (lv_sub hl [0] rfl)
      · intro L σ r h H locs ls hP hD hS hl
        rw [x_reset] at h
        refine lv_aload_n hx hb dX12_reset_28 rfl (lv_at hl 0 rfl) ?_
        refine lv_iconst (v := 0) hx hb dX12_reset_29 (by decide) ?_
        refine np_108 hx hb hts in_x_reset hown hK hP hD hS (hts _ (List.mem_cons_of_mem _ (List.mem_append_left _ (List.mem_append_left _ (List.mem_of_getElem? (i := 6) rfl))))) dX12_reset_30 (fun H locs hP hD hS => ?_)
        exact ih.2.2.2.2.2.2.1 L (upd σ.1 108 0, σ.2.1, σ.2.2) r h H locs ls hP hD hS (lv_sub hl [0] rfl)
      · intro L σ r h H locs ls hP hD hS hl
        rw [x_reset] at h
        refine lv_aload_n hx hb dX12_reset_33 rfl (lv_at hl 0 rfl) ?_
        refine lv_iconst (v := (-1)) hx hb dX12_reset_34 (by decide) ?_
        refine np_104 hx hb hts in_x_reset hown hK hP hD hS (hts _ (List.mem_cons_of_mem _ (List.mem_append_left _ (List.mem_append_left _ (List.mem_of_getElem? (i := 7) rfl))))) dX12_reset_35 (fun H locs hP hD hS => ?_)
        exact ih.2.2.2.2.2.2.2.1 L (upd σ.1 104 ((-1)), σ.2.1, σ.2.2) r h H locs ls hP hD hS (lv_sub hl [0] rfl)
      · intro L σ r h H locs ls hP hD hS hl
        rw [x_reset] at h
        refine lv_aload_n hx hb dX12_reset_38 rfl (lv_at hl 0 rfl) ?_
        refine lv_iconst (v := 0) hx hb dX12_reset_39 (by decide) ?_
        refine np_106 hx hb hts in_x_reset hown hK hP hD hS (hts _ (List.mem_cons_of_mem _ (List.mem_append_left _ (List.mem_append_left _ (List.mem_of_getElem? (i := 8) rfl))))) dX12_reset_40 (fun H locs hP hD hS => ?_)
        exact ih.2.2.2.2.2.2.2.2.1 L (upd σ.1 106 0, σ.2.1, σ.2.2) r h H locs ls hP hD hS (lv_sub hl [0] rfl)
      · intro L σ r h H locs ls hP hD hS hl
        rw [x_reset] at h
        refine lv_aload_n hx hb dX12_reset_43 rfl (lv_at hl 0 rfl) ?_
        refine lv_iconst (v := 0) hx hb dX12_reset_44 (by decide) ?_
        refine np_95 hx hb hts in_x_reset hown hK hP hD hS (hts _ (List.mem_cons_of_mem _ (List.mem_append_left _ (List.mem_append_left _ (List.mem_of_getElem? (i := 9) rfl))))) dX12_reset_45 (fun H locs hP hD hS => ?_)
        exact ih.2.2.2.2.2.2.2.2.2.1 L (upd σ.1 95 0, σ.2.1, σ.2.2) r h H locs ls hP hD hS (lv_sub hl [0] rfl)
      · intro L σ r h H locs ls hP hD hS hl
        rw [x_reset] at h
        refine lv_aload_n hx hb dX12_reset_48 rfl (lv_at hl 0 rfl) ?_
        refine lv_iconst (v := 0) hx hb dX12_reset_49 (by decide) ?_
        refine np_63 hx hb hts in_x_reset hown hK hP hD hS (hts _ (List.mem_cons_of_mem _ (List.mem_append_left _ (List.mem_append_left _ (List.mem_of_getElem? (i := 10) rfl))))) dX12_reset_50 (fun H locs hP hD hS => ?_)
        exact ih.2.2.2.2.2.2.2.2.2.2.1 L (upd σ.1 63 0, σ.2.1, σ.2.2) r h H locs ls hP hD hS (lv_sub hl [0] rfl)
      · intro L σ r h H locs ls hP hD hS hl
        rw [x_reset] at h
        refine lv_aload_n hx hb dX12_reset_53 rfl (lv_at hl 0 rfl) ?_
        refine lv_iconst (v := 0) hx hb dX12_reset_54 (by decide) ?_
        refine np_65 hx hb hts in_x_reset hown hK hP hD hS (hts _ (List.mem_cons_of_mem _ (List.mem_append_left _ (List.mem_append_left _ (List.mem_of_getElem? (i := 11) rfl))))) dX12_reset_55 (fun H locs hP hD hS => ?_)
        exact ih.2.2.2.2.2.2.2.2.2.2.2.1 L (upd σ.1 65 0, σ.2.1, σ.2.2) r h H locs ls hP hD hS (lv_sub hl [0] rfl)
      · intro L σ r h H locs ls hP hD hS hl
        rw [x_reset] at h
        refine lv_aload_n hx hb dX12_reset_58 rfl (lv_at hl 0 rfl) ?_
        refine lv_iconst (v := 0) hx hb dX12_reset_59 (by decide) ?_
        refine np_64 hx hb hts in_x_reset hown hK hP hD hS (hts _ (List.mem_cons_of_mem _ (List.mem_append_left _ (List.mem_append_left _ (List.mem_of_getElem? (i := 12) rfl))))) dX12_reset_60 (fun H locs hP hD hS => ?_)
        exact ih.2.2.2.2.2.2.2.2.2.2.2.2.1 L (upd σ.1 64 0, σ.2.1, σ.2.2) r h H locs ls hP hD hS (lv_sub hl [0] rfl)
      · intro L σ r h H locs ls hP hD hS hl
        rw [x_reset] at h
        refine lv_aload_n hx hb dX12_reset_63 rfl (lv_at hl 0 rfl) ?_
        refine ng_60 hx hb hts in_x_reset hown hK hP (hts _ (List.mem_cons_of_mem _ (List.mem_append_left _ (List.mem_append_left _ (List.mem_of_getElem? (i := 13) rfl))))) dX12_reset_64 ?_
        refine lv_iconst (v := 1) hx hb dX12_reset_67 (by decide) ?_
        refine lv_iconst (v := 0) hx hb dX12_reset_68 (by decide) ?_
        obtain ⟨q1, h⟩ := nb_ite1 h
        refine ns_30 hx hb hK hP hD hS q1 dX12_reset_69 (fun H locs hP hD hS => ?_)
        exact ih.2.2.2.2.2.2.2.2.2.2.2.2.2.1 L (σ.1, σ.2.1, updG σ.2.2 30 (upd (σ.2.2 30) (1 : Int32).toNatClampNeg 0)) r h H locs ls hP hD hS (lv_sub hl [0] rfl)
      · intro L σ r h H locs ls hP hD hS hl
        rw [x_reset] at h
        refine lv_aload_n hx hb dX12_reset_70 rfl (lv_at hl 0 rfl) ?_
        refine ng_60 hx hb hts in_x_reset hown hK hP (hts _ (List.mem_cons_of_mem _ (List.mem_append_left _ (List.mem_append_left _ (List.mem_of_getElem? (i := 13) rfl))))) dX12_reset_71 ?_
        refine lv_iconst (v := 2) hx hb dX12_reset_74 (by decide) ?_
        refine lv_iconst (v := 0) hx hb dX12_reset_75 (by decide) ?_
        obtain ⟨q1, h⟩ := nb_ite1 h
        refine ns_30 hx hb hK hP hD hS q1 dX12_reset_76 (fun H locs hP hD hS => ?_)
        exact ih.2.2.2.2.2.2.2.2.2.2.2.2.2.2.1 L (σ.1, σ.2.1, updG σ.2.2 30 (upd (σ.2.2 30) (2 : Int32).toNatClampNeg 0)) r h H locs ls hP hD hS (lv_sub hl [0] rfl)
      · intro L σ r h H locs ls hP hD hS hl
        rw [x_reset] at h
        refine lv_aload_n hx hb dX12_reset_77 rfl (lv_at hl 0 rfl) ?_
        refine ng_60 hx hb hts in_x_reset hown hK hP (hts _ (List.mem_cons_of_mem _ (List.mem_append_left _ (List.mem_append_left _ (List.mem_of_getElem? (i := 13) rfl))))) dX12_reset_78 ?_
        refine lv_iconst (v := 3) hx hb dX12_reset_81 (by decide) ?_
        refine lv_iconst (v := 0) hx hb dX12_reset_82 (by decide) ?_
        obtain ⟨q1, h⟩ := nb_ite1 h
        refine ns_30 hx hb hK hP hD hS q1 dX12_reset_83 (fun H locs hP hD hS => ?_)
        exact ih.2.2.2.2.2.2.2.2.2.2.2.2.2.2.2.1 L (σ.1, σ.2.1, updG σ.2.2 30 (upd (σ.2.2 30) (3 : Int32).toNatClampNeg 0)) r h H locs ls hP hD hS (lv_sub hl [0] rfl)
      · intro L σ r h H locs ls hP hD hS hl
        rw [x_reset] at h
        refine lv_iconst (v := 0) hx hb dX12_reset_84 (by decide) ?_
        refine lv_istore_n (lv' := [(1, .int 0), (0, .ref (a 0))]) hx hb dX12_reset_85 rfl hl (by decide) rfl (fun ls hl => ?_)
        exact ih.2.2.2.2.2.2.2.2.2.2.2.2.2.2.2.2.1 (upd L 1 0) σ r h H locs ls hP hD hS (lv_sub hl [1, 0] rfl)
      · intro L σ r h H locs ls hP hD hS hl
        rw [x_reset] at h
        refine lv_iload_n hx hb dX12_reset_86 rfl (lv_at hl 1 rfl) ?_
        refine lv_bipush (v := 60) hx hb dX12_reset_87 (by decide) ?_
        refine lv_icmp_ge (tgt := 140) hx hb dX12_reset_89 (by decide) (fun c1 => ?_) (fun c1 => ?_)
        · rw [if_pos c1] at h
          exact ih.2.2.2.2.2.2.2.2.2.2.2.2.2.2.2.2.2.2.2.2.2 L σ r h H locs ls hP hD hS (lv_sub hl [0, 1] rfl)
        · rw [if_neg c1] at h
          refine lv_aload_n hx hb dX12_reset_92 rfl (lv_at hl 0 rfl) ?_
          refine ng_60 hx hb hts in_x_reset hown hK hP (hts _ (List.mem_cons_of_mem _ (List.mem_append_left _ (List.mem_append_left _ (List.mem_of_getElem? (i := 13) rfl))))) dX12_reset_93 ?_
          refine lv_iconst (v := 4) hx hb dX12_reset_96 (by decide) ?_
          refine lv_iload_n hx hb dX12_reset_97 rfl (lv_at hl 1 rfl) ?_
          refine lv_iadd hx hb dX12_reset_98 ?_
          refine lv_iconst (v := 0) hx hb dX12_reset_99 (by decide) ?_
          obtain ⟨q2, h⟩ := nb_ite1 h
          refine ns_30 hx hb hK hP hD hS q2 dX12_reset_100 (fun H locs hP hD hS => ?_)
          exact ih.2.2.2.2.2.2.2.2.2.2.2.2.2.2.2.2.2.1 L (σ.1, σ.2.1, updG σ.2.2 30 (upd (σ.2.2 30) ((4 + ((L 1)))).toNatClampNeg 0)) r h H locs ls hP hD hS (lv_sub hl [0, 1] rfl)
      · intro L σ r h H locs ls hP hD hS hl
        rw [x_reset] at h
        refine lv_aload_n hx hb dX12_reset_101 rfl (lv_at hl 0 rfl) ?_
        refine lv_dup hx hb dX12_reset_102 rfl ?_
        refine ng_64 hx hb hts in_x_reset hown hK hP (hts _ (List.mem_cons_of_mem _ (List.mem_append_left _ (List.mem_append_left _ (List.mem_of_getElem? (i := 12) rfl))))) dX12_reset_103 ?_
        refine lv_iload_n hx hb dX12_reset_106 rfl (lv_at hl 1 rfl) ?_
        refine lv_aload_n hx hb dX12_reset_107 rfl (lv_at hl 0 rfl) ?_
        refine ng_36 hx hb hts in_x_reset hown hK hP (hts _ (List.mem_cons_of_mem _ (List.mem_append_left _ (List.mem_append_left _ (List.mem_of_getElem? (i := 14) rfl))))) dX12_reset_108 ?_
        refine lv_iconst (v := 0) hx hb dX12_reset_111 (by decide) ?_
        obtain ⟨q1, h⟩ := nb_ite1 h
        refine nl_21 hx hb hK hP q1 dX12_reset_112 ?_
        refine lv_icmp_ge (tgt := 129) hx hb dX12_reset_113 (by decide) (fun c2 => ?_) (fun c2 => ?_)
        · rw [if_pos c2] at h
          exact ih.2.2.2.2.2.2.2.2.2.2.2.2.2.2.2.2.2.2.1 (upd L 100 ((σ.1 64))) σ r h H locs ls hP hD hS (lv_sub hl [0, 1] rfl)
        · rw [if_neg c2] at h
          refine lv_aload_n hx hb dX12_reset_116 rfl (lv_at hl 0 rfl) ?_
          refine ng_35 hx hb hts in_x_reset hown hK hP (hts _ (List.mem_cons_of_mem _ (List.mem_append_left _ (List.mem_append_left _ (List.mem_of_getElem? (i := 15) rfl))))) dX12_reset_117 ?_
          refine lv_iload_n hx hb dX12_reset_120 rfl (lv_at hl 1 rfl) ?_
          obtain ⟨q3, h⟩ := nb_ite1 h
          refine nl_20 hx hb hK hP q3 dX12_reset_121 ?_
          refine lv_if_eq (tgt := 129) hx hb dX12_reset_122 (by decide) (fun c4 => ?_) (fun c4 => ?_)
          · rw [if_pos c4] at h
            exact ih.2.2.2.2.2.2.2.2.2.2.2.2.2.2.2.2.2.2.1 (upd L 100 ((σ.1 64))) σ r h H locs ls hP hD hS (lv_sub hl [0, 1] rfl)
          · rw [if_neg c4] at h
            refine lv_iconst (v := 1) hx hb dX12_reset_125 (by decide) ?_
            refine lv_goto (tgt := 130) hx hb dX12_reset_126 (by decide) ?_
            exact ih.2.2.2.2.2.2.2.2.2.2.2.2.2.2.2.2.2.2.2.1 (upd (upd L 100 1) 101 ((σ.1 64))) σ r h H locs ls hP hD hS (lv_sub hl [0, 1] rfl)
      · intro L σ r h H locs ls hP hD hS hl
        rw [x_reset] at h
        refine lv_iconst (v := 0) hx hb dX12_reset_129 (by decide) ?_
        exact ih.2.2.2.2.2.2.2.2.2.2.2.2.2.2.2.2.2.2.2.1 (upd (upd L 100 0) 101 ((L 100))) σ r h H locs ls hP hD hS (lv_sub hl [0, 1] rfl)
      · intro L σ r h H locs ls hP hD hS hl
        rw [x_reset] at h
        refine lv_iadd hx hb dX12_reset_130 ?_
        refine np_64 hx hb hts in_x_reset hown hK hP hD hS (hts _ (List.mem_cons_of_mem _ (List.mem_append_left _ (List.mem_append_left _ (List.mem_of_getElem? (i := 12) rfl))))) dX12_reset_131 (fun H locs hP hD hS => ?_)
        exact ih.2.2.2.2.2.2.2.2.2.2.2.2.2.2.2.2.2.2.2.2.1 L (upd σ.1 64 ((((L 101)) + ((L 100)))), σ.2.1, σ.2.2) r h H locs ls hP hD hS (lv_sub hl [0, 1] rfl)
      · intro L σ r h H locs ls hP hD hS hl
        rw [x_reset] at h
        refine lv_iinc (v := ((L 1)) + 1) (lv' := [(1, .int (((L 1)) + 1)), (0, .ref (a 0))]) hx hb dX12_reset_134 hl (k := 1) rfl rfl (by decide) rfl (fun ls hl => ?_)
        refine lv_goto (tgt := 86) hx hb dX12_reset_137 (by decide) ?_
        exact ih.2.2.2.2.2.2.2.2.2.2.2.2.2.2.2.2.1 (upd L 1 (((L 1)) + 1)) σ r h H locs ls hP hD hS (lv_sub hl [1, 0] rfl)
      · intro L σ r h H locs ls hP hD hS hl
        rw [x_reset] at h
        refine lv_aload_n hx hb dX12_reset_140 rfl (lv_at hl 0 rfl) ?_
        refine lv_aload_n hx hb dX12_reset_141 rfl (lv_at hl 0 rfl) ?_
        refine ng_110 hx hb hts in_x_reset hown hK hP (hts _ (List.mem_cons_of_mem _ (List.mem_append_left _ (List.mem_append_left _ (List.mem_of_getElem? (i := 16) rfl))))) dX12_reset_142 ?_
        refine lv_iconst (v := (-1)) hx hb dX12_reset_145 (by decide) ?_
        obtain ⟨r1, hc1, h⟩ := ob_ex h
        refine nc_Vv (As := [.int (σ.1 110), .int (-1)]) (rest := []) ⟨hx, hb, hml, hown, hts⟩ (c_x_enter l dC dI cy a k (upd (upd (fun _ => 0) 1 ((σ.1 110))) 2 ((-1))) σ r1 hc1 H.size) (cwV 2 hts g_x_reset_enter_895 rfl rfl rfl hd_x_enter ⟨Nat.le_of_ble_eq_true rfl, Nat.le_of_ble_eq_true rfl⟩) hK hG hA hP hD hS rfl hl.1 rfl (Nat.le_of_ble_eq_true rfl) dX12_reset_146 ⟨Nat.le_refl _, Nat.le_refl _⟩ (fun H locs hP hD hS => ?_)
        cases h
        exact W.vret hx hb hr (fun t ht hW => ⟨⟨(), rfl, trivial, by rw [ht]; exact hP, va_K.moved hW.alike hK, hD⟩, hS.F ht⟩) hS.2.2 dX12_reset_149
  exact (blk k0).1 L0 σ0 r0 h0 s.heap [] ls hP hD hS hl
/-! start -/
def x_start : Nat → Nat → (Nat → Int32) → (Nat → Int64) → MS → Option (Int32 × MS)
  | 0, _, _, _, _ => none
  | k + 1, 0, L, J, σ => if ((σ.1 111)) = 0 then (x_start k 1 L J σ) else (x_start k 2 (upd L 100 0) J σ)
  | k + 1, 1, L, J, σ => x_start k 2 (upd L 100 1) J σ
  | k + 1, 2, L, J, σ => ob (x_good k 0 (upd (fun _ => 0) 1 ((L 100))) σ) (fun r1 => if r1.1 = 0 then (some (0, r1.2)) else (x_start k 3 L J r1.2))
  | k + 1, 3, L, J, σ => x_start k 4 L J (σ.1, updW σ.2.1 113 ((J 1)), σ.2.2)
  | k + 1, 4, L, J, σ => x_start k 5 L J (upd σ.1 112 1, σ.2.1, σ.2.2)
  | k + 1, 5, L, J, σ => ob (x_reset k 0 (fun _ => 0) σ) (fun r1 => some (0, r1.2))
  | _ + 1, _ + 6, _, _, _ => none
def o_x_start : List Cond := [.fieldLink RX12 1041 "SetHouseModel" "isProgram" "Z", .methodLink RX12 1050 yX12_good, .instanceMethod yX12_good, .selects RX12 yX12_good yX12_good, .initialized RX12, .fieldLink RX12 1062 "SetHouseModel" "seedOfRun" "J", .fieldLink RX12 1044 "SetHouseModel" "isRun" "Z", .methodLink RX12 1065 yX12_reset, .instanceMethod yX12_reset, .selects RX12 yX12_reset yX12_reset]
theorem o_x_start_good : o_x_start.all goodWord = true := by decide +kernel
def p_x_start : List Cond := o_x_start ++ ((.code yX12_good cX12_good 2 (some .boolean) :: p_x_good) ++ ((.code yX12_reset cX12_reset 2 none :: p_x_reset) ++ []))
theorem p_x_start_good : p_x_start.all goodWord = true := nb_all2 o_x_start_good (nb_all2 (nb_allc (by decide +kernel) p_x_good_good) (nb_all2 (nb_allc (by decide +kernel) p_x_reset_good) rfl))
def w_x_start : List Cond := .code yX12_start cX12_start 3 none :: (p_x_start ++ fM)
theorem w_x_start_good : w_x_start.all goodWord = true := nb_allc (by decide +kernel) (nb_all2 p_x_start_good fM_good)
theorem in_x_start : ∀ w ∈ wsX120, w ∈ w_x_start := fun _ h => List.mem_cons_of_mem _ (List.mem_append_right _ h)
theorem hd_x_start : yX12_start.cls = RX12 ∧ yX12_start.cls ≠ "java/lang/invoke/MethodHandle" ∧ yX12_start.cls ≠ "java/lang/invoke/VarHandle" ∧ (parseMethodDescriptor yX12_start.desc).map (fun d => d.parameters.length) = some 1 := by decide +kernel
theorem gg_x_start_good : GoodIn w_x_start w_x_good := goodIn_sub (fun w h => (List.mem_cons.mp h).elim (fun e => (List.mem_cons_of_mem _ (List.mem_append_left _ (List.mem_append_right _ (List.mem_append_left _ (List.mem_cons.mpr (Or.inl e))))))) (fun h => (List.mem_append.mp h).elim (fun h => (List.mem_cons_of_mem _ (List.mem_append_left _ (List.mem_append_right _ (List.mem_append_left _ (List.mem_cons_of_mem _ h)))))) (fun h => List.mem_cons_of_mem _ (List.mem_append_right _ h)))) w_x_good_good
theorem g_x_start_good_1050 : GoodIn w_x_start (wsV RX12 1050 RX12 yX12_good w_x_good) := goodIn_app (nb_g4 (List.mem_cons_of_mem _ (List.mem_append_left _ (List.mem_append_left _ (List.mem_of_getElem? (i := 1) rfl)))) (List.mem_cons_of_mem _ (List.mem_append_left _ (List.mem_append_left _ (List.mem_of_getElem? (i := 2) rfl)))) (List.mem_cons_of_mem _ (List.mem_append_left _ (List.mem_append_left _ (List.mem_of_getElem? (i := 3) rfl)))) (List.mem_cons_of_mem _ (List.mem_append_left _ (List.mem_append_left _ (List.mem_of_getElem? (i := 4) rfl)))) (by decide +kernel)) gg_x_start_good
theorem gg_x_start_reset : GoodIn w_x_start w_x_reset := goodIn_sub (fun w h => (List.mem_cons.mp h).elim (fun e => (List.mem_cons_of_mem _ (List.mem_append_left _ (List.mem_append_right _ (List.mem_append_right _ (List.mem_append_left _ (List.mem_cons.mpr (Or.inl e)))))))) (fun h => (List.mem_append.mp h).elim (fun h => (List.mem_cons_of_mem _ (List.mem_append_left _ (List.mem_append_right _ (List.mem_append_right _ (List.mem_append_left _ (List.mem_cons_of_mem _ h))))))) (fun h => List.mem_cons_of_mem _ (List.mem_append_right _ h)))) w_x_reset_good
theorem g_x_start_reset_1065 : GoodIn w_x_start (wsV RX12 1065 RX12 yX12_reset w_x_reset) := goodIn_app (nb_g4 (List.mem_cons_of_mem _ (List.mem_append_left _ (List.mem_append_left _ (List.mem_of_getElem? (i := 7) rfl)))) (List.mem_cons_of_mem _ (List.mem_append_left _ (List.mem_append_left _ (List.mem_of_getElem? (i := 8) rfl)))) (List.mem_cons_of_mem _ (List.mem_append_left _ (List.mem_append_left _ (List.mem_of_getElem? (i := 9) rfl)))) (List.mem_cons_of_mem _ (List.mem_append_left _ (List.mem_append_left _ (List.mem_of_getElem? (i := 4) rfl)))) (by decide +kernel)) gg_x_start_reset
set_option maxHeartbeats 40000000 in
set_option maxRecDepth 100000 in
theorem c_x_start (l : Launch) (dC : Nat → ClassId) (dI : Nat → Nat → Nat) (cy : Nat → ClassId) (a : Nat → Nat) (k0 : Nat) (L0 : Nat → Int32) (J0 : Nat → Int64) (σ0 : MS) (r0 : Int32 × MS) (h0 : x_start k0 0 L0 J0 σ0 = some r0) (sz : Nat) : Met l yX12_start w_x_start ({ frames := 1365, cells := 0, slots := 0, locals := 36658 }) (va_Pc [.ref (a 0), .long (J0 1)] (nIn (dC, dI) cy sz (vM cy a σ0))) (va_Qv (fun _ : Unit => True) (fun _ t => nOut (dC, dI) cy (va_A (vM cy a σ0) sz) (vM cy a r0.2) t) (va_A (vM cy a σ0) sz)) 0 0 (va_A (vM cy a σ0) sz) := by
  refine Met.ofW (cc := cX12_start) (maxL := 3) (ret := none) (by decide) rfl ?_
  intro p e s m args below meth c s₁ B hml hv
  obtain ⟨rfl, hsz, hP, hK, hD0, hG⟩ := hv
  have hx := B.exec
  have hb := B.bytes
  have hr := B.returns
  have hts := atoms_spec (ws := w_x_start) B.pre
  have hown : s.vm.findClass RX12 = some m.cls := findClass_of_methodNamed B.named
  have hlocks := B.notSynchronized
  subst hsz
  have hD := hD0.self (sz := s.heap.size)
  generalize hAe : va_A (vM cy a σ0) s.heap.size = A at hD ⊢
  have hA : ∀ q : Nat, s.heap.size ≤ q → A q := fun q h => by rw [← hAe]; exact Or.inr h
  have hS : va_S A s.heap s.heap [] := va_S.rf
  have hl := lv_entry ([.ref (a 0), .long (J0 1)]) (n := 3) (Nat.le_of_ble_eq_true rfl)
  rw [lg_entry_eq]
  generalize (lg_sl ([.ref (a 0), .long (J0 1)]) ++ List.replicate (3 - (lg_sl ([.ref (a 0), .long (J0 1)])).length) Slot.unset).toArray = ls at hl ⊢
  have hl : lv_has ls 3 [(0, .ref (a 0)), (1, .long (J0 1))] := hl
  have blk : ∀ k : Nat, (bTJ p l e (headSpec w_x_start ({ frames := 1365, cells := 0, slots := 0, locals := 36658 })).room s m #[.ref (a 0), .long (J0 1)] below meth c dC dI cy a A (qV dC dI cy a A below #[.ref (a 0), .long (J0 1)] s) 3 (x_start k 0) (fun L J => [(0, .ref (a 0)), (1, .long (J 1))]) 0 (fun L J => [])) ∧ (bTJ p l e (headSpec w_x_start ({ frames := 1365, cells := 0, slots := 0, locals := 36658 })).room s m #[.ref (a 0), .long (J0 1)] below meth c dC dI cy a A (qV dC dI cy a A below #[.ref (a 0), .long (J0 1)] s) 3 (x_start k 1) (fun L J => [(0, .ref (a 0)), (1, .long (J 1))]) 12 (fun L J => [.ref (a 0)])) ∧ (bTJ p l e (headSpec w_x_start ({ frames := 1365, cells := 0, slots := 0, locals := 36658 })).room s m #[.ref (a 0), .long (J0 1)] below meth c dC dI cy a A (qV dC dI cy a A below #[.ref (a 0), .long (J0 1)] s) 3 (x_start k 2) (fun L J => [(0, .ref (a 0)), (1, .long (J 1))]) 13 (fun L J => [.int (L 100), .ref (a 0)])) ∧ (bTJ p l e (headSpec w_x_start ({ frames := 1365, cells := 0, slots := 0, locals := 36658 })).room s m #[.ref (a 0), .long (J0 1)] below meth c dC dI cy a A (qV dC dI cy a A below #[.ref (a 0), .long (J0 1)] s) 3 (x_start k 3) (fun L J => [(0, .ref (a 0)), (1, .long (J 1))]) 20 (fun L J => [])) ∧ (bTJ p l e (headSpec w_x_start ({ frames := 1365, cells := 0, slots := 0, locals := 36658 })).room s m #[.ref (a 0), .long (J0 1)] below meth c dC dI cy a A (qV dC dI cy a A below #[.ref (a 0), .long (J0 1)] s) 3 (x_start k 4) (fun L J => [(0, .ref (a 0)), (1, .long (J 1))]) 25 (fun L J => [])) ∧ (bTJ p l e (headSpec w_x_start ({ frames := 1365, cells := 0, slots := 0, locals := 36658 })).room s m #[.ref (a 0), .long (J0 1)] below meth c dC dI cy a A (qV dC dI cy a A below #[.ref (a 0), .long (J0 1)] s) 3 (x_start k 5) (fun L J => [(0, .ref (a 0)), (1, .long (J 1))]) 30 (fun L J => [])) := by
    intro k
    induction k with
    | zero => exact ⟨fun L J σ r h => (by cases h), fun L J σ r h => (by cases h), fun L J σ r h => (by cases h), fun L J σ r h => (by cases h), fun L J σ r h => (by cases h), fun L J σ r h => (by cases h)⟩
    | succ k ih =>
      refine ⟨?_, ?_, ?_, ?_, ?_, ?_⟩
      · intro L J σ r h H locs ls hP hD hS hl
        rw [x_start] at h
        refine lv_aload_n hx hb dX12_start_0 rfl (lv_at hl 0 rfl) ?_
        refine lv_aload_n hx hb dX12_start_1 rfl (lv_at hl 0 rfl) ?_
        refine ng_111 hx hb hts in_x_start hown hK hP (hts _ (List.mem_cons_of_mem _ (List.mem_append_left _ (List.mem_append_left _ (List.mem_of_getElem? (i := 0) rfl))))) dX12_start_2 ?_
        refine lv_if_eq (tgt := 12) hx hb dX12_start_5 (by decide) (fun c1 => ?_) (fun c1 => ?_)
        · rw [if_pos c1] at h
          exact ih.2.1 L J σ r h H locs ls hP hD hS (lv_sub hl [0, 1] rfl)
        · rw [if_neg c1] at h
          refine lv_iconst (v := 0) hx hb dX12_start_8 (by decide) ?_
          refine lv_goto (tgt := 13) hx hb dX12_start_9 (by decide) ?_
          exact ih.2.2.1 (upd L 100 0) J σ r h H locs ls hP hD hS (lv_sub hl [0, 1] rfl)
      · intro L J σ r h H locs ls hP hD hS hl
        rw [x_start] at h
        refine lv_iconst (v := 1) hx hb dX12_start_12 (by decide) ?_
        exact ih.2.2.1 (upd L 100 1) J σ r h H locs ls hP hD hS (lv_sub hl [0, 1] rfl)
      · intro L J σ r h H locs ls hP hD hS hl
        rw [x_start] at h
        obtain ⟨r1, hc1, h⟩ := ob_ex h
        refine nc_Vi (As := [.int (L 100)]) (rest := []) ⟨hx, hb, hml, hown, hts⟩ (c_x_good l dC dI cy a k (upd (fun _ => 0) 1 ((L 100))) σ r1 hc1 H.size) (cwV 1 hts g_x_start_good_1050 rfl rfl rfl hd_x_good ⟨Nat.le_of_ble_eq_true rfl, Nat.le_of_ble_eq_true rfl⟩) hK hG hA hP hD hS rfl hl.1 rfl (Nat.le_of_ble_eq_true rfl) dX12_start_13 ⟨Nat.le_refl _, Nat.le_refl _⟩ (fun H locs hP hD hS => ?_)
        refine lv_if_ne (tgt := 20) hx hb dX12_start_16 (by decide) (fun c2 => ?_) (fun c2 => ?_)
        · rw [if_neg c2] at h
          exact ih.2.2.2.1 L J r1.2 r h H locs ls hP hD hS (lv_sub hl [0, 1] rfl)
        · rw [if_pos c2] at h
          cases h
          exact W.vret hx hb hr (fun t ht hW => ⟨⟨(), rfl, trivial, by rw [ht]; exact hP, va_K.moved hW.alike hK, hD⟩, hS.F ht⟩) hS.2.2 dX12_start_19
      · intro L J σ r h H locs ls hP hD hS hl
        rw [x_start] at h
        refine lv_aload_n hx hb dX12_start_20 rfl (lv_at hl 0 rfl) ?_
        refine lv_lload_n hx hb dX12_start_21 rfl (lv_at hl 1 rfl) ?_
        refine np_113 hx hb hts in_x_start hown hK hP hD hS (hts _ (List.mem_cons_of_mem _ (List.mem_append_left _ (List.mem_append_left _ (List.mem_of_getElem? (i := 5) rfl))))) dX12_start_22 (fun H locs hP hD hS => ?_)
        exact ih.2.2.2.2.1 L J (σ.1, updW σ.2.1 113 ((J 1)), σ.2.2) r h H locs ls hP hD hS (lv_sub hl [0, 1] rfl)
      · intro L J σ r h H locs ls hP hD hS hl
        rw [x_start] at h
        refine lv_aload_n hx hb dX12_start_25 rfl (lv_at hl 0 rfl) ?_
        refine lv_iconst (v := 1) hx hb dX12_start_26 (by decide) ?_
        refine np_112 hx hb hts in_x_start hown hK hP hD hS (hts _ (List.mem_cons_of_mem _ (List.mem_append_left _ (List.mem_append_left _ (List.mem_of_getElem? (i := 6) rfl))))) (Or.inr rfl) dX12_start_27 (fun H locs hP hD hS => ?_)
        exact ih.2.2.2.2.2 L J (upd σ.1 112 1, σ.2.1, σ.2.2) r h H locs ls hP hD hS (lv_sub hl [0, 1] rfl)
      · intro L J σ r h H locs ls hP hD hS hl
        rw [x_start] at h
        refine lv_aload_n hx hb dX12_start_30 rfl (lv_at hl 0 rfl) ?_
        obtain ⟨r1, hc1, h⟩ := ob_ex h
        refine nc_Vv (As := []) (rest := []) ⟨hx, hb, hml, hown, hts⟩ (c_x_reset l dC dI cy a k (fun _ => 0) σ r1 hc1 H.size) (cwV 0 hts g_x_start_reset_1065 rfl rfl rfl hd_x_reset ⟨Nat.le_of_ble_eq_true rfl, Nat.le_of_ble_eq_true rfl⟩) hK hG hA hP hD hS rfl hl.1 rfl (Nat.le_of_ble_eq_true rfl) dX12_start_31 ⟨Nat.le_refl _, Nat.le_refl _⟩ (fun H locs hP hD hS => ?_)
        cases h
        exact W.vret hx hb hr (fun t ht hW => ⟨⟨(), rfl, trivial, by rw [ht]; exact hP, va_K.moved hW.alike hK, hD⟩, hS.F ht⟩) hS.2.2 dX12_start_34
  exact (blk k0).1 L0 J0 σ0 r0 h0 s.heap [] ls hP hD hS hl
/-! step -/
def x_step : Nat → Nat → (Nat → Int32) → MS → Option (Int32 × MS)
  | 0, _, _, _ => none
  | k + 1, 0, L, σ => if ((σ.1 112)) = 0 then (x_step k 4 (upd L 100 1) σ) else (x_step k 1 L σ)
  | k + 1, 1, L, σ => if ((L 1)) < 0 then (x_step k 2 L σ) else (if ((L 1)) ≤ 20000 then (x_step k 3 L σ) else (x_step k 2 L σ))
  | k + 1, 2, L, σ => x_step k 4 (upd L 100 2) σ
  | k + 1, 3, L, σ => x_step k 4 (upd L 100 0) σ
  | k + 1, 4, L, σ => ob (x_good k 0 (upd (fun _ => 0) 1 ((L 100))) σ) (fun r1 => if r1.1 = 0 then (some (0, r1.2)) else (x_step k 5 L r1.2))
  | k + 1, 5, L, σ => x_step k 6 (upd L 2 0) σ
  | k + 1, 6, L, σ => if ((L 1)) ≤ ((L 2)) then (x_step k 7 L σ) else (if ((σ.1 102)) = 0 then (if ¬ ((0 : Int32) < 0 ∨ 11514 ≤ (0 : Int32).toNatClampNeg) then (ob (x_begin k 0 (upd (fun _ => 0) 1 ((σ.2.2 30 (0 : Int32).toNatClampNeg))) σ) (fun r4 => x_step k 6 (upd L 2 (((L 2)) + 1)) r4.2)) else none) else (x_step k 7 L σ))
  | k + 1, 7, L, σ => if ((σ.1 105)) ≤ 0 then (x_step k 8 L σ) else (x_step k 10 (upd L 100 2) σ)
  | k + 1, 8, L, σ => if ((σ.1 102)) = 0 then (x_step k 9 L σ) else (x_step k 10 (upd L 100 1) σ)
  | k + 1, 9, L, σ => x_step k 10 (upd L 100 0) σ
  | k + 1, 10, L, σ => some ((L 100), σ)
  | _ + 1, _ + 11, _, _ => none
def o_x_step : List Cond := [.fieldLink RX12 1044 "SetHouseModel" "isRun" "Z", .methodLink RX12 1050 yX12_good, .instanceMethod yX12_good, .selects RX12 yX12_good yX12_good, .initialized RX12, .fieldLink RX12 868 "SetHouseModel" "ended" "Z", .fieldLink RX12 395 "SetHouseModel" "st" "[I", .methodLink RX12 1068 yX12_begin, .instanceMethod yX12_begin, .selects RX12 yX12_begin yX12_begin, .fieldLink RX12 959 "SetHouseModel" "error" "I"]
theorem o_x_step_good : o_x_step.all goodWord = true := by decide +kernel
def p_x_step : List Cond := o_x_step ++ ((.code yX12_good cX12_good 2 (some .boolean) :: p_x_good) ++ ((.code yX12_begin cX12_begin 2 none :: p_x_begin) ++ []))
theorem p_x_step_good : p_x_step.all goodWord = true := nb_all2 o_x_step_good (nb_all2 (nb_allc (by decide +kernel) p_x_good_good) (nb_all2 (nb_allc (by decide +kernel) p_x_begin_good) rfl))
def w_x_step : List Cond := .code yX12_step cX12_step 3 (some .int) :: (p_x_step ++ fM)
theorem w_x_step_good : w_x_step.all goodWord = true := nb_allc (by decide +kernel) (nb_all2 p_x_step_good fM_good)
theorem in_x_step : ∀ w ∈ wsX120, w ∈ w_x_step := fun _ h => List.mem_cons_of_mem _ (List.mem_append_right _ h)
theorem hd_x_step : yX12_step.cls = RX12 ∧ yX12_step.cls ≠ "java/lang/invoke/MethodHandle" ∧ yX12_step.cls ≠ "java/lang/invoke/VarHandle" ∧ (parseMethodDescriptor yX12_step.desc).map (fun d => d.parameters.length) = some 1 := by decide +kernel
theorem gg_x_step_begin : GoodIn w_x_step w_x_begin := goodIn_sub (fun w h => (List.mem_cons.mp h).elim (fun e => (List.mem_cons_of_mem _ (List.mem_append_left _ (List.mem_append_right _ (List.mem_append_right _ (List.mem_append_left _ (List.mem_cons.mpr (Or.inl e)))))))) (fun h => (List.mem_append.mp h).elim (fun h => (List.mem_cons_of_mem _ (List.mem_append_left _ (List.mem_append_right _ (List.mem_append_right _ (List.mem_append_left _ (List.mem_cons_of_mem _ h))))))) (fun h => List.mem_cons_of_mem _ (List.mem_append_right _ h)))) w_x_begin_good
theorem g_x_step_begin_1068 : GoodIn w_x_step (wsV RX12 1068 RX12 yX12_begin w_x_begin) := goodIn_app (nb_g4 (List.mem_cons_of_mem _ (List.mem_append_left _ (List.mem_append_left _ (List.mem_of_getElem? (i := 7) rfl)))) (List.mem_cons_of_mem _ (List.mem_append_left _ (List.mem_append_left _ (List.mem_of_getElem? (i := 8) rfl)))) (List.mem_cons_of_mem _ (List.mem_append_left _ (List.mem_append_left _ (List.mem_of_getElem? (i := 9) rfl)))) (List.mem_cons_of_mem _ (List.mem_append_left _ (List.mem_append_left _ (List.mem_of_getElem? (i := 4) rfl)))) (by decide +kernel)) gg_x_step_begin
theorem gg_x_step_good : GoodIn w_x_step w_x_good := goodIn_sub (fun w h => (List.mem_cons.mp h).elim (fun e => (List.mem_cons_of_mem _ (List.mem_append_left _ (List.mem_append_right _ (List.mem_append_left _ (List.mem_cons.mpr (Or.inl e))))))) (fun h => (List.mem_append.mp h).elim (fun h => (List.mem_cons_of_mem _ (List.mem_append_left _ (List.mem_append_right _ (List.mem_append_left _ (List.mem_cons_of_mem _ h)))))) (fun h => List.mem_cons_of_mem _ (List.mem_append_right _ h)))) w_x_good_good
theorem g_x_step_good_1050 : GoodIn w_x_step (wsV RX12 1050 RX12 yX12_good w_x_good) := goodIn_app (nb_g4 (List.mem_cons_of_mem _ (List.mem_append_left _ (List.mem_append_left _ (List.mem_of_getElem? (i := 1) rfl)))) (List.mem_cons_of_mem _ (List.mem_append_left _ (List.mem_append_left _ (List.mem_of_getElem? (i := 2) rfl)))) (List.mem_cons_of_mem _ (List.mem_append_left _ (List.mem_append_left _ (List.mem_of_getElem? (i := 3) rfl)))) (List.mem_cons_of_mem _ (List.mem_append_left _ (List.mem_append_left _ (List.mem_of_getElem? (i := 4) rfl)))) (by decide +kernel)) gg_x_step_good
set_option maxHeartbeats 40000000 in
set_option maxRecDepth 100000 in
theorem c_x_step (l : Launch) (dC : Nat → ClassId) (dI : Nat → Nat → Nat) (cy : Nat → ClassId) (a : Nat → Nat) (k0 : Nat) (L0 : Nat → Int32) (σ0 : MS) (r0 : Int32 × MS) (h0 : x_step k0 0 L0 σ0 = some r0) (sz : Nat) : Met l yX12_step w_x_step ({ frames := 1368, cells := 0, slots := 0, locals := 36723 }) (va_Pc [.ref (a 0), .int (L0 1)] (nIn (dC, dI) cy sz (vM cy a σ0))) (va_Qi (fun (z : Int32) (_ : Unit) => z = r0.1) (fun _ t => nOut (dC, dI) cy (va_A (vM cy a σ0) sz) (vM cy a r0.2) t) (va_A (vM cy a σ0) sz)) 0 0 (va_A (vM cy a σ0) sz) := by
  refine Met.ofW (cc := cX12_step) (maxL := 3) (ret := (some .int)) (by decide) rfl ?_
  intro p e s m args below meth c s₁ B hml hv
  obtain ⟨rfl, hsz, hP, hK, hD0, hG⟩ := hv
  have hx := B.exec
  have hb := B.bytes
  have hr := B.returns
  have hts := atoms_spec (ws := w_x_step) B.pre
  have hown : s.vm.findClass RX12 = some m.cls := findClass_of_methodNamed B.named
  have hlocks := B.notSynchronized
  subst hsz
  have hD := hD0.self (sz := s.heap.size)
  generalize hAe : va_A (vM cy a σ0) s.heap.size = A at hD ⊢
  have hA : ∀ q : Nat, s.heap.size ≤ q → A q := fun q h => by rw [← hAe]; exact Or.inr h
  have hS : va_S A s.heap s.heap [] := va_S.rf
  have hl := lv_entry ([.ref (a 0), .int (L0 1)]) (n := 3) (Nat.le_of_ble_eq_true rfl)
  rw [lg_entry_eq]
  generalize (lg_sl ([.ref (a 0), .int (L0 1)]) ++ List.replicate (3 - (lg_sl ([.ref (a 0), .int (L0 1)])).length) Slot.unset).toArray = ls at hl ⊢
  have hl : lv_has ls 3 [(0, .ref (a 0)), (1, .int (L0 1))] := hl
  have blk : ∀ k : Nat, (bT p l e (headSpec w_x_step ({ frames := 1368, cells := 0, slots := 0, locals := 36723 })).room s m #[.ref (a 0), .int (L0 1)] below meth c dC dI cy a A (qI dC dI cy a A below #[.ref (a 0), .int (L0 1)] s) 3 (x_step k 0) (fun L => [(0, .ref (a 0)), (1, .int (L 1))]) 0 (fun L => [])) ∧ (bT p l e (headSpec w_x_step ({ frames := 1368, cells := 0, slots := 0, locals := 36723 })).room s m #[.ref (a 0), .int (L0 1)] below meth c dC dI cy a A (qI dC dI cy a A below #[.ref (a 0), .int (L0 1)] s) 3 (x_step k 1) (fun L => [(0, .ref (a 0)), (1, .int (L 1))]) 12 (fun L => [.ref (a 0)])) ∧ (bT p l e (headSpec w_x_step ({ frames := 1368, cells := 0, slots := 0, locals := 36723 })).room s m #[.ref (a 0), .int (L0 1)] below meth c dC dI cy a A (qI dC dI cy a A below #[.ref (a 0), .int (L0 1)] s) 3 (x_step k 2) (fun L => [(0, .ref (a 0)), (1, .int (L 1))]) 23 (fun L => [.ref (a 0)])) ∧ (bT p l e (headSpec w_x_step ({ frames := 1368, cells := 0, slots := 0, locals := 36723 })).room s m #[.ref (a 0), .int (L0 1)] below meth c dC dI cy a A (qI dC dI cy a A below #[.ref (a 0), .int (L0 1)] s) 3 (x_step k 3) (fun L => [(0, .ref (a 0)), (1, .int (L 1))]) 27 (fun L => [.ref (a 0)])) ∧ (bT p l e (headSpec w_x_step ({ frames := 1368, cells := 0, slots := 0, locals := 36723 })).room s m #[.ref (a 0), .int (L0 1)] below meth c dC dI cy a A (qI dC dI cy a A below #[.ref (a 0), .int (L0 1)] s) 3 (x_step k 4) (fun L => [(0, .ref (a 0)), (1, .int (L 1))]) 28 (fun L => [.int (L 100), .ref (a 0)])) ∧ (bT p l e (headSpec w_x_step ({ frames := 1368, cells := 0, slots := 0, locals := 36723 })).room s m #[.ref (a 0), .int (L0 1)] below meth c dC dI cy a A (qI dC dI cy a A below #[.ref (a 0), .int (L0 1)] s) 3 (x_step k 5) (fun L => [(0, .ref (a 0)), (1, .int (L 1))]) 36 (fun L => [])) ∧ (bT p l e (headSpec w_x_step ({ frames := 1368, cells := 0, slots := 0, locals := 36723 })).room s m #[.ref (a 0), .int (L0 1)] below meth c dC dI cy a A (qI dC dI cy a A below #[.ref (a 0), .int (L0 1)] s) 3 (x_step k 6) (fun L => [(0, .ref (a 0)), (1, .int (L 1)), (2, .int (L 2))]) 38 (fun L => [])) ∧ (bT p l e (headSpec w_x_step ({ frames := 1368, cells := 0, slots := 0, locals := 36723 })).room s m #[.ref (a 0), .int (L0 1)] below meth c dC dI cy a A (qI dC dI cy a A below #[.ref (a 0), .int (L0 1)] s) 3 (x_step k 7) (fun L => [(0, .ref (a 0)), (1, .int (L 1)), (2, .int (L 2))]) 66 (fun L => [])) ∧ (bT p l e (headSpec w_x_step ({ frames := 1368, cells := 0, slots := 0, locals := 36723 })).room s m #[.ref (a 0), .int (L0 1)] below meth c dC dI cy a A (qI dC dI cy a A below #[.ref (a 0), .int (L0 1)] s) 3 (x_step k 8) (fun L => [(0, .ref (a 0)), (1, .int (L 1)), (2, .int (L 2))]) 77 (fun L => [])) ∧ (bT p l e (headSpec w_x_step ({ frames := 1368, cells := 0, slots := 0, locals := 36723 })).room s m #[.ref (a 0), .int (L0 1)] below meth c dC dI cy a A (qI dC dI cy a A below #[.ref (a 0), .int (L0 1)] s) 3 (x_step k 9) (fun L => [(0, .ref (a 0)), (1, .int (L 1)), (2, .int (L 2))]) 88 (fun L => [])) ∧ (bT p l e (headSpec w_x_step ({ frames := 1368, cells := 0, slots := 0, locals := 36723 })).room s m #[.ref (a 0), .int (L0 1)] below meth c dC dI cy a A (qI dC dI cy a A below #[.ref (a 0), .int (L0 1)] s) 3 (x_step k 10) (fun L => [(0, .ref (a 0)), (1, .int (L 1)), (2, .int (L 2))]) 89 (fun L => [.int (L 100)])) := by
    intro k
    induction k with
    | zero => exact ⟨fun L σ r h => (by cases h), fun L σ r h => (by cases h), fun L σ r h => (by cases h), fun L σ r h => (by cases h), fun L σ r h => (by cases h), fun L σ r h => (by cases h), fun L σ r h => (by cases h), fun L σ r h => (by cases h), fun L σ r h => (by cases h), fun L σ r h => (by cases h), fun L σ r h => (by cases h)⟩
    | succ k ih =>
      refine ⟨?_, ?_, ?_, ?_, ?_, ?_, ?_, ?_, ?_, ?_, ?_⟩
      · intro L σ r h H locs ls hP hD hS hl
        rw [x_step] at h
        refine lv_aload_n hx hb dX12_step_0 rfl (lv_at hl 0 rfl) ?_
        refine lv_aload_n hx hb dX12_step_1 rfl (lv_at hl 0 rfl) ?_
        refine ng_112 hx hb hts in_x_step hown hK hP (hts _ (List.mem_cons_of_mem _ (List.mem_append_left _ (List.mem_append_left _ (List.mem_of_getElem? (i := 0) rfl))))) dX12_step_2 ?_
        refine lv_if_ne (tgt := 12) hx hb dX12_step_5 (by decide) (fun c1 => ?_) (fun c1 => ?_)
        · rw [if_neg c1] at h
          exact ih.2.1 L σ r h H locs ls hP hD hS (lv_sub hl [0, 1] rfl)
        · rw [if_pos c1] at h
          refine lv_iconst (v := 1) hx hb dX12_step_8 (by decide) ?_
          refine lv_goto (tgt := 28) hx hb dX12_step_9 (by decide) ?_
          exact ih.2.2.2.2.1 (upd L 100 1) σ r h H locs ls hP hD hS (lv_sub hl [0, 1] rfl)
      · intro L σ r h H locs ls hP hD hS hl
        rw [x_step] at h
        refine lv_iload_n hx hb dX12_step_12 rfl (lv_at hl 1 rfl) ?_
        refine lv_if_lt (tgt := 23) hx hb dX12_step_13 (by decide) (fun c1 => ?_) (fun c1 => ?_)
        · rw [if_pos c1] at h
          exact ih.2.2.1 L σ r h H locs ls hP hD hS (lv_sub hl [0, 1] rfl)
        · rw [if_neg c1] at h
          refine lv_iload_n hx hb dX12_step_16 rfl (lv_at hl 1 rfl) ?_
          refine lv_sipush (v := 20000) hx hb dX12_step_17 (by decide) ?_
          refine lv_icmp_le (tgt := 27) hx hb dX12_step_20 (by decide) (fun c2 => ?_) (fun c2 => ?_)
          · rw [if_pos c2] at h
            exact ih.2.2.2.1 L σ r h H locs ls hP hD hS (lv_sub hl [0, 1] rfl)
          · rw [if_neg c2] at h
            exact ih.2.2.1 L σ r h H locs ls hP hD hS (lv_sub hl [0, 1] rfl)
      · intro L σ r h H locs ls hP hD hS hl
        rw [x_step] at h
        refine lv_iconst (v := 2) hx hb dX12_step_23 (by decide) ?_
        refine lv_goto (tgt := 28) hx hb dX12_step_24 (by decide) ?_
        exact ih.2.2.2.2.1 (upd L 100 2) σ r h H locs ls hP hD hS (lv_sub hl [0, 1] rfl)
      · intro L σ r h H locs ls hP hD hS hl
        rw [x_step] at h
        refine lv_iconst (v := 0) hx hb dX12_step_27 (by decide) ?_
        exact ih.2.2.2.2.1 (upd L 100 0) σ r h H locs ls hP hD hS (lv_sub hl [0, 1] rfl)
      · intro L σ r h H locs ls hP hD hS hl
        rw [x_step] at h
        obtain ⟨r1, hc1, h⟩ := ob_ex h
        refine nc_Vi (As := [.int (L 100)]) (rest := []) ⟨hx, hb, hml, hown, hts⟩ (c_x_good l dC dI cy a k (upd (fun _ => 0) 1 ((L 100))) σ r1 hc1 H.size) (cwV 1 hts g_x_step_good_1050 rfl rfl rfl hd_x_good ⟨Nat.le_of_ble_eq_true rfl, Nat.le_of_ble_eq_true rfl⟩) hK hG hA hP hD hS rfl hl.1 rfl (Nat.le_of_ble_eq_true rfl) dX12_step_28 ⟨Nat.le_refl _, Nat.le_refl _⟩ (fun H locs hP hD hS => ?_)
        refine lv_if_ne (tgt := 36) hx hb dX12_step_31 (by decide) (fun c2 => ?_) (fun c2 => ?_)
        · rw [if_neg c2] at h
          exact ih.2.2.2.2.2.1 L r1.2 r h H locs ls hP hD hS (lv_sub hl [0, 1] rfl)
        · rw [if_pos c2] at h
          refine lv_iconst (v := 0) hx hb dX12_step_34 (by decide) ?_
          cases h
          exact W.iret (v := 0) hx hb hr (fun t ht hW => ⟨⟨0, (), rfl, rfl, by rw [ht]; exact hP, va_K.moved hW.alike hK, hD⟩, hS.F ht⟩) hS.2.2 dX12_step_35
      · intro L σ r h H locs ls hP hD hS hl
        rw [x_step] at h
        refine lv_iconst (v := 0) hx hb dX12_step_36 (by decide) ?_
        refine lv_istore_n (lv' := [(2, .int 0), (0, .ref (a 0)), (1, .int (L 1))]) hx hb dX12_step_37 rfl hl (by decide) rfl (fun ls hl => ?_)
        exact ih.2.2.2.2.2.2.1 (upd L 2 0) σ r h H locs ls hP hD hS (lv_sub hl [1, 2, 0] rfl)
      · intro L σ r h H locs ls hP hD hS hl
        rw [x_step] at h
        refine lv_iload_n hx hb dX12_step_38 rfl (lv_at hl 2 rfl) ?_
        refine lv_iload_n hx hb dX12_step_39 rfl (lv_at hl 1 rfl) ?_
        refine lv_icmp_ge (tgt := 66) hx hb dX12_step_40 (by decide) (fun c1 => ?_) (fun c1 => ?_)
        · rw [if_pos c1] at h
          exact ih.2.2.2.2.2.2.2.1 L σ r h H locs ls hP hD hS (lv_sub hl [0, 1, 2] rfl)
        · rw [if_neg c1] at h
          refine lv_aload_n hx hb dX12_step_43 rfl (lv_at hl 0 rfl) ?_
          refine ng_102 hx hb hts in_x_step hown hK hP (hts _ (List.mem_cons_of_mem _ (List.mem_append_left _ (List.mem_append_left _ (List.mem_of_getElem? (i := 5) rfl))))) dX12_step_44 ?_
          refine lv_if_ne (tgt := 66) hx hb dX12_step_47 (by decide) (fun c2 => ?_) (fun c2 => ?_)
          · rw [if_neg c2] at h
            exact ih.2.2.2.2.2.2.2.1 L σ r h H locs ls hP hD hS (lv_sub hl [0, 1, 2] rfl)
          · rw [if_pos c2] at h
            refine lv_aload_n hx hb dX12_step_50 rfl (lv_at hl 0 rfl) ?_
            refine lv_aload_n hx hb dX12_step_51 rfl (lv_at hl 0 rfl) ?_
            refine ng_60 hx hb hts in_x_step hown hK hP (hts _ (List.mem_cons_of_mem _ (List.mem_append_left _ (List.mem_append_left _ (List.mem_of_getElem? (i := 6) rfl))))) dX12_step_52 ?_
            refine lv_iconst (v := 0) hx hb dX12_step_55 (by decide) ?_
            obtain ⟨q3, h⟩ := nb_ite1 h
            refine nl_30 hx hb hK hP q3 dX12_step_56 ?_
            obtain ⟨r4, hc4, h⟩ := ob_ex h
            refine nc_Vv (As := [.int (σ.2.2 30 (0 : Int32).toNatClampNeg)]) (rest := []) ⟨hx, hb, hml, hown, hts⟩ (c_x_begin l dC dI cy a k (upd (fun _ => 0) 1 ((σ.2.2 30 (0 : Int32).toNatClampNeg))) σ r4 hc4 H.size) (cwV 1 hts g_x_step_begin_1068 rfl rfl rfl hd_x_begin ⟨Nat.le_of_ble_eq_true rfl, Nat.le_of_ble_eq_true rfl⟩) hK hG hA hP hD hS rfl hl.1 rfl (Nat.le_of_ble_eq_true rfl) dX12_step_57 ⟨Nat.le_refl _, Nat.le_refl _⟩ (fun H locs hP hD hS => ?_)
            refine lv_iinc (v := ((L 2)) + 1) (lv' := [(2, .int (((L 2)) + 1)), (0, .ref (a 0)), (1, .int (L 1))]) hx hb dX12_step_60 hl (k := 2) rfl rfl (by decide) rfl (fun ls hl => ?_)
            refine lv_goto (tgt := 38) hx hb dX12_step_63 (by decide) ?_
            exact ih.2.2.2.2.2.2.1 (upd L 2 (((L 2)) + 1)) r4.2 r h H locs ls hP hD hS (lv_sub hl [1, 2, 0] rfl)
      · intro L σ r h H locs ls hP hD hS hl
        rw [x_step] at h
        refine lv_aload_n hx hb dX12_step_66 rfl (lv_at hl 0 rfl) ?_
        refine ng_105 hx hb hts in_x_step hown hK hP (hts _ (List.mem_cons_of_mem _ (List.mem_append_left _ (List.mem_append_left _ (List.mem_of_getElem? (i := 10) rfl))))) dX12_step_67 ?_
        refine lv_if_le (tgt := 77) hx hb dX12_step_70 (by decide) (fun c1 => ?_) (fun c1 => ?_)
        · rw [if_pos c1] at h
          exact ih.2.2.2.2.2.2.2.2.1 L σ r h H locs ls hP hD hS (lv_sub hl [0, 1, 2] rfl)
        · rw [if_neg c1] at h
          refine lv_iconst (v := 2) hx hb dX12_step_73 (by decide) ?_
          refine lv_goto (tgt := 89) hx hb dX12_step_74 (by decide) ?_
          exact ih.2.2.2.2.2.2.2.2.2.2 (upd L 100 2) σ r h H locs ls hP hD hS (lv_sub hl [0, 1, 2] rfl)
      · intro L σ r h H locs ls hP hD hS hl
        rw [x_step] at h
        refine lv_aload_n hx hb dX12_step_77 rfl (lv_at hl 0 rfl) ?_
        refine ng_102 hx hb hts in_x_step hown hK hP (hts _ (List.mem_cons_of_mem _ (List.mem_append_left _ (List.mem_append_left _ (List.mem_of_getElem? (i := 5) rfl))))) dX12_step_78 ?_
        refine lv_if_eq (tgt := 88) hx hb dX12_step_81 (by decide) (fun c1 => ?_) (fun c1 => ?_)
        · rw [if_pos c1] at h
          exact ih.2.2.2.2.2.2.2.2.2.1 L σ r h H locs ls hP hD hS (lv_sub hl [0, 1, 2] rfl)
        · rw [if_neg c1] at h
          refine lv_iconst (v := 1) hx hb dX12_step_84 (by decide) ?_
          refine lv_goto (tgt := 89) hx hb dX12_step_85 (by decide) ?_
          exact ih.2.2.2.2.2.2.2.2.2.2 (upd L 100 1) σ r h H locs ls hP hD hS (lv_sub hl [0, 1, 2] rfl)
      · intro L σ r h H locs ls hP hD hS hl
        rw [x_step] at h
        refine lv_iconst (v := 0) hx hb dX12_step_88 (by decide) ?_
        exact ih.2.2.2.2.2.2.2.2.2.2 (upd L 100 0) σ r h H locs ls hP hD hS (lv_sub hl [0, 1, 2] rfl)
      · intro L σ r h H locs ls hP hD hS hl
        rw [x_step] at h
        cases h
        exact W.iret (v := (L 100)) hx hb hr (fun t ht hW => ⟨⟨(L 100), (), rfl, rfl, by rw [ht]; exact hP, va_K.moved hW.alike hK, hD⟩, hS.F ht⟩) hS.2.2 dX12_step_89
  exact (blk k0).1 L0 σ0 r0 h0 s.heap [] ls hP hD hS hl
/-! back -/
def x_back : Nat → Nat → (Nat → Int32) → MS → Option (Int32 × MS)
  | 0, _, _, _ => none
  | k + 1, 0, L, σ => if ((σ.1 112)) = 0 then (x_back k 4 (upd L 100 1) σ) else (x_back k 1 L σ)
  | k + 1, 1, L, σ => if ((L 1)) < 0 then (x_back k 2 L σ) else (if ((L 1)) ≤ ((σ.1 103)) then (x_back k 3 L σ) else (x_back k 2 L σ))
  | k + 1, 2, L, σ => x_back k 4 (upd L 100 2) σ
  | k + 1, 3, L, σ => x_back k 4 (upd L 100 0) σ
  | k + 1, 4, L, σ => ob (x_good k 0 (upd (fun _ => 0) 1 ((L 100))) σ) (fun r1 => if r1.1 = 0 then (some (0, r1.2)) else (x_back k 5 L r1.2))
  | k + 1, 5, L, σ => ob (x_reset k 0 (fun _ => 0) σ) (fun r1 => x_back k 6 (upd L 2 ((((σ.1 103)) - ((L 1))))) r1.2)
  | k + 1, 6, L, σ => if ((L 2)) ≤ ((σ.1 103)) then (x_back k 7 L σ) else (if ¬ ((0 : Int32) < 0 ∨ 11514 ≤ (0 : Int32).toNatClampNeg) then (ob (x_begin k 0 (upd (fun _ => 0) 1 ((σ.2.2 30 (0 : Int32).toNatClampNeg))) σ) (fun r3 => x_back k 6 L r3.2)) else none)
  | k + 1, 7, L, σ => some ((L 2), σ)
  | _ + 1, _ + 8, _, _ => none
def o_x_back : List Cond := [.fieldLink RX12 1044 "SetHouseModel" "isRun" "Z", .fieldLink RX12 907 "SetHouseModel" "begunCount" "I", .methodLink RX12 1050 yX12_good, .instanceMethod yX12_good, .selects RX12 yX12_good yX12_good, .initialized RX12, .methodLink RX12 1065 yX12_reset, .instanceMethod yX12_reset, .selects RX12 yX12_reset yX12_reset, .fieldLink RX12 395 "SetHouseModel" "st" "[I", .methodLink RX12 1068 yX12_begin, .instanceMethod yX12_begin, .selects RX12 yX12_begin yX12_begin]
theorem o_x_back_good : o_x_back.all goodWord = true := by decide +kernel
def p_x_back : List Cond := o_x_back ++ ((.code yX12_good cX12_good 2 (some .boolean) :: p_x_good) ++ ((.code yX12_reset cX12_reset 2 none :: p_x_reset) ++ ((.code yX12_begin cX12_begin 2 none :: p_x_begin) ++ [])))
theorem p_x_back_good : p_x_back.all goodWord = true := nb_all2 o_x_back_good (nb_all2 (nb_allc (by decide +kernel) p_x_good_good) (nb_all2 (nb_allc (by decide +kernel) p_x_reset_good) (nb_all2 (nb_allc (by decide +kernel) p_x_begin_good) rfl)))
def w_x_back : List Cond := .code yX12_back cX12_back 3 (some .int) :: (p_x_back ++ fM)
theorem w_x_back_good : w_x_back.all goodWord = true := nb_allc (by decide +kernel) (nb_all2 p_x_back_good fM_good)
theorem in_x_back : ∀ w ∈ wsX120, w ∈ w_x_back := fun _ h => List.mem_cons_of_mem _ (List.mem_append_right _ h)
theorem hd_x_back : yX12_back.cls = RX12 ∧ yX12_back.cls ≠ "java/lang/invoke/MethodHandle" ∧ yX12_back.cls ≠ "java/lang/invoke/VarHandle" ∧ (parseMethodDescriptor yX12_back.desc).map (fun d => d.parameters.length) = some 1 := by decide +kernel
theorem gg_x_back_begin : GoodIn w_x_back w_x_begin := goodIn_sub (fun w h => (List.mem_cons.mp h).elim (fun e => (List.mem_cons_of_mem _ (List.mem_append_left _ (List.mem_append_right _ (List.mem_append_right _ (List.mem_append_right _ (List.mem_append_left _ (List.mem_cons.mpr (Or.inl e))))))))) (fun h => (List.mem_append.mp h).elim (fun h => (List.mem_cons_of_mem _ (List.mem_append_left _ (List.mem_append_right _ (List.mem_append_right _ (List.mem_append_right _ (List.mem_append_left _ (List.mem_cons_of_mem _ h)))))))) (fun h => List.mem_cons_of_mem _ (List.mem_append_right _ h)))) w_x_begin_good
theorem g_x_back_begin_1068 : GoodIn w_x_back (wsV RX12 1068 RX12 yX12_begin w_x_begin) := goodIn_app (nb_g4 (List.mem_cons_of_mem _ (List.mem_append_left _ (List.mem_append_left _ (List.mem_of_getElem? (i := 10) rfl)))) (List.mem_cons_of_mem _ (List.mem_append_left _ (List.mem_append_left _ (List.mem_of_getElem? (i := 11) rfl)))) (List.mem_cons_of_mem _ (List.mem_append_left _ (List.mem_append_left _ (List.mem_of_getElem? (i := 12) rfl)))) (List.mem_cons_of_mem _ (List.mem_append_left _ (List.mem_append_left _ (List.mem_of_getElem? (i := 5) rfl)))) (by decide +kernel)) gg_x_back_begin
theorem gg_x_back_good : GoodIn w_x_back w_x_good := goodIn_sub (fun w h => (List.mem_cons.mp h).elim (fun e => (List.mem_cons_of_mem _ (List.mem_append_left _ (List.mem_append_right _ (List.mem_append_left _ (List.mem_cons.mpr (Or.inl e))))))) (fun h => (List.mem_append.mp h).elim (fun h => (List.mem_cons_of_mem _ (List.mem_append_left _ (List.mem_append_right _ (List.mem_append_left _ (List.mem_cons_of_mem _ h)))))) (fun h => List.mem_cons_of_mem _ (List.mem_append_right _ h)))) w_x_good_good
theorem g_x_back_good_1050 : GoodIn w_x_back (wsV RX12 1050 RX12 yX12_good w_x_good) := goodIn_app (nb_g4 (List.mem_cons_of_mem _ (List.mem_append_left _ (List.mem_append_left _ (List.mem_of_getElem? (i := 2) rfl)))) (List.mem_cons_of_mem _ (List.mem_append_left _ (List.mem_append_left _ (List.mem_of_getElem? (i := 3) rfl)))) (List.mem_cons_of_mem _ (List.mem_append_left _ (List.mem_append_left _ (List.mem_of_getElem? (i := 4) rfl)))) (List.mem_cons_of_mem _ (List.mem_append_left _ (List.mem_append_left _ (List.mem_of_getElem? (i := 5) rfl)))) (by decide +kernel)) gg_x_back_good
theorem gg_x_back_reset : GoodIn w_x_back w_x_reset := goodIn_sub (fun w h => (List.mem_cons.mp h).elim (fun e => (List.mem_cons_of_mem _ (List.mem_append_left _ (List.mem_append_right _ (List.mem_append_right _ (List.mem_append_left _ (List.mem_cons.mpr (Or.inl e)))))))) (fun h => (List.mem_append.mp h).elim (fun h => (List.mem_cons_of_mem _ (List.mem_append_left _ (List.mem_append_right _ (List.mem_append_right _ (List.mem_append_left _ (List.mem_cons_of_mem _ h))))))) (fun h => List.mem_cons_of_mem _ (List.mem_append_right _ h)))) w_x_reset_good
theorem g_x_back_reset_1065 : GoodIn w_x_back (wsV RX12 1065 RX12 yX12_reset w_x_reset) := goodIn_app (nb_g4 (List.mem_cons_of_mem _ (List.mem_append_left _ (List.mem_append_left _ (List.mem_of_getElem? (i := 6) rfl)))) (List.mem_cons_of_mem _ (List.mem_append_left _ (List.mem_append_left _ (List.mem_of_getElem? (i := 7) rfl)))) (List.mem_cons_of_mem _ (List.mem_append_left _ (List.mem_append_left _ (List.mem_of_getElem? (i := 8) rfl)))) (List.mem_cons_of_mem _ (List.mem_append_left _ (List.mem_append_left _ (List.mem_of_getElem? (i := 5) rfl)))) (by decide +kernel)) gg_x_back_reset
set_option maxHeartbeats 40000000 in
set_option maxRecDepth 100000 in
theorem c_x_back (l : Launch) (dC : Nat → ClassId) (dI : Nat → Nat → Nat) (cy : Nat → ClassId) (a : Nat → Nat) (k0 : Nat) (L0 : Nat → Int32) (σ0 : MS) (r0 : Int32 × MS) (h0 : x_back k0 0 L0 σ0 = some r0) (sz : Nat) : Met l yX12_back w_x_back ({ frames := 1368, cells := 0, slots := 0, locals := 36723 }) (va_Pc [.ref (a 0), .int (L0 1)] (nIn (dC, dI) cy sz (vM cy a σ0))) (va_Qi (fun (z : Int32) (_ : Unit) => z = r0.1) (fun _ t => nOut (dC, dI) cy (va_A (vM cy a σ0) sz) (vM cy a r0.2) t) (va_A (vM cy a σ0) sz)) 0 0 (va_A (vM cy a σ0) sz) := by
  refine Met.ofW (cc := cX12_back) (maxL := 3) (ret := (some .int)) (by decide) rfl ?_
  intro p e s m args below meth c s₁ B hml hv
  obtain ⟨rfl, hsz, hP, hK, hD0, hG⟩ := hv
  have hx := B.exec
  have hb := B.bytes
  have hr := B.returns
  have hts := atoms_spec (ws := w_x_back) B.pre
  have hown : s.vm.findClass RX12 = some m.cls := findClass_of_methodNamed B.named
  have hlocks := B.notSynchronized
  subst hsz
  have hD := hD0.self (sz := s.heap.size)
  generalize hAe : va_A (vM cy a σ0) s.heap.size = A at hD ⊢
  have hA : ∀ q : Nat, s.heap.size ≤ q → A q := fun q h => by rw [← hAe]; exact Or.inr h
  have hS : va_S A s.heap s.heap [] := va_S.rf
  have hl := lv_entry ([.ref (a 0), .int (L0 1)]) (n := 3) (Nat.le_of_ble_eq_true rfl)
  rw [lg_entry_eq]
  generalize (lg_sl ([.ref (a 0), .int (L0 1)]) ++ List.replicate (3 - (lg_sl ([.ref (a 0), .int (L0 1)])).length) Slot.unset).toArray = ls at hl ⊢
  have hl : lv_has ls 3 [(0, .ref (a 0)), (1, .int (L0 1))] := hl
  have blk : ∀ k : Nat, (bT p l e (headSpec w_x_back ({ frames := 1368, cells := 0, slots := 0, locals := 36723 })).room s m #[.ref (a 0), .int (L0 1)] below meth c dC dI cy a A (qI dC dI cy a A below #[.ref (a 0), .int (L0 1)] s) 3 (x_back k 0) (fun L => [(0, .ref (a 0)), (1, .int (L 1))]) 0 (fun L => [])) ∧ (bT p l e (headSpec w_x_back ({ frames := 1368, cells := 0, slots := 0, locals := 36723 })).room s m #[.ref (a 0), .int (L0 1)] below meth c dC dI cy a A (qI dC dI cy a A below #[.ref (a 0), .int (L0 1)] s) 3 (x_back k 1) (fun L => [(0, .ref (a 0)), (1, .int (L 1))]) 12 (fun L => [.ref (a 0)])) ∧ (bT p l e (headSpec w_x_back ({ frames := 1368, cells := 0, slots := 0, locals := 36723 })).room s m #[.ref (a 0), .int (L0 1)] below meth c dC dI cy a A (qI dC dI cy a A below #[.ref (a 0), .int (L0 1)] s) 3 (x_back k 2) (fun L => [(0, .ref (a 0)), (1, .int (L 1))]) 24 (fun L => [.ref (a 0)])) ∧ (bT p l e (headSpec w_x_back ({ frames := 1368, cells := 0, slots := 0, locals := 36723 })).room s m #[.ref (a 0), .int (L0 1)] below meth c dC dI cy a A (qI dC dI cy a A below #[.ref (a 0), .int (L0 1)] s) 3 (x_back k 3) (fun L => [(0, .ref (a 0)), (1, .int (L 1))]) 28 (fun L => [.ref (a 0)])) ∧ (bT p l e (headSpec w_x_back ({ frames := 1368, cells := 0, slots := 0, locals := 36723 })).room s m #[.ref (a 0), .int (L0 1)] below meth c dC dI cy a A (qI dC dI cy a A below #[.ref (a 0), .int (L0 1)] s) 3 (x_back k 4) (fun L => [(0, .ref (a 0)), (1, .int (L 1))]) 29 (fun L => [.int (L 100), .ref (a 0)])) ∧ (bT p l e (headSpec w_x_back ({ frames := 1368, cells := 0, slots := 0, locals := 36723 })).room s m #[.ref (a 0), .int (L0 1)] below meth c dC dI cy a A (qI dC dI cy a A below #[.ref (a 0), .int (L0 1)] s) 3 (x_back k 5) (fun L => [(0, .ref (a 0)), (1, .int (L 1))]) 37 (fun L => [])) ∧ (bT p l e (headSpec w_x_back ({ frames := 1368, cells := 0, slots := 0, locals := 36723 })).room s m #[.ref (a 0), .int (L0 1)] below meth c dC dI cy a A (qI dC dI cy a A below #[.ref (a 0), .int (L0 1)] s) 3 (x_back k 6) (fun L => [(0, .ref (a 0)), (1, .int (L 1)), (2, .int (L 2))]) 48 (fun L => [])) ∧ (bT p l e (headSpec w_x_back ({ frames := 1368, cells := 0, slots := 0, locals := 36723 })).room s m #[.ref (a 0), .int (L0 1)] below meth c dC dI cy a A (qI dC dI cy a A below #[.ref (a 0), .int (L0 1)] s) 3 (x_back k 7) (fun L => [(0, .ref (a 0)), (1, .int (L 1)), (2, .int (L 2))]) 69 (fun L => [])) := by
    intro k
    induction k with
    | zero => exact ⟨fun L σ r h => (by cases h), fun L σ r h => (by cases h), fun L σ r h => (by cases h), fun L σ r h => (by cases h), fun L σ r h => (by cases h), fun L σ r h => (by cases h), fun L σ r h => (by cases h), fun L σ r h => (by cases h)⟩
    | succ k ih =>
      refine ⟨?_, ?_, ?_, ?_, ?_, ?_, ?_, ?_⟩
      · intro L σ r h H locs ls hP hD hS hl
        rw [x_back] at h
        refine lv_aload_n hx hb dX12_back_0 rfl (lv_at hl 0 rfl) ?_
        refine lv_aload_n hx hb dX12_back_1 rfl (lv_at hl 0 rfl) ?_
        refine ng_112 hx hb hts in_x_back hown hK hP (hts _ (List.mem_cons_of_mem _ (List.mem_append_left _ (List.mem_append_left _ (List.mem_of_getElem? (i := 0) rfl))))) dX12_back_2 ?_
        refine lv_if_ne (tgt := 12) hx hb dX12_back_5 (by decide) (fun c1 => ?_) (fun c1 => ?_)
        · rw [if_neg c1] at h
          exact ih.2.1 L σ r h H locs ls hP hD hS (lv_sub hl [0, 1] rfl)
        · rw [if_pos c1] at h
          refine lv_iconst (v := 1) hx hb dX12_back_8 (by decide) ?_
          refine lv_goto (tgt := 29) hx hb dX12_back_9 (by decide) ?_
          exact ih.2.2.2.2.1 (upd L 100 1) σ r h H locs ls hP hD hS (lv_sub hl [0, 1] rfl)
      · intro L σ r h H locs ls hP hD hS hl
        rw [x_back] at h
        refine lv_iload_n hx hb dX12_back_12 rfl (lv_at hl 1 rfl) ?_
        refine lv_if_lt (tgt := 24) hx hb dX12_back_13 (by decide) (fun c1 => ?_) (fun c1 => ?_)
        · rw [if_pos c1] at h
          exact ih.2.2.1 L σ r h H locs ls hP hD hS (lv_sub hl [0, 1] rfl)
        · rw [if_neg c1] at h
          refine lv_iload_n hx hb dX12_back_16 rfl (lv_at hl 1 rfl) ?_
          refine lv_aload_n hx hb dX12_back_17 rfl (lv_at hl 0 rfl) ?_
          refine ng_103 hx hb hts in_x_back hown hK hP (hts _ (List.mem_cons_of_mem _ (List.mem_append_left _ (List.mem_append_left _ (List.mem_of_getElem? (i := 1) rfl))))) dX12_back_18 ?_
          refine lv_icmp_le (tgt := 28) hx hb dX12_back_21 (by decide) (fun c2 => ?_) (fun c2 => ?_)
          · rw [if_pos c2] at h
            exact ih.2.2.2.1 L σ r h H locs ls hP hD hS (lv_sub hl [0, 1] rfl)
          · rw [if_neg c2] at h
            exact ih.2.2.1 L σ r h H locs ls hP hD hS (lv_sub hl [0, 1] rfl)
      · intro L σ r h H locs ls hP hD hS hl
        rw [x_back] at h
        refine lv_iconst (v := 2) hx hb dX12_back_24 (by decide) ?_
        refine lv_goto (tgt := 29) hx hb dX12_back_25 (by decide) ?_
        exact ih.2.2.2.2.1 (upd L 100 2) σ r h H locs ls hP hD hS (lv_sub hl [0, 1] rfl)
      · intro L σ r h H locs ls hP hD hS hl
        rw [x_back] at h
        refine lv_iconst (v := 0) hx hb dX12_back_28 (by decide) ?_
        exact ih.2.2.2.2.1 (upd L 100 0) σ r h H locs ls hP hD hS (lv_sub hl [0, 1] rfl)
      · intro L σ r h H locs ls hP hD hS hl
        rw [x_back] at h
        obtain ⟨r1, hc1, h⟩ := ob_ex h
        refine nc_Vi (As := [.int (L 100)]) (rest := []) ⟨hx, hb, hml, hown, hts⟩ (c_x_good l dC dI cy a k (upd (fun _ => 0) 1 ((L 100))) σ r1 hc1 H.size) (cwV 1 hts g_x_back_good_1050 rfl rfl rfl hd_x_good ⟨Nat.le_of_ble_eq_true rfl, Nat.le_of_ble_eq_true rfl⟩) hK hG hA hP hD hS rfl hl.1 rfl (Nat.le_of_ble_eq_true rfl) dX12_back_29 ⟨Nat.le_refl _, Nat.le_refl _⟩ (fun H locs hP hD hS => ?_)
        refine lv_if_ne (tgt := 37) hx hb dX12_back_32 (by decide) (fun c2 => ?_) (fun c2 => ?_)
        · rw [if_neg c2] at h
          exact ih.2.2.2.2.2.1 L r1.2 r h H locs ls hP hD hS (lv_sub hl [0, 1] rfl)
        · rw [if_pos c2] at h
          refine lv_iconst (v := 0) hx hb dX12_back_35 (by decide) ?_
          cases h
          exact W.iret (v := 0) hx hb hr (fun t ht hW => ⟨⟨0, (), rfl, rfl, by rw [ht]; exact hP, va_K.moved hW.alike hK, hD⟩, hS.F ht⟩) hS.2.2 dX12_back_36
      · intro L σ r h H locs ls hP hD hS hl
        rw [x_back] at h
        refine lv_aload_n hx hb dX12_back_37 rfl (lv_at hl 0 rfl) ?_
        refine ng_103 hx hb hts in_x_back hown hK hP (hts _ (List.mem_cons_of_mem _ (List.mem_append_left _ (List.mem_append_left _ (List.mem_of_getElem? (i := 1) rfl))))) dX12_back_38 ?_
        refine lv_iload_n hx hb dX12_back_41 rfl (lv_at hl 1 rfl) ?_
        refine lv_isub hx hb dX12_back_42 ?_
        refine lv_istore_n (lv' := [(2, .int (((σ.1 103)) - ((L 1)))), (0, .ref (a 0)), (1, .int (L 1))]) hx hb dX12_back_43 rfl hl (by decide) rfl (fun ls hl => ?_)
        refine lv_aload_n hx hb dX12_back_44 rfl (lv_at hl 1 rfl) ?_
        obtain ⟨r1, hc1, h⟩ := ob_ex h
        refine nc_Vv (As := []) (rest := []) ⟨hx, hb, hml, hown, hts⟩ (c_x_reset l dC dI cy a k (fun _ => 0) σ r1 hc1 H.size) (cwV 0 hts g_x_back_reset_1065 rfl rfl rfl hd_x_reset ⟨Nat.le_of_ble_eq_true rfl, Nat.le_of_ble_eq_true rfl⟩) hK hG hA hP hD hS rfl hl.1 rfl (Nat.le_of_ble_eq_true rfl) dX12_back_45 ⟨Nat.le_refl _, Nat.le_refl _⟩ (fun H locs hP hD hS => ?_)
        exact ih.2.2.2.2.2.2.1 (upd L 2 ((((σ.1 103)) - ((L 1))))) r1.2 r h H locs ls hP hD hS (lv_sub hl [1, 2, 0] rfl)
      · intro L σ r h H locs ls hP hD hS hl
        rw [x_back] at h
        refine lv_aload_n hx hb dX12_back_48 rfl (lv_at hl 0 rfl) ?_
        refine ng_103 hx hb hts in_x_back hown hK hP (hts _ (List.mem_cons_of_mem _ (List.mem_append_left _ (List.mem_append_left _ (List.mem_of_getElem? (i := 1) rfl))))) dX12_back_49 ?_
        refine lv_iload_n hx hb dX12_back_52 rfl (lv_at hl 2 rfl) ?_
        refine lv_icmp_ge (tgt := 69) hx hb dX12_back_53 (by decide) (fun c1 => ?_) (fun c1 => ?_)
        · rw [if_pos c1] at h
          exact ih.2.2.2.2.2.2.2 L σ r h H locs ls hP hD hS (lv_sub hl [0, 1, 2] rfl)
        · rw [if_neg c1] at h
          refine lv_aload_n hx hb dX12_back_56 rfl (lv_at hl 0 rfl) ?_
          refine lv_aload_n hx hb dX12_back_57 rfl (lv_at hl 0 rfl) ?_
          refine ng_60 hx hb hts in_x_back hown hK hP (hts _ (List.mem_cons_of_mem _ (List.mem_append_left _ (List.mem_append_left _ (List.mem_of_getElem? (i := 9) rfl))))) dX12_back_58 ?_
          refine lv_iconst (v := 0) hx hb dX12_back_61 (by decide) ?_
          obtain ⟨q2, h⟩ := nb_ite1 h
          refine nl_30 hx hb hK hP q2 dX12_back_62 ?_
          obtain ⟨r3, hc3, h⟩ := ob_ex h
          refine nc_Vv (As := [.int (σ.2.2 30 (0 : Int32).toNatClampNeg)]) (rest := []) ⟨hx, hb, hml, hown, hts⟩ (c_x_begin l dC dI cy a k (upd (fun _ => 0) 1 ((σ.2.2 30 (0 : Int32).toNatClampNeg))) σ r3 hc3 H.size) (cwV 1 hts g_x_back_begin_1068 rfl rfl rfl hd_x_begin ⟨Nat.le_of_ble_eq_true rfl, Nat.le_of_ble_eq_true rfl⟩) hK hG hA hP hD hS rfl hl.1 rfl (Nat.le_of_ble_eq_true rfl) dX12_back_63 ⟨Nat.le_refl _, Nat.le_refl _⟩ (fun H locs hP hD hS => ?_)
          refine lv_goto (tgt := 48) hx hb dX12_back_66 (by decide) ?_
          exact ih.2.2.2.2.2.2.1 L r3.2 r h H locs ls hP hD hS (lv_sub hl [0, 1, 2] rfl)
      · intro L σ r h H locs ls hP hD hS hl
        rw [x_back] at h
        refine lv_iload_n hx hb dX12_back_69 rfl (lv_at hl 2 rfl) ?_
        cases h
        exact W.iret (v := (L 2)) hx hb hr (fun t ht hW => ⟨⟨(L 2), (), rfl, rfl, by rw [ht]; exact hP, va_K.moved hW.alike hK, hD⟩, hS.F ht⟩) hS.2.2 dX12_back_70
  exact (blk k0).1 L0 σ0 r0 h0 s.heap [] ls hP hD hS hl
/-! state -/
def x_state : Nat → Nat → (Nat → Int32) → MS → Option (Int32 × MS)
  | 0, _, _, _ => none
  | k + 1, 0, L, σ => if ((L 1)) < 0 then (x_state k 1 L σ) else (if ((L 1)) ≤ 9 then (x_state k 2 L σ) else (x_state k 1 L σ))
  | k + 1, 1, L, σ => x_state k 4 (upd L 100 1) σ
  | k + 1, 2, L, σ => if ((σ.1 112)) = 0 then (x_state k 4 (upd L 100 2) σ) else (x_state k 3 L σ)
  | k + 1, 3, L, σ => x_state k 4 (upd L 100 0) σ
  | k + 1, 4, L, σ => ob (x_good k 0 (upd (fun _ => 0) 1 ((L 100))) σ) (fun r1 => if r1.1 = 0 then (some (0, r1.2)) else (x_state k 5 L r1.2))
  | k + 1, 5, L, σ => if ((L 1)) = (0 : Int32) then (x_state k 6 L σ) else (if ((L 1)) = (1 : Int32) then (x_state k 7 L σ) else (if ((L 1)) = (2 : Int32) then (x_state k 8 L σ) else (if ((L 1)) = (3 : Int32) then (x_state k 9 L σ) else (if ((L 1)) = (4 : Int32) then (x_state k 10 L σ) else (if ((L 1)) = (5 : Int32) then (x_state k 11 L σ) else (if ((L 1)) = (6 : Int32) then (x_state k 12 L σ) else (if ((L 1)) = (7 : Int32) then (x_state k 13 L σ) else (if ((L 1)) = (8 : Int32) then (x_state k 14 L σ) else (x_state k 18 L σ)))))))))
  | k + 1, 6, L, σ => some ((σ.1 103), σ)
  | k + 1, 7, L, σ => some ((σ.1 106), σ)
  | k + 1, 8, L, σ => some ((σ.1 105), σ)
  | k + 1, 9, L, σ => some ((σ.1 104), σ)
  | k + 1, 10, L, σ => if ¬ ((1 : Int32) < 0 ∨ 11514 ≤ (1 : Int32).toNatClampNeg) then (some ((σ.2.2 30 (1 : Int32).toNatClampNeg), σ)) else none
  | k + 1, 11, L, σ => some ((σ.1 63), σ)
  | k + 1, 12, L, σ => some ((((σ.1 64)) + ((σ.1 65))), σ)
  | k + 1, 13, L, σ => some ((σ.1 95), σ)
  | k + 1, 14, L, σ => if ((σ.1 105)) ≤ 0 then (x_state k 15 L σ) else (x_state k 17 (upd L 100 2) σ)
  | k + 1, 15, L, σ => if ((σ.1 102)) = 0 then (x_state k 16 L σ) else (x_state k 17 (upd L 100 1) σ)
  | k + 1, 16, L, σ => x_state k 17 (upd L 100 0) σ
  | k + 1, 17, L, σ => some ((L 100), σ)
  | k + 1, 18, L, σ => some ((σ.1 108), σ)
  | _ + 1, _ + 19, _, _ => none
def o_x_state : List Cond := [.fieldLink RX12 1044 "SetHouseModel" "isRun" "Z", .methodLink RX12 1050 yX12_good, .instanceMethod yX12_good, .selects RX12 yX12_good yX12_good, .initialized RX12, .fieldLink RX12 907 "SetHouseModel" "begunCount" "I", .fieldLink RX12 977 "SetHouseModel" "outSize" "I", .fieldLink RX12 959 "SetHouseModel" "error" "I", .fieldLink RX12 910 "SetHouseModel" "lastPlace" "I", .fieldLink RX12 395 "SetHouseModel" "st" "[I", .fieldLink RX12 402 "SetHouseModel" "points" "I", .fieldLink RX12 852 "SetHouseModel" "total" "I", .fieldLink RX12 855 "SetHouseModel" "pointsTotal" "I", .fieldLink RX12 681 "SetHouseModel" "atoms" "I", .fieldLink RX12 868 "SetHouseModel" "ended" "Z", .fieldLink RX12 956 "SetHouseModel" "workOfStatement" "I"]
theorem o_x_state_good : o_x_state.all goodWord = true := by decide +kernel
def p_x_state : List Cond := o_x_state ++ ((.code yX12_good cX12_good 2 (some .boolean) :: p_x_good) ++ [])
theorem p_x_state_good : p_x_state.all goodWord = true := nb_all2 o_x_state_good (nb_all2 (nb_allc (by decide +kernel) p_x_good_good) rfl)
def w_x_state : List Cond := .code yX12_state cX12_state 2 (some .int) :: (p_x_state ++ fM)
theorem w_x_state_good : w_x_state.all goodWord = true := nb_allc (by decide +kernel) (nb_all2 p_x_state_good fM_good)
theorem in_x_state : ∀ w ∈ wsX120, w ∈ w_x_state := fun _ h => List.mem_cons_of_mem _ (List.mem_append_right _ h)
theorem hd_x_state : yX12_state.cls = RX12 ∧ yX12_state.cls ≠ "java/lang/invoke/MethodHandle" ∧ yX12_state.cls ≠ "java/lang/invoke/VarHandle" ∧ (parseMethodDescriptor yX12_state.desc).map (fun d => d.parameters.length) = some 1 := by decide +kernel
theorem gg_x_state_good : GoodIn w_x_state w_x_good := goodIn_sub (fun w h => (List.mem_cons.mp h).elim (fun e => (List.mem_cons_of_mem _ (List.mem_append_left _ (List.mem_append_right _ (List.mem_append_left _ (List.mem_cons.mpr (Or.inl e))))))) (fun h => (List.mem_append.mp h).elim (fun h => (List.mem_cons_of_mem _ (List.mem_append_left _ (List.mem_append_right _ (List.mem_append_left _ (List.mem_cons_of_mem _ h)))))) (fun h => List.mem_cons_of_mem _ (List.mem_append_right _ h)))) w_x_good_good
theorem g_x_state_good_1050 : GoodIn w_x_state (wsV RX12 1050 RX12 yX12_good w_x_good) := goodIn_app (nb_g4 (List.mem_cons_of_mem _ (List.mem_append_left _ (List.mem_append_left _ (List.mem_of_getElem? (i := 1) rfl)))) (List.mem_cons_of_mem _ (List.mem_append_left _ (List.mem_append_left _ (List.mem_of_getElem? (i := 2) rfl)))) (List.mem_cons_of_mem _ (List.mem_append_left _ (List.mem_append_left _ (List.mem_of_getElem? (i := 3) rfl)))) (List.mem_cons_of_mem _ (List.mem_append_left _ (List.mem_append_left _ (List.mem_of_getElem? (i := 4) rfl)))) (by decide +kernel)) gg_x_state_good
set_option maxHeartbeats 40000000 in
set_option maxRecDepth 100000 in
theorem c_x_state (l : Launch) (dC : Nat → ClassId) (dI : Nat → Nat → Nat) (cy : Nat → ClassId) (a : Nat → Nat) (k0 : Nat) (L0 : Nat → Int32) (σ0 : MS) (r0 : Int32 × MS) (h0 : x_state k0 0 L0 σ0 = some r0) (sz : Nat) : Met l yX12_state w_x_state ({ frames := 1, cells := 0, slots := 0, locals := 21 }) (va_Pc [.ref (a 0), .int (L0 1)] (nIn (dC, dI) cy sz (vM cy a σ0))) (va_Qi (fun (z : Int32) (_ : Unit) => z = r0.1) (fun _ t => nOut (dC, dI) cy (va_A (vM cy a σ0) sz) (vM cy a r0.2) t) (va_A (vM cy a σ0) sz)) 0 0 (va_A (vM cy a σ0) sz) := by
  refine Met.ofW (cc := cX12_state) (maxL := 2) (ret := (some .int)) (by decide) rfl ?_
  intro p e s m args below meth c s₁ B hml hv
  obtain ⟨rfl, hsz, hP, hK, hD0, hG⟩ := hv
  have hx := B.exec
  have hb := B.bytes
  have hr := B.returns
  have hts := atoms_spec (ws := w_x_state) B.pre
  have hown : s.vm.findClass RX12 = some m.cls := findClass_of_methodNamed B.named
  have hlocks := B.notSynchronized
  subst hsz
  have hD := hD0.self (sz := s.heap.size)
  generalize hAe : va_A (vM cy a σ0) s.heap.size = A at hD ⊢
  have hA : ∀ q : Nat, s.heap.size ≤ q → A q := fun q h => by rw [← hAe]; exact Or.inr h
  have hS : va_S A s.heap s.heap [] := va_S.rf
  have hl := lv_entry ([.ref (a 0), .int (L0 1)]) (n := 2) (Nat.le_of_ble_eq_true rfl)
  rw [lg_entry_eq]
  generalize (lg_sl ([.ref (a 0), .int (L0 1)]) ++ List.replicate (2 - (lg_sl ([.ref (a 0), .int (L0 1)])).length) Slot.unset).toArray = ls at hl ⊢
  have hl : lv_has ls 2 [(0, .ref (a 0)), (1, .int (L0 1))] := hl
  have blk : ∀ k : Nat, (bT p l e (headSpec w_x_state ({ frames := 1, cells := 0, slots := 0, locals := 21 })).room s m #[.ref (a 0), .int (L0 1)] below meth c dC dI cy a A (qI dC dI cy a A below #[.ref (a 0), .int (L0 1)] s) 2 (x_state k 0) (fun L => [(0, .ref (a 0)), (1, .int (L 1))]) 0 (fun L => [])) ∧ (bT p l e (headSpec w_x_state ({ frames := 1, cells := 0, slots := 0, locals := 21 })).room s m #[.ref (a 0), .int (L0 1)] below meth c dC dI cy a A (qI dC dI cy a A below #[.ref (a 0), .int (L0 1)] s) 2 (x_state k 1) (fun L => [(0, .ref (a 0)), (1, .int (L 1))]) 11 (fun L => [.ref (a 0)])) ∧ (bT p l e (headSpec w_x_state ({ frames := 1, cells := 0, slots := 0, locals := 21 })).room s m #[.ref (a 0), .int (L0 1)] below meth c dC dI cy a A (qI dC dI cy a A below #[.ref (a 0), .int (L0 1)] s) 2 (x_state k 2) (fun L => [(0, .ref (a 0)), (1, .int (L 1))]) 15 (fun L => [.ref (a 0)])) ∧ (bT p l e (headSpec w_x_state ({ frames := 1, cells := 0, slots := 0, locals := 21 })).room s m #[.ref (a 0), .int (L0 1)] below meth c dC dI cy a A (qI dC dI cy a A below #[.ref (a 0), .int (L0 1)] s) 2 (x_state k 3) (fun L => [(0, .ref (a 0)), (1, .int (L 1))]) 26 (fun L => [.ref (a 0)])) ∧ (bT p l e (headSpec w_x_state ({ frames := 1, cells := 0, slots := 0, locals := 21 })).room s m #[.ref (a 0), .int (L0 1)] below meth c dC dI cy a A (qI dC dI cy a A below #[.ref (a 0), .int (L0 1)] s) 2 (x_state k 4) (fun L => [(0, .ref (a 0)), (1, .int (L 1))]) 27 (fun L => [.int (L 100), .ref (a 0)])) ∧ (bT p l e (headSpec w_x_state ({ frames := 1, cells := 0, slots := 0, locals := 21 })).room s m #[.ref (a 0), .int (L0 1)] below meth c dC dI cy a A (qI dC dI cy a A below #[.ref (a 0), .int (L0 1)] s) 2 (x_state k 5) (fun L => [(0, .ref (a 0)), (1, .int (L 1))]) 35 (fun L => [])) ∧ (bT p l e (headSpec w_x_state ({ frames := 1, cells := 0, slots := 0, locals := 21 })).room s m #[.ref (a 0), .int (L0 1)] below meth c dC dI cy a A (qI dC dI cy a A below #[.ref (a 0), .int (L0 1)] s) 2 (x_state k 6) (fun L => [(0, .ref (a 0)), (1, .int (L 1))]) 88 (fun L => [])) ∧ (bT p l e (headSpec w_x_state ({ frames := 1, cells := 0, slots := 0, locals := 21 })).room s m #[.ref (a 0), .int (L0 1)] below meth c dC dI cy a A (qI dC dI cy a A below #[.ref (a 0), .int (L0 1)] s) 2 (x_state k 7) (fun L => [(0, .ref (a 0)), (1, .int (L 1))]) 93 (fun L => [])) ∧ (bT p l e (headSpec w_x_state ({ frames := 1, cells := 0, slots := 0, locals := 21 })).room s m #[.ref (a 0), .int (L0 1)] below meth c dC dI cy a A (qI dC dI cy a A below #[.ref (a 0), .int (L0 1)] s) 2 (x_state k 8) (fun L => [(0, .ref (a 0)), (1, .int (L 1))]) 98 (fun L => [])) ∧ (bT p l e (headSpec w_x_state ({ frames := 1, cells := 0, slots := 0, locals := 21 })).room s m #[.ref (a 0), .int (L0 1)] below meth c dC dI cy a A (qI dC dI cy a A below #[.ref (a 0), .int (L0 1)] s) 2 (x_state k 9) (fun L => [(0, .ref (a 0)), (1, .int (L 1))]) 103 (fun L => [])) ∧ (bT p l e (headSpec w_x_state ({ frames := 1, cells := 0, slots := 0, locals := 21 })).room s m #[.ref (a 0), .int (L0 1)] below meth c dC dI cy a A (qI dC dI cy a A below #[.ref (a 0), .int (L0 1)] s) 2 (x_state k 10) (fun L => [(0, .ref (a 0)), (1, .int (L 1))]) 108 (fun L => [])) ∧ (bT p l e (headSpec w_x_state ({ frames := 1, cells := 0, slots := 0, locals := 21 })).room s m #[.ref (a 0), .int (L0 1)] below meth c dC dI cy a A (qI dC dI cy a A below #[.ref (a 0), .int (L0 1)] s) 2 (x_state k 11) (fun L => [(0, .ref (a 0)), (1, .int (L 1))]) 115 (fun L => [])) ∧ (bT p l e (headSpec w_x_state ({ frames := 1, cells := 0, slots := 0, locals := 21 })).room s m #[.ref (a 0), .int (L0 1)] below meth c dC dI cy a A (qI dC dI cy a A below #[.ref (a 0), .int (L0 1)] s) 2 (x_state k 12) (fun L => [(0, .ref (a 0)), (1, .int (L 1))]) 120 (fun L => [])) ∧ (bT p l e (headSpec w_x_state ({ frames := 1, cells := 0, slots := 0, locals := 21 })).room s m #[.ref (a 0), .int (L0 1)] below meth c dC dI cy a A (qI dC dI cy a A below #[.ref (a 0), .int (L0 1)] s) 2 (x_state k 13) (fun L => [(0, .ref (a 0)), (1, .int (L 1))]) 130 (fun L => [])) ∧ (bT p l e (headSpec w_x_state ({ frames := 1, cells := 0, slots := 0, locals := 21 })).room s m #[.ref (a 0), .int (L0 1)] below meth c dC dI cy a A (qI dC dI cy a A below #[.ref (a 0), .int (L0 1)] s) 2 (x_state k 14) (fun L => [(0, .ref (a 0)), (1, .int (L 1))]) 135 (fun L => [])) ∧ (bT p l e (headSpec w_x_state ({ frames := 1, cells := 0, slots := 0, locals := 21 })).room s m #[.ref (a 0), .int (L0 1)] below meth c dC dI cy a A (qI dC dI cy a A below #[.ref (a 0), .int (L0 1)] s) 2 (x_state k 15) (fun L => [(0, .ref (a 0)), (1, .int (L 1))]) 146 (fun L => [])) ∧ (bT p l e (headSpec w_x_state ({ frames := 1, cells := 0, slots := 0, locals := 21 })).room s m #[.ref (a 0), .int (L0 1)] below meth c dC dI cy a A (qI dC dI cy a A below #[.ref (a 0), .int (L0 1)] s) 2 (x_state k 16) (fun L => [(0, .ref (a 0)), (1, .int (L 1))]) 157 (fun L => [])) ∧ (bT p l e (headSpec w_x_state ({ frames := 1, cells := 0, slots := 0, locals := 21 })).room s m #[.ref (a 0), .int (L0 1)] below meth c dC dI cy a A (qI dC dI cy a A below #[.ref (a 0), .int (L0 1)] s) 2 (x_state k 17) (fun L => [(0, .ref (a 0)), (1, .int (L 1))]) 158 (fun L => [.int (L 100)])) ∧ (bT p l e (headSpec w_x_state ({ frames := 1, cells := 0, slots := 0, locals := 21 })).room s m #[.ref (a 0), .int (L0 1)] below meth c dC dI cy a A (qI dC dI cy a A below #[.ref (a 0), .int (L0 1)] s) 2 (x_state k 18) (fun L => [(0, .ref (a 0)), (1, .int (L 1))]) 159 (fun L => [])) := by
    intro k
    induction k with
    | zero => exact ⟨fun L σ r h => (by cases h), fun L σ r h => (by cases h), fun L σ r h => (by cases h), fun L σ r h => (by cases h), fun L σ r h => (by cases h), fun L σ r h => (by cases h), fun L σ r h => (by cases h), fun L σ r h => (by cases h), fun L σ r h => (by cases h), fun L σ r h => (by cases h), fun L σ r h => (by cases h), fun L σ r h => (by cases h), fun L σ r h => (by cases h), fun L σ r h => (by cases h), fun L σ r h => (by cases h), fun L σ r h => (by cases h), fun L σ r h => (by cases h), fun L σ r h => (by cases h), fun L σ r h => (by cases h)⟩
    | succ k ih =>
      refine ⟨?_, ?_, ?_, ?_, ?_, ?_, ?_, ?_, ?_, ?_, ?_, ?_, ?_, ?_, ?_, ?_, ?_, ?_, ?_⟩
      · intro L σ r h H locs ls hP hD hS hl
        rw [x_state] at h
        refine lv_aload_n hx hb dX12_state_0 rfl (lv_at hl 0 rfl) ?_
        refine lv_iload_n hx hb dX12_state_1 rfl (lv_at hl 1 rfl) ?_
        refine lv_if_lt (tgt := 11) hx hb dX12_state_2 (by decide) (fun c1 => ?_) (fun c1 => ?_)
        · rw [if_pos c1] at h
          exact ih.2.1 L σ r h H locs ls hP hD hS (lv_sub hl [0, 1] rfl)
        · rw [if_neg c1] at h
          refine lv_iload_n hx hb dX12_state_5 rfl (lv_at hl 1 rfl) ?_
          refine lv_bipush (v := 9) hx hb dX12_state_6 (by decide) ?_
          refine lv_icmp_le (tgt := 15) hx hb dX12_state_8 (by decide) (fun c2 => ?_) (fun c2 => ?_)
          · rw [if_pos c2] at h
            exact ih.2.2.1 L σ r h H locs ls hP hD hS (lv_sub hl [0, 1] rfl)
          · rw [if_neg c2] at h
            exact ih.2.1 L σ r h H locs ls hP hD hS (lv_sub hl [0, 1] rfl)
      · intro L σ r h H locs ls hP hD hS hl
        rw [x_state] at h
        refine lv_iconst (v := 1) hx hb dX12_state_11 (by decide) ?_
        refine lv_goto (tgt := 27) hx hb dX12_state_12 (by decide) ?_
        exact ih.2.2.2.2.1 (upd L 100 1) σ r h H locs ls hP hD hS (lv_sub hl [0, 1] rfl)
      · intro L σ r h H locs ls hP hD hS hl
        rw [x_state] at h
        refine lv_aload_n hx hb dX12_state_15 rfl (lv_at hl 0 rfl) ?_
        refine ng_112 hx hb hts in_x_state hown hK hP (hts _ (List.mem_cons_of_mem _ (List.mem_append_left _ (List.mem_append_left _ (List.mem_of_getElem? (i := 0) rfl))))) dX12_state_16 ?_
        refine lv_if_ne (tgt := 26) hx hb dX12_state_19 (by decide) (fun c1 => ?_) (fun c1 => ?_)
        · rw [if_neg c1] at h
          exact ih.2.2.2.1 L σ r h H locs ls hP hD hS (lv_sub hl [0, 1] rfl)
        · rw [if_pos c1] at h
          refine lv_iconst (v := 2) hx hb dX12_state_22 (by decide) ?_
          refine lv_goto (tgt := 27) hx hb dX12_state_23 (by decide) ?_
          exact ih.2.2.2.2.1 (upd L 100 2) σ r h H locs ls hP hD hS (lv_sub hl [0, 1] rfl)
      · intro L σ r h H locs ls hP hD hS hl
        rw [x_state] at h
        refine lv_iconst (v := 0) hx hb dX12_state_26 (by decide) ?_
        exact ih.2.2.2.2.1 (upd L 100 0) σ r h H locs ls hP hD hS (lv_sub hl [0, 1] rfl)
      · intro L σ r h H locs ls hP hD hS hl
        rw [x_state] at h
        obtain ⟨r1, hc1, h⟩ := ob_ex h
        refine nc_Vi (As := [.int (L 100)]) (rest := []) ⟨hx, hb, hml, hown, hts⟩ (c_x_good l dC dI cy a k (upd (fun _ => 0) 1 ((L 100))) σ r1 hc1 H.size) (cwV 1 hts g_x_state_good_1050 rfl rfl rfl hd_x_good ⟨Nat.le_of_ble_eq_true rfl, Nat.le_of_ble_eq_true rfl⟩) hK hG hA hP hD hS rfl hl.1 rfl (Nat.le_of_ble_eq_true rfl) dX12_state_27 ⟨Nat.le_refl _, Nat.le_refl _⟩ (fun H locs hP hD hS => ?_)
        refine lv_if_ne (tgt := 35) hx hb dX12_state_30 (by decide) (fun c2 => ?_) (fun c2 => ?_)
        · rw [if_neg c2] at h
          exact ih.2.2.2.2.2.1 L r1.2 r h H locs ls hP hD hS (lv_sub hl [0, 1] rfl)
        · rw [if_pos c2] at h
          refine lv_iconst (v := 0) hx hb dX12_state_33 (by decide) ?_
          cases h
          exact W.iret (v := 0) hx hb hr (fun t ht hW => ⟨⟨0, (), rfl, rfl, by rw [ht]; exact hP, va_K.moved hW.alike hK, hD⟩, hS.F ht⟩) hS.2.2 dX12_state_34
      · intro L σ r h H locs ls hP hD hS hl
        rw [x_state] at h
        refine lv_iload_n hx hb dX12_state_35 rfl (lv_at hl 1 rfl) ?_
        by_cases q1 : ((L 1)) = (0 : Int32)
        · rw [if_pos q1] at h
          refine lv_tableIn (off := 52) (tgt := 88) hx hb dX12_state_36 (by rw [q1]; decide) (by rw [q1]; decide) (by rw [q1]; decide) (by decide) ?_
          exact ih.2.2.2.2.2.2.1 L σ r h H locs ls hP hD hS (lv_sub hl [0, 1] rfl)
        · rw [if_neg q1] at h
          by_cases q2 : ((L 1)) = (1 : Int32)
          · rw [if_pos q2] at h
            refine lv_tableIn (off := 57) (tgt := 93) hx hb dX12_state_36 (by rw [q2]; decide) (by rw [q2]; decide) (by rw [q2]; decide) (by decide) ?_
            exact ih.2.2.2.2.2.2.2.1 L σ r h H locs ls hP hD hS (lv_sub hl [0, 1] rfl)
          · rw [if_neg q2] at h
            by_cases q3 : ((L 1)) = (2 : Int32)
            · rw [if_pos q3] at h
              refine lv_tableIn (off := 62) (tgt := 98) hx hb dX12_state_36 (by rw [q3]; decide) (by rw [q3]; decide) (by rw [q3]; decide) (by decide) ?_
              exact ih.2.2.2.2.2.2.2.2.1 L σ r h H locs ls hP hD hS (lv_sub hl [0, 1] rfl)
            · rw [if_neg q3] at h
              by_cases q4 : ((L 1)) = (3 : Int32)
              · rw [if_pos q4] at h
                refine lv_tableIn (off := 67) (tgt := 103) hx hb dX12_state_36 (by rw [q4]; decide) (by rw [q4]; decide) (by rw [q4]; decide) (by decide) ?_
                exact ih.2.2.2.2.2.2.2.2.2.1 L σ r h H locs ls hP hD hS (lv_sub hl [0, 1] rfl)
              · rw [if_neg q4] at h
                by_cases q5 : ((L 1)) = (4 : Int32)
                · rw [if_pos q5] at h
                  refine lv_tableIn (off := 72) (tgt := 108) hx hb dX12_state_36 (by rw [q5]; decide) (by rw [q5]; decide) (by rw [q5]; decide) (by decide) ?_
                  exact ih.2.2.2.2.2.2.2.2.2.2.1 L σ r h H locs ls hP hD hS (lv_sub hl [0, 1] rfl)
                · rw [if_neg q5] at h
                  by_cases q6 : ((L 1)) = (5 : Int32)
                  · rw [if_pos q6] at h
                    refine lv_tableIn (off := 79) (tgt := 115) hx hb dX12_state_36 (by rw [q6]; decide) (by rw [q6]; decide) (by rw [q6]; decide) (by decide) ?_
                    exact ih.2.2.2.2.2.2.2.2.2.2.2.1 L σ r h H locs ls hP hD hS (lv_sub hl [0, 1] rfl)
                  · rw [if_neg q6] at h
                    by_cases q7 : ((L 1)) = (6 : Int32)
                    · rw [if_pos q7] at h
                      refine lv_tableIn (off := 84) (tgt := 120) hx hb dX12_state_36 (by rw [q7]; decide) (by rw [q7]; decide) (by rw [q7]; decide) (by decide) ?_
                      exact ih.2.2.2.2.2.2.2.2.2.2.2.2.1 L σ r h H locs ls hP hD hS (lv_sub hl [0, 1] rfl)
                    · rw [if_neg q7] at h
                      by_cases q8 : ((L 1)) = (7 : Int32)
                      · rw [if_pos q8] at h
                        refine lv_tableIn (off := 94) (tgt := 130) hx hb dX12_state_36 (by rw [q8]; decide) (by rw [q8]; decide) (by rw [q8]; decide) (by decide) ?_
                        exact ih.2.2.2.2.2.2.2.2.2.2.2.2.2.1 L σ r h H locs ls hP hD hS (lv_sub hl [0, 1] rfl)
                      · rw [if_neg q8] at h
                        by_cases q9 : ((L 1)) = (8 : Int32)
                        · rw [if_pos q9] at h
                          refine lv_tableIn (off := 99) (tgt := 135) hx hb dX12_state_36 (by rw [q9]; decide) (by rw [q9]; decide) (by rw [q9]; decide) (by decide) ?_
                          exact ih.2.2.2.2.2.2.2.2.2.2.2.2.2.2.1 L σ r h H locs ls hP hD hS (lv_sub hl [0, 1] rfl)
                        · rw [if_neg q9] at h
                          have nq1 : ¬ ((L 1)).toInt = 0 := nb_ti q1 rfl
                          have nq2 : ¬ ((L 1)).toInt = 1 := nb_ti q2 rfl
                          have nq3 : ¬ ((L 1)).toInt = 2 := nb_ti q3 rfl
                          have nq4 : ¬ ((L 1)).toInt = 3 := nb_ti q4 rfl
                          have nq5 : ¬ ((L 1)).toInt = 4 := nb_ti q5 rfl
                          have nq6 : ¬ ((L 1)).toInt = 5 := nb_ti q6 rfl
                          have nq7 : ¬ ((L 1)).toInt = 6 := nb_ti q7 rfl
                          have nq8 : ¬ ((L 1)).toInt = 7 := nb_ti q8 rfl
                          have nq9 : ¬ ((L 1)).toInt = 8 := nb_ti q9 rfl
                          refine lv_tableOut (tgt := 159) hx hb dX12_state_36 (by omega) (by decide) ?_
                          exact ih.2.2.2.2.2.2.2.2.2.2.2.2.2.2.2.2.2.2 L σ r h H locs ls hP hD hS (lv_sub hl [0, 1] rfl)
      · intro L σ r h H locs ls hP hD hS hl
        rw [x_state] at h
        refine lv_aload_n hx hb dX12_state_88 rfl (lv_at hl 0 rfl) ?_
        refine ng_103 hx hb hts in_x_state hown hK hP (hts _ (List.mem_cons_of_mem _ (List.mem_append_left _ (List.mem_append_left _ (List.mem_of_getElem? (i := 5) rfl))))) dX12_state_89 ?_
        cases h
        exact W.iret (v := (σ.1 103)) hx hb hr (fun t ht hW => ⟨⟨(σ.1 103), (), rfl, rfl, by rw [ht]; exact hP, va_K.moved hW.alike hK, hD⟩, hS.F ht⟩) hS.2.2 dX12_state_92
      · intro L σ r h H locs ls hP hD hS hl
        rw [x_state] at h
        refine lv_aload_n hx hb dX12_state_93 rfl (lv_at hl 0 rfl) ?_
        refine ng_106 hx hb hts in_x_state hown hK hP (hts _ (List.mem_cons_of_mem _ (List.mem_append_left _ (List.mem_append_left _ (List.mem_of_getElem? (i := 6) rfl))))) dX12_state_94 ?_
        cases h
        exact W.iret (v := (σ.1 106)) hx hb hr (fun t ht hW => ⟨⟨(σ.1 106), (), rfl, rfl, by rw [ht]; exact hP, va_K.moved hW.alike hK, hD⟩, hS.F ht⟩) hS.2.2 dX12_state_97
      · intro L σ r h H locs ls hP hD hS hl
        rw [x_state] at h
        refine lv_aload_n hx hb dX12_state_98 rfl (lv_at hl 0 rfl) ?_
        refine ng_105 hx hb hts in_x_state hown hK hP (hts _ (List.mem_cons_of_mem _ (List.mem_append_left _ (List.mem_append_left _ (List.mem_of_getElem? (i := 7) rfl))))) dX12_state_99 ?_
        cases h
        exact W.iret (v := (σ.1 105)) hx hb hr (fun t ht hW => ⟨⟨(σ.1 105), (), rfl, rfl, by rw [ht]; exact hP, va_K.moved hW.alike hK, hD⟩, hS.F ht⟩) hS.2.2 dX12_state_102
      · intro L σ r h H locs ls hP hD hS hl
        rw [x_state] at h
        refine lv_aload_n hx hb dX12_state_103 rfl (lv_at hl 0 rfl) ?_
        refine ng_104 hx hb hts in_x_state hown hK hP (hts _ (List.mem_cons_of_mem _ (List.mem_append_left _ (List.mem_append_left _ (List.mem_of_getElem? (i := 8) rfl))))) dX12_state_104 ?_
        cases h
        exact W.iret (v := (σ.1 104)) hx hb hr (fun t ht hW => ⟨⟨(σ.1 104), (), rfl, rfl, by rw [ht]; exact hP, va_K.moved hW.alike hK, hD⟩, hS.F ht⟩) hS.2.2 dX12_state_107
      · intro L σ r h H locs ls hP hD hS hl
        rw [x_state] at h
        refine lv_aload_n hx hb dX12_state_108 rfl (lv_at hl 0 rfl) ?_
        refine ng_60 hx hb hts in_x_state hown hK hP (hts _ (List.mem_cons_of_mem _ (List.mem_append_left _ (List.mem_append_left _ (List.mem_of_getElem? (i := 9) rfl))))) dX12_state_109 ?_
        refine lv_iconst (v := 1) hx hb dX12_state_112 (by decide) ?_
        obtain ⟨q1, h⟩ := nb_ite1 h
        refine nl_30 hx hb hK hP q1 dX12_state_113 ?_
        cases h
        exact W.iret (v := (σ.2.2 30 (1 : Int32).toNatClampNeg)) hx hb hr (fun t ht hW => ⟨⟨(σ.2.2 30 (1 : Int32).toNatClampNeg), (), rfl, rfl, by rw [ht]; exact hP, va_K.moved hW.alike hK, hD⟩, hS.F ht⟩) hS.2.2 dX12_state_114
      · intro L σ r h H locs ls hP hD hS hl
        rw [x_state] at h
        refine lv_aload_n hx hb dX12_state_115 rfl (lv_at hl 0 rfl) ?_
        refine ng_63 hx hb hts in_x_state hown hK hP (hts _ (List.mem_cons_of_mem _ (List.mem_append_left _ (List.mem_append_left _ (List.mem_of_getElem? (i := 10) rfl))))) dX12_state_116 ?_
        cases h
        exact W.iret (v := (σ.1 63)) hx hb hr (fun t ht hW => ⟨⟨(σ.1 63), (), rfl, rfl, by rw [ht]; exact hP, va_K.moved hW.alike hK, hD⟩, hS.F ht⟩) hS.2.2 dX12_state_119
      · intro L σ r h H locs ls hP hD hS hl
        rw [x_state] at h
        refine lv_aload_n hx hb dX12_state_120 rfl (lv_at hl 0 rfl) ?_
        refine ng_64 hx hb hts in_x_state hown hK hP (hts _ (List.mem_cons_of_mem _ (List.mem_append_left _ (List.mem_append_left _ (List.mem_of_getElem? (i := 11) rfl))))) dX12_state_121 ?_
        refine lv_aload_n hx hb dX12_state_124 rfl (lv_at hl 0 rfl) ?_
        refine ng_65 hx hb hts in_x_state hown hK hP (hts _ (List.mem_cons_of_mem _ (List.mem_append_left _ (List.mem_append_left _ (List.mem_of_getElem? (i := 12) rfl))))) dX12_state_125 ?_
        refine lv_iadd hx hb dX12_state_128 ?_
        cases h
        exact W.iret (v := (((σ.1 64)) + ((σ.1 65)))) hx hb hr (fun t ht hW => ⟨⟨(((σ.1 64)) + ((σ.1 65))), (), rfl, rfl, by rw [ht]; exact hP, va_K.moved hW.alike hK, hD⟩, hS.F ht⟩) hS.2.2 dX12_state_129
      · intro L σ r h H locs ls hP hD hS hl
        rw [x_state] at h
        refine lv_aload_n hx hb dX12_state_130 rfl (lv_at hl 0 rfl) ?_
        refine ng_95 hx hb hts in_x_state hown hK hP (hts _ (List.mem_cons_of_mem _ (List.mem_append_left _ (List.mem_append_left _ (List.mem_of_getElem? (i := 13) rfl))))) dX12_state_131 ?_
        cases h
        exact W.iret (v := (σ.1 95)) hx hb hr (fun t ht hW => ⟨⟨(σ.1 95), (), rfl, rfl, by rw [ht]; exact hP, va_K.moved hW.alike hK, hD⟩, hS.F ht⟩) hS.2.2 dX12_state_134
      · intro L σ r h H locs ls hP hD hS hl
        rw [x_state] at h
        refine lv_aload_n hx hb dX12_state_135 rfl (lv_at hl 0 rfl) ?_
        refine ng_105 hx hb hts in_x_state hown hK hP (hts _ (List.mem_cons_of_mem _ (List.mem_append_left _ (List.mem_append_left _ (List.mem_of_getElem? (i := 7) rfl))))) dX12_state_136 ?_
        refine lv_if_le (tgt := 146) hx hb dX12_state_139 (by decide) (fun c1 => ?_) (fun c1 => ?_)
        · rw [if_pos c1] at h
          exact ih.2.2.2.2.2.2.2.2.2.2.2.2.2.2.2.1 L σ r h H locs ls hP hD hS (lv_sub hl [0, 1] rfl)
        · rw [if_neg c1] at h
          refine lv_iconst (v := 2) hx hb dX12_state_142 (by decide) ?_
          refine lv_goto (tgt := 158) hx hb dX12_state_143 (by decide) ?_
          exact ih.2.2.2.2.2.2.2.2.2.2.2.2.2.2.2.2.2.1 (upd L 100 2) σ r h H locs ls hP hD hS (lv_sub hl [0, 1] rfl)
      · intro L σ r h H locs ls hP hD hS hl
        rw [x_state] at h
        refine lv_aload_n hx hb dX12_state_146 rfl (lv_at hl 0 rfl) ?_
        refine ng_102 hx hb hts in_x_state hown hK hP (hts _ (List.mem_cons_of_mem _ (List.mem_append_left _ (List.mem_append_left _ (List.mem_of_getElem? (i := 14) rfl))))) dX12_state_147 ?_
        refine lv_if_eq (tgt := 157) hx hb dX12_state_150 (by decide) (fun c1 => ?_) (fun c1 => ?_)
        · rw [if_pos c1] at h
          exact ih.2.2.2.2.2.2.2.2.2.2.2.2.2.2.2.2.1 L σ r h H locs ls hP hD hS (lv_sub hl [0, 1] rfl)
        · rw [if_neg c1] at h
          refine lv_iconst (v := 1) hx hb dX12_state_153 (by decide) ?_
          refine lv_goto (tgt := 158) hx hb dX12_state_154 (by decide) ?_
          exact ih.2.2.2.2.2.2.2.2.2.2.2.2.2.2.2.2.2.1 (upd L 100 1) σ r h H locs ls hP hD hS (lv_sub hl [0, 1] rfl)
      · intro L σ r h H locs ls hP hD hS hl
        rw [x_state] at h
        refine lv_iconst (v := 0) hx hb dX12_state_157 (by decide) ?_
        exact ih.2.2.2.2.2.2.2.2.2.2.2.2.2.2.2.2.2.1 (upd L 100 0) σ r h H locs ls hP hD hS (lv_sub hl [0, 1] rfl)
      · intro L σ r h H locs ls hP hD hS hl
        rw [x_state] at h
        cases h
        exact W.iret (v := (L 100)) hx hb hr (fun t ht hW => ⟨⟨(L 100), (), rfl, rfl, by rw [ht]; exact hP, va_K.moved hW.alike hK, hD⟩, hS.F ht⟩) hS.2.2 dX12_state_158
      · intro L σ r h H locs ls hP hD hS hl
        rw [x_state] at h
        refine lv_aload_n hx hb dX12_state_159 rfl (lv_at hl 0 rfl) ?_
        refine ng_108 hx hb hts in_x_state hown hK hP (hts _ (List.mem_cons_of_mem _ (List.mem_append_left _ (List.mem_append_left _ (List.mem_of_getElem? (i := 15) rfl))))) dX12_state_160 ?_
        cases h
        exact W.iret (v := (σ.1 108)) hx hb hr (fun t ht hW => ⟨⟨(σ.1 108), (), rfl, rfl, by rw [ht]; exact hP, va_K.moved hW.alike hK, hD⟩, hS.F ht⟩) hS.2.2 dX12_state_163
  exact (blk k0).1 L0 σ0 r0 h0 s.heap [] ls hP hD hS hl

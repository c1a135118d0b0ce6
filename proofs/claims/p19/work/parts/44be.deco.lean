/-! backTrack -/
def x_backTrack : Nat → Nat → (Nat → Int32) → MS → Option (Int32 × MS)
  | 0, _, _, _ => none
  | k + 1, 0, L, σ => if ((σ.1 63)) = 0 then (ob (x_fail k 0 (upd (fun _ => 0) 1 10) σ) (fun r2 => some (0, r2.2))) else (x_backTrack k 1 L σ)
  | k + 1, 1, L, σ => x_backTrack k 2 L (upd σ.1 63 ((((σ.1 63)) - 1)), σ.2.1, σ.2.2)
  | k + 1, 2, L, σ => if ¬ (((σ.1 63)) < 0 ∨ 20 ≤ ((σ.1 63)).toNatClampNeg) then (x_backTrack k 3 L (upd σ.1 65 ((((σ.1 65)) - ((σ.2.2 32 ((σ.1 63)).toNatClampNeg)))), σ.2.1, σ.2.2)) else none
  | k + 1, 3, L, σ => x_backTrack k 4 (upd L 1 0) σ
  | k + 1, 4, L, σ => if 11514 ≤ ((L 1)) then (x_backTrack k 6 L σ) else (if ¬ (((((11514 * ((σ.1 63)))) + ((L 1)))) < 0 ∨ 230280 ≤ ((((11514 * ((σ.1 63)))) + ((L 1)))).toNatClampNeg) then (if ¬ (((L 1)) < 0 ∨ 11514 ≤ ((L 1)).toNatClampNeg) then (x_backTrack k 5 L (σ.1, σ.2.1, updG σ.2.2 30 (upd (σ.2.2 30) ((L 1)).toNatClampNeg ((σ.2.2 31 ((((11514 * ((σ.1 63)))) + ((L 1)))).toNatClampNeg))))) else none) else none)
  | k + 1, 5, L, σ => x_backTrack k 4 (upd L 1 (((L 1)) + 1)) σ
  | k + 1, 6, L, σ => if ¬ (((σ.1 63)) < 0 ∨ 20 ≤ ((σ.1 63)).toNatClampNeg) then (x_backTrack k 7 L (upd σ.1 64 ((σ.2.2 32 ((σ.1 63)).toNatClampNeg)), σ.2.1, σ.2.2)) else none
  | k + 1, 7, L, σ => if ¬ ((0 : Int32) < 0 ∨ 11514 ≤ (0 : Int32).toNatClampNeg) then (if ¬ (((σ.2.2 30 (0 : Int32).toNatClampNeg)) < 0 ∨ 70000 ≤ ((σ.2.2 30 (0 : Int32).toNatClampNeg)).toNatClampNeg) then (if ((σ.2.2 4 ((σ.2.2 30 (0 : Int32).toNatClampNeg)).toNatClampNeg)) = 44 then (if ¬ (((σ.2.2 30 (0 : Int32).toNatClampNeg)) < 0 ∨ 70000 ≤ ((σ.2.2 30 (0 : Int32).toNatClampNeg)).toNatClampNeg) then (ob (x_assign k 0 (upd (upd (fun _ => 0) 1 ((σ.2.2 5 ((σ.2.2 30 (0 : Int32).toNatClampNeg)).toNatClampNeg))) 2 1) σ) (fun r5 => ob (x_pass k 0 (upd (fun _ => 0) 1 ((σ.2.2 30 (0 : Int32).toNatClampNeg))) r5.2) (fun r6 => x_backTrack k 9 (upd L 1 ((σ.2.2 30 (0 : Int32).toNatClampNeg))) r6.2))) else none) else (x_backTrack k 8 (upd L 1 ((σ.2.2 30 (0 : Int32).toNatClampNeg))) σ)) else none) else none
  | k + 1, 8, L, σ => if ¬ (((L 1)) < 0 ∨ 70000 ≤ ((L 1)).toNatClampNeg) then (if ¬ (((σ.2.2 5 ((L 1)).toNatClampNeg)) < 0 ∨ 70000 ≤ ((σ.2.2 5 ((L 1)).toNatClampNeg)).toNatClampNeg) then (ob (x_decide k 0 (upd (upd (fun _ => 0) 1 ((L 1))) 2 ((σ.2.2 9 ((σ.2.2 5 ((L 1)).toNatClampNeg)).toNatClampNeg))) σ) (fun r3 => x_backTrack k 9 L r3.2)) else none) else none
  | k + 1, 9, L, σ => some (0, σ)
  | _ + 1, _ + 10, _, _ => none
def o_x_backTrack : List Cond := [.fieldLink RX12 402 "SetHouseModel" "points" "I", .methodLink RX12 369 yX12_fail, .instanceMethod yX12_fail, .selects RX12 yX12_fail yX12_fail, .initialized RX12, .fieldLink RX12 855 "SetHouseModel" "pointsTotal" "I", .fieldLink RX12 968 "SetHouseModel" "savedTotal" "[I", .fieldLink RX12 395 "SetHouseModel" "st" "[I", .fieldLink RX12 405 "SetHouseModel" "saved" "[I", .fieldLink RX12 852 "SetHouseModel" "total" "I", .fieldLink RX12 83 "SetHouseModel" "op" "[I", .fieldLink RX12 86 "SetHouseModel" "x1" "[I", .methodLink RX12 840 yX12_assign, .instanceMethod yX12_assign, .selects RX12 yX12_assign yX12_assign, .methodLink RX12 926 yX12_pass, .instanceMethod yX12_pass, .selects RX12 yX12_pass yX12_pass, .fieldLink RX12 98 "SetHouseModel" "next" "[I", .methodLink RX12 932 yX12_decide, .instanceMethod yX12_decide, .selects RX12 yX12_decide yX12_decide]
theorem o_x_backTrack_good : o_x_backTrack.all goodWord = true := by decide +kernel
def p_x_backTrack : List Cond := o_x_backTrack ++ ((.code yX12_fail cX12_fail 2 none :: p_x_fail) ++ ((.code yX12_assign cX12_assign 4 none :: p_x_assign) ++ ((.code yX12_pass cX12_pass 2 none :: p_x_pass) ++ ((.code yX12_decide cX12_decide 5 none :: p_x_decide) ++ []))))
theorem p_x_backTrack_good : p_x_backTrack.all goodWord = true := nb_all2 o_x_backTrack_good (nb_all2 (nb_allc (by decide +kernel) p_x_fail_good) (nb_all2 (nb_allc (by decide +kernel) p_x_assign_good) (nb_all2 (nb_allc (by decide +kernel) p_x_pass_good) (nb_all2 (nb_allc (by decide +kernel) p_x_decide_good) rfl))))
def w_x_backTrack : List Cond := .code yX12_backTrack cX12_backTrack 2 none :: (p_x_backTrack ++ fM)
theorem w_x_backTrack_good : w_x_backTrack.all goodWord = true := nb_allc (by decide +kernel) (nb_all2 p_x_backTrack_good fM_good)
theorem in_x_backTrack : ∀ w ∈ wsX120, w ∈ w_x_backTrack := fun _ h => List.mem_cons_of_mem _ (List.mem_append_right _ h)
theorem hd_x_backTrack : yX12_backTrack.cls = RX12 ∧ yX12_backTrack.cls ≠ "java/lang/invoke/MethodHandle" ∧ yX12_backTrack.cls ≠ "java/lang/invoke/VarHandle" ∧ (parseMethodDescriptor yX12_backTrack.desc).map (fun d => d.parameters.length) = some 0 := by decide +kernel
theorem gg_x_backTrack_assign : GoodIn w_x_backTrack w_x_assign := goodIn_sub (fun w h => (List.mem_cons.mp h).elim (fun e => (List.mem_cons_of_mem _ (List.mem_append_left _ (List.mem_append_right _ (List.mem_append_right _ (List.mem_append_left _ (List.mem_cons.mpr (Or.inl e)))))))) (fun h => (List.mem_append.mp h).elim (fun h => (List.mem_cons_of_mem _ (List.mem_append_left _ (List.mem_append_right _ (List.mem_append_right _ (List.mem_append_left _ (List.mem_cons_of_mem _ h))))))) (fun h => List.mem_cons_of_mem _ (List.mem_append_right _ h)))) w_x_assign_good
theorem g_x_backTrack_assign_840 : GoodIn w_x_backTrack (wsV RX12 840 RX12 yX12_assign w_x_assign) := goodIn_app (nb_g4 (List.mem_cons_of_mem _ (List.mem_append_left _ (List.mem_append_left _ (List.mem_of_getElem? (i := 12) rfl)))) (List.mem_cons_of_mem _ (List.mem_append_left _ (List.mem_append_left _ (List.mem_of_getElem? (i := 13) rfl)))) (List.mem_cons_of_mem _ (List.mem_append_left _ (List.mem_append_left _ (List.mem_of_getElem? (i := 14) rfl)))) (List.mem_cons_of_mem _ (List.mem_append_left _ (List.mem_append_left _ (List.mem_of_getElem? (i := 4) rfl)))) (by decide +kernel)) gg_x_backTrack_assign
theorem gg_x_backTrack_decide : GoodIn w_x_backTrack w_x_decide := goodIn_sub (fun w h => (List.mem_cons.mp h).elim (fun e => (List.mem_cons_of_mem _ (List.mem_append_left _ (List.mem_append_right _ (List.mem_append_right _ (List.mem_append_right _ (List.mem_append_right _ (List.mem_append_left _ (List.mem_cons.mpr (Or.inl e)))))))))) (fun h => (List.mem_append.mp h).elim (fun h => (List.mem_cons_of_mem _ (List.mem_append_left _ (List.mem_append_right _ (List.mem_append_right _ (List.mem_append_right _ (List.mem_append_right _ (List.mem_append_left _ (List.mem_cons_of_mem _ h))))))))) (fun h => List.mem_cons_of_mem _ (List.mem_append_right _ h)))) w_x_decide_good
theorem g_x_backTrack_decide_932 : GoodIn w_x_backTrack (wsV RX12 932 RX12 yX12_decide w_x_decide) := goodIn_app (nb_g4 (List.mem_cons_of_mem _ (List.mem_append_left _ (List.mem_append_left _ (List.mem_of_getElem? (i := 19) rfl)))) (List.mem_cons_of_mem _ (List.mem_append_left _ (List.mem_append_left _ (List.mem_of_getElem? (i := 20) rfl)))) (List.mem_cons_of_mem _ (List.mem_append_left _ (List.mem_append_left _ (List.mem_of_getElem? (i := 21) rfl)))) (List.mem_cons_of_mem _ (List.mem_append_left _ (List.mem_append_left _ (List.mem_of_getElem? (i := 4) rfl)))) (by decide +kernel)) gg_x_backTrack_decide
theorem gg_x_backTrack_fail : GoodIn w_x_backTrack w_x_fail := goodIn_sub (fun w h => (List.mem_cons.mp h).elim (fun e => (List.mem_cons_of_mem _ (List.mem_append_left _ (List.mem_append_right _ (List.mem_append_left _ (List.mem_cons.mpr (Or.inl e))))))) (fun h => (List.mem_append.mp h).elim (fun h => (List.mem_cons_of_mem _ (List.mem_append_left _ (List.mem_append_right _ (List.mem_append_left _ (List.mem_cons_of_mem _ h)))))) (fun h => List.mem_cons_of_mem _ (List.mem_append_right _ h)))) w_x_fail_good
theorem g_x_backTrack_fail_369 : GoodIn w_x_backTrack (wsV RX12 369 RX12 yX12_fail w_x_fail) := goodIn_app (nb_g4 (List.mem_cons_of_mem _ (List.mem_append_left _ (List.mem_append_left _ (List.mem_of_getElem? (i := 1) rfl)))) (List.mem_cons_of_mem _ (List.mem_append_left _ (List.mem_append_left _ (List.mem_of_getElem? (i := 2) rfl)))) (List.mem_cons_of_mem _ (List.mem_append_left _ (List.mem_append_left _ (List.mem_of_getElem? (i := 3) rfl)))) (List.mem_cons_of_mem _ (List.mem_append_left _ (List.mem_append_left _ (List.mem_of_getElem? (i := 4) rfl)))) (by decide +kernel)) gg_x_backTrack_fail
theorem gg_x_backTrack_pass : GoodIn w_x_backTrack w_x_pass := goodIn_sub (fun w h => (List.mem_cons.mp h).elim (fun e => (List.mem_cons_of_mem _ (List.mem_append_left _ (List.mem_append_right _ (List.mem_append_right _ (List.mem_append_right _ (List.mem_append_left _ (List.mem_cons.mpr (Or.inl e))))))))) (fun h => (List.mem_append.mp h).elim (fun h => (List.mem_cons_of_mem _ (List.mem_append_left _ (List.mem_append_right _ (List.mem_append_right _ (List.mem_append_right _ (List.mem_append_left _ (List.mem_cons_of_mem _ h)))))))) (fun h => List.mem_cons_of_mem _ (List.mem_append_right _ h)))) w_x_pass_good
theorem g_x_backTrack_pass_926 : GoodIn w_x_backTrack (wsV RX12 926 RX12 yX12_pass w_x_pass) := goodIn_app (nb_g4 (List.mem_cons_of_mem _ (List.mem_append_left _ (List.mem_append_left _ (List.mem_of_getElem? (i := 15) rfl)))) (List.mem_cons_of_mem _ (List.mem_append_left _ (List.mem_append_left _ (List.mem_of_getElem? (i := 16) rfl)))) (List.mem_cons_of_mem _ (List.mem_append_left _ (List.mem_append_left _ (List.mem_of_getElem? (i := 17) rfl)))) (List.mem_cons_of_mem _ (List.mem_append_left _ (List.mem_append_left _ (List.mem_of_getElem? (i := 4) rfl)))) (by decide +kernel)) gg_x_backTrack_pass
set_option maxHeartbeats 40000000 in
set_option maxRecDepth 100000 in
theorem c_x_backTrack (l : Launch) (dC : Nat → ClassId) (dI : Nat → Nat → Nat) (cy : Nat → ClassId) (a : Nat → Nat) (k0 : Nat) (L0 : Nat → Int32) (σ0 : MS) (r0 : Int32 × MS) (h0 : x_backTrack k0 0 L0 σ0 = some r0) (sz : Nat) : Met l yX12_backTrack w_x_backTrack ({ frames := 1366, cells := 0, slots := 0, locals := 36681 }) (va_Pc [.ref (a 0)] (nIn (dC, dI) cy sz (vM cy a σ0))) (va_Qv (fun _ : Unit => True) (fun _ t => nOut (dC, dI) cy (va_A (vM cy a σ0) sz) (vM cy a r0.2) t) (va_A (vM cy a σ0) sz)) 0 0 (va_A (vM cy a σ0) sz) := by
  refine Met.ofW (cc := cX12_backTrack) (maxL := 2) (ret := none) (by decide) rfl ?_
  intro p e s m args below meth c s₁ B hml hv
  obtain ⟨rfl, hsz, hP, hK, hD0, hG⟩ := hv
  have hx := B.exec
  have hb := B.bytes
  have hr := B.returns
  have hts := atoms_spec (ws := w_x_backTrack) B.pre
  have hown : s.vm.findClass RX12 = some m.cls := findClass_of_methodNamed B.named
  have hlocks := B.notSynchronized
  subst hsz
  have hD := hD0.self (sz := s.heap.size)
  generalize hAe : va_A (vM cy a σ0) s.heap.size = A at hD ⊢
  have hA : ∀ q : Nat, s.heap.size ≤ q → A q := fun q h => by rw [← hAe]; exact Or.inr h
  have hS : va_S A s.heap s.heap [] := va_S.rf
  have hl := lv_entry ([.ref (a 0)]) (n := 2) (Nat.le_of_ble_eq_true rfl)
  rw [lg_entry_eq]
  generalize (lg_sl ([.ref (a 0)]) ++ List.replicate (2 - (lg_sl ([.ref (a 0)])).length) Slot.unset).toArray = ls at hl ⊢
  have hl : lv_has ls 2 [(0, .ref (a 0))] := hl
  have blk : ∀ k : Nat, (bT p l e (headSpec w_x_backTrack ({ frames := 1366, cells := 0, slots := 0, locals := 36681 })).room s m #[.ref (a 0)] below meth c dC dI cy a A (qV dC dI cy a A below #[.ref (a 0)] s) 2 (x_backTrack k 0) (fun L => [(0, .ref (a 0))]) 0 (fun L => [])) ∧ (bT p l e (headSpec w_x_backTrack ({ frames := 1366, cells := 0, slots := 0, locals := 36681 })).room s m #[.ref (a 0)] below meth c dC dI cy a A (qV dC dI cy a A below #[.ref (a 0)] s) 2 (x_backTrack k 1) (fun L => [(0, .ref (a 0))]) 14 (fun L => [])) ∧ (bT p l e (headSpec w_x_backTrack ({ frames := 1366, cells := 0, slots := 0, locals := 36681 })).room s m #[.ref (a 0)] below meth c dC dI cy a A (qV dC dI cy a A below #[.ref (a 0)] s) 2 (x_backTrack k 2) (fun L => [(0, .ref (a 0))]) 24 (fun L => [])) ∧ (bT p l e (headSpec w_x_backTrack ({ frames := 1366, cells := 0, slots := 0, locals := 36681 })).room s m #[.ref (a 0)] below meth c dC dI cy a A (qV dC dI cy a A below #[.ref (a 0)] s) 2 (x_backTrack k 3) (fun L => [(0, .ref (a 0))]) 42 (fun L => [])) ∧ (bT p l e (headSpec w_x_backTrack ({ frames := 1366, cells := 0, slots := 0, locals := 36681 })).room s m #[.ref (a 0)] below meth c dC dI cy a A (qV dC dI cy a A below #[.ref (a 0)] s) 2 (x_backTrack k 4) (fun L => [(0, .ref (a 0)), (1, .int (L 1))]) 44 (fun L => [])) ∧ (bT p l e (headSpec w_x_backTrack ({ frames := 1366, cells := 0, slots := 0, locals := 36681 })).room s m #[.ref (a 0)] below meth c dC dI cy a A (qV dC dI cy a A below #[.ref (a 0)] s) 2 (x_backTrack k 5) (fun L => [(0, .ref (a 0)), (1, .int (L 1))]) 72 (fun L => [])) ∧ (bT p l e (headSpec w_x_backTrack ({ frames := 1366, cells := 0, slots := 0, locals := 36681 })).room s m #[.ref (a 0)] below meth c dC dI cy a A (qV dC dI cy a A below #[.ref (a 0)] s) 2 (x_backTrack k 6) (fun L => [(0, .ref (a 0)), (1, .int (L 1))]) 78 (fun L => [])) ∧ (bT p l e (headSpec w_x_backTrack ({ frames := 1366, cells := 0, slots := 0, locals := 36681 })).room s m #[.ref (a 0)] below meth c dC dI cy a A (qV dC dI cy a A below #[.ref (a 0)] s) 2 (x_backTrack k 7) (fun L => [(0, .ref (a 0)), (1, .int (L 1))]) 91 (fun L => [])) ∧ (bT p l e (headSpec w_x_backTrack ({ frames := 1366, cells := 0, slots := 0, locals := 36681 })).room s m #[.ref (a 0)] below meth c dC dI cy a A (qV dC dI cy a A below #[.ref (a 0)] s) 2 (x_backTrack k 8) (fun L => [(0, .ref (a 0)), (1, .int (L 1))]) 128 (fun L => [])) ∧ (bT p l e (headSpec w_x_backTrack ({ frames := 1366, cells := 0, slots := 0, locals := 36681 })).room s m #[.ref (a 0)] below meth c dC dI cy a A (qV dC dI cy a A below #[.ref (a 0)] s) 2 (x_backTrack k 9) (fun L => [(0, .ref (a 0)), (1, .int (L 1))]) 144 (fun L => [])) := by
    intro k
    induction k with
    | zero => exact ⟨fun L σ r h => (by cases h), fun L σ r h => (by cases h), fun L σ r h => (by cases h), fun L σ r h => (by cases h), fun L σ r h => (by cases h), fun L σ r h => (by cases h), fun L σ r h => (by cases h), fun L σ r h => (by cases h), fun L σ r h => (by cases h), fun L σ r h => (by cases h)⟩
    | succ k ih =>
      refine ⟨?_, ?_, ?_, ?_, ?_, ?_, ?_, ?_, ?_, ?_⟩
      · intro L σ r h H locs ls hP hD hS hl
        rw [x_backTrack] at h
        refine lv_aload_n hx hb dX12_backTrack_0 rfl (lv_at hl 0 rfl) ?_
        refine ng_63 hx hb hts in_x_backTrack hown hK hP (hts _ (List.mem_cons_of_mem _ (List.mem_append_left _ (List.mem_append_left _ (List.mem_of_getElem? (i := 0) rfl))))) dX12_backTrack_1 ?_
        refine lv_if_ne (tgt := 14) hx hb dX12_backTrack_4 (by decide) (fun c1 => ?_) (fun c1 => ?_)
        · rw [if_neg c1] at h
          exact ih.2.1 L σ r h H locs ls hP hD hS (lv_sub hl [0] rfl)
        · rw [if_pos c1] at h
          refine lv_aload_n hx hb dX12_backTrack_7 rfl (lv_at hl 0 rfl) ?_
          refine lv_bipush (v := 10) hx hb dX12_backTrack_8 (by decide) ?_
          obtain ⟨r2, hc2, h⟩ := ob_ex h
          refine nc_Vv (As := [.int 10]) (rest := []) ⟨hx, hb, hml, hown, hts⟩ (c_x_fail l dC dI cy a k (upd (fun _ => 0) 1 10) σ r2 hc2 H.size) (cwV 1 hts g_x_backTrack_fail_369 rfl rfl rfl hd_x_fail ⟨Nat.le_of_ble_eq_true rfl, Nat.le_of_ble_eq_true rfl⟩) hK hG hA hP hD hS rfl hl.1 rfl (Nat.le_of_ble_eq_true rfl) dX12_backTrack_10 ⟨Nat.le_refl _, Nat.le_refl _⟩ (fun H locs hP hD hS => ?_)
          cases h
          exact W.vret hx hb hr (fun t ht hW => ⟨⟨(), rfl, trivial, by rw [ht]; exact hP, va_K.moved hW.alike hK, hD⟩, hS.F ht⟩) hS.2.2 dX12_backTrack_13
      · intro L σ r h H locs ls hP hD hS hl
        rw [x_backTrack] at h
        refine lv_aload_n hx hb dX12_backTrack_14 rfl (lv_at hl 0 rfl) ?_
        refine lv_dup hx hb dX12_backTrack_15 rfl ?_
        refine ng_63 hx hb hts in_x_backTrack hown hK hP (hts _ (List.mem_cons_of_mem _ (List.mem_append_left _ (List.mem_append_left _ (List.mem_of_getElem? (i := 0) rfl))))) dX12_backTrack_16 ?_
        refine lv_iconst (v := 1) hx hb dX12_backTrack_19 (by decide) ?_
        refine lv_isub hx hb dX12_backTrack_20 ?_
        refine np_63 hx hb hts in_x_backTrack hown hK hP hD hS (hts _ (List.mem_cons_of_mem _ (List.mem_append_left _ (List.mem_append_left _ (List.mem_of_getElem? (i := 0) rfl))))) dX12_backTrack_21 (fun H locs hP hD hS => ?_)
        exact ih.2.2.1 L (upd σ.1 63 ((((σ.1 63)) - 1)), σ.2.1, σ.2.2) r h H locs ls hP hD hS (lv_sub hl [0] rfl)
      · intro L σ r h H locs ls hP hD hS hl
        rw [x_backTrack] at h
        refine lv_aload_n hx hb dX12_backTrack_24 rfl (lv_at hl 0 rfl) ?_
        refine lv_dup hx hb dX12_backTrack_25 rfl ?_
        refine ng_65 hx hb hts in_x_backTrack hown hK hP (hts _ (List.mem_cons_of_mem _ (List.mem_append_left _ (List.mem_append_left _ (List.mem_of_getElem? (i := 5) rfl))))) dX12_backTrack_26 ?_
        refine lv_aload_n hx hb dX12_backTrack_29 rfl (lv_at hl 0 rfl) ?_
        refine ng_62 hx hb hts in_x_backTrack hown hK hP (hts _ (List.mem_cons_of_mem _ (List.mem_append_left _ (List.mem_append_left _ (List.mem_of_getElem? (i := 6) rfl))))) dX12_backTrack_30 ?_
        refine lv_aload_n hx hb dX12_backTrack_33 rfl (lv_at hl 0 rfl) ?_
        refine ng_63 hx hb hts in_x_backTrack hown hK hP (hts _ (List.mem_cons_of_mem _ (List.mem_append_left _ (List.mem_append_left _ (List.mem_of_getElem? (i := 0) rfl))))) dX12_backTrack_34 ?_
        obtain ⟨q1, h⟩ := nb_ite1 h
        refine nl_32 hx hb hK hP q1 dX12_backTrack_37 ?_
        refine lv_isub hx hb dX12_backTrack_38 ?_
        refine np_65 hx hb hts in_x_backTrack hown hK hP hD hS (hts _ (List.mem_cons_of_mem _ (List.mem_append_left _ (List.mem_append_left _ (List.mem_of_getElem? (i := 5) rfl))))) dX12_backTrack_39 (fun H locs hP hD hS => ?_)
        exact ih.2.2.2.1 L (upd σ.1 65 ((((σ.1 65)) - ((σ.2.2 32 ((σ.1 63)).toNatClampNeg)))), σ.2.1, σ.2.2) r h H locs ls hP hD hS (lv_sub hl [0] rfl)
      · intro L σ r h H locs ls hP hD hS hl
        rw [x_backTrack] at h
        refine lv_iconst (v := 0) hx hb dX12_backTrack_42 (by decide) ?_
        refine lv_istore_n (lv' := [(1, .int 0), (0, .ref (a 0))]) hx hb dX12_backTrack_43 rfl hl (by decide) rfl (fun ls hl => ?_)
        exact ih.2.2.2.2.1 (upd L 1 0) σ r h H locs ls hP hD hS (lv_sub hl [1, 0] rfl)
      · intro L σ r h H locs ls hP hD hS hl
        rw [x_backTrack] at h
        refine lv_iload_n hx hb dX12_backTrack_44 rfl (lv_at hl 1 rfl) ?_
        refine lv_sipush (v := 11514) hx hb dX12_backTrack_45 (by decide) ?_
        refine lv_icmp_ge (tgt := 78) hx hb dX12_backTrack_48 (by decide) (fun c1 => ?_) (fun c1 => ?_)
        · rw [if_pos c1] at h
          exact ih.2.2.2.2.2.2.1 L σ r h H locs ls hP hD hS (lv_sub hl [0, 1] rfl)
        · rw [if_neg c1] at h
          refine lv_aload_n hx hb dX12_backTrack_51 rfl (lv_at hl 0 rfl) ?_
          refine ng_60 hx hb hts in_x_backTrack hown hK hP (hts _ (List.mem_cons_of_mem _ (List.mem_append_left _ (List.mem_append_left _ (List.mem_of_getElem? (i := 7) rfl))))) dX12_backTrack_52 ?_
          refine lv_iload_n hx hb dX12_backTrack_55 rfl (lv_at hl 1 rfl) ?_
          refine lv_aload_n hx hb dX12_backTrack_56 rfl (lv_at hl 0 rfl) ?_
          refine ng_61 hx hb hts in_x_backTrack hown hK hP (hts _ (List.mem_cons_of_mem _ (List.mem_append_left _ (List.mem_append_left _ (List.mem_of_getElem? (i := 8) rfl))))) dX12_backTrack_57 ?_
          refine lv_sipush (v := 11514) hx hb dX12_backTrack_60 (by decide) ?_
          refine lv_aload_n hx hb dX12_backTrack_63 rfl (lv_at hl 0 rfl) ?_
          refine ng_63 hx hb hts in_x_backTrack hown hK hP (hts _ (List.mem_cons_of_mem _ (List.mem_append_left _ (List.mem_append_left _ (List.mem_of_getElem? (i := 0) rfl))))) dX12_backTrack_64 ?_
          refine lv_imul hx hb dX12_backTrack_67 ?_
          refine lv_iload_n hx hb dX12_backTrack_68 rfl (lv_at hl 1 rfl) ?_
          refine lv_iadd hx hb dX12_backTrack_69 ?_
          obtain ⟨q2, h⟩ := nb_ite1 h
          refine nl_31 hx hb hK hP q2 dX12_backTrack_70 ?_
          obtain ⟨q3, h⟩ := nb_ite1 h
          refine ns_30 hx hb hK hP hD hS q3 dX12_backTrack_71 (fun H locs hP hD hS => ?_)
          exact ih.2.2.2.2.2.1 L (σ.1, σ.2.1, updG σ.2.2 30 (upd (σ.2.2 30) ((L 1)).toNatClampNeg ((σ.2.2 31 ((((11514 * ((σ.1 63)))) + ((L 1)))).toNatClampNeg)))) r h H locs ls hP hD hS (lv_sub hl [0, 1] rfl)
      · intro L σ r h H locs ls hP hD hS hl
        rw [x_backTrack] at h
        refine lv_iinc (v := ((L 1)) + 1) (lv' := [(1, .int (((L 1)) + 1)), (0, .ref (a 0))]) hx hb dX12_backTrack_72 hl (k := 1) rfl rfl (by decide) rfl (fun ls hl => ?_)
        refine lv_goto (tgt := 44) hx hb dX12_backTrack_75 (by decide) ?_
        exact ih.2.2.2.2.1 (upd L 1 (((L 1)) + 1)) σ r h H locs ls hP hD hS (lv_sub hl [1, 0] rfl)
      · intro L σ r h H locs ls hP hD hS hl
        rw [x_backTrack] at h
        refine lv_aload_n hx hb dX12_backTrack_78 rfl (lv_at hl 0 rfl) ?_
        refine lv_aload_n hx hb dX12_backTrack_79 rfl (lv_at hl 0 rfl) ?_
        refine ng_62 hx hb hts in_x_backTrack hown hK hP (hts _ (List.mem_cons_of_mem _ (List.mem_append_left _ (List.mem_append_left _ (List.mem_of_getElem? (i := 6) rfl))))) dX12_backTrack_80 ?_
        refine lv_aload_n hx hb dX12_backTrack_83 rfl (lv_at hl 0 rfl) ?_
        refine ng_63 hx hb hts in_x_backTrack hown hK hP (hts _ (List.mem_cons_of_mem _ (List.mem_append_left _ (List.mem_append_left _ (List.mem_of_getElem? (i := 0) rfl))))) dX12_backTrack_84 ?_
        obtain ⟨q1, h⟩ := nb_ite1 h
        refine nl_32 hx hb hK hP q1 dX12_backTrack_87 ?_
        refine np_64 hx hb hts in_x_backTrack hown hK hP hD hS (hts _ (List.mem_cons_of_mem _ (List.mem_append_left _ (List.mem_append_left _ (List.mem_of_getElem? (i := 9) rfl))))) dX12_backTrack_88 (fun H locs hP hD hS => ?_)
        exact ih.2.2.2.2.2.2.2.1 L (upd σ.1 64 ((σ.2.2 32 ((σ.1 63)).toNatClampNeg)), σ.2.1, σ.2.2) r h H locs ls hP hD hS (lv_sub hl [0, 1] rfl)
      · intro L σ r h H locs ls hP hD hS hl
        rw [x_backTrack] at h
        refine lv_aload_n hx hb dX12_backTrack_91 rfl (lv_at hl 0 rfl) ?_
        refine ng_60 hx hb hts in_x_backTrack hown hK hP (hts _ (List.mem_cons_of_mem _ (List.mem_append_left _ (List.mem_append_left _ (List.mem_of_getElem? (i := 7) rfl))))) dX12_backTrack_92 ?_
        refine lv_iconst (v := 0) hx hb dX12_backTrack_95 (by decide) ?_
        obtain ⟨q1, h⟩ := nb_ite1 h
        refine nl_30 hx hb hK hP q1 dX12_backTrack_96 ?_
        refine lv_istore_n (lv' := [(1, .int (σ.2.2 30 (0 : Int32).toNatClampNeg)), (0, .ref (a 0))]) hx hb dX12_backTrack_97 rfl hl (by decide) rfl (fun ls hl => ?_)
        refine lv_aload_n hx hb dX12_backTrack_98 rfl (lv_at hl 1 rfl) ?_
        refine ng_14 hx hb hts in_x_backTrack hown hK hP (hts _ (List.mem_cons_of_mem _ (List.mem_append_left _ (List.mem_append_left _ (List.mem_of_getElem? (i := 10) rfl))))) dX12_backTrack_99 ?_
        refine lv_iload_n hx hb dX12_backTrack_102 rfl (lv_at hl 0 rfl) ?_
        obtain ⟨q2, h⟩ := nb_ite1 h
        refine nl_4 hx hb hK hP q2 dX12_backTrack_103 ?_
        refine lv_bipush (v := 44) hx hb dX12_backTrack_104 (by decide) ?_
        refine lv_icmp_ne (tgt := 128) hx hb dX12_backTrack_106 (by decide) (fun c3 => ?_) (fun c3 => ?_)
        · rw [if_neg c3] at h
          exact ih.2.2.2.2.2.2.2.2.1 (upd L 1 ((σ.2.2 30 (0 : Int32).toNatClampNeg))) σ r h H locs ls hP hD hS (lv_sub hl [1, 0] rfl)
        · rw [if_pos c3] at h
          refine lv_aload_n hx hb dX12_backTrack_109 rfl (lv_at hl 1 rfl) ?_
          refine lv_aload_n hx hb dX12_backTrack_110 rfl (lv_at hl 1 rfl) ?_
          refine ng_15 hx hb hts in_x_backTrack hown hK hP (hts _ (List.mem_cons_of_mem _ (List.mem_append_left _ (List.mem_append_left _ (List.mem_of_getElem? (i := 11) rfl))))) dX12_backTrack_111 ?_
          refine lv_iload_n hx hb dX12_backTrack_114 rfl (lv_at hl 0 rfl) ?_
          obtain ⟨q4, h⟩ := nb_ite1 h
          refine nl_5 hx hb hK hP q4 dX12_backTrack_115 ?_
          refine lv_iconst (v := 1) hx hb dX12_backTrack_116 (by decide) ?_
          obtain ⟨r5, hc5, h⟩ := ob_ex h
          refine nc_Vv (As := [.int (σ.2.2 5 ((σ.2.2 30 (0 : Int32).toNatClampNeg)).toNatClampNeg), .int 1]) (rest := []) ⟨hx, hb, hml, hown, hts⟩ (c_x_assign l dC dI cy a k (upd (upd (fun _ => 0) 1 ((σ.2.2 5 ((σ.2.2 30 (0 : Int32).toNatClampNeg)).toNatClampNeg))) 2 1) σ r5 hc5 H.size) (cwV 2 hts g_x_backTrack_assign_840 rfl rfl rfl hd_x_assign ⟨Nat.le_of_ble_eq_true rfl, Nat.le_of_ble_eq_true rfl⟩) hK hG hA hP hD hS rfl hl.1 rfl (Nat.le_of_ble_eq_true rfl) dX12_backTrack_117 ⟨Nat.le_refl _, Nat.le_refl _⟩ (fun H locs hP hD hS => ?_)
          refine lv_aload_n hx hb dX12_backTrack_120 rfl (lv_at hl 1 rfl) ?_
          refine lv_iload_n hx hb dX12_backTrack_121 rfl (lv_at hl 0 rfl) ?_
          obtain ⟨r6, hc6, h⟩ := ob_ex h
          refine nc_Vv (As := [.int (σ.2.2 30 (0 : Int32).toNatClampNeg)]) (rest := []) ⟨hx, hb, hml, hown, hts⟩ (c_x_pass l dC dI cy a k (upd (fun _ => 0) 1 ((σ.2.2 30 (0 : Int32).toNatClampNeg))) r5.2 r6 hc6 H.size) (cwV 1 hts g_x_backTrack_pass_926 rfl rfl rfl hd_x_pass ⟨Nat.le_of_ble_eq_true rfl, Nat.le_of_ble_eq_true rfl⟩) hK hG hA hP hD hS rfl hl.1 rfl (Nat.le_of_ble_eq_true rfl) dX12_backTrack_122 ⟨Nat.le_refl _, Nat.le_refl _⟩ (fun H locs hP hD hS => ?_)
          refine lv_goto (tgt := 144) hx hb dX12_backTrack_125 (by decide) ?_
          exact ih.2.2.2.2.2.2.2.2.2 (upd L 1 ((σ.2.2 30 (0 : Int32).toNatClampNeg))) r6.2 r h H locs ls hP hD hS (lv_sub hl [1, 0] rfl)
      · intro L σ r h H locs ls hP hD hS hl
        rw [x_backTrack] at h
        refine lv_aload_n hx hb dX12_backTrack_128 rfl (lv_at hl 0 rfl) ?_
        refine lv_iload_n hx hb dX12_backTrack_129 rfl (lv_at hl 1 rfl) ?_
        refine lv_aload_n hx hb dX12_backTrack_130 rfl (lv_at hl 0 rfl) ?_
        refine ng_19 hx hb hts in_x_backTrack hown hK hP (hts _ (List.mem_cons_of_mem _ (List.mem_append_left _ (List.mem_append_left _ (List.mem_of_getElem? (i := 18) rfl))))) dX12_backTrack_131 ?_
        refine lv_aload_n hx hb dX12_backTrack_134 rfl (lv_at hl 0 rfl) ?_
        refine ng_15 hx hb hts in_x_backTrack hown hK hP (hts _ (List.mem_cons_of_mem _ (List.mem_append_left _ (List.mem_append_left _ (List.mem_of_getElem? (i := 11) rfl))))) dX12_backTrack_135 ?_
        refine lv_iload_n hx hb dX12_backTrack_138 rfl (lv_at hl 1 rfl) ?_
        obtain ⟨q1, h⟩ := nb_ite1 h
        refine nl_5 hx hb hK hP q1 dX12_backTrack_139 ?_
        obtain ⟨q2, h⟩ := nb_ite1 h
        refine nl_9 hx hb hK hP q2 dX12_backTrack_140 ?_
        obtain ⟨r3, hc3, h⟩ := ob_ex h
        refine nc_Vv (As := [.int (L 1), .int (σ.2.2 9 ((σ.2.2 5 ((L 1)).toNatClampNeg)).toNatClampNeg)]) (rest := []) ⟨hx, hb, hml, hown, hts⟩ (c_x_decide l dC dI cy a k (upd (upd (fun _ => 0) 1 ((L 1))) 2 ((σ.2.2 9 ((σ.2.2 5 ((L 1)).toNatClampNeg)).toNatClampNeg))) σ r3 hc3 H.size) (cwV 2 hts g_x_backTrack_decide_932 rfl rfl rfl hd_x_decide ⟨Nat.le_of_ble_eq_true rfl, Nat.le_of_ble_eq_true rfl⟩) hK hG hA hP hD hS rfl hl.1 rfl (Nat.le_of_ble_eq_true rfl) dX12_backTrack_141 ⟨Nat.le_refl _, Nat.le_refl _⟩ (fun H locs hP hD hS => ?_)
        exact ih.2.2.2.2.2.2.2.2.2 L r3.2 r h H locs ls hP hD hS (lv_sub hl [0, 1] rfl)
      · intro L σ r h H locs ls hP hD hS hl
        rw [x_backTrack] at h
        cases h
        exact W.vret hx hb hr (fun t ht hW => ⟨⟨(), rfl, trivial, by rw [ht]; exact hP, va_K.moved hW.alike hK, hD⟩, hS.F ht⟩) hS.2.2 dX12_backTrack_144
  exact (blk k0).1 L0 σ0 r0 h0 s.heap [] ls hP hD hS hl
/-! forget -/
def x_forget : Nat → Nat → (Nat → Int32) → MS → Option (Int32 × MS)
  | 0, _, _, _ => none
  | k + 1, 0, L, σ => x_forget k 1 (upd L 1 0) σ
  | k + 1, 1, L, σ => if 1380 ≤ ((L 1)) then (x_forget k 3 L σ) else (if ¬ (((L 1)) < 0 ∨ 1380 ≤ ((L 1)).toNatClampNeg) then (x_forget k 2 L (σ.1, σ.2.1, updG σ.2.2 33 (upd (σ.2.2 33) ((L 1)).toNatClampNeg 0))) else none)
  | k + 1, 2, L, σ => x_forget k 1 (upd L 1 (((L 1)) + 1)) σ
  | k + 1, 3, L, σ => x_forget k 4 (upd L 1 0) σ
  | k + 1, 4, L, σ => if 60 ≤ ((L 1)) then (x_forget k 8 L σ) else (if ¬ (((L 1)) < 0 ∨ 2580 ≤ ((L 1)).toNatClampNeg) then (if ((σ.2.2 20 ((L 1)).toNatClampNeg)) = 0 then (x_forget k 5 (upd L 100 ((4 + ((L 1))))) σ) else (if ¬ (((4 + ((L 1)))) < 0 ∨ 11514 ≤ ((4 + ((L 1)))).toNatClampNeg) then (x_forget k 6 (upd (upd L 100 ((σ.2.2 30 ((4 + ((L 1)))).toNatClampNeg))) 101 ((4 + ((L 1))))) σ) else none)) else none)
  | k + 1, 5, L, σ => x_forget k 6 (upd (upd L 100 0) 101 ((L 100))) σ
  | k + 1, 6, L, σ => if ¬ (((L 101)) < 0 ∨ 11514 ≤ ((L 101)).toNatClampNeg) then (x_forget k 7 L (σ.1, σ.2.1, updG σ.2.2 30 (upd (σ.2.2 30) ((L 101)).toNatClampNeg ((L 100))))) else none
  | k + 1, 7, L, σ => x_forget k 4 (upd L 1 (((L 1)) + 1)) σ
  | k + 1, 8, L, σ => x_forget k 9 (upd L 1 0) σ
  | k + 1, 9, L, σ => if ¬ ((1 : Int32) < 0 ∨ 11514 ≤ (1 : Int32).toNatClampNeg) then (if ((σ.2.2 30 (1 : Int32).toNatClampNeg)) ≤ ((L 1)) then (x_forget k 15 L σ) else (if ¬ (((((64 + ((3 * ((L 1)))))) + 1)) < 0 ∨ 11514 ≤ ((((64 + ((3 * ((L 1)))))) + 1)).toNatClampNeg) then (x_forget k 10 (upd (upd L 2 ((60 * ((1 + ((σ.2.2 30 ((((64 + ((3 * ((L 1)))))) + 1)).toNatClampNeg))))))) 3 0) σ) else none)) else none
  | k + 1, 10, L, σ => if 60 ≤ ((L 3)) then (x_forget k 14 L σ) else (if ¬ (((((L 2)) + ((L 3)))) < 0 ∨ 2580 ≤ ((((L 2)) + ((L 3)))).toNatClampNeg) then (if ((σ.2.2 20 ((((L 2)) + ((L 3)))).toNatClampNeg)) = 0 then (x_forget k 11 (upd L 100 ((((214 + ((60 * ((L 1)))))) + ((L 3))))) σ) else (if ¬ (((((214 + ((60 * ((L 1)))))) + ((L 3)))) < 0 ∨ 11514 ≤ ((((214 + ((60 * ((L 1)))))) + ((L 3)))).toNatClampNeg) then (x_forget k 12 (upd (upd L 100 ((σ.2.2 30 ((((214 + ((60 * ((L 1)))))) + ((L 3)))).toNatClampNeg))) 101 ((((214 + ((60 * ((L 1)))))) + ((L 3))))) σ) else none)) else none)
  | k + 1, 11, L, σ => x_forget k 12 (upd (upd L 100 0) 101 ((L 100))) σ
  | k + 1, 12, L, σ => if ¬ (((L 101)) < 0 ∨ 11514 ≤ ((L 101)).toNatClampNeg) then (x_forget k 13 L (σ.1, σ.2.1, updG σ.2.2 30 (upd (σ.2.2 30) ((L 101)).toNatClampNeg ((L 100))))) else none
  | k + 1, 13, L, σ => x_forget k 10 (upd L 3 (((L 3)) + 1)) σ
  | k + 1, 14, L, σ => x_forget k 9 (upd L 1 (((L 1)) + 1)) σ
  | k + 1, 15, L, σ => some (0, σ)
  | _ + 1, _ + 16, _, _ => none
def o_x_forget : List Cond := [.fieldLink RX12 408 "SetHouseModel" "frames" "[I", .fieldLink RX12 395 "SetHouseModel" "st" "[I", .fieldLink RX12 160 "SetHouseModel" "counts" "[Z"]
theorem o_x_forget_good : o_x_forget.all goodWord = true := by decide +kernel
def p_x_forget : List Cond := o_x_forget ++ []
theorem p_x_forget_good : p_x_forget.all goodWord = true := nb_all2 o_x_forget_good rfl
def w_x_forget : List Cond := .code yX12_forget cX12_forget 4 none :: (p_x_forget ++ fM)
theorem w_x_forget_good : w_x_forget.all goodWord = true := nb_allc (by decide +kernel) (nb_all2 p_x_forget_good fM_good)
theorem in_x_forget : ∀ w ∈ wsX120, w ∈ w_x_forget := fun _ h => List.mem_cons_of_mem _ (List.mem_append_right _ h)
theorem hd_x_forget : yX12_forget.cls = RX12 ∧ yX12_forget.cls ≠ "java/lang/invoke/MethodHandle" ∧ yX12_forget.cls ≠ "java/lang/invoke/VarHandle" ∧ (parseMethodDescriptor yX12_forget.desc).map (fun d => d.parameters.length) = some 0 := by decide +kernel
set_option maxHeartbeats 40000000 in
set_option maxRecDepth 100000 in
theorem c_x_forget (l : Launch) (dC : Nat → ClassId) (dI : Nat → Nat → Nat) (cy : Nat → ClassId) (a : Nat → Nat) (k0 : Nat) (L0 : Nat → Int32) (σ0 : MS) (r0 : Int32 × MS) (h0 : x_forget k0 0 L0 σ0 = some r0) (sz : Nat) : Met l yX12_forget w_x_forget ({ frames := 0, cells := 0, slots := 0, locals := 0 }) (va_Pc [.ref (a 0)] (nIn (dC, dI) cy sz (vM cy a σ0))) (va_Qv (fun _ : Unit => True) (fun _ t => nOut (dC, dI) cy (va_A (vM cy a σ0) sz) (vM cy a r0.2) t) (va_A (vM cy a σ0) sz)) 0 0 (va_A (vM cy a σ0) sz) := by
  refine Met.ofW (cc := cX12_forget) (maxL := 4) (ret := none) (by decide) rfl ?_
  intro p e s m args below meth c s₁ B hml hv
  obtain ⟨rfl, hsz, hP, hK, hD0, hG⟩ := hv
  have hx := B.exec
  have hb := B.bytes
  have hr := B.returns
  have hts := atoms_spec (ws := w_x_forget) B.pre
  have hown : s.vm.findClass RX12 = some m.cls := findClass_of_methodNamed B.named
  have hlocks := B.notSynchronized
  subst hsz
  have hD := hD0.self (sz := s.heap.size)
  generalize hAe : va_A (vM cy a σ0) s.heap.size = A at hD ⊢
  have hA : ∀ q : Nat, s.heap.size ≤ q → A q := fun q h => by rw [← hAe]; exact Or.inr h
  have hS : va_S A s.heap s.heap [] := va_S.rf
  have hl := lv_entry ([.ref (a 0)]) (n := 4) (Nat.le_of_ble_eq_true rfl)
  rw [lg_entry_eq]
  generalize (lg_sl ([.ref (a 0)]) ++ List.replicate (4 - (lg_sl ([.ref (a 0)])).length) Slot.unset).toArray = ls at hl ⊢
  have hl : lv_has ls 4 [(0, .ref (a 0))] := hl
  have blk : ∀ k : Nat, (bT p l e (headSpec w_x_forget ({ frames := 0, cells := 0, slots := 0, locals := 0 })).room s m #[.ref (a 0)] below meth c dC dI cy a A (qV dC dI cy a A below #[.ref (a 0)] s) 4 (x_forget k 0) (fun L => [(0, .ref (a 0))]) 0 (fun L => [])) ∧ (bT p l e (headSpec w_x_forget ({ frames := 0, cells := 0, slots := 0, locals := 0 })).room s m #[.ref (a 0)] below meth c dC dI cy a A (qV dC dI cy a A below #[.ref (a 0)] s) 4 (x_forget k 1) (fun L => [(0, .ref (a 0)), (1, .int (L 1))]) 2 (fun L => [])) ∧ (bT p l e (headSpec w_x_forget ({ frames := 0, cells := 0, slots := 0, locals := 0 })).room s m #[.ref (a 0)] below meth c dC dI cy a A (qV dC dI cy a A below #[.ref (a 0)] s) 4 (x_forget k 2) (fun L => [(0, .ref (a 0)), (1, .int (L 1))]) 16 (fun L => [])) ∧ (bT p l e (headSpec w_x_forget ({ frames := 0, cells := 0, slots := 0, locals := 0 })).room s m #[.ref (a 0)] below meth c dC dI cy a A (qV dC dI cy a A below #[.ref (a 0)] s) 4 (x_forget k 3) (fun L => [(0, .ref (a 0)), (1, .int (L 1))]) 22 (fun L => [])) ∧ (bT p l e (headSpec w_x_forget ({ frames := 0, cells := 0, slots := 0, locals := 0 })).room s m #[.ref (a 0)] below meth c dC dI cy a A (qV dC dI cy a A below #[.ref (a 0)] s) 4 (x_forget k 4) (fun L => [(0, .ref (a 0)), (1, .int (L 1))]) 24 (fun L => [])) ∧ (bT p l e (headSpec w_x_forget ({ frames := 0, cells := 0, slots := 0, locals := 0 })).room s m #[.ref (a 0)] below meth c dC dI cy a A (qV dC dI cy a A below #[.ref (a 0)] s) 4 (x_forget k 5) (fun L => [(0, .ref (a 0)), (1, .int (L 1))]) 57 (fun L => [.int (L 100), .ref (a 30)])) ∧ (bT p l e (headSpec w_x_forget ({ frames := 0, cells := 0, slots := 0, locals := 0 })).room s m #[.ref (a 0)] below meth c dC dI cy a A (qV dC dI cy a A below #[.ref (a 0)] s) 4 (x_forget k 6) (fun L => [(0, .ref (a 0)), (1, .int (L 1))]) 58 (fun L => [.int (L 100), .int (L 101), .ref (a 30)])) ∧ (bT p l e (headSpec w_x_forget ({ frames := 0, cells := 0, slots := 0, locals := 0 })).room s m #[.ref (a 0)] below meth c dC dI cy a A (qV dC dI cy a A below #[.ref (a 0)] s) 4 (x_forget k 7) (fun L => [(0, .ref (a 0)), (1, .int (L 1))]) 59 (fun L => [])) ∧ (bT p l e (headSpec w_x_forget ({ frames := 0, cells := 0, slots := 0, locals := 0 })).room s m #[.ref (a 0)] below meth c dC dI cy a A (qV dC dI cy a A below #[.ref (a 0)] s) 4 (x_forget k 8) (fun L => [(0, .ref (a 0)), (1, .int (L 1))]) 65 (fun L => [])) ∧ (bT p l e (headSpec w_x_forget ({ frames := 0, cells := 0, slots := 0, locals := 0 })).room s m #[.ref (a 0)] below meth c dC dI cy a A (qV dC dI cy a A below #[.ref (a 0)] s) 4 (x_forget k 9) (fun L => [(0, .ref (a 0)), (1, .int (L 1))]) 67 (fun L => [])) ∧ (bT p l e (headSpec w_x_forget ({ frames := 0, cells := 0, slots := 0, locals := 0 })).room s m #[.ref (a 0)] below meth c dC dI cy a A (qV dC dI cy a A below #[.ref (a 0)] s) 4 (x_forget k 10) (fun L => [(0, .ref (a 0)), (1, .int (L 1)), (2, .int (L 2)), (3, .int (L 3))]) 98 (fun L => [])) ∧ (bT p l e (headSpec w_x_forget ({ frames := 0, cells := 0, slots := 0, locals := 0 })).room s m #[.ref (a 0)] below meth c dC dI cy a A (qV dC dI cy a A below #[.ref (a 0)] s) 4 (x_forget k 11) (fun L => [(0, .ref (a 0)), (1, .int (L 1)), (2, .int (L 2)), (3, .int (L 3))]) 147 (fun L => [.int (L 100), .ref (a 30)])) ∧ (bT p l e (headSpec w_x_forget ({ frames := 0, cells := 0, slots := 0, locals := 0 })).room s m #[.ref (a 0)] below meth c dC dI cy a A (qV dC dI cy a A below #[.ref (a 0)] s) 4 (x_forget k 12) (fun L => [(0, .ref (a 0)), (1, .int (L 1)), (2, .int (L 2)), (3, .int (L 3))]) 148 (fun L => [.int (L 100), .int (L 101), .ref (a 30)])) ∧ (bT p l e (headSpec w_x_forget ({ frames := 0, cells := 0, slots := 0, locals := 0 })).room s m #[.ref (a 0)] below meth c dC dI cy a A (qV dC dI cy a A below #[.ref (a 0)] s) 4 (x_forget k 13) (fun L => [(0, .ref (a 0)), (1, .int (L 1)), (2, .int (L 2)), (3, .int (L 3))]) 149 (fun L => [])) ∧ (bT p l e (headSpec w_x_forget ({ frames := 0, cells := 0, slots := 0, locals := 0 })).room s m #[.ref (a 0)] below meth c dC dI cy a A (qV dC dI cy a A below #[.ref (a 0)] s) 4 (x_forget k 14) (fun L => [(0, .ref (a 0)), (1, .int (L 1)), (2, .int (L 2)), (3, .int (L 3))]) 155 (fun L => [])) ∧ (bT p l e (headSpec w_x_forget ({ frames := 0, cells := 0, slots := 0, locals := 0 })).room s m #[.ref (a 0)] below meth c dC dI cy a A (qV dC dI cy a A below #[.ref (a 0)] s) 4 (x_forget k 15) (fun L => [(0, .ref (a 0)), (1, .int (L 1))]) 161 (fun L => [])) := by
    intro k
    induction k with
    | zero => exact ⟨fun L σ r h => (by cases h), fun L σ r h => (by cases h), fun L σ r h => (by cases h), fun L σ r h => (by cases h), fun L σ r h => (by cases h), fun L σ r h => (by cases h), fun L σ r h => (by cases h), fun L σ r h => (by cases h), fun L σ r h => (by cases h), fun L σ r h => (by cases h), fun L σ r h => (by cases h), fun L σ r h => (by cases h), fun L σ r h => (by cases h), fun L σ r h => (by cases h), fun L σ r h => (by cases h), fun L σ r h => (by cases h)⟩
    | succ k ih =>
      refine ⟨?_, ?_, ?_, ?_, ?_, ?_, ?_, ?_, ?_, ?_, ?_, ?_, ?_, ?_, ?_, ?_⟩
      · intro L σ r h H locs ls hP hD hS hl
        rw [x_forget] at h
        refine lv_iconst (v := 0) hx hb dX12_forget_0 (by decide) ?_
        refine lv_istore_n (lv' := [(1, .int 0), (0, .ref (a 0))]) hx hb dX12_forget_1 rfl hl (by decide) rfl (fun ls hl => ?_)
        exact ih.2.1 (upd L 1 0) σ r h H locs ls hP hD hS (lv_sub hl [1, 0] rfl)
      · intro L σ r h H locs ls hP hD hS hl
        rw [x_forget] at h
        refine lv_iload_n hx hb dX12_forget_2 rfl (lv_at hl 1 rfl) ?_
        refine lv_sipush (v := 1380) hx hb dX12_forget_3 (by decide) ?_
        refine lv_icmp_ge (tgt := 22) hx hb dX12_forget_6 (by decide) (fun c1 => ?_) (fun c1 => ?_)
        · rw [if_pos c1] at h
          exact ih.2.2.2.1 L σ r h H locs ls hP hD hS (lv_sub hl [0, 1] rfl)
        · rw [if_neg c1] at h
          refine lv_aload_n hx hb dX12_forget_9 rfl (lv_at hl 0 rfl) ?_
          refine ng_66 hx hb hts in_x_forget hown hK hP (hts _ (List.mem_cons_of_mem _ (List.mem_append_left _ (List.mem_append_left _ (List.mem_of_getElem? (i := 0) rfl))))) dX12_forget_10 ?_
          refine lv_iload_n hx hb dX12_forget_13 rfl (lv_at hl 1 rfl) ?_
          refine lv_iconst (v := 0) hx hb dX12_forget_14 (by decide) ?_
          obtain ⟨q2, h⟩ := nb_ite1 h
          refine ns_33 hx hb hK hP hD hS q2 dX12_forget_15 (fun H locs hP hD hS => ?_)
          exact ih.2.2.1 L (σ.1, σ.2.1, updG σ.2.2 33 (upd (σ.2.2 33) ((L 1)).toNatClampNeg 0)) r h H locs ls hP hD hS (lv_sub hl [0, 1] rfl)
      · intro L σ r h H locs ls hP hD hS hl
        rw [x_forget] at h
        refine lv_iinc (v := ((L 1)) + 1) (lv' := [(1, .int (((L 1)) + 1)), (0, .ref (a 0))]) hx hb dX12_forget_16 hl (k := 1) rfl rfl (by decide) rfl (fun ls hl => ?_)
        refine lv_goto (tgt := 2) hx hb dX12_forget_19 (by decide) ?_
        exact ih.2.1 (upd L 1 (((L 1)) + 1)) σ r h H locs ls hP hD hS (lv_sub hl [1, 0] rfl)
      · intro L σ r h H locs ls hP hD hS hl
        rw [x_forget] at h
        refine lv_iconst (v := 0) hx hb dX12_forget_22 (by decide) ?_
        refine lv_istore_n (lv' := [(1, .int 0), (0, .ref (a 0))]) hx hb dX12_forget_23 rfl hl (by decide) rfl (fun ls hl => ?_)
        exact ih.2.2.2.2.1 (upd L 1 0) σ r h H locs ls hP hD hS (lv_sub hl [1, 0] rfl)
      · intro L σ r h H locs ls hP hD hS hl
        rw [x_forget] at h
        refine lv_iload_n hx hb dX12_forget_24 rfl (lv_at hl 1 rfl) ?_
        refine lv_bipush (v := 60) hx hb dX12_forget_25 (by decide) ?_
        refine lv_icmp_ge (tgt := 65) hx hb dX12_forget_27 (by decide) (fun c1 => ?_) (fun c1 => ?_)
        · rw [if_pos c1] at h
          exact ih.2.2.2.2.2.2.2.2.1 L σ r h H locs ls hP hD hS (lv_sub hl [0, 1] rfl)
        · rw [if_neg c1] at h
          refine lv_aload_n hx hb dX12_forget_30 rfl (lv_at hl 0 rfl) ?_
          refine ng_60 hx hb hts in_x_forget hown hK hP (hts _ (List.mem_cons_of_mem _ (List.mem_append_left _ (List.mem_append_left _ (List.mem_of_getElem? (i := 1) rfl))))) dX12_forget_31 ?_
          refine lv_iconst (v := 4) hx hb dX12_forget_34 (by decide) ?_
          refine lv_iload_n hx hb dX12_forget_35 rfl (lv_at hl 1 rfl) ?_
          refine lv_iadd hx hb dX12_forget_36 ?_
          refine lv_aload_n hx hb dX12_forget_37 rfl (lv_at hl 0 rfl) ?_
          refine ng_35 hx hb hts in_x_forget hown hK hP (hts _ (List.mem_cons_of_mem _ (List.mem_append_left _ (List.mem_append_left _ (List.mem_of_getElem? (i := 2) rfl))))) dX12_forget_38 ?_
          refine lv_iload_n hx hb dX12_forget_41 rfl (lv_at hl 1 rfl) ?_
          obtain ⟨q2, h⟩ := nb_ite1 h
          refine nl_20 hx hb hK hP q2 dX12_forget_42 ?_
          refine lv_if_eq (tgt := 57) hx hb dX12_forget_43 (by decide) (fun c3 => ?_) (fun c3 => ?_)
          · rw [if_pos c3] at h
            exact ih.2.2.2.2.2.1 (upd L 100 ((4 + ((L 1))))) σ r h H locs ls hP hD hS (lv_sub hl [0, 1] rfl)
          · rw [if_neg c3] at h
            refine lv_aload_n hx hb dX12_forget_46 rfl (lv_at hl 0 rfl) ?_
            refine ng_60 hx hb hts in_x_forget hown hK hP (hts _ (List.mem_cons_of_mem _ (List.mem_append_left _ (List.mem_append_left _ (List.mem_of_getElem? (i := 1) rfl))))) dX12_forget_47 ?_
            refine lv_iconst (v := 4) hx hb dX12_forget_50 (by decide) ?_
            refine lv_iload_n hx hb dX12_forget_51 rfl (lv_at hl 1 rfl) ?_
            refine lv_iadd hx hb dX12_forget_52 ?_
            obtain ⟨q4, h⟩ := nb_ite1 h
            refine nl_30 hx hb hK hP q4 dX12_forget_53 ?_
            refine lv_goto (tgt := 58) hx hb dX12_forget_54 (by decide) ?_
            exact ih.2.2.2.2.2.2.1 (upd (upd L 100 ((σ.2.2 30 ((4 + ((L 1)))).toNatClampNeg))) 101 ((4 + ((L 1))))) σ r h H locs ls hP hD hS (lv_sub hl [0, 1] rfl)
      · intro L σ r h H locs ls hP hD hS hl
        rw [x_forget] at h
        refine lv_iconst (v := 0) hx hb dX12_forget_57 (by decide) ?_
        exact ih.2.2.2.2.2.2.1 (upd (upd L 100 0) 101 ((L 100))) σ r h H locs ls hP hD hS (lv_sub hl [0, 1] rfl)
      · intro L σ r h H locs ls hP hD hS hl
        rw [x_forget] at h
        obtain ⟨q1, h⟩ := nb_ite1 h
        refine ns_30 hx hb hK hP hD hS q1 dX12_forget_58 (fun H locs hP hD hS => ?_)
        exact ih.2.2.2.2.2.2.2.1 L (σ.1, σ.2.1, updG σ.2.2 30 (upd (σ.2.2 30) ((L 101)).toNatClampNeg ((L 100)))) r h H locs ls hP hD hS (lv_sub hl [0, 1] rfl)
      · intro L σ r h H locs ls hP hD hS hl
        rw [x_forget] at h
        refine lv_iinc (v := ((L 1)) + 1) (lv' := [(1, .int (((L 1)) + 1)), (0, .ref (a 0))]) hx hb dX12_forget_59 hl (k := 1) rfl rfl (by decide) rfl (fun ls hl => ?_)
        refine lv_goto (tgt := 24) hx hb dX12_forget_62 (by decide) ?_
        exact ih.2.2.2.2.1 (upd L 1 (((L 1)) + 1)) σ r h H locs ls hP hD hS (lv_sub hl [1, 0] rfl)
      · intro L σ r h H locs ls hP hD hS hl
        rw [x_forget] at h
        refine lv_iconst (v := 0) hx hb dX12_forget_65 (by decide) ?_
        refine lv_istore_n (lv' := [(1, .int 0), (0, .ref (a 0))]) hx hb dX12_forget_66 rfl hl (by decide) rfl (fun ls hl => ?_)
        exact ih.2.2.2.2.2.2.2.2.2.1 (upd L 1 0) σ r h H locs ls hP hD hS (lv_sub hl [1, 0] rfl)
      · intro L σ r h H locs ls hP hD hS hl
        rw [x_forget] at h
        refine lv_iload_n hx hb dX12_forget_67 rfl (lv_at hl 1 rfl) ?_
        refine lv_aload_n hx hb dX12_forget_68 rfl (lv_at hl 0 rfl) ?_
        refine ng_60 hx hb hts in_x_forget hown hK hP (hts _ (List.mem_cons_of_mem _ (List.mem_append_left _ (List.mem_append_left _ (List.mem_of_getElem? (i := 1) rfl))))) dX12_forget_69 ?_
        refine lv_iconst (v := 1) hx hb dX12_forget_72 (by decide) ?_
        obtain ⟨q1, h⟩ := nb_ite1 h
        refine nl_30 hx hb hK hP q1 dX12_forget_73 ?_
        refine lv_icmp_ge (tgt := 161) hx hb dX12_forget_74 (by decide) (fun c2 => ?_) (fun c2 => ?_)
        · rw [if_pos c2] at h
          exact ih.2.2.2.2.2.2.2.2.2.2.2.2.2.2.2 L σ r h H locs ls hP hD hS (lv_sub hl [0, 1] rfl)
        · rw [if_neg c2] at h
          refine lv_bipush (v := 60) hx hb dX12_forget_77 (by decide) ?_
          refine lv_iconst (v := 1) hx hb dX12_forget_79 (by decide) ?_
          refine lv_aload_n hx hb dX12_forget_80 rfl (lv_at hl 0 rfl) ?_
          refine ng_60 hx hb hts in_x_forget hown hK hP (hts _ (List.mem_cons_of_mem _ (List.mem_append_left _ (List.mem_append_left _ (List.mem_of_getElem? (i := 1) rfl))))) dX12_forget_81 ?_
          refine lv_bipush (v := 64) hx hb dX12_forget_84 (by decide) ?_
          refine lv_iconst (v := 3) hx hb dX12_forget_86 (by decide) ?_
          refine lv_iload_n hx hb dX12_forget_87 rfl (lv_at hl 1 rfl) ?_
          refine lv_imul hx hb dX12_forget_88 ?_
          refine lv_iadd hx hb dX12_forget_89 ?_
          refine lv_iconst (v := 1) hx hb dX12_forget_90 (by decide) ?_
          refine lv_iadd hx hb dX12_forget_91 ?_
          obtain ⟨q3, h⟩ := nb_ite1 h
          refine nl_30 hx hb hK hP q3 dX12_forget_92 ?_
          refine lv_iadd hx hb dX12_forget_93 ?_
          refine lv_imul hx hb dX12_forget_94 ?_
          refine lv_istore_n (lv' := [(2, .int (60 * ((1 + ((σ.2.2 30 ((((64 + ((3 * ((L 1)))))) + 1)).toNatClampNeg)))))), (0, .ref (a 0)), (1, .int (L 1))]) hx hb dX12_forget_95 rfl hl (by decide) rfl (fun ls hl => ?_)
          refine lv_iconst (v := 0) hx hb dX12_forget_96 (by decide) ?_
          refine lv_istore_n (lv' := [(3, .int 0), (2, .int (60 * ((1 + ((σ.2.2 30 ((((64 + ((3 * ((L 1)))))) + 1)).toNatClampNeg)))))), (0, .ref (a 0)), (1, .int (L 1))]) hx hb dX12_forget_97 rfl hl (by decide) rfl (fun ls hl => ?_)
          exact ih.2.2.2.2.2.2.2.2.2.2.1 (upd (upd L 2 ((60 * ((1 + ((σ.2.2 30 ((((64 + ((3 * ((L 1)))))) + 1)).toNatClampNeg))))))) 3 0) σ r h H locs ls hP hD hS (lv_sub hl [2, 3, 1, 0] rfl)
      · intro L σ r h H locs ls hP hD hS hl
        rw [x_forget] at h
        refine lv_iload_n hx hb dX12_forget_98 rfl (lv_at hl 3 rfl) ?_
        refine lv_bipush (v := 60) hx hb dX12_forget_99 (by decide) ?_
        refine lv_icmp_ge (tgt := 155) hx hb dX12_forget_101 (by decide) (fun c1 => ?_) (fun c1 => ?_)
        · rw [if_pos c1] at h
          exact ih.2.2.2.2.2.2.2.2.2.2.2.2.2.2.1 L σ r h H locs ls hP hD hS (lv_sub hl [0, 1, 2, 3] rfl)
        · rw [if_neg c1] at h
          refine lv_aload_n hx hb dX12_forget_104 rfl (lv_at hl 0 rfl) ?_
          refine ng_60 hx hb hts in_x_forget hown hK hP (hts _ (List.mem_cons_of_mem _ (List.mem_append_left _ (List.mem_append_left _ (List.mem_of_getElem? (i := 1) rfl))))) dX12_forget_105 ?_
          refine lv_sipush (v := 214) hx hb dX12_forget_108 (by decide) ?_
          refine lv_bipush (v := 60) hx hb dX12_forget_111 (by decide) ?_
          refine lv_iload_n hx hb dX12_forget_113 rfl (lv_at hl 1 rfl) ?_
          refine lv_imul hx hb dX12_forget_114 ?_
          refine lv_iadd hx hb dX12_forget_115 ?_
          refine lv_iload_n hx hb dX12_forget_116 rfl (lv_at hl 3 rfl) ?_
          refine lv_iadd hx hb dX12_forget_117 ?_
          refine lv_aload_n hx hb dX12_forget_118 rfl (lv_at hl 0 rfl) ?_
          refine ng_35 hx hb hts in_x_forget hown hK hP (hts _ (List.mem_cons_of_mem _ (List.mem_append_left _ (List.mem_append_left _ (List.mem_of_getElem? (i := 2) rfl))))) dX12_forget_119 ?_
          refine lv_iload_n hx hb dX12_forget_122 rfl (lv_at hl 2 rfl) ?_
          refine lv_iload_n hx hb dX12_forget_123 rfl (lv_at hl 3 rfl) ?_
          refine lv_iadd hx hb dX12_forget_124 ?_
          obtain ⟨q2, h⟩ := nb_ite1 h
          refine nl_20 hx hb hK hP q2 dX12_forget_125 ?_
          refine lv_if_eq (tgt := 147) hx hb dX12_forget_126 (by decide) (fun c3 => ?_) (fun c3 => ?_)
          · rw [if_pos c3] at h
            exact ih.2.2.2.2.2.2.2.2.2.2.2.1 (upd L 100 ((((214 + ((60 * ((L 1)))))) + ((L 3))))) σ r h H locs ls hP hD hS (lv_sub hl [0, 1, 2, 3] rfl)
          · rw [if_neg c3] at h
            refine lv_aload_n hx hb dX12_forget_129 rfl (lv_at hl 0 rfl) ?_
            refine ng_60 hx hb hts in_x_forget hown hK hP (hts _ (List.mem_cons_of_mem _ (List.mem_append_left _ (List.mem_append_left _ (List.mem_of_getElem? (i := 1) rfl))))) dX12_forget_130 ?_
            refine lv_sipush (v := 214) hx hb dX12_forget_133 (by decide) ?_
            refine lv_bipush (v := 60) hx hb dX12_forget_136 (by decide) ?_
            refine lv_iload_n hx hb dX12_forget_138 rfl (lv_at hl 1 rfl) ?_
            refine lv_imul hx hb dX12_forget_139 ?_
            refine lv_iadd hx hb dX12_forget_140 ?_
            refine lv_iload_n hx hb dX12_forget_141 rfl (lv_at hl 3 rfl) ?_
            refine lv_iadd hx hb dX12_forget_142 ?_
            obtain ⟨q4, h⟩ := nb_ite1 h
            refine nl_30 hx hb hK hP q4 dX12_forget_143 ?_
            refine lv_goto (tgt := 148) hx hb dX12_forget_144 (by decide) ?_
            exact ih.2.2.2.2.2.2.2.2.2.2.2.2.1 (upd (upd L 100 ((σ.2.2 30 ((((214 + ((60 * ((L 1)))))) + ((L 3)))).toNatClampNeg))) 101 ((((214 + ((60 * ((L 1)))))) + ((L 3))))) σ r h H locs ls hP hD hS (lv_sub hl [0, 1, 2, 3] rfl)
      · intro L σ r h H locs ls hP hD hS hl
        rw [x_forget] at h
        refine lv_iconst (v := 0) hx hb dX12_forget_147 (by decide) ?_
        exact ih.2.2.2.2.2.2.2.2.2.2.2.2.1 (upd (upd L 100 0) 101 ((L 100))) σ r h H locs ls hP hD hS (lv_sub hl [0, 1, 2, 3] rfl)
      · intro L σ r h H locs ls hP hD hS hl
        rw [x_forget] at h
        obtain ⟨q1, h⟩ := nb_ite1 h
        refine ns_30 hx hb hK hP hD hS q1 dX12_forget_148 (fun H locs hP hD hS => ?_)
        exact ih.2.2.2.2.2.2.2.2.2.2.2.2.2.1 L (σ.1, σ.2.1, updG σ.2.2 30 (upd (σ.2.2 30) ((L 101)).toNatClampNeg ((L 100)))) r h H locs ls hP hD hS (lv_sub hl [0, 1, 2, 3] rfl)
      · intro L σ r h H locs ls hP hD hS hl
        rw [x_forget] at h
        refine lv_iinc (v := ((L 3)) + 1) (lv' := [(3, .int (((L 3)) + 1)), (0, .ref (a 0)), (1, .int (L 1)), (2, .int (L 2))]) hx hb dX12_forget_149 hl (k := 3) rfl rfl (by decide) rfl (fun ls hl => ?_)
        refine lv_goto (tgt := 98) hx hb dX12_forget_152 (by decide) ?_
        exact ih.2.2.2.2.2.2.2.2.2.2.1 (upd L 3 (((L 3)) + 1)) σ r h H locs ls hP hD hS (lv_sub hl [1, 2, 3, 0] rfl)
      · intro L σ r h H locs ls hP hD hS hl
        rw [x_forget] at h
        refine lv_iinc (v := ((L 1)) + 1) (lv' := [(1, .int (((L 1)) + 1)), (0, .ref (a 0)), (2, .int (L 2)), (3, .int (L 3))]) hx hb dX12_forget_155 hl (k := 1) rfl rfl (by decide) rfl (fun ls hl => ?_)
        refine lv_goto (tgt := 67) hx hb dX12_forget_158 (by decide) ?_
        exact ih.2.2.2.2.2.2.2.2.2.1 (upd L 1 (((L 1)) + 1)) σ r h H locs ls hP hD hS (lv_sub hl [1, 0] rfl)
      · intro L σ r h H locs ls hP hD hS hl
        rw [x_forget] at h
        cases h
        exact W.vret hx hb hr (fun t ht hW => ⟨⟨(), rfl, trivial, by rw [ht]; exact hP, va_K.moved hW.alike hK, hD⟩, hS.F ht⟩) hS.2.2 dX12_forget_161
  exact (blk k0).1 L0 σ0 r0 h0 s.heap [] ls hP hD hS hl
/-! leave -/
def x_leave : Nat → Nat → (Nat → Int32) → MS → Option (Int32 × MS)
  | 0, _, _, _ => none
  | k + 1, 0, L, σ => ob (x_loopOf k 0 (upd (fun _ => 0) 1 ((L 1))) σ) (fun r1 => if ¬ (((L 1)) < 0 ∨ 70000 ≤ ((L 1)).toNatClampNeg) then (if ((r1.2.2.2 4 ((L 1)).toNatClampNeg)) = 49 then (x_leave k 2 (upd (upd L 2 r1.1) 100 1) r1.2) else (x_leave k 1 (upd L 2 r1.1) r1.2)) else none)
  | k + 1, 1, L, σ => x_leave k 2 (upd L 100 0) σ
  | k + 1, 2, L, σ => if ¬ (((L 2)) < 0 ∨ 70000 ≤ ((L 2)).toNatClampNeg) then (if ((σ.2.2 4 ((L 2)).toNatClampNeg)) = 48 then (if ((L 100)) = 0 then (x_leave k 3 (upd L 3 ((L 100))) σ) else (ob (x_closeFor k 0 (fun _ => 0) σ) (fun r4 => x_leave k 3 (upd L 3 ((L 100))) r4.2))) else (x_leave k 6 (upd L 3 ((L 100))) σ)) else none
  | k + 1, 3, L, σ => if ((L 3)) = 0 then (x_leave k 4 L σ) else (x_leave k 5 (upd L 100 ((L 2))) σ)
  | k + 1, 4, L, σ => ob (x_seek k 0 (upd (upd (fun _ => 0) 1 ((L 2))) 2 0) σ) (fun r1 => x_leave k 5 (upd L 100 r1.1) r1.2)
  | k + 1, 5, L, σ => ob (x_goOnBehind k 0 (upd (fun _ => 0) 1 ((L 100))) σ) (fun r1 => x_leave k 8 L r1.2)
  | k + 1, 6, L, σ => if ((L 3)) = 0 then (x_leave k 7 L σ) else (ob (x_goOnBehind k 0 (upd (fun _ => 0) 1 ((L 2))) σ) (fun r2 => x_leave k 8 L r2.2))
  | k + 1, 7, L, σ => if ¬ ((0 : Int32) < 0 ∨ 11514 ≤ (0 : Int32).toNatClampNeg) then (x_leave k 8 L (σ.1, σ.2.1, updG σ.2.2 30 (upd (σ.2.2 30) (0 : Int32).toNatClampNeg ((L 2))))) else none
  | k + 1, 8, L, σ => some (0, σ)
  | _ + 1, _ + 9, _, _ => none
def o_x_leave : List Cond := [.methodLink RX12 971 yX12_loopOf, .instanceMethod yX12_loopOf, .selects RX12 yX12_loopOf yX12_loopOf, .initialized RX12, .fieldLink RX12 83 "SetHouseModel" "op" "[I", .methodLink RX12 880 yX12_closeFor, .instanceMethod yX12_closeFor, .selects RX12 yX12_closeFor yX12_closeFor, .methodLink RX12 871 yX12_seek, .instanceMethod yX12_seek, .selects RX12 yX12_seek yX12_seek, .methodLink RX12 874 yX12_goOnBehind, .instanceMethod yX12_goOnBehind, .selects RX12 yX12_goOnBehind yX12_goOnBehind, .fieldLink RX12 395 "SetHouseModel" "st" "[I"]
theorem o_x_leave_good : o_x_leave.all goodWord = true := by decide +kernel
def p_x_leave : List Cond := o_x_leave ++ ((.code yX12_loopOf cX12_loopOf 3 (some .int) :: p_x_loopOf) ++ ((.code yX12_closeFor cX12_closeFor 4 none :: p_x_closeFor) ++ ((.code yX12_seek cX12_seek 6 (some .int) :: p_x_seek) ++ ((.code yX12_goOnBehind cX12_goOnBehind 2 none :: p_x_goOnBehind) ++ []))))
theorem p_x_leave_good : p_x_leave.all goodWord = true := nb_all2 o_x_leave_good (nb_all2 (nb_allc (by decide +kernel) p_x_loopOf_good) (nb_all2 (nb_allc (by decide +kernel) p_x_closeFor_good) (nb_all2 (nb_allc (by decide +kernel) p_x_seek_good) (nb_all2 (nb_allc (by decide +kernel) p_x_goOnBehind_good) rfl))))
def w_x_leave : List Cond := .code yX12_leave cX12_leave 4 none :: (p_x_leave ++ fM)
theorem w_x_leave_good : w_x_leave.all goodWord = true := nb_allc (by decide +kernel) (nb_all2 p_x_leave_good fM_good)
theorem in_x_leave : ∀ w ∈ wsX120, w ∈ w_x_leave := fun _ h => List.mem_cons_of_mem _ (List.mem_append_right _ h)
theorem hd_x_leave : yX12_leave.cls = RX12 ∧ yX12_leave.cls ≠ "java/lang/invoke/MethodHandle" ∧ yX12_leave.cls ≠ "java/lang/invoke/VarHandle" ∧ (parseMethodDescriptor yX12_leave.desc).map (fun d => d.parameters.length) = some 1 := by decide +kernel
theorem gg_x_leave_closeFor : GoodIn w_x_leave w_x_closeFor := goodIn_sub (fun w h => (List.mem_cons.mp h).elim (fun e => (List.mem_cons_of_mem _ (List.mem_append_left _ (List.mem_append_right _ (List.mem_append_right _ (List.mem_append_left _ (List.mem_cons.mpr (Or.inl e)))))))) (fun h => (List.mem_append.mp h).elim (fun h => (List.mem_cons_of_mem _ (List.mem_append_left _ (List.mem_append_right _ (List.mem_append_right _ (List.mem_append_left _ (List.mem_cons_of_mem _ h))))))) (fun h => List.mem_cons_of_mem _ (List.mem_append_right _ h)))) w_x_closeFor_good
theorem g_x_leave_closeFor_880 : GoodIn w_x_leave (wsV RX12 880 RX12 yX12_closeFor w_x_closeFor) := goodIn_app (nb_g4 (List.mem_cons_of_mem _ (List.mem_append_left _ (List.mem_append_left _ (List.mem_of_getElem? (i := 5) rfl)))) (List.mem_cons_of_mem _ (List.mem_append_left _ (List.mem_append_left _ (List.mem_of_getElem? (i := 6) rfl)))) (List.mem_cons_of_mem _ (List.mem_append_left _ (List.mem_append_left _ (List.mem_of_getElem? (i := 7) rfl)))) (List.mem_cons_of_mem _ (List.mem_append_left _ (List.mem_append_left _ (List.mem_of_getElem? (i := 3) rfl)))) (by decide +kernel)) gg_x_leave_closeFor
theorem gg_x_leave_goOnBehind : GoodIn w_x_leave w_x_goOnBehind := goodIn_sub (fun w h => (List.mem_cons.mp h).elim (fun e => (List.mem_cons_of_mem _ (List.mem_append_left _ (List.mem_append_right _ (List.mem_append_right _ (List.mem_append_right _ (List.mem_append_right _ (List.mem_append_left _ (List.mem_cons.mpr (Or.inl e)))))))))) (fun h => (List.mem_append.mp h).elim (fun h => (List.mem_cons_of_mem _ (List.mem_append_left _ (List.mem_append_right _ (List.mem_append_right _ (List.mem_append_right _ (List.mem_append_right _ (List.mem_append_left _ (List.mem_cons_of_mem _ h))))))))) (fun h => List.mem_cons_of_mem _ (List.mem_append_right _ h)))) w_x_goOnBehind_good
theorem g_x_leave_goOnBehind_874 : GoodIn w_x_leave (wsV RX12 874 RX12 yX12_goOnBehind w_x_goOnBehind) := goodIn_app (nb_g4 (List.mem_cons_of_mem _ (List.mem_append_left _ (List.mem_append_left _ (List.mem_of_getElem? (i := 11) rfl)))) (List.mem_cons_of_mem _ (List.mem_append_left _ (List.mem_append_left _ (List.mem_of_getElem? (i := 12) rfl)))) (List.mem_cons_of_mem _ (List.mem_append_left _ (List.mem_append_left _ (List.mem_of_getElem? (i := 13) rfl)))) (List.mem_cons_of_mem _ (List.mem_append_left _ (List.mem_append_left _ (List.mem_of_getElem? (i := 3) rfl)))) (by decide +kernel)) gg_x_leave_goOnBehind
theorem gg_x_leave_loopOf : GoodIn w_x_leave w_x_loopOf := goodIn_sub (fun w h => (List.mem_cons.mp h).elim (fun e => (List.mem_cons_of_mem _ (List.mem_append_left _ (List.mem_append_right _ (List.mem_append_left _ (List.mem_cons.mpr (Or.inl e))))))) (fun h => (List.mem_append.mp h).elim (fun h => (List.mem_cons_of_mem _ (List.mem_append_left _ (List.mem_append_right _ (List.mem_append_left _ (List.mem_cons_of_mem _ h)))))) (fun h => List.mem_cons_of_mem _ (List.mem_append_right _ h)))) w_x_loopOf_good
theorem g_x_leave_loopOf_971 : GoodIn w_x_leave (wsV RX12 971 RX12 yX12_loopOf w_x_loopOf) := goodIn_app (nb_g4 (List.mem_cons_of_mem _ (List.mem_append_left _ (List.mem_append_left _ (List.mem_of_getElem? (i := 0) rfl)))) (List.mem_cons_of_mem _ (List.mem_append_left _ (List.mem_append_left _ (List.mem_of_getElem? (i := 1) rfl)))) (List.mem_cons_of_mem _ (List.mem_append_left _ (List.mem_append_left _ (List.mem_of_getElem? (i := 2) rfl)))) (List.mem_cons_of_mem _ (List.mem_append_left _ (List.mem_append_left _ (List.mem_of_getElem? (i := 3) rfl)))) (by decide +kernel)) gg_x_leave_loopOf
theorem gg_x_leave_seek : GoodIn w_x_leave w_x_seek := goodIn_sub (fun w h => (List.mem_cons.mp h).elim (fun e => (List.mem_cons_of_mem _ (List.mem_append_left _ (List.mem_append_right _ (List.mem_append_right _ (List.mem_append_right _ (List.mem_append_left _ (List.mem_cons.mpr (Or.inl e))))))))) (fun h => (List.mem_append.mp h).elim (fun h => (List.mem_cons_of_mem _ (List.mem_append_left _ (List.mem_append_right _ (List.mem_append_right _ (List.mem_append_right _ (List.mem_append_left _ (List.mem_cons_of_mem _ h)))))))) (fun h => List.mem_cons_of_mem _ (List.mem_append_right _ h)))) w_x_seek_good
theorem g_x_leave_seek_871 : GoodIn w_x_leave (wsV RX12 871 RX12 yX12_seek w_x_seek) := goodIn_app (nb_g4 (List.mem_cons_of_mem _ (List.mem_append_left _ (List.mem_append_left _ (List.mem_of_getElem? (i := 8) rfl)))) (List.mem_cons_of_mem _ (List.mem_append_left _ (List.mem_append_left _ (List.mem_of_getElem? (i := 9) rfl)))) (List.mem_cons_of_mem _ (List.mem_append_left _ (List.mem_append_left _ (List.mem_of_getElem? (i := 10) rfl)))) (List.mem_cons_of_mem _ (List.mem_append_left _ (List.mem_append_left _ (List.mem_of_getElem? (i := 3) rfl)))) (by decide +kernel)) gg_x_leave_seek
set_option maxHeartbeats 40000000 in
set_option maxRecDepth 100000 in
theorem c_x_leave (l : Launch) (dC : Nat → ClassId) (dI : Nat → Nat → Nat) (cy : Nat → ClassId) (a : Nat → Nat) (k0 : Nat) (L0 : Nat → Int32) (σ0 : MS) (r0 : Int32 × MS) (h0 : x_leave k0 0 L0 σ0 = some r0) (sz : Nat) : Met l yX12_leave w_x_leave ({ frames := 1364, cells := 0, slots := 0, locals := 36636 }) (va_Pc [.ref (a 0), .int (L0 1)] (nIn (dC, dI) cy sz (vM cy a σ0))) (va_Qv (fun _ : Unit => True) (fun _ t => nOut (dC, dI) cy (va_A (vM cy a σ0) sz) (vM cy a r0.2) t) (va_A (vM cy a σ0) sz)) 0 0 (va_A (vM cy a σ0) sz) := by
  refine Met.ofW (cc := cX12_leave) (maxL := 4) (ret := none) (by decide) rfl ?_
  intro p e s m args below meth c s₁ B hml hv
  obtain ⟨rfl, hsz, hP, hK, hD0, hG⟩ := hv
  have hx := B.exec
  have hb := B.bytes
  have hr := B.returns
  have hts := atoms_spec (ws := w_x_leave) B.pre
  have hown : s.vm.findClass RX12 = some m.cls := findClass_of_methodNamed B.named
  have hlocks := B.notSynchronized
  subst hsz
  have hD := hD0.self (sz := s.heap.size)
  generalize hAe : va_A (vM cy a σ0) s.heap.size = A at hD ⊢
  have hA : ∀ q : Nat, s.heap.size ≤ q → A q := fun q h => by rw [← hAe]; exact Or.inr h
  have hS : va_S A s.heap s.heap [] := va_S.rf
  have hl := lv_entry ([.ref (a 0), .int (L0 1)]) (n := 4) (Nat.le_of_ble_eq_true rfl)
  rw [lg_entry_eq]
  generalize (lg_sl ([.ref (a 0), .int (L0 1)]) ++ List.replicate (4 - (lg_sl ([.ref (a 0), .int (L0 1)])).length) Slot.unset).toArray = ls at hl ⊢
  have hl : lv_has ls 4 [(0, .ref (a 0)), (1, .int (L0 1))] := hl
  have blk : ∀ k : Nat, (bT p l e (headSpec w_x_leave ({ frames := 1364, cells := 0, slots := 0, locals := 36636 })).room s m #[.ref (a 0), .int (L0 1)] below meth c dC dI cy a A (qV dC dI cy a A below #[.ref (a 0), .int (L0 1)] s) 4 (x_leave k 0) (fun L => [(0, .ref (a 0)), (1, .int (L 1))]) 0 (fun L => [])) ∧ (bT p l e (headSpec w_x_leave ({ frames := 1364, cells := 0, slots := 0, locals := 36636 })).room s m #[.ref (a 0), .int (L0 1)] below meth c dC dI cy a A (qV dC dI cy a A below #[.ref (a 0), .int (L0 1)] s) 4 (x_leave k 1) (fun L => [(0, .ref (a 0)), (1, .int (L 1)), (2, .int (L 2))]) 21 (fun L => [])) ∧ (bT p l e (headSpec w_x_leave ({ frames := 1364, cells := 0, slots := 0, locals := 36636 })).room s m #[.ref (a 0), .int (L0 1)] below meth c dC dI cy a A (qV dC dI cy a A below #[.ref (a 0), .int (L0 1)] s) 4 (x_leave k 2) (fun L => [(0, .ref (a 0)), (1, .int (L 1)), (2, .int (L 2))]) 22 (fun L => [.int (L 100)])) ∧ (bT p l e (headSpec w_x_leave ({ frames := 1364, cells := 0, slots := 0, locals := 36636 })).room s m #[.ref (a 0), .int (L0 1)] below meth c dC dI cy a A (qV dC dI cy a A below #[.ref (a 0), .int (L0 1)] s) 4 (x_leave k 3) (fun L => [(0, .ref (a 0)), (1, .int (L 1)), (2, .int (L 2)), (3, .int (L 3))]) 42 (fun L => [])) ∧ (bT p l e (headSpec w_x_leave ({ frames := 1364, cells := 0, slots := 0, locals := 36636 })).room s m #[.ref (a 0), .int (L0 1)] below meth c dC dI cy a A (qV dC dI cy a A below #[.ref (a 0), .int (L0 1)] s) 4 (x_leave k 4) (fun L => [(0, .ref (a 0)), (1, .int (L 1)), (2, .int (L 2)), (3, .int (L 3))]) 51 (fun L => [.ref (a 0)])) ∧ (bT p l e (headSpec w_x_leave ({ frames := 1364, cells := 0, slots := 0, locals := 36636 })).room s m #[.ref (a 0), .int (L0 1)] below meth c dC dI cy a A (qV dC dI cy a A below #[.ref (a 0), .int (L0 1)] s) 4 (x_leave k 5) (fun L => [(0, .ref (a 0)), (1, .int (L 1)), (2, .int (L 2)), (3, .int (L 3))]) 57 (fun L => [.int (L 100), .ref (a 0)])) ∧ (bT p l e (headSpec w_x_leave ({ frames := 1364, cells := 0, slots := 0, locals := 36636 })).room s m #[.ref (a 0), .int (L0 1)] below meth c dC dI cy a A (qV dC dI cy a A below #[.ref (a 0), .int (L0 1)] s) 4 (x_leave k 6) (fun L => [(0, .ref (a 0)), (1, .int (L 1)), (2, .int (L 2)), (3, .int (L 3))]) 63 (fun L => [])) ∧ (bT p l e (headSpec w_x_leave ({ frames := 1364, cells := 0, slots := 0, locals := 36636 })).room s m #[.ref (a 0), .int (L0 1)] below meth c dC dI cy a A (qV dC dI cy a A below #[.ref (a 0), .int (L0 1)] s) 4 (x_leave k 7) (fun L => [(0, .ref (a 0)), (1, .int (L 1)), (2, .int (L 2)), (3, .int (L 3))]) 75 (fun L => [])) ∧ (bT p l e (headSpec w_x_leave ({ frames := 1364, cells := 0, slots := 0, locals := 36636 })).room s m #[.ref (a 0), .int (L0 1)] below meth c dC dI cy a A (qV dC dI cy a A below #[.ref (a 0), .int (L0 1)] s) 4 (x_leave k 8) (fun L => [(0, .ref (a 0)), (1, .int (L 1)), (2, .int (L 2)), (3, .int (L 3))]) 82 (fun L => [])) := by
    intro k
    induction k with
    | zero => exact ⟨fun L σ r h => (by cases h), fun L σ r h => (by cases h), fun L σ r h => (by cases h), fun L σ r h => (by cases h), fun L σ r h => (by cases h), fun L σ r h => (by cases h), fun L σ r h => (by cases h), fun L σ r h => (by cases h), fun L σ r h => (by cases h)⟩
    | succ k ih =>
      refine ⟨?_, ?_, ?_, ?_, ?_, ?_, ?_, ?_, ?_⟩
      · intro L σ r h H locs ls hP hD hS hl
        rw [x_leave] at h
        refine lv_aload_n hx hb dX12_leave_0 rfl (lv_at hl 0 rfl) ?_
        refine lv_iload_n hx hb dX12_leave_1 rfl (lv_at hl 1 rfl) ?_
        obtain ⟨r1, hc1, h⟩ := ob_ex h
        refine nc_Vi (As := [.int (L 1)]) (rest := []) ⟨hx, hb, hml, hown, hts⟩ (c_x_loopOf l dC dI cy a k (upd (fun _ => 0) 1 ((L 1))) σ r1 hc1 H.size) (cwV 1 hts g_x_leave_loopOf_971 rfl rfl rfl hd_x_loopOf ⟨Nat.le_of_ble_eq_true rfl, Nat.le_of_ble_eq_true rfl⟩) hK hG hA hP hD hS rfl hl.1 rfl (Nat.le_of_ble_eq_true rfl) dX12_leave_2 ⟨Nat.le_refl _, Nat.le_refl _⟩ (fun H locs hP hD hS => ?_)
        refine lv_istore_n (lv' := [(2, .int r1.1), (0, .ref (a 0)), (1, .int (L 1))]) hx hb dX12_leave_5 rfl hl (by decide) rfl (fun ls hl => ?_)
        refine lv_aload_n hx hb dX12_leave_6 rfl (lv_at hl 1 rfl) ?_
        refine ng_14 hx hb hts in_x_leave hown hK hP (hts _ (List.mem_cons_of_mem _ (List.mem_append_left _ (List.mem_append_left _ (List.mem_of_getElem? (i := 4) rfl))))) dX12_leave_7 ?_
        refine lv_iload_n hx hb dX12_leave_10 rfl (lv_at hl 2 rfl) ?_
        obtain ⟨q2, h⟩ := nb_ite1 h
        refine nl_4 hx hb hK hP q2 dX12_leave_11 ?_
        refine lv_bipush (v := 49) hx hb dX12_leave_12 (by decide) ?_
        refine lv_icmp_ne (tgt := 21) hx hb dX12_leave_14 (by decide) (fun c3 => ?_) (fun c3 => ?_)
        · rw [if_neg c3] at h
          exact ih.2.1 (upd L 2 r1.1) r1.2 r h H locs ls hP hD hS (lv_sub hl [1, 2, 0] rfl)
        · rw [if_pos c3] at h
          refine lv_iconst (v := 1) hx hb dX12_leave_17 (by decide) ?_
          refine lv_goto (tgt := 22) hx hb dX12_leave_18 (by decide) ?_
          exact ih.2.2.1 (upd (upd L 2 r1.1) 100 1) r1.2 r h H locs ls hP hD hS (lv_sub hl [1, 2, 0] rfl)
      · intro L σ r h H locs ls hP hD hS hl
        rw [x_leave] at h
        refine lv_iconst (v := 0) hx hb dX12_leave_21 (by decide) ?_
        exact ih.2.2.1 (upd L 100 0) σ r h H locs ls hP hD hS (lv_sub hl [0, 1, 2] rfl)
      · intro L σ r h H locs ls hP hD hS hl
        rw [x_leave] at h
        refine lv_istore_n (lv' := [(3, .int (L 100)), (0, .ref (a 0)), (1, .int (L 1)), (2, .int (L 2))]) hx hb dX12_leave_22 rfl hl (by decide) rfl (fun ls hl => ?_)
        refine lv_aload_n hx hb dX12_leave_23 rfl (lv_at hl 1 rfl) ?_
        refine ng_14 hx hb hts in_x_leave hown hK hP (hts _ (List.mem_cons_of_mem _ (List.mem_append_left _ (List.mem_append_left _ (List.mem_of_getElem? (i := 4) rfl))))) dX12_leave_24 ?_
        refine lv_iload_n hx hb dX12_leave_27 rfl (lv_at hl 3 rfl) ?_
        obtain ⟨q1, h⟩ := nb_ite1 h
        refine nl_4 hx hb hK hP q1 dX12_leave_28 ?_
        refine lv_bipush (v := 48) hx hb dX12_leave_29 (by decide) ?_
        refine lv_icmp_ne (tgt := 63) hx hb dX12_leave_31 (by decide) (fun c2 => ?_) (fun c2 => ?_)
        · rw [if_neg c2] at h
          exact ih.2.2.2.2.2.2.1 (upd L 3 ((L 100))) σ r h H locs ls hP hD hS (lv_sub hl [1, 2, 3, 0] rfl)
        · rw [if_pos c2] at h
          refine lv_iload_n hx hb dX12_leave_34 rfl (lv_at hl 0 rfl) ?_
          refine lv_if_eq (tgt := 42) hx hb dX12_leave_35 (by decide) (fun c3 => ?_) (fun c3 => ?_)
          · rw [if_pos c3] at h
            exact ih.2.2.2.1 (upd L 3 ((L 100))) σ r h H locs ls hP hD hS (lv_sub hl [1, 2, 3, 0] rfl)
          · rw [if_neg c3] at h
            refine lv_aload_n hx hb dX12_leave_38 rfl (lv_at hl 1 rfl) ?_
            obtain ⟨r4, hc4, h⟩ := ob_ex h
            refine nc_Vv (As := []) (rest := []) ⟨hx, hb, hml, hown, hts⟩ (c_x_closeFor l dC dI cy a k (fun _ => 0) σ r4 hc4 H.size) (cwV 0 hts g_x_leave_closeFor_880 rfl rfl rfl hd_x_closeFor ⟨Nat.le_of_ble_eq_true rfl, Nat.le_of_ble_eq_true rfl⟩) hK hG hA hP hD hS rfl hl.1 rfl (Nat.le_of_ble_eq_true rfl) dX12_leave_39 ⟨Nat.le_refl _, Nat.le_refl _⟩ (fun H locs hP hD hS => ?_)
            exact ih.2.2.2.1 (upd L 3 ((L 100))) r4.2 r h H locs ls hP hD hS (lv_sub hl [1, 2, 3, 0] rfl)
      · intro L σ r h H locs ls hP hD hS hl
        rw [x_leave] at h
        refine lv_aload_n hx hb dX12_leave_42 rfl (lv_at hl 0 rfl) ?_
        refine lv_iload_n hx hb dX12_leave_43 rfl (lv_at hl 3 rfl) ?_
        refine lv_if_eq (tgt := 51) hx hb dX12_leave_44 (by decide) (fun c1 => ?_) (fun c1 => ?_)
        · rw [if_pos c1] at h
          exact ih.2.2.2.2.1 L σ r h H locs ls hP hD hS (lv_sub hl [0, 1, 2, 3] rfl)
        · rw [if_neg c1] at h
          refine lv_iload_n hx hb dX12_leave_47 rfl (lv_at hl 2 rfl) ?_
          refine lv_goto (tgt := 57) hx hb dX12_leave_48 (by decide) ?_
          exact ih.2.2.2.2.2.1 (upd L 100 ((L 2))) σ r h H locs ls hP hD hS (lv_sub hl [0, 1, 2, 3] rfl)
      · intro L σ r h H locs ls hP hD hS hl
        rw [x_leave] at h
        refine lv_aload_n hx hb dX12_leave_51 rfl (lv_at hl 0 rfl) ?_
        refine lv_iload_n hx hb dX12_leave_52 rfl (lv_at hl 2 rfl) ?_
        refine lv_iconst (v := 0) hx hb dX12_leave_53 (by decide) ?_
        obtain ⟨r1, hc1, h⟩ := ob_ex h
        refine nc_Vi (As := [.int (L 2), .int 0]) (rest := [.ref (a 0)]) ⟨hx, hb, hml, hown, hts⟩ (c_x_seek l dC dI cy a k (upd (upd (fun _ => 0) 1 ((L 2))) 2 0) σ r1 hc1 H.size) (cwV 2 hts g_x_leave_seek_871 rfl rfl rfl hd_x_seek ⟨Nat.le_of_ble_eq_true rfl, Nat.le_of_ble_eq_true rfl⟩) hK hG hA hP hD hS rfl hl.1 rfl (Nat.le_of_ble_eq_true rfl) dX12_leave_54 ⟨Nat.le_refl _, Nat.le_refl _⟩ (fun H locs hP hD hS => ?_)
        exact ih.2.2.2.2.2.1 (upd L 100 r1.1) r1.2 r h H locs ls hP hD hS (lv_sub hl [0, 1, 2, 3] rfl)
      · intro L σ r h H locs ls hP hD hS hl
        rw [x_leave] at h
        obtain ⟨r1, hc1, h⟩ := ob_ex h
        refine nc_Vv (As := [.int (L 100)]) (rest := []) ⟨hx, hb, hml, hown, hts⟩ (c_x_goOnBehind l dC dI cy a k (upd (fun _ => 0) 1 ((L 100))) σ r1 hc1 H.size) (cwV 1 hts g_x_leave_goOnBehind_874 rfl rfl rfl hd_x_goOnBehind ⟨Nat.le_of_ble_eq_true rfl, Nat.le_of_ble_eq_true rfl⟩) hK hG hA hP hD hS rfl hl.1 rfl (Nat.le_of_ble_eq_true rfl) dX12_leave_57 ⟨Nat.le_refl _, Nat.le_refl _⟩ (fun H locs hP hD hS => ?_)
        refine lv_goto (tgt := 82) hx hb dX12_leave_60 (by decide) ?_
        exact ih.2.2.2.2.2.2.2.2 L r1.2 r h H locs ls hP hD hS (lv_sub hl [0, 1, 2, 3] rfl)
      · intro L σ r h H locs ls hP hD hS hl
        rw [x_leave] at h
        refine lv_iload_n hx hb dX12_leave_63 rfl (lv_at hl 3 rfl) ?_
        refine lv_if_eq (tgt := 75) hx hb dX12_leave_64 (by decide) (fun c1 => ?_) (fun c1 => ?_)
        · rw [if_pos c1] at h
          exact ih.2.2.2.2.2.2.2.1 L σ r h H locs ls hP hD hS (lv_sub hl [0, 1, 2, 3] rfl)
        · rw [if_neg c1] at h
          refine lv_aload_n hx hb dX12_leave_67 rfl (lv_at hl 0 rfl) ?_
          refine lv_iload_n hx hb dX12_leave_68 rfl (lv_at hl 2 rfl) ?_
          obtain ⟨r2, hc2, h⟩ := ob_ex h
          refine nc_Vv (As := [.int (L 2)]) (rest := []) ⟨hx, hb, hml, hown, hts⟩ (c_x_goOnBehind l dC dI cy a k (upd (fun _ => 0) 1 ((L 2))) σ r2 hc2 H.size) (cwV 1 hts g_x_leave_goOnBehind_874 rfl rfl rfl hd_x_goOnBehind ⟨Nat.le_of_ble_eq_true rfl, Nat.le_of_ble_eq_true rfl⟩) hK hG hA hP hD hS rfl hl.1 rfl (Nat.le_of_ble_eq_true rfl) dX12_leave_69 ⟨Nat.le_refl _, Nat.le_refl _⟩ (fun H locs hP hD hS => ?_)
          refine lv_goto (tgt := 82) hx hb dX12_leave_72 (by decide) ?_
          exact ih.2.2.2.2.2.2.2.2 L r2.2 r h H locs ls hP hD hS (lv_sub hl [0, 1, 2, 3] rfl)
      · intro L σ r h H locs ls hP hD hS hl
        rw [x_leave] at h
        refine lv_aload_n hx hb dX12_leave_75 rfl (lv_at hl 0 rfl) ?_
        refine ng_60 hx hb hts in_x_leave hown hK hP (hts _ (List.mem_cons_of_mem _ (List.mem_append_left _ (List.mem_append_left _ (List.mem_of_getElem? (i := 14) rfl))))) dX12_leave_76 ?_
        refine lv_iconst (v := 0) hx hb dX12_leave_79 (by decide) ?_
        refine lv_iload_n hx hb dX12_leave_80 rfl (lv_at hl 2 rfl) ?_
        obtain ⟨q1, h⟩ := nb_ite1 h
        refine ns_30 hx hb hK hP hD hS q1 dX12_leave_81 (fun H locs hP hD hS => ?_)
        exact ih.2.2.2.2.2.2.2.2 L (σ.1, σ.2.1, updG σ.2.2 30 (upd (σ.2.2 30) (0 : Int32).toNatClampNeg ((L 2)))) r h H locs ls hP hD hS (lv_sub hl [0, 1, 2, 3] rfl)
      · intro L σ r h H locs ls hP hD hS hl
        rw [x_leave] at h
        cases h
        exact W.vret hx hb hr (fun t ht hW => ⟨⟨(), rfl, trivial, by rw [ht]; exact hP, va_K.moved hW.alike hK, hD⟩, hS.F ht⟩) hS.2.2 dX12_leave_82
  exact (blk k0).1 L0 σ0 r0 h0 s.heap [] ls hP hD hS hl
/-! partsTo -/
def x_partsTo : Nat → Nat → (Nat → Int32) → MS → Option (Int32 × MS)
  | 0, _, _, _ => none
  | k + 1, 0, L, σ => if ¬ (((L 1)) < 0 ∨ 70000 ≤ ((L 1)).toNatClampNeg) then (x_partsTo k 1 (upd (upd L 2 ((σ.1 59))) 3 ((σ.2.2 5 ((L 1)).toNatClampNeg))) σ) else none
  | k + 1, 1, L, σ => if ((L 3)) = ((-1)) then (x_partsTo k 3 L σ) else (if ((σ.1 56)) = 0 then (if ¬ (((L 3)) < 0 ∨ 70000 ≤ ((L 3)).toNatClampNeg) then (if ((σ.2.2 4 ((L 3)).toNatClampNeg)) = 32 then (x_partsTo k 2 L σ) else (ob (x_workParts k 0 (upd (fun _ => 0) 1 ((L 3))) σ) (fun r5 => x_partsTo k 2 L r5.2))) else none) else (x_partsTo k 3 L σ))
  | k + 1, 2, L, σ => if ¬ (((L 3)) < 0 ∨ 70000 ≤ ((L 3)).toNatClampNeg) then (x_partsTo k 1 (upd L 3 ((σ.2.2 9 ((L 3)).toNatClampNeg))) σ) else none
  | k + 1, 3, L, σ => if ((σ.1 56)) = 0 then (if ¬ (((L 1)) < 0 ∨ 70000 ≤ ((L 1)).toNatClampNeg) then (ob (x_eval k 0 (upd (fun _ => 0) 1 ((σ.2.2 6 ((L 1)).toNatClampNeg))) σ) (fun r3 => x_partsTo k 4 L r3.2)) else none) else (x_partsTo k 4 L σ)
  | k + 1, 4, L, σ => if ((σ.1 56)) ≤ 0 then (x_partsTo k 5 L σ) else (some (0, σ))
  | k + 1, 5, L, σ => if ¬ (((((σ.1 59)) - 1)) < 0 ∨ 185000 ≤ ((((σ.1 59)) - 1)).toNatClampNeg) then (ob (x_kind k 0 (upd (fun _ => 0) 1 ((σ.2.2 29 ((((σ.1 59)) - 1)).toNatClampNeg))) σ) (fun r2 => if r2.1 = 5 then (x_partsTo k 6 (upd L 3 ((((σ.1 59)) - 1))) r2.2) else (ob (x_fail k 0 (upd (fun _ => 0) 1 1) r2.2) (fun r4 => some (0, r4.2))))) else none
  | k + 1, 6, L, σ => if ¬ (((L 1)) < 0 ∨ 70000 ≤ ((L 1)).toNatClampNeg) then (x_partsTo k 7 (upd (upd L 4 0) 5 ((σ.2.2 5 ((L 1)).toNatClampNeg))) σ) else none
  | k + 1, 7, L, σ => if ((L 5)) = ((-1)) then (x_partsTo k 12 L σ) else (if ((σ.1 56)) = 0 then (if ¬ (((L 5)) < 0 ∨ 70000 ≤ ((L 5)).toNatClampNeg) then (if ((σ.2.2 4 ((L 5)).toNatClampNeg)) = 32 then (x_partsTo k 11 L σ) else (if ¬ (((L 3)) < 0 ∨ 185000 ≤ ((L 3)).toNatClampNeg) then (if ¬ (((((σ.2.2 29 ((L 3)).toNatClampNeg)) + 1)) < 0 ∨ 1740000 ≤ ((((σ.2.2 29 ((L 3)).toNatClampNeg)) + 1)).toNatClampNeg) then (if ((σ.2.2 28 ((((σ.2.2 29 ((L 3)).toNatClampNeg)) + 1)).toNatClampNeg)) ≤ ((L 4)) then (x_partsTo k 8 (upd L 6 ((σ.2.2 29 ((L 3)).toNatClampNeg))) σ) else (if ¬ (((((((σ.2.2 29 ((L 3)).toNatClampNeg)) + 4)) + ((L 4)))) < 0 ∨ 1740000 ≤ ((((((σ.2.2 29 ((L 3)).toNatClampNeg)) + 4)) + ((L 4)))).toNatClampNeg) then (x_partsTo k 9 (upd (upd L 6 ((σ.2.2 29 ((L 3)).toNatClampNeg))) 100 ((σ.2.2 28 ((((((σ.2.2 29 ((L 3)).toNatClampNeg)) + 4)) + ((L 4)))).toNatClampNeg))) σ) else none)) else none) else none)) else none) else (x_partsTo k 12 L σ))
  | k + 1, 8, L, σ => x_partsTo k 9 (upd L 100 0) σ
  | k + 1, 9, L, σ => ob (x_push k 0 (upd (fun _ => 0) 1 ((L 100))) σ) (fun r1 => ob (x_write k 0 (upd (upd (upd (fun _ => 0) 1 ((L 5))) 2 ((L 2))) 3 ((((r1.2.1 59)) - 1))) r1.2) (fun r2 => x_partsTo k 10 L (upd r2.2.1 59 ((((r2.2.1 59)) - 1)), r2.2.2.1, r2.2.2.2)))
  | k + 1, 10, L, σ => ob (x_keysIn k 0 (upd (fun _ => 0) 1 ((L 5))) σ) (fun r1 => x_partsTo k 11 (upd L 2 ((((L 2)) + r1.1))) r1.2)
  | k + 1, 11, L, σ => if ¬ (((L 5)) < 0 ∨ 70000 ≤ ((L 5)).toNatClampNeg) then (x_partsTo k 7 (upd (upd L 4 (((L 4)) + 1)) 5 ((σ.2.2 9 ((L 5)).toNatClampNeg))) σ) else none
  | k + 1, 12, L, σ => ob (x_pass k 0 (upd (fun _ => 0) 1 ((L 1))) σ) (fun r1 => some (0, r1.2))
  | _ + 1, _ + 13, _, _ => none
def o_x_partsTo : List Cond := [.fieldLink RX12 385 "SetHouseModel" "top" "I", .fieldLink RX12 86 "SetHouseModel" "x1" "[I", .fieldLink RX12 362 "SetHouseModel" "err" "I", .fieldLink RX12 83 "SetHouseModel" "op" "[I", .methodLink RX12 901 yX12_workParts, .instanceMethod yX12_workParts, .selects RX12 yX12_workParts yX12_workParts, .initialized RX12, .fieldLink RX12 98 "SetHouseModel" "next" "[I", .fieldLink RX12 89 "SetHouseModel" "x2" "[I", .methodLink RX12 566 yX12_eval, .instanceMethod yX12_eval, .selects RX12 yX12_eval yX12_eval, .fieldLink RX12 382 "SetHouseModel" "pile" "[I", .methodLink RX12 545 yX12_kind, .instanceMethod yX12_kind, .selects RX12 yX12_kind yX12_kind, .methodLink RX12 369 yX12_fail, .instanceMethod yX12_fail, .selects RX12 yX12_fail yX12_fail, .fieldLink RX12 372 "SetHouseModel" "heap" "[I", .methodLink RX12 594 yX12_push, .instanceMethod yX12_push, .selects RX12 yX12_push yX12_push, .methodLink RX12 904 yX12_write, .instanceMethod yX12_write, .selects RX12 yX12_write yX12_write, .methodLink RX12 828 yX12_keysIn, .instanceMethod yX12_keysIn, .selects RX12 yX12_keysIn yX12_keysIn, .methodLink RX12 926 yX12_pass, .instanceMethod yX12_pass, .selects RX12 yX12_pass yX12_pass]
theorem o_x_partsTo_good : o_x_partsTo.all goodWord = true := by decide +kernel
def p_x_partsTo : List Cond := o_x_partsTo ++ ((.code yX12_workParts cX12_workParts 3 none :: p_x_workParts) ++ ((.code yX12_eval cX12_eval 3 none :: p_x_GV) ++ ((.code yX12_kind cX12_kind 2 (some .int) :: p_x_kind) ++ ((.code yX12_fail cX12_fail 2 none :: p_x_fail) ++ ((.code yX12_push cX12_push 2 none :: p_x_push) ++ ((.code yX12_write cX12_write 10 none :: p_x_write) ++ ((.code yX12_keysIn cX12_keysIn 4 (some .int) :: p_x_keysIn) ++ ((.code yX12_pass cX12_pass 2 none :: p_x_pass) ++ []))))))))
theorem p_x_partsTo_good : p_x_partsTo.all goodWord = true := nb_all2 o_x_partsTo_good (nb_all2 (nb_allc (by decide +kernel) p_x_workParts_good) (nb_all2 (nb_allc (by decide +kernel) p_x_GV_good) (nb_all2 (nb_allc (by decide +kernel) p_x_kind_good) (nb_all2 (nb_allc (by decide +kernel) p_x_fail_good) (nb_all2 (nb_allc (by decide +kernel) p_x_push_good) (nb_all2 (nb_allc (by decide +kernel) p_x_write_good) (nb_all2 (nb_allc (by decide +kernel) p_x_keysIn_good) (nb_all2 (nb_allc (by decide +kernel) p_x_pass_good) rfl))))))))
def w_x_partsTo : List Cond := .code yX12_partsTo cX12_partsTo 7 none :: (p_x_partsTo ++ fM)
theorem w_x_partsTo_good : w_x_partsTo.all goodWord = true := nb_allc (by decide +kernel) (nb_all2 p_x_partsTo_good fM_good)
theorem in_x_partsTo : ∀ w ∈ wsX120, w ∈ w_x_partsTo := fun _ h => List.mem_cons_of_mem _ (List.mem_append_right _ h)
theorem hd_x_partsTo : yX12_partsTo.cls = RX12 ∧ yX12_partsTo.cls ≠ "java/lang/invoke/MethodHandle" ∧ yX12_partsTo.cls ≠ "java/lang/invoke/VarHandle" ∧ (parseMethodDescriptor yX12_partsTo.desc).map (fun d => d.parameters.length) = some 1 := by decide +kernel
theorem gg_x_partsTo_eval : GoodIn w_x_partsTo w_x_eval := goodIn_sub (fun w h => (List.mem_cons.mp h).elim (fun e => (List.mem_cons_of_mem _ (List.mem_append_left _ (List.mem_append_right _ (List.mem_append_right _ (List.mem_append_left _ (List.mem_cons.mpr (Or.inl e)))))))) (fun h => (List.mem_append.mp h).elim (fun h => (List.mem_cons_of_mem _ (List.mem_append_left _ (List.mem_append_right _ (List.mem_append_right _ (List.mem_append_left _ (List.mem_cons_of_mem _ h))))))) (fun h => List.mem_cons_of_mem _ (List.mem_append_right _ h)))) w_x_eval_good
theorem g_x_partsTo_eval_566 : GoodIn w_x_partsTo (wsV RX12 566 RX12 yX12_eval w_x_eval) := goodIn_app (nb_g4 (List.mem_cons_of_mem _ (List.mem_append_left _ (List.mem_append_left _ (List.mem_of_getElem? (i := 10) rfl)))) (List.mem_cons_of_mem _ (List.mem_append_left _ (List.mem_append_left _ (List.mem_of_getElem? (i := 11) rfl)))) (List.mem_cons_of_mem _ (List.mem_append_left _ (List.mem_append_left _ (List.mem_of_getElem? (i := 12) rfl)))) (List.mem_cons_of_mem _ (List.mem_append_left _ (List.mem_append_left _ (List.mem_of_getElem? (i := 7) rfl)))) (by decide +kernel)) gg_x_partsTo_eval
theorem gg_x_partsTo_fail : GoodIn w_x_partsTo w_x_fail := goodIn_sub (fun w h => (List.mem_cons.mp h).elim (fun e => (List.mem_cons_of_mem _ (List.mem_append_left _ (List.mem_append_right _ (List.mem_append_right _ (List.mem_append_right _ (List.mem_append_right _ (List.mem_append_left _ (List.mem_cons.mpr (Or.inl e)))))))))) (fun h => (List.mem_append.mp h).elim (fun h => (List.mem_cons_of_mem _ (List.mem_append_left _ (List.mem_append_right _ (List.mem_append_right _ (List.mem_append_right _ (List.mem_append_right _ (List.mem_append_left _ (List.mem_cons_of_mem _ h))))))))) (fun h => List.mem_cons_of_mem _ (List.mem_append_right _ h)))) w_x_fail_good
theorem g_x_partsTo_fail_369 : GoodIn w_x_partsTo (wsV RX12 369 RX12 yX12_fail w_x_fail) := goodIn_app (nb_g4 (List.mem_cons_of_mem _ (List.mem_append_left _ (List.mem_append_left _ (List.mem_of_getElem? (i := 17) rfl)))) (List.mem_cons_of_mem _ (List.mem_append_left _ (List.mem_append_left _ (List.mem_of_getElem? (i := 18) rfl)))) (List.mem_cons_of_mem _ (List.mem_append_left _ (List.mem_append_left _ (List.mem_of_getElem? (i := 19) rfl)))) (List.mem_cons_of_mem _ (List.mem_append_left _ (List.mem_append_left _ (List.mem_of_getElem? (i := 7) rfl)))) (by decide +kernel)) gg_x_partsTo_fail
theorem gg_x_partsTo_keysIn : GoodIn w_x_partsTo w_x_keysIn := goodIn_sub (fun w h => (List.mem_cons.mp h).elim (fun e => (List.mem_cons_of_mem _ (List.mem_append_left _ (List.mem_append_right _ (List.mem_append_right _ (List.mem_append_right _ (List.mem_append_right _ (List.mem_append_right _ (List.mem_append_right _ (List.mem_append_right _ (List.mem_append_left _ (List.mem_cons.mpr (Or.inl e))))))))))))) (fun h => (List.mem_append.mp h).elim (fun h => (List.mem_cons_of_mem _ (List.mem_append_left _ (List.mem_append_right _ (List.mem_append_right _ (List.mem_append_right _ (List.mem_append_right _ (List.mem_append_right _ (List.mem_append_right _ (List.mem_append_right _ (List.mem_append_left _ (List.mem_cons_of_mem _ h)))))))))))) (fun h => List.mem_cons_of_mem _ (List.mem_append_right _ h)))) w_x_keysIn_good
theorem g_x_partsTo_keysIn_828 : GoodIn w_x_partsTo (wsV RX12 828 RX12 yX12_keysIn w_x_keysIn) := goodIn_app (nb_g4 (List.mem_cons_of_mem _ (List.mem_append_left _ (List.mem_append_left _ (List.mem_of_getElem? (i := 27) rfl)))) (List.mem_cons_of_mem _ (List.mem_append_left _ (List.mem_append_left _ (List.mem_of_getElem? (i := 28) rfl)))) (List.mem_cons_of_mem _ (List.mem_append_left _ (List.mem_append_left _ (List.mem_of_getElem? (i := 29) rfl)))) (List.mem_cons_of_mem _ (List.mem_append_left _ (List.mem_append_left _ (List.mem_of_getElem? (i := 7) rfl)))) (by decide +kernel)) gg_x_partsTo_keysIn
theorem gg_x_partsTo_kind : GoodIn w_x_partsTo w_x_kind := goodIn_sub (fun w h => (List.mem_cons.mp h).elim (fun e => (List.mem_cons_of_mem _ (List.mem_append_left _ (List.mem_append_right _ (List.mem_append_right _ (List.mem_append_right _ (List.mem_append_left _ (List.mem_cons.mpr (Or.inl e))))))))) (fun h => (List.mem_append.mp h).elim (fun h => (List.mem_cons_of_mem _ (List.mem_append_left _ (List.mem_append_right _ (List.mem_append_right _ (List.mem_append_right _ (List.mem_append_left _ (List.mem_cons_of_mem _ h)))))))) (fun h => List.mem_cons_of_mem _ (List.mem_append_right _ h)))) w_x_kind_good
theorem g_x_partsTo_kind_545 : GoodIn w_x_partsTo (wsV RX12 545 RX12 yX12_kind w_x_kind) := goodIn_app (nb_g4 (List.mem_cons_of_mem _ (List.mem_append_left _ (List.mem_append_left _ (List.mem_of_getElem? (i := 14) rfl)))) (List.mem_cons_of_mem _ (List.mem_append_left _ (List.mem_append_left _ (List.mem_of_getElem? (i := 15) rfl)))) (List.mem_cons_of_mem _ (List.mem_append_left _ (List.mem_append_left _ (List.mem_of_getElem? (i := 16) rfl)))) (List.mem_cons_of_mem _ (List.mem_append_left _ (List.mem_append_left _ (List.mem_of_getElem? (i := 7) rfl)))) (by decide +kernel)) gg_x_partsTo_kind
theorem gg_x_partsTo_pass : GoodIn w_x_partsTo w_x_pass := goodIn_sub (fun w h => (List.mem_cons.mp h).elim (fun e => (List.mem_cons_of_mem _ (List.mem_append_left _ (List.mem_append_right _ (List.mem_append_right _ (List.mem_append_right _ (List.mem_append_right _ (List.mem_append_right _ (List.mem_append_right _ (List.mem_append_right _ (List.mem_append_right _ (List.mem_append_left _ (List.mem_cons.mpr (Or.inl e)))))))))))))) (fun h => (List.mem_append.mp h).elim (fun h => (List.mem_cons_of_mem _ (List.mem_append_left _ (List.mem_append_right _ (List.mem_append_right _ (List.mem_append_right _ (List.mem_append_right _ (List.mem_append_right _ (List.mem_append_right _ (List.mem_append_right _ (List.mem_append_right _ (List.mem_append_left _ (List.mem_cons_of_mem _ h))))))))))))) (fun h => List.mem_cons_of_mem _ (List.mem_append_right _ h)))) w_x_pass_good
theorem g_x_partsTo_pass_926 : GoodIn w_x_partsTo (wsV RX12 926 RX12 yX12_pass w_x_pass) := goodIn_app (nb_g4 (List.mem_cons_of_mem _ (List.mem_append_left _ (List.mem_append_left _ (List.mem_of_getElem? (i := 30) rfl)))) (List.mem_cons_of_mem _ (List.mem_append_left _ (List.mem_append_left _ (List.mem_of_getElem? (i := 31) rfl)))) (List.mem_cons_of_mem _ (List.mem_append_left _ (List.mem_append_left _ (List.mem_of_getElem? (i := 32) rfl)))) (List.mem_cons_of_mem _ (List.mem_append_left _ (List.mem_append_left _ (List.mem_of_getElem? (i := 7) rfl)))) (by decide +kernel)) gg_x_partsTo_pass
theorem gg_x_partsTo_push : GoodIn w_x_partsTo w_x_push := goodIn_sub (fun w h => (List.mem_cons.mp h).elim (fun e => (List.mem_cons_of_mem _ (List.mem_append_left _ (List.mem_append_right _ (List.mem_append_right _ (List.mem_append_right _ (List.mem_append_right _ (List.mem_append_right _ (List.mem_append_left _ (List.mem_cons.mpr (Or.inl e))))))))))) (fun h => (List.mem_append.mp h).elim (fun h => (List.mem_cons_of_mem _ (List.mem_append_left _ (List.mem_append_right _ (List.mem_append_right _ (List.mem_append_right _ (List.mem_append_right _ (List.mem_append_right _ (List.mem_append_left _ (List.mem_cons_of_mem _ h)))))))))) (fun h => List.mem_cons_of_mem _ (List.mem_append_right _ h)))) w_x_push_good
theorem g_x_partsTo_push_594 : GoodIn w_x_partsTo (wsV RX12 594 RX12 yX12_push w_x_push) := goodIn_app (nb_g4 (List.mem_cons_of_mem _ (List.mem_append_left _ (List.mem_append_left _ (List.mem_of_getElem? (i := 21) rfl)))) (List.mem_cons_of_mem _ (List.mem_append_left _ (List.mem_append_left _ (List.mem_of_getElem? (i := 22) rfl)))) (List.mem_cons_of_mem _ (List.mem_append_left _ (List.mem_append_left _ (List.mem_of_getElem? (i := 23) rfl)))) (List.mem_cons_of_mem _ (List.mem_append_left _ (List.mem_append_left _ (List.mem_of_getElem? (i := 7) rfl)))) (by decide +kernel)) gg_x_partsTo_push
theorem gg_x_partsTo_workParts : GoodIn w_x_partsTo w_x_workParts := goodIn_sub (fun w h => (List.mem_cons.mp h).elim (fun e => (List.mem_cons_of_mem _ (List.mem_append_left _ (List.mem_append_right _ (List.mem_append_left _ (List.mem_cons.mpr (Or.inl e))))))) (fun h => (List.mem_append.mp h).elim (fun h => (List.mem_cons_of_mem _ (List.mem_append_left _ (List.mem_append_right _ (List.mem_append_left _ (List.mem_cons_of_mem _ h)))))) (fun h => List.mem_cons_of_mem _ (List.mem_append_right _ h)))) w_x_workParts_good
theorem g_x_partsTo_workParts_901 : GoodIn w_x_partsTo (wsV RX12 901 RX12 yX12_workParts w_x_workParts) := goodIn_app (nb_g4 (List.mem_cons_of_mem _ (List.mem_append_left _ (List.mem_append_left _ (List.mem_of_getElem? (i := 4) rfl)))) (List.mem_cons_of_mem _ (List.mem_append_left _ (List.mem_append_left _ (List.mem_of_getElem? (i := 5) rfl)))) (List.mem_cons_of_mem _ (List.mem_append_left _ (List.mem_append_left _ (List.mem_of_getElem? (i := 6) rfl)))) (List.mem_cons_of_mem _ (List.mem_append_left _ (List.mem_append_left _ (List.mem_of_getElem? (i := 7) rfl)))) (by decide +kernel)) gg_x_partsTo_workParts
theorem gg_x_partsTo_write : GoodIn w_x_partsTo w_x_write := goodIn_sub (fun w h => (List.mem_cons.mp h).elim (fun e => (List.mem_cons_of_mem _ (List.mem_append_left _ (List.mem_append_right _ (List.mem_append_right _ (List.mem_append_right _ (List.mem_append_right _ (List.mem_append_right _ (List.mem_append_right _ (List.mem_append_left _ (List.mem_cons.mpr (Or.inl e)))))))))))) (fun h => (List.mem_append.mp h).elim (fun h => (List.mem_cons_of_mem _ (List.mem_append_left _ (List.mem_append_right _ (List.mem_append_right _ (List.mem_append_right _ (List.mem_append_right _ (List.mem_append_right _ (List.mem_append_right _ (List.mem_append_left _ (List.mem_cons_of_mem _ h))))))))))) (fun h => List.mem_cons_of_mem _ (List.mem_append_right _ h)))) w_x_write_good
theorem g_x_partsTo_write_904 : GoodIn w_x_partsTo (wsV RX12 904 RX12 yX12_write w_x_write) := goodIn_app (nb_g4 (List.mem_cons_of_mem _ (List.mem_append_left _ (List.mem_append_left _ (List.mem_of_getElem? (i := 24) rfl)))) (List.mem_cons_of_mem _ (List.mem_append_left _ (List.mem_append_left _ (List.mem_of_getElem? (i := 25) rfl)))) (List.mem_cons_of_mem _ (List.mem_append_left _ (List.mem_append_left _ (List.mem_of_getElem? (i := 26) rfl)))) (List.mem_cons_of_mem _ (List.mem_append_left _ (List.mem_append_left _ (List.mem_of_getElem? (i := 7) rfl)))) (by decide +kernel)) gg_x_partsTo_write
set_option maxHeartbeats 40000000 in
set_option maxRecDepth 100000 in
theorem c_x_partsTo (l : Launch) (dC : Nat → ClassId) (dI : Nat → Nat → Nat) (cy : Nat → ClassId) (a : Nat → Nat) (k0 : Nat) (L0 : Nat → Int32) (σ0 : MS) (r0 : Int32 × MS) (h0 : x_partsTo k0 0 L0 σ0 = some r0) (sz : Nat) : Met l yX12_partsTo w_x_partsTo ({ frames := 1365, cells := 0, slots := 0, locals := 36657 }) (va_Pc [.ref (a 0), .int (L0 1)] (nIn (dC, dI) cy sz (vM cy a σ0))) (va_Qv (fun _ : Unit => True) (fun _ t => nOut (dC, dI) cy (va_A (vM cy a σ0) sz) (vM cy a r0.2) t) (va_A (vM cy a σ0) sz)) 0 0 (va_A (vM cy a σ0) sz) := by
  refine Met.ofW (cc := cX12_partsTo) (maxL := 7) (ret := none) (by decide) rfl ?_
  intro p e s m args below meth c s₁ B hml hv
  obtain ⟨rfl, hsz, hP, hK, hD0, hG⟩ := hv
  have hx := B.exec
  have hb := B.bytes
  have hr := B.returns
  have hts := atoms_spec (ws := w_x_partsTo) B.pre
  have hown : s.vm.findClass RX12 = some m.cls := findClass_of_methodNamed B.named
  have hlocks := B.notSynchronized
  subst hsz
  have hD := hD0.self (sz := s.heap.size)
  generalize hAe : va_A (vM cy a σ0) s.heap.size = A at hD ⊢
  have hA : ∀ q : Nat, s.heap.size ≤ q → A q := fun q h => by rw [← hAe]; exact Or.inr h
  have hS : va_S A s.heap s.heap [] := va_S.rf
  have hl := lv_entry ([.ref (a 0), .int (L0 1)]) (n := 7) (Nat.le_of_ble_eq_true rfl)
  rw [lg_entry_eq]
  generalize (lg_sl ([.ref (a 0), .int (L0 1)]) ++ List.replicate (7 - (lg_sl ([.ref (a 0), .int (L0 1)])).length) Slot.unset).toArray = ls at hl ⊢
  have hl : lv_has ls 7 [(0, .ref (a 0)), (1, .int (L0 1))] := hl
  have blk : ∀ k : Nat, (bT p l e (headSpec w_x_partsTo ({ frames := 1365, cells := 0, slots := 0, locals := 36657 })).room s m #[.ref (a 0), .int (L0 1)] below meth c dC dI cy a A (qV dC dI cy a A below #[.ref (a 0), .int (L0 1)] s) 7 (x_partsTo k 0) (fun L => [(0, .ref (a 0)), (1, .int (L 1))]) 0 (fun L => [])) ∧ (bT p l e (headSpec w_x_partsTo ({ frames := 1365, cells := 0, slots := 0, locals := 36657 })).room s m #[.ref (a 0), .int (L0 1)] below meth c dC dI cy a A (qV dC dI cy a A below #[.ref (a 0), .int (L0 1)] s) 7 (x_partsTo k 1) (fun L => [(0, .ref (a 0)), (1, .int (L 1)), (2, .int (L 2)), (3, .int (L 3))]) 12 (fun L => [])) ∧ (bT p l e (headSpec w_x_partsTo ({ frames := 1365, cells := 0, slots := 0, locals := 36657 })).room s m #[.ref (a 0), .int (L0 1)] below meth c dC dI cy a A (qV dC dI cy a A below #[.ref (a 0), .int (L0 1)] s) 7 (x_partsTo k 2) (fun L => [(0, .ref (a 0)), (1, .int (L 1)), (2, .int (L 2)), (3, .int (L 3))]) 40 (fun L => [])) ∧ (bT p l e (headSpec w_x_partsTo ({ frames := 1365, cells := 0, slots := 0, locals := 36657 })).room s m #[.ref (a 0), .int (L0 1)] below meth c dC dI cy a A (qV dC dI cy a A below #[.ref (a 0), .int (L0 1)] s) 7 (x_partsTo k 3) (fun L => [(0, .ref (a 0)), (1, .int (L 1)), (2, .int (L 2)), (3, .int (L 3))]) 50 (fun L => [])) ∧ (bT p l e (headSpec w_x_partsTo ({ frames := 1365, cells := 0, slots := 0, locals := 36657 })).room s m #[.ref (a 0), .int (L0 1)] below meth c dC dI cy a A (qV dC dI cy a A below #[.ref (a 0), .int (L0 1)] s) 7 (x_partsTo k 4) (fun L => [(0, .ref (a 0)), (1, .int (L 1)), (2, .int (L 2)), (3, .int (L 3))]) 67 (fun L => [])) ∧ (bT p l e (headSpec w_x_partsTo ({ frames := 1365, cells := 0, slots := 0, locals := 36657 })).room s m #[.ref (a 0), .int (L0 1)] below meth c dC dI cy a A (qV dC dI cy a A below #[.ref (a 0), .int (L0 1)] s) 7 (x_partsTo k 5) (fun L => [(0, .ref (a 0)), (1, .int (L 1)), (2, .int (L 2)), (3, .int (L 3))]) 75 (fun L => [])) ∧ (bT p l e (headSpec w_x_partsTo ({ frames := 1365, cells := 0, slots := 0, locals := 36657 })).room s m #[.ref (a 0), .int (L0 1)] below meth c dC dI cy a A (qV dC dI cy a A below #[.ref (a 0), .int (L0 1)] s) 7 (x_partsTo k 6) (fun L => [(0, .ref (a 0)), (1, .int (L 1)), (2, .int (L 2)), (3, .int (L 3))]) 102 (fun L => [])) ∧ (bT p l e (headSpec w_x_partsTo ({ frames := 1365, cells := 0, slots := 0, locals := 36657 })).room s m #[.ref (a 0), .int (L0 1)] below meth c dC dI cy a A (qV dC dI cy a A below #[.ref (a 0), .int (L0 1)] s) 7 (x_partsTo k 7) (fun L => [(0, .ref (a 0)), (1, .int (L 1)), (2, .int (L 2)), (3, .int (L 3)), (4, .int (L 4)), (5, .int (L 5))]) 113 (fun L => [])) ∧ (bT p l e (headSpec w_x_partsTo ({ frames := 1365, cells := 0, slots := 0, locals := 36657 })).room s m #[.ref (a 0), .int (L0 1)] below meth c dC dI cy a A (qV dC dI cy a A below #[.ref (a 0), .int (L0 1)] s) 7 (x_partsTo k 8) (fun L => [(0, .ref (a 0)), (1, .int (L 1)), (2, .int (L 2)), (3, .int (L 3)), (4, .int (L 4)), (5, .int (L 5)), (6, .int (L 6))]) 176 (fun L => [.ref (a 0)])) ∧ (bT p l e (headSpec w_x_partsTo ({ frames := 1365, cells := 0, slots := 0, locals := 36657 })).room s m #[.ref (a 0), .int (L0 1)] below meth c dC dI cy a A (qV dC dI cy a A below #[.ref (a 0), .int (L0 1)] s) 7 (x_partsTo k 9) (fun L => [(0, .ref (a 0)), (1, .int (L 1)), (2, .int (L 2)), (3, .int (L 3)), (4, .int (L 4)), (5, .int (L 5)), (6, .int (L 6))]) 177 (fun L => [.int (L 100), .ref (a 0)])) ∧ (bT p l e (headSpec w_x_partsTo ({ frames := 1365, cells := 0, slots := 0, locals := 36657 })).room s m #[.ref (a 0), .int (L0 1)] below meth c dC dI cy a A (qV dC dI cy a A below #[.ref (a 0), .int (L0 1)] s) 7 (x_partsTo k 10) (fun L => [(0, .ref (a 0)), (1, .int (L 1)), (2, .int (L 2)), (3, .int (L 3)), (4, .int (L 4)), (5, .int (L 5)), (6, .int (L 6))]) 203 (fun L => [])) ∧ (bT p l e (headSpec w_x_partsTo ({ frames := 1365, cells := 0, slots := 0, locals := 36657 })).room s m #[.ref (a 0), .int (L0 1)] below meth c dC dI cy a A (qV dC dI cy a A below #[.ref (a 0), .int (L0 1)] s) 7 (x_partsTo k 11) (fun L => [(0, .ref (a 0)), (1, .int (L 1)), (2, .int (L 2)), (3, .int (L 3)), (4, .int (L 4)), (5, .int (L 5))]) 212 (fun L => [])) ∧ (bT p l e (headSpec w_x_partsTo ({ frames := 1365, cells := 0, slots := 0, locals := 36657 })).room s m #[.ref (a 0), .int (L0 1)] below meth c dC dI cy a A (qV dC dI cy a A below #[.ref (a 0), .int (L0 1)] s) 7 (x_partsTo k 12) (fun L => [(0, .ref (a 0)), (1, .int (L 1)), (2, .int (L 2)), (3, .int (L 3)), (4, .int (L 4)), (5, .int (L 5))]) 227 (fun L => [])) := by
    intro k
    induction k with
    | zero => exact ⟨fun L σ r h => (by cases h), fun L σ r h => (by cases h), fun L σ r h => (by cases h), fun L σ r h => (by cases h), fun L σ r h => (by cases h), fun L σ r h => (by cases h), fun L σ r h => (by cases h), fun L σ r h => (by cases h), fun L σ r h => (by cases h), fun L σ r h => (by cases h), fun L σ r h => (by cases h), fun L σ r h => (by cases h), fun L σ r h => (by cases h)⟩
    | succ k ih =>
      refine ⟨?_, ?_, ?_, ?_, ?_, ?_, ?_, ?_, ?_, ?_, ?_, ?_, ?_⟩
      · intro L σ r h H locs ls hP hD hS hl
        rw [x_partsTo] at h
        refine lv_aload_n hx hb dX12_partsTo_0 rfl (lv_at hl 0 rfl) ?_
        refine ng_59 hx hb hts in_x_partsTo hown hK hP (hts _ (List.mem_cons_of_mem _ (List.mem_append_left _ (List.mem_append_left _ (List.mem_of_getElem? (i := 0) rfl))))) dX12_partsTo_1 ?_
        refine lv_istore_n (lv' := [(2, .int (σ.1 59)), (0, .ref (a 0)), (1, .int (L 1))]) hx hb dX12_partsTo_4 rfl hl (by decide) rfl (fun ls hl => ?_)
        refine lv_aload_n hx hb dX12_partsTo_5 rfl (lv_at hl 1 rfl) ?_
        refine ng_15 hx hb hts in_x_partsTo hown hK hP (hts _ (List.mem_cons_of_mem _ (List.mem_append_left _ (List.mem_append_left _ (List.mem_of_getElem? (i := 1) rfl))))) dX12_partsTo_6 ?_
        refine lv_iload_n hx hb dX12_partsTo_9 rfl (lv_at hl 2 rfl) ?_
        obtain ⟨q1, h⟩ := nb_ite1 h
        refine nl_5 hx hb hK hP q1 dX12_partsTo_10 ?_
        refine lv_istore_n (lv' := [(3, .int (σ.2.2 5 ((L 1)).toNatClampNeg)), (2, .int (σ.1 59)), (0, .ref (a 0)), (1, .int (L 1))]) hx hb dX12_partsTo_11 rfl hl (by decide) rfl (fun ls hl => ?_)
        exact ih.2.1 (upd (upd L 2 ((σ.1 59))) 3 ((σ.2.2 5 ((L 1)).toNatClampNeg))) σ r h H locs ls hP hD hS (lv_sub hl [2, 3, 1, 0] rfl)
      · intro L σ r h H locs ls hP hD hS hl
        rw [x_partsTo] at h
        refine lv_iload_n hx hb dX12_partsTo_12 rfl (lv_at hl 3 rfl) ?_
        refine lv_iconst (v := (-1)) hx hb dX12_partsTo_13 (by decide) ?_
        refine lv_icmp_eq (tgt := 50) hx hb dX12_partsTo_14 (by decide) (fun c1 => ?_) (fun c1 => ?_)
        · rw [if_pos c1] at h
          exact ih.2.2.2.1 L σ r h H locs ls hP hD hS (lv_sub hl [0, 1, 2, 3] rfl)
        · rw [if_neg c1] at h
          refine lv_aload_n hx hb dX12_partsTo_17 rfl (lv_at hl 0 rfl) ?_
          refine ng_56 hx hb hts in_x_partsTo hown hK hP (hts _ (List.mem_cons_of_mem _ (List.mem_append_left _ (List.mem_append_left _ (List.mem_of_getElem? (i := 2) rfl))))) dX12_partsTo_18 ?_
          refine lv_if_ne (tgt := 50) hx hb dX12_partsTo_21 (by decide) (fun c2 => ?_) (fun c2 => ?_)
          · rw [if_neg c2] at h
            exact ih.2.2.2.1 L σ r h H locs ls hP hD hS (lv_sub hl [0, 1, 2, 3] rfl)
          · rw [if_pos c2] at h
            refine lv_aload_n hx hb dX12_partsTo_24 rfl (lv_at hl 0 rfl) ?_
            refine ng_14 hx hb hts in_x_partsTo hown hK hP (hts _ (List.mem_cons_of_mem _ (List.mem_append_left _ (List.mem_append_left _ (List.mem_of_getElem? (i := 3) rfl))))) dX12_partsTo_25 ?_
            refine lv_iload_n hx hb dX12_partsTo_28 rfl (lv_at hl 3 rfl) ?_
            obtain ⟨q3, h⟩ := nb_ite1 h
            refine nl_4 hx hb hK hP q3 dX12_partsTo_29 ?_
            refine lv_bipush (v := 32) hx hb dX12_partsTo_30 (by decide) ?_
            refine lv_icmp_eq (tgt := 40) hx hb dX12_partsTo_32 (by decide) (fun c4 => ?_) (fun c4 => ?_)
            · rw [if_pos c4] at h
              exact ih.2.2.1 L σ r h H locs ls hP hD hS (lv_sub hl [0, 1, 2, 3] rfl)
            · rw [if_neg c4] at h
              refine lv_aload_n hx hb dX12_partsTo_35 rfl (lv_at hl 0 rfl) ?_
              refine lv_iload_n hx hb dX12_partsTo_36 rfl (lv_at hl 3 rfl) ?_
              obtain ⟨r5, hc5, h⟩ := ob_ex h
              refine nc_Vv (As := [.int (L 3)]) (rest := []) ⟨hx, hb, hml, hown, hts⟩ (c_x_workParts l dC dI cy a k (upd (fun _ => 0) 1 ((L 3))) σ r5 hc5 H.size) (cwV 1 hts g_x_partsTo_workParts_901 rfl rfl rfl hd_x_workParts ⟨Nat.le_of_ble_eq_true rfl, Nat.le_of_ble_eq_true rfl⟩) hK hG hA hP hD hS rfl hl.1 rfl (Nat.le_of_ble_eq_true rfl) dX12_partsTo_37 ⟨Nat.le_refl _, Nat.le_refl _⟩ (fun H locs hP hD hS => ?_)
              exact ih.2.2.1 L r5.2 r h H locs ls hP hD hS (lv_sub hl [0, 1, 2, 3] rfl)
      · intro L σ r h H locs ls hP hD hS hl
        rw [x_partsTo] at h
        refine lv_aload_n hx hb dX12_partsTo_40 rfl (lv_at hl 0 rfl) ?_
        refine ng_19 hx hb hts in_x_partsTo hown hK hP (hts _ (List.mem_cons_of_mem _ (List.mem_append_left _ (List.mem_append_left _ (List.mem_of_getElem? (i := 8) rfl))))) dX12_partsTo_41 ?_
        refine lv_iload_n hx hb dX12_partsTo_44 rfl (lv_at hl 3 rfl) ?_
        obtain ⟨q1, h⟩ := nb_ite1 h
        refine nl_9 hx hb hK hP q1 dX12_partsTo_45 ?_
        refine lv_istore_n (lv' := [(3, .int (σ.2.2 9 ((L 3)).toNatClampNeg)), (0, .ref (a 0)), (1, .int (L 1)), (2, .int (L 2))]) hx hb dX12_partsTo_46 rfl hl (by decide) rfl (fun ls hl => ?_)
        refine lv_goto (tgt := 12) hx hb dX12_partsTo_47 (by decide) ?_
        exact ih.2.1 (upd L 3 ((σ.2.2 9 ((L 3)).toNatClampNeg))) σ r h H locs ls hP hD hS (lv_sub hl [1, 2, 3, 0] rfl)
      · intro L σ r h H locs ls hP hD hS hl
        rw [x_partsTo] at h
        refine lv_aload_n hx hb dX12_partsTo_50 rfl (lv_at hl 0 rfl) ?_
        refine ng_56 hx hb hts in_x_partsTo hown hK hP (hts _ (List.mem_cons_of_mem _ (List.mem_append_left _ (List.mem_append_left _ (List.mem_of_getElem? (i := 2) rfl))))) dX12_partsTo_51 ?_
        refine lv_if_ne (tgt := 67) hx hb dX12_partsTo_54 (by decide) (fun c1 => ?_) (fun c1 => ?_)
        · rw [if_neg c1] at h
          exact ih.2.2.2.2.1 L σ r h H locs ls hP hD hS (lv_sub hl [0, 1, 2, 3] rfl)
        · rw [if_pos c1] at h
          refine lv_aload_n hx hb dX12_partsTo_57 rfl (lv_at hl 0 rfl) ?_
          refine lv_aload_n hx hb dX12_partsTo_58 rfl (lv_at hl 0 rfl) ?_
          refine ng_16 hx hb hts in_x_partsTo hown hK hP (hts _ (List.mem_cons_of_mem _ (List.mem_append_left _ (List.mem_append_left _ (List.mem_of_getElem? (i := 9) rfl))))) dX12_partsTo_59 ?_
          refine lv_iload_n hx hb dX12_partsTo_62 rfl (lv_at hl 1 rfl) ?_
          obtain ⟨q2, h⟩ := nb_ite1 h
          refine nl_6 hx hb hK hP q2 dX12_partsTo_63 ?_
          obtain ⟨r3, hc3, h⟩ := ob_ex h
          refine nc_Vv (As := [.int (σ.2.2 6 ((L 1)).toNatClampNeg)]) (rest := []) ⟨hx, hb, hml, hown, hts⟩ (c_x_eval l dC dI cy a k (upd (fun _ => 0) 1 ((σ.2.2 6 ((L 1)).toNatClampNeg))) σ r3 hc3 H.size) (cwV 1 hts g_x_partsTo_eval_566 rfl rfl rfl hd_x_eval ⟨Nat.le_of_ble_eq_true rfl, Nat.le_of_ble_eq_true rfl⟩) hK hG hA hP hD hS rfl hl.1 rfl (Nat.le_of_ble_eq_true rfl) dX12_partsTo_64 ⟨Nat.le_refl _, Nat.le_refl _⟩ (fun H locs hP hD hS => ?_)
          exact ih.2.2.2.2.1 L r3.2 r h H locs ls hP hD hS (lv_sub hl [0, 1, 2, 3] rfl)
      · intro L σ r h H locs ls hP hD hS hl
        rw [x_partsTo] at h
        refine lv_aload_n hx hb dX12_partsTo_67 rfl (lv_at hl 0 rfl) ?_
        refine ng_56 hx hb hts in_x_partsTo hown hK hP (hts _ (List.mem_cons_of_mem _ (List.mem_append_left _ (List.mem_append_left _ (List.mem_of_getElem? (i := 2) rfl))))) dX12_partsTo_68 ?_
        refine lv_if_le (tgt := 75) hx hb dX12_partsTo_71 (by decide) (fun c1 => ?_) (fun c1 => ?_)
        · rw [if_pos c1] at h
          exact ih.2.2.2.2.2.1 L σ r h H locs ls hP hD hS (lv_sub hl [0, 1, 2, 3] rfl)
        · rw [if_neg c1] at h
          cases h
          exact W.vret hx hb hr (fun t ht hW => ⟨⟨(), rfl, trivial, by rw [ht]; exact hP, va_K.moved hW.alike hK, hD⟩, hS.F ht⟩) hS.2.2 dX12_partsTo_74
      · intro L σ r h H locs ls hP hD hS hl
        rw [x_partsTo] at h
        refine lv_aload_n hx hb dX12_partsTo_75 rfl (lv_at hl 0 rfl) ?_
        refine ng_59 hx hb hts in_x_partsTo hown hK hP (hts _ (List.mem_cons_of_mem _ (List.mem_append_left _ (List.mem_append_left _ (List.mem_of_getElem? (i := 0) rfl))))) dX12_partsTo_76 ?_
        refine lv_iconst (v := 1) hx hb dX12_partsTo_79 (by decide) ?_
        refine lv_isub hx hb dX12_partsTo_80 ?_
        refine lv_istore_n (lv' := [(3, .int (((σ.1 59)) - 1)), (0, .ref (a 0)), (1, .int (L 1)), (2, .int (L 2))]) hx hb dX12_partsTo_81 rfl hl (by decide) rfl (fun ls hl => ?_)
        refine lv_aload_n hx hb dX12_partsTo_82 rfl (lv_at hl 1 rfl) ?_
        refine lv_aload_n hx hb dX12_partsTo_83 rfl (lv_at hl 1 rfl) ?_
        refine ng_58 hx hb hts in_x_partsTo hown hK hP (hts _ (List.mem_cons_of_mem _ (List.mem_append_left _ (List.mem_append_left _ (List.mem_of_getElem? (i := 13) rfl))))) dX12_partsTo_84 ?_
        refine lv_iload_n hx hb dX12_partsTo_87 rfl (lv_at hl 0 rfl) ?_
        obtain ⟨q1, h⟩ := nb_ite1 h
        refine nl_29 hx hb hK hP q1 dX12_partsTo_88 ?_
        obtain ⟨r2, hc2, h⟩ := ob_ex h
        refine nc_Vi (As := [.int (σ.2.2 29 ((((σ.1 59)) - 1)).toNatClampNeg)]) (rest := []) ⟨hx, hb, hml, hown, hts⟩ (c_x_kind l dC dI cy a k (upd (fun _ => 0) 1 ((σ.2.2 29 ((((σ.1 59)) - 1)).toNatClampNeg))) σ r2 hc2 H.size) (cwV 1 hts g_x_partsTo_kind_545 rfl rfl rfl hd_x_kind ⟨Nat.le_of_ble_eq_true rfl, Nat.le_of_ble_eq_true rfl⟩) hK hG hA hP hD hS rfl hl.1 rfl (Nat.le_of_ble_eq_true rfl) dX12_partsTo_89 ⟨Nat.le_refl _, Nat.le_refl _⟩ (fun H locs hP hD hS => ?_)
        refine lv_iconst (v := 5) hx hb dX12_partsTo_92 (by decide) ?_
        refine lv_icmp_eq (tgt := 102) hx hb dX12_partsTo_93 (by decide) (fun c3 => ?_) (fun c3 => ?_)
        · rw [if_pos c3] at h
          exact ih.2.2.2.2.2.2.1 (upd L 3 ((((σ.1 59)) - 1))) r2.2 r h H locs ls hP hD hS (lv_sub hl [1, 2, 3, 0] rfl)
        · rw [if_neg c3] at h
          refine lv_aload_n hx hb dX12_partsTo_96 rfl (lv_at hl 1 rfl) ?_
          refine lv_iconst (v := 1) hx hb dX12_partsTo_97 (by decide) ?_
          obtain ⟨r4, hc4, h⟩ := ob_ex h
          refine nc_Vv (As := [.int 1]) (rest := []) ⟨hx, hb, hml, hown, hts⟩ (c_x_fail l dC dI cy a k (upd (fun _ => 0) 1 1) r2.2 r4 hc4 H.size) (cwV 1 hts g_x_partsTo_fail_369 rfl rfl rfl hd_x_fail ⟨Nat.le_of_ble_eq_true rfl, Nat.le_of_ble_eq_true rfl⟩) hK hG hA hP hD hS rfl hl.1 rfl (Nat.le_of_ble_eq_true rfl) dX12_partsTo_98 ⟨Nat.le_refl _, Nat.le_refl _⟩ (fun H locs hP hD hS => ?_)
          cases h
          exact W.vret hx hb hr (fun t ht hW => ⟨⟨(), rfl, trivial, by rw [ht]; exact hP, va_K.moved hW.alike hK, hD⟩, hS.F ht⟩) hS.2.2 dX12_partsTo_101
      · intro L σ r h H locs ls hP hD hS hl
        rw [x_partsTo] at h
        refine lv_iconst (v := 0) hx hb dX12_partsTo_102 (by decide) ?_
        refine lv_istore (lv' := [(4, .int 0), (0, .ref (a 0)), (1, .int (L 1)), (2, .int (L 2)), (3, .int (L 3))]) hx hb dX12_partsTo_103 hl (by decide) rfl (fun ls hl => ?_)
        refine lv_aload_n hx hb dX12_partsTo_105 rfl (lv_at hl 1 rfl) ?_
        refine ng_15 hx hb hts in_x_partsTo hown hK hP (hts _ (List.mem_cons_of_mem _ (List.mem_append_left _ (List.mem_append_left _ (List.mem_of_getElem? (i := 1) rfl))))) dX12_partsTo_106 ?_
        refine lv_iload_n hx hb dX12_partsTo_109 rfl (lv_at hl 2 rfl) ?_
        obtain ⟨q1, h⟩ := nb_ite1 h
        refine nl_5 hx hb hK hP q1 dX12_partsTo_110 ?_
        refine lv_istore (lv' := [(5, .int (σ.2.2 5 ((L 1)).toNatClampNeg)), (4, .int 0), (0, .ref (a 0)), (1, .int (L 1)), (2, .int (L 2)), (3, .int (L 3))]) hx hb dX12_partsTo_111 hl (by decide) rfl (fun ls hl => ?_)
        exact ih.2.2.2.2.2.2.2.1 (upd (upd L 4 0) 5 ((σ.2.2 5 ((L 1)).toNatClampNeg))) σ r h H locs ls hP hD hS (lv_sub hl [2, 3, 4, 5, 1, 0] rfl)
      · intro L σ r h H locs ls hP hD hS hl
        rw [x_partsTo] at h
        refine lv_iload hx hb dX12_partsTo_113 (lv_at hl 5 rfl) ?_
        refine lv_iconst (v := (-1)) hx hb dX12_partsTo_115 (by decide) ?_
        refine lv_icmp_eq (tgt := 227) hx hb dX12_partsTo_116 (by decide) (fun c1 => ?_) (fun c1 => ?_)
        · rw [if_pos c1] at h
          exact ih.2.2.2.2.2.2.2.2.2.2.2.2 L σ r h H locs ls hP hD hS (lv_sub hl [0, 1, 2, 3, 4, 5] rfl)
        · rw [if_neg c1] at h
          refine lv_aload_n hx hb dX12_partsTo_119 rfl (lv_at hl 0 rfl) ?_
          refine ng_56 hx hb hts in_x_partsTo hown hK hP (hts _ (List.mem_cons_of_mem _ (List.mem_append_left _ (List.mem_append_left _ (List.mem_of_getElem? (i := 2) rfl))))) dX12_partsTo_120 ?_
          refine lv_if_ne (tgt := 227) hx hb dX12_partsTo_123 (by decide) (fun c2 => ?_) (fun c2 => ?_)
          · rw [if_neg c2] at h
            exact ih.2.2.2.2.2.2.2.2.2.2.2.2 L σ r h H locs ls hP hD hS (lv_sub hl [0, 1, 2, 3, 4, 5] rfl)
          · rw [if_pos c2] at h
            refine lv_aload_n hx hb dX12_partsTo_126 rfl (lv_at hl 0 rfl) ?_
            refine ng_14 hx hb hts in_x_partsTo hown hK hP (hts _ (List.mem_cons_of_mem _ (List.mem_append_left _ (List.mem_append_left _ (List.mem_of_getElem? (i := 3) rfl))))) dX12_partsTo_127 ?_
            refine lv_iload hx hb dX12_partsTo_130 (lv_at hl 5 rfl) ?_
            obtain ⟨q3, h⟩ := nb_ite1 h
            refine nl_4 hx hb hK hP q3 dX12_partsTo_132 ?_
            refine lv_bipush (v := 32) hx hb dX12_partsTo_133 (by decide) ?_
            refine lv_icmp_eq (tgt := 212) hx hb dX12_partsTo_135 (by decide) (fun c4 => ?_) (fun c4 => ?_)
            · rw [if_pos c4] at h
              exact ih.2.2.2.2.2.2.2.2.2.2.2.1 L σ r h H locs ls hP hD hS (lv_sub hl [0, 1, 2, 3, 4, 5] rfl)
            · rw [if_neg c4] at h
              refine lv_aload_n hx hb dX12_partsTo_138 rfl (lv_at hl 0 rfl) ?_
              refine ng_58 hx hb hts in_x_partsTo hown hK hP (hts _ (List.mem_cons_of_mem _ (List.mem_append_left _ (List.mem_append_left _ (List.mem_of_getElem? (i := 13) rfl))))) dX12_partsTo_139 ?_
              refine lv_iload_n hx hb dX12_partsTo_142 rfl (lv_at hl 3 rfl) ?_
              obtain ⟨q5, h⟩ := nb_ite1 h
              refine nl_29 hx hb hK hP q5 dX12_partsTo_143 ?_
              refine lv_istore (lv' := [(6, .int (σ.2.2 29 ((L 3)).toNatClampNeg)), (0, .ref (a 0)), (1, .int (L 1)), (2, .int (L 2)), (3, .int (L 3)), (4, .int (L 4)), (5, .int (L 5))]) hx hb dX12_partsTo_144 hl (by decide) rfl (fun ls hl => ?_)
              refine lv_aload_n hx hb dX12_partsTo_146 rfl (lv_at hl 1 rfl) ?_
              refine lv_iload hx hb dX12_partsTo_147 (lv_at hl 5 rfl) ?_
              refine lv_aload_n hx hb dX12_partsTo_149 rfl (lv_at hl 1 rfl) ?_
              refine ng_53 hx hb hts in_x_partsTo hown hK hP (hts _ (List.mem_cons_of_mem _ (List.mem_append_left _ (List.mem_append_left _ (List.mem_of_getElem? (i := 20) rfl))))) dX12_partsTo_150 ?_
              refine lv_iload hx hb dX12_partsTo_153 (lv_at hl 0 rfl) ?_
              refine lv_iconst (v := 1) hx hb dX12_partsTo_155 (by decide) ?_
              refine lv_iadd hx hb dX12_partsTo_156 ?_
              obtain ⟨q6, h⟩ := nb_ite1 h
              refine nl_28 hx hb hK hP q6 dX12_partsTo_157 ?_
              refine lv_icmp_ge (tgt := 176) hx hb dX12_partsTo_158 (by decide) (fun c7 => ?_) (fun c7 => ?_)
              · rw [if_pos c7] at h
                exact ih.2.2.2.2.2.2.2.2.1 (upd L 6 ((σ.2.2 29 ((L 3)).toNatClampNeg))) σ r h H locs ls hP hD hS (lv_sub hl [1, 2, 3, 4, 5, 6, 0] rfl)
              · rw [if_neg c7] at h
                refine lv_aload_n hx hb dX12_partsTo_161 rfl (lv_at hl 1 rfl) ?_
                refine ng_53 hx hb hts in_x_partsTo hown hK hP (hts _ (List.mem_cons_of_mem _ (List.mem_append_left _ (List.mem_append_left _ (List.mem_of_getElem? (i := 20) rfl))))) dX12_partsTo_162 ?_
                refine lv_iload hx hb dX12_partsTo_165 (lv_at hl 0 rfl) ?_
                refine lv_iconst (v := 4) hx hb dX12_partsTo_167 (by decide) ?_
                refine lv_iadd hx hb dX12_partsTo_168 ?_
                refine lv_iload hx hb dX12_partsTo_169 (lv_at hl 5 rfl) ?_
                refine lv_iadd hx hb dX12_partsTo_171 ?_
                obtain ⟨q8, h⟩ := nb_ite1 h
                refine nl_28 hx hb hK hP q8 dX12_partsTo_172 ?_
                refine lv_goto (tgt := 177) hx hb dX12_partsTo_173 (by decide) ?_
                exact ih.2.2.2.2.2.2.2.2.2.1 (upd (upd L 6 ((σ.2.2 29 ((L 3)).toNatClampNeg))) 100 ((σ.2.2 28 ((((((σ.2.2 29 ((L 3)).toNatClampNeg)) + 4)) + ((L 4)))).toNatClampNeg))) σ r h H locs ls hP hD hS (lv_sub hl [1, 2, 3, 4, 5, 6, 0] rfl)
      · intro L σ r h H locs ls hP hD hS hl
        rw [x_partsTo] at h
        refine lv_iconst (v := 0) hx hb dX12_partsTo_176 (by decide) ?_
        exact ih.2.2.2.2.2.2.2.2.2.1 (upd L 100 0) σ r h H locs ls hP hD hS (lv_sub hl [0, 1, 2, 3, 4, 5, 6] rfl)
      · intro L σ r h H locs ls hP hD hS hl
        rw [x_partsTo] at h
        obtain ⟨r1, hc1, h⟩ := ob_ex h
        refine nc_Vv (As := [.int (L 100)]) (rest := []) ⟨hx, hb, hml, hown, hts⟩ (c_x_push l dC dI cy a k (upd (fun _ => 0) 1 ((L 100))) σ r1 hc1 H.size) (cwV 1 hts g_x_partsTo_push_594 rfl rfl rfl hd_x_push ⟨Nat.le_of_ble_eq_true rfl, Nat.le_of_ble_eq_true rfl⟩) hK hG hA hP hD hS rfl hl.1 rfl (Nat.le_of_ble_eq_true rfl) dX12_partsTo_177 ⟨Nat.le_refl _, Nat.le_refl _⟩ (fun H locs hP hD hS => ?_)
        refine lv_aload_n hx hb dX12_partsTo_180 rfl (lv_at hl 0 rfl) ?_
        refine lv_iload hx hb dX12_partsTo_181 (lv_at hl 5 rfl) ?_
        refine lv_iload_n hx hb dX12_partsTo_183 rfl (lv_at hl 2 rfl) ?_
        refine lv_aload_n hx hb dX12_partsTo_184 rfl (lv_at hl 0 rfl) ?_
        refine ng_59 hx hb hts in_x_partsTo hown hK hP (hts _ (List.mem_cons_of_mem _ (List.mem_append_left _ (List.mem_append_left _ (List.mem_of_getElem? (i := 0) rfl))))) dX12_partsTo_185 ?_
        refine lv_iconst (v := 1) hx hb dX12_partsTo_188 (by decide) ?_
        refine lv_isub hx hb dX12_partsTo_189 ?_
        obtain ⟨r2, hc2, h⟩ := ob_ex h
        refine nc_Vv (As := [.int (L 5), .int (L 2), .int (((r1.2.1 59)) - 1)]) (rest := []) ⟨hx, hb, hml, hown, hts⟩ (c_x_write l dC dI cy a k (upd (upd (upd (fun _ => 0) 1 ((L 5))) 2 ((L 2))) 3 ((((r1.2.1 59)) - 1))) r1.2 r2 hc2 H.size) (cwV 3 hts g_x_partsTo_write_904 rfl rfl rfl hd_x_write ⟨Nat.le_of_ble_eq_true rfl, Nat.le_of_ble_eq_true rfl⟩) hK hG hA hP hD hS rfl hl.1 rfl (Nat.le_of_ble_eq_true rfl) dX12_partsTo_190 ⟨Nat.le_refl _, Nat.le_refl _⟩ (fun H locs hP hD hS => ?_)
        refine lv_aload_n hx hb dX12_partsTo_193 rfl (lv_at hl 0 rfl) ?_
        refine lv_dup hx hb dX12_partsTo_194 rfl ?_
        refine ng_59 hx hb hts in_x_partsTo hown hK hP (hts _ (List.mem_cons_of_mem _ (List.mem_append_left _ (List.mem_append_left _ (List.mem_of_getElem? (i := 0) rfl))))) dX12_partsTo_195 ?_
        refine lv_iconst (v := 1) hx hb dX12_partsTo_198 (by decide) ?_
        refine lv_isub hx hb dX12_partsTo_199 ?_
        refine np_59 hx hb hts in_x_partsTo hown hK hP hD hS (hts _ (List.mem_cons_of_mem _ (List.mem_append_left _ (List.mem_append_left _ (List.mem_of_getElem? (i := 0) rfl))))) dX12_partsTo_200 (fun H locs hP hD hS => ?_)
        exact ih.2.2.2.2.2.2.2.2.2.2.1 L (upd r2.2.1 59 ((((r2.2.1 59)) - 1)), r2.2.2.1, r2.2.2.2) r h H locs ls hP hD hS (lv_sub hl [0, 1, 2, 3, 4, 5, 6] rfl)
      · intro L σ r h H locs ls hP hD hS hl
        rw [x_partsTo] at h
        refine lv_iload_n hx hb dX12_partsTo_203 rfl (lv_at hl 2 rfl) ?_
        refine lv_aload_n hx hb dX12_partsTo_204 rfl (lv_at hl 0 rfl) ?_
        refine lv_iload hx hb dX12_partsTo_205 (lv_at hl 5 rfl) ?_
        obtain ⟨r1, hc1, h⟩ := ob_ex h
        refine nc_Vi (As := [.int (L 5)]) (rest := [.int (L 2)]) ⟨hx, hb, hml, hown, hts⟩ (c_x_keysIn l dC dI cy a k (upd (fun _ => 0) 1 ((L 5))) σ r1 hc1 H.size) (cwV 1 hts g_x_partsTo_keysIn_828 rfl rfl rfl hd_x_keysIn ⟨Nat.le_of_ble_eq_true rfl, Nat.le_of_ble_eq_true rfl⟩) hK hG hA hP hD hS rfl hl.1 rfl (Nat.le_of_ble_eq_true rfl) dX12_partsTo_207 ⟨Nat.le_refl _, Nat.le_refl _⟩ (fun H locs hP hD hS => ?_)
        refine lv_iadd hx hb dX12_partsTo_210 ?_
        refine lv_istore_n (lv' := [(2, .int (((L 2)) + r1.1)), (0, .ref (a 0)), (1, .int (L 1)), (3, .int (L 3)), (4, .int (L 4)), (5, .int (L 5)), (6, .int (L 6))]) hx hb dX12_partsTo_211 rfl hl (by decide) rfl (fun ls hl => ?_)
        exact ih.2.2.2.2.2.2.2.2.2.2.2.1 (upd L 2 ((((L 2)) + r1.1))) r1.2 r h H locs ls hP hD hS (lv_sub hl [1, 2, 0, 3, 4, 5] rfl)
      · intro L σ r h H locs ls hP hD hS hl
        rw [x_partsTo] at h
        refine lv_iinc (v := ((L 4)) + 1) (lv' := [(4, .int (((L 4)) + 1)), (0, .ref (a 0)), (1, .int (L 1)), (2, .int (L 2)), (3, .int (L 3)), (5, .int (L 5))]) hx hb dX12_partsTo_212 hl (k := 4) rfl rfl (by decide) rfl (fun ls hl => ?_)
        refine lv_aload_n hx hb dX12_partsTo_215 rfl (lv_at hl 1 rfl) ?_
        refine ng_19 hx hb hts in_x_partsTo hown hK hP (hts _ (List.mem_cons_of_mem _ (List.mem_append_left _ (List.mem_append_left _ (List.mem_of_getElem? (i := 8) rfl))))) dX12_partsTo_216 ?_
        refine lv_iload hx hb dX12_partsTo_219 (lv_at hl 5 rfl) ?_
        obtain ⟨q1, h⟩ := nb_ite1 h
        refine nl_9 hx hb hK hP q1 dX12_partsTo_221 ?_
        refine lv_istore (lv' := [(5, .int (σ.2.2 9 ((L 5)).toNatClampNeg)), (4, .int (((L 4)) + 1)), (0, .ref (a 0)), (1, .int (L 1)), (2, .int (L 2)), (3, .int (L 3))]) hx hb dX12_partsTo_222 hl (by decide) rfl (fun ls hl => ?_)
        refine lv_goto (tgt := 113) hx hb dX12_partsTo_224 (by decide) ?_
        exact ih.2.2.2.2.2.2.2.1 (upd (upd L 4 (((L 4)) + 1)) 5 ((σ.2.2 9 ((L 5)).toNatClampNeg))) σ r h H locs ls hP hD hS (lv_sub hl [2, 3, 4, 5, 1, 0] rfl)
      · intro L σ r h H locs ls hP hD hS hl
        rw [x_partsTo] at h
        refine lv_aload_n hx hb dX12_partsTo_227 rfl (lv_at hl 0 rfl) ?_
        refine lv_iload_n hx hb dX12_partsTo_228 rfl (lv_at hl 1 rfl) ?_
        obtain ⟨r1, hc1, h⟩ := ob_ex h
        refine nc_Vv (As := [.int (L 1)]) (rest := []) ⟨hx, hb, hml, hown, hts⟩ (c_x_pass l dC dI cy a k (upd (fun _ => 0) 1 ((L 1))) σ r1 hc1 H.size) (cwV 1 hts g_x_partsTo_pass_926 rfl rfl rfl hd_x_pass ⟨Nat.le_of_ble_eq_true rfl, Nat.le_of_ble_eq_true rfl⟩) hK hG hA hP hD hS rfl hl.1 rfl (Nat.le_of_ble_eq_true rfl) dX12_partsTo_229 ⟨Nat.le_refl _, Nat.le_refl _⟩ (fun H locs hP hD hS => ?_)
        cases h
        exact W.vret hx hb hr (fun t ht hW => ⟨⟨(), rfl, trivial, by rw [ht]; exact hP, va_K.moved hW.alike hK, hD⟩, hS.F ht⟩) hS.2.2 dX12_partsTo_232
  exact (blk k0).1 L0 σ0 r0 h0 s.heap [] ls hP hD hS hl
/-! putOut -/
def x_putOut : Nat → Nat → (Nat → Int32) → MS → Option (Int32 × MS)
  | 0, _, _, _ => none
  | k + 1, 0, L, σ => if 60000 ≤ ((σ.1 106)) then (x_putOut k 1 L σ) else (if ¬ (((σ.1 106)) < 0 ∨ 60000 ≤ ((σ.1 106)).toNatClampNeg) then (x_putOut k 1 L (σ.1, σ.2.1, updG σ.2.2 52 (upd (σ.2.2 52) ((σ.1 106)).toNatClampNeg ((L 1))))) else none)
  | k + 1, 1, L, σ => if 2000000000 ≤ ((σ.1 106)) then (x_putOut k 2 (upd L 100 ((σ.1 106))) σ) else (x_putOut k 3 (upd (upd L 100 1) 101 ((σ.1 106))) σ)
  | k + 1, 2, L, σ => x_putOut k 3 (upd (upd L 100 0) 101 ((L 100))) σ
  | k + 1, 3, L, σ => some (0, (upd σ.1 106 ((((L 101)) + ((L 100)))), σ.2.1, σ.2.2))
  | _ + 1, _ + 4, _, _ => none
def o_x_putOut : List Cond := [.fieldLink RX12 977 "SetHouseModel" "outSize" "I", .constant RX12 368 (60000), .fieldLink RX12 980 "SetHouseModel" "out" "[I", .constant RX12 983 (2000000000)]
theorem o_x_putOut_good : o_x_putOut.all goodWord = true := by decide +kernel
def p_x_putOut : List Cond := o_x_putOut ++ []
theorem p_x_putOut_good : p_x_putOut.all goodWord = true := nb_all2 o_x_putOut_good rfl
def w_x_putOut : List Cond := .code yX12_putOut cX12_putOut 2 none :: (p_x_putOut ++ fM)
theorem w_x_putOut_good : w_x_putOut.all goodWord = true := nb_allc (by decide +kernel) (nb_all2 p_x_putOut_good fM_good)
theorem in_x_putOut : ∀ w ∈ wsX120, w ∈ w_x_putOut := fun _ h => List.mem_cons_of_mem _ (List.mem_append_right _ h)
theorem hd_x_putOut : yX12_putOut.cls = RX12 ∧ yX12_putOut.cls ≠ "java/lang/invoke/MethodHandle" ∧ yX12_putOut.cls ≠ "java/lang/invoke/VarHandle" ∧ (parseMethodDescriptor yX12_putOut.desc).map (fun d => d.parameters.length) = some 1 := by decide +kernel
set_option maxHeartbeats 40000000 in
set_option maxRecDepth 100000 in
theorem c_x_putOut (l : Launch) (dC : Nat → ClassId) (dI : Nat → Nat → Nat) (cy : Nat → ClassId) (a : Nat → Nat) (k0 : Nat) (L0 : Nat → Int32) (σ0 : MS) (r0 : Int32 × MS) (h0 : x_putOut k0 0 L0 σ0 = some r0) (sz : Nat) : Met l yX12_putOut w_x_putOut ({ frames := 0, cells := 0, slots := 0, locals := 0 }) (va_Pc [.ref (a 0), .int (L0 1)] (nIn (dC, dI) cy sz (vM cy a σ0))) (va_Qv (fun _ : Unit => True) (fun _ t => nOut (dC, dI) cy (va_A (vM cy a σ0) sz) (vM cy a r0.2) t) (va_A (vM cy a σ0) sz)) 0 0 (va_A (vM cy a σ0) sz) := by
  refine Met.ofW (cc := cX12_putOut) (maxL := 2) (ret := none) (by decide) rfl ?_
  intro p e s m args below meth c s₁ B hml hv
  obtain ⟨rfl, hsz, hP, hK, hD0, hG⟩ := hv
  have hx := B.exec
  have hb := B.bytes
  have hr := B.returns
  have hts := atoms_spec (ws := w_x_putOut) B.pre
  have hown : s.vm.findClass RX12 = some m.cls := findClass_of_methodNamed B.named
  have hlocks := B.notSynchronized
  subst hsz
  have hD := hD0.self (sz := s.heap.size)
  generalize hAe : va_A (vM cy a σ0) s.heap.size = A at hD ⊢
  have hA : ∀ q : Nat, s.heap.size ≤ q → A q := fun q h => by rw [← hAe]; exact Or.inr h
  have hS : va_S A s.heap s.heap [] := va_S.rf
  have hl := lv_entry ([.ref (a 0), .int (L0 1)]) (n := 2) (Nat.le_of_ble_eq_true rfl)
  rw [lg_entry_eq]
  generalize (lg_sl ([.ref (a 0), .int (L0 1)]) ++ List.replicate (2 - (lg_sl ([.ref (a 0), .int (L0 1)])).length) Slot.unset).toArray = ls at hl ⊢
  have hl : lv_has ls 2 [(0, .ref (a 0)), (1, .int (L0 1))] := hl
  have blk : ∀ k : Nat, (bT p l e (headSpec w_x_putOut ({ frames := 0, cells := 0, slots := 0, locals := 0 })).room s m #[.ref (a 0), .int (L0 1)] below meth c dC dI cy a A (qV dC dI cy a A below #[.ref (a 0), .int (L0 1)] s) 2 (x_putOut k 0) (fun L => [(0, .ref (a 0)), (1, .int (L 1))]) 0 (fun L => [])) ∧ (bT p l e (headSpec w_x_putOut ({ frames := 0, cells := 0, slots := 0, locals := 0 })).room s m #[.ref (a 0), .int (L0 1)] below meth c dC dI cy a A (qV dC dI cy a A below #[.ref (a 0), .int (L0 1)] s) 2 (x_putOut k 1) (fun L => [(0, .ref (a 0)), (1, .int (L 1))]) 20 (fun L => [])) ∧ (bT p l e (headSpec w_x_putOut ({ frames := 0, cells := 0, slots := 0, locals := 0 })).room s m #[.ref (a 0), .int (L0 1)] below meth c dC dI cy a A (qV dC dI cy a A below #[.ref (a 0), .int (L0 1)] s) 2 (x_putOut k 2) (fun L => [(0, .ref (a 0)), (1, .int (L 1))]) 39 (fun L => [.int (L 100), .ref (a 0)])) ∧ (bT p l e (headSpec w_x_putOut ({ frames := 0, cells := 0, slots := 0, locals := 0 })).room s m #[.ref (a 0), .int (L0 1)] below meth c dC dI cy a A (qV dC dI cy a A below #[.ref (a 0), .int (L0 1)] s) 2 (x_putOut k 3) (fun L => [(0, .ref (a 0)), (1, .int (L 1))]) 40 (fun L => [.int (L 100), .int (L 101), .ref (a 0)])) := by
    intro k
    induction k with
    | zero => exact ⟨fun L σ r h => (by cases h), fun L σ r h => (by cases h), fun L σ r h => (by cases h), fun L σ r h => (by cases h)⟩
    | succ k ih =>
      refine ⟨?_, ?_, ?_, ?_⟩
      · intro L σ r h H locs ls hP hD hS hl
        rw [x_putOut] at h
        refine lv_aload_n hx hb dX12_putOut_0 rfl (lv_at hl 0 rfl) ?_
        refine ng_106 hx hb hts in_x_putOut hown hK hP (hts _ (List.mem_cons_of_mem _ (List.mem_append_left _ (List.mem_append_left _ (List.mem_of_getElem? (i := 0) rfl))))) dX12_putOut_1 ?_
        refine lv_ldcw (v := 60000) hx hb hown (hts _ (List.mem_cons_of_mem _ (List.mem_append_left _ (List.mem_append_left _ (List.mem_of_getElem? (i := 1) rfl))))) dX12_putOut_4 ?_
        refine lv_icmp_ge (tgt := 20) hx hb dX12_putOut_7 (by decide) (fun c1 => ?_) (fun c1 => ?_)
        · rw [if_pos c1] at h
          exact ih.2.1 L σ r h H locs ls hP hD hS (lv_sub hl [0, 1] rfl)
        · rw [if_neg c1] at h
          refine lv_aload_n hx hb dX12_putOut_10 rfl (lv_at hl 0 rfl) ?_
          refine ng_107 hx hb hts in_x_putOut hown hK hP (hts _ (List.mem_cons_of_mem _ (List.mem_append_left _ (List.mem_append_left _ (List.mem_of_getElem? (i := 2) rfl))))) dX12_putOut_11 ?_
          refine lv_aload_n hx hb dX12_putOut_14 rfl (lv_at hl 0 rfl) ?_
          refine ng_106 hx hb hts in_x_putOut hown hK hP (hts _ (List.mem_cons_of_mem _ (List.mem_append_left _ (List.mem_append_left _ (List.mem_of_getElem? (i := 0) rfl))))) dX12_putOut_15 ?_
          refine lv_iload_n hx hb dX12_putOut_18 rfl (lv_at hl 1 rfl) ?_
          obtain ⟨q2, h⟩ := nb_ite1 h
          refine ns_52 hx hb hK hP hD hS q2 dX12_putOut_19 (fun H locs hP hD hS => ?_)
          exact ih.2.1 L (σ.1, σ.2.1, updG σ.2.2 52 (upd (σ.2.2 52) ((σ.1 106)).toNatClampNeg ((L 1)))) r h H locs ls hP hD hS (lv_sub hl [0, 1] rfl)
      · intro L σ r h H locs ls hP hD hS hl
        rw [x_putOut] at h
        refine lv_aload_n hx hb dX12_putOut_20 rfl (lv_at hl 0 rfl) ?_
        refine lv_dup hx hb dX12_putOut_21 rfl ?_
        refine ng_106 hx hb hts in_x_putOut hown hK hP (hts _ (List.mem_cons_of_mem _ (List.mem_append_left _ (List.mem_append_left _ (List.mem_of_getElem? (i := 0) rfl))))) dX12_putOut_22 ?_
        refine lv_aload_n hx hb dX12_putOut_25 rfl (lv_at hl 0 rfl) ?_
        refine ng_106 hx hb hts in_x_putOut hown hK hP (hts _ (List.mem_cons_of_mem _ (List.mem_append_left _ (List.mem_append_left _ (List.mem_of_getElem? (i := 0) rfl))))) dX12_putOut_26 ?_
        refine lv_ldcw (v := 2000000000) hx hb hown (hts _ (List.mem_cons_of_mem _ (List.mem_append_left _ (List.mem_append_left _ (List.mem_of_getElem? (i := 3) rfl))))) dX12_putOut_29 ?_
        refine lv_icmp_ge (tgt := 39) hx hb dX12_putOut_32 (by decide) (fun c1 => ?_) (fun c1 => ?_)
        · rw [if_pos c1] at h
          exact ih.2.2.1 (upd L 100 ((σ.1 106))) σ r h H locs ls hP hD hS (lv_sub hl [0, 1] rfl)
        · rw [if_neg c1] at h
          refine lv_iconst (v := 1) hx hb dX12_putOut_35 (by decide) ?_
          refine lv_goto (tgt := 40) hx hb dX12_putOut_36 (by decide) ?_
          exact ih.2.2.2 (upd (upd L 100 1) 101 ((σ.1 106))) σ r h H locs ls hP hD hS (lv_sub hl [0, 1] rfl)
      · intro L σ r h H locs ls hP hD hS hl
        rw [x_putOut] at h
        refine lv_iconst (v := 0) hx hb dX12_putOut_39 (by decide) ?_
        exact ih.2.2.2 (upd (upd L 100 0) 101 ((L 100))) σ r h H locs ls hP hD hS (lv_sub hl [0, 1] rfl)
      · intro L σ r h H locs ls hP hD hS hl
        rw [x_putOut] at h
        refine lv_iadd hx hb dX12_putOut_40 ?_
        refine np_106 hx hb hts in_x_putOut hown hK hP hD hS (hts _ (List.mem_cons_of_mem _ (List.mem_append_left _ (List.mem_append_left _ (List.mem_of_getElem? (i := 0) rfl))))) dX12_putOut_41 (fun H locs hP hD hS => ?_)
        cases h
        exact W.vret hx hb hr (fun t ht hW => ⟨⟨(), rfl, trivial, by rw [ht]; exact hP, va_K.moved hW.alike hK, hD⟩, hS.F ht⟩) hS.2.2 dX12_putOut_44
  exact (blk k0).1 L0 σ0 r0 h0 s.heap [] ls hP hD hS hl
/-! prints -/
def x_prints : Nat → Nat → (Nat → Int32) → MS → Option (Int32 × MS)
  | 0, _, _, _ => none
  | k + 1, 0, L, σ => if ¬ (((L 1)) < 0 ∨ 70000 ≤ ((L 1)).toNatClampNeg) then (x_prints k 1 (upd (upd L 2 ((σ.1 59))) 3 ((σ.2.2 5 ((L 1)).toNatClampNeg))) σ) else none
  | k + 1, 1, L, σ => if ((L 3)) = ((-1)) then (x_prints k 2 L σ) else (if ((σ.1 56)) = 0 then (ob (x_eval k 0 (upd (fun _ => 0) 1 ((L 3))) σ) (fun r3 => if ¬ (((L 3)) < 0 ∨ 70000 ≤ ((L 3)).toNatClampNeg) then (x_prints k 1 (upd L 3 ((r3.2.2.2 9 ((L 3)).toNatClampNeg))) r3.2) else none)) else (x_prints k 2 L σ))
  | k + 1, 2, L, σ => if ((σ.1 56)) ≤ 0 then (x_prints k 3 L σ) else (some (0, σ))
  | k + 1, 3, L, σ => x_prints k 4 (upd L 3 ((L 2))) σ
  | k + 1, 4, L, σ => if ((σ.1 59)) ≤ ((L 3)) then (x_prints k 10 L σ) else (x_prints k 5 L (upd σ.1 93 0, σ.2.1, σ.2.2))
  | k + 1, 5, L, σ => if ¬ (((L 3)) < 0 ∨ 185000 ≤ ((L 3)).toNatClampNeg) then (ob (x_print k 0 (upd (upd (fun _ => 0) 1 ((σ.2.2 29 ((L 3)).toNatClampNeg))) 2 1) σ) (fun r2 => x_prints k 6 (upd L 4 0) r2.2)) else none
  | k + 1, 6, L, σ => if ((σ.1 93)) ≤ ((L 4)) then (x_prints k 7 L σ) else (if ¬ (((L 4)) < 0 ∨ 12000 ≤ ((L 4)).toNatClampNeg) then (ob (x_putOut k 0 (upd (fun _ => 0) 1 ((σ.2.2 48 ((L 4)).toNatClampNeg))) σ) (fun r3 => x_prints k 6 (upd L 4 (((L 4)) + 1)) r3.2)) else none)
  | k + 1, 7, L, σ => if ((L 3)) = ((((σ.1 59)) - 1)) then (x_prints k 9 (upd L 100 10) σ) else (x_prints k 8 L σ)
  | k + 1, 8, L, σ => x_prints k 9 (upd L 100 32) σ
  | k + 1, 9, L, σ => ob (x_putOut k 0 (upd (fun _ => 0) 1 ((L 100))) σ) (fun r1 => x_prints k 4 (upd L 3 (((L 3)) + 1)) r1.2)
  | k + 1, 10, L, σ => ob (x_pass k 0 (upd (fun _ => 0) 1 ((L 1))) σ) (fun r1 => some (0, r1.2))
  | _ + 1, _ + 11, _, _ => none
def o_x_prints : List Cond := [.fieldLink RX12 385 "SetHouseModel" "top" "I", .fieldLink RX12 86 "SetHouseModel" "x1" "[I", .fieldLink RX12 362 "SetHouseModel" "err" "I", .methodLink RX12 566 yX12_eval, .instanceMethod yX12_eval, .selects RX12 yX12_eval yX12_eval, .initialized RX12, .fieldLink RX12 98 "SetHouseModel" "next" "[I", .fieldLink RX12 530 "SetHouseModel" "printed" "I", .fieldLink RX12 382 "SetHouseModel" "pile" "[I", .methodLink RX12 554 yX12_print, .instanceMethod yX12_print, .selects RX12 yX12_print yX12_print, .fieldLink RX12 527 "SetHouseModel" "text" "[I", .methodLink RX12 974 yX12_putOut, .instanceMethod yX12_putOut, .selects RX12 yX12_putOut yX12_putOut, .methodLink RX12 926 yX12_pass, .instanceMethod yX12_pass, .selects RX12 yX12_pass yX12_pass]
theorem o_x_prints_good : o_x_prints.all goodWord = true := by decide +kernel
def p_x_prints : List Cond := o_x_prints ++ ((.code yX12_eval cX12_eval 3 none :: p_x_GV) ++ ((.code yX12_print cX12_print 5 none :: p_x_GP) ++ ((.code yX12_putOut cX12_putOut 2 none :: p_x_putOut) ++ ((.code yX12_pass cX12_pass 2 none :: p_x_pass) ++ []))))
theorem p_x_prints_good : p_x_prints.all goodWord = true := nb_all2 o_x_prints_good (nb_all2 (nb_allc (by decide +kernel) p_x_GV_good) (nb_all2 (nb_allc (by decide +kernel) p_x_GP_good) (nb_all2 (nb_allc (by decide +kernel) p_x_putOut_good) (nb_all2 (nb_allc (by decide +kernel) p_x_pass_good) rfl))))
def w_x_prints : List Cond := .code yX12_prints cX12_prints 5 none :: (p_x_prints ++ fM)
theorem w_x_prints_good : w_x_prints.all goodWord = true := nb_allc (by decide +kernel) (nb_all2 p_x_prints_good fM_good)
theorem in_x_prints : ∀ w ∈ wsX120, w ∈ w_x_prints := fun _ h => List.mem_cons_of_mem _ (List.mem_append_right _ h)
theorem hd_x_prints : yX12_prints.cls = RX12 ∧ yX12_prints.cls ≠ "java/lang/invoke/MethodHandle" ∧ yX12_prints.cls ≠ "java/lang/invoke/VarHandle" ∧ (parseMethodDescriptor yX12_prints.desc).map (fun d => d.parameters.length) = some 1 := by decide +kernel
theorem gg_x_prints_eval : GoodIn w_x_prints w_x_eval := goodIn_sub (fun w h => (List.mem_cons.mp h).elim (fun e => (List.mem_cons_of_mem _ (List.mem_append_left _ (List.mem_append_right _ (List.mem_append_left _ (List.mem_cons.mpr (Or.inl e))))))) (fun h => (List.mem_append.mp h).elim (fun h => (List.mem_cons_of_mem _ (List.mem_append_left _ (List.mem_append_right _ (List.mem_append_left _ (List.mem_cons_of_mem _ h)))))) (fun h => List.mem_cons_of_mem _ (List.mem_append_right _ h)))) w_x_eval_good
theorem g_x_prints_eval_566 : GoodIn w_x_prints (wsV RX12 566 RX12 yX12_eval w_x_eval) := goodIn_app (nb_g4 (List.mem_cons_of_mem _ (List.mem_append_left _ (List.mem_append_left _ (List.mem_of_getElem? (i := 3) rfl)))) (List.mem_cons_of_mem _ (List.mem_append_left _ (List.mem_append_left _ (List.mem_of_getElem? (i := 4) rfl)))) (List.mem_cons_of_mem _ (List.mem_append_left _ (List.mem_append_left _ (List.mem_of_getElem? (i := 5) rfl)))) (List.mem_cons_of_mem _ (List.mem_append_left _ (List.mem_append_left _ (List.mem_of_getElem? (i := 6) rfl)))) (by decide +kernel)) gg_x_prints_eval
theorem gg_x_prints_pass : GoodIn w_x_prints w_x_pass := goodIn_sub (fun w h => (List.mem_cons.mp h).elim (fun e => (List.mem_cons_of_mem _ (List.mem_append_left _ (List.mem_append_right _ (List.mem_append_right _ (List.mem_append_right _ (List.mem_append_right _ (List.mem_append_left _ (List.mem_cons.mpr (Or.inl e)))))))))) (fun h => (List.mem_append.mp h).elim (fun h => (List.mem_cons_of_mem _ (List.mem_append_left _ (List.mem_append_right _ (List.mem_append_right _ (List.mem_append_right _ (List.mem_append_right _ (List.mem_append_left _ (List.mem_cons_of_mem _ h))))))))) (fun h => List.mem_cons_of_mem _ (List.mem_append_right _ h)))) w_x_pass_good
theorem g_x_prints_pass_926 : GoodIn w_x_prints (wsV RX12 926 RX12 yX12_pass w_x_pass) := goodIn_app (nb_g4 (List.mem_cons_of_mem _ (List.mem_append_left _ (List.mem_append_left _ (List.mem_of_getElem? (i := 17) rfl)))) (List.mem_cons_of_mem _ (List.mem_append_left _ (List.mem_append_left _ (List.mem_of_getElem? (i := 18) rfl)))) (List.mem_cons_of_mem _ (List.mem_append_left _ (List.mem_append_left _ (List.mem_of_getElem? (i := 19) rfl)))) (List.mem_cons_of_mem _ (List.mem_append_left _ (List.mem_append_left _ (List.mem_of_getElem? (i := 6) rfl)))) (by decide +kernel)) gg_x_prints_pass
theorem gg_x_prints_print : GoodIn w_x_prints w_x_print := goodIn_sub (fun w h => (List.mem_cons.mp h).elim (fun e => (List.mem_cons_of_mem _ (List.mem_append_left _ (List.mem_append_right _ (List.mem_append_right _ (List.mem_append_left _ (List.mem_cons.mpr (Or.inl e)))))))) (fun h => (List.mem_append.mp h).elim (fun h => (List.mem_cons_of_mem _ (List.mem_append_left _ (List.mem_append_right _ (List.mem_append_right _ (List.mem_append_left _ (List.mem_cons_of_mem _ h))))))) (fun h => List.mem_cons_of_mem _ (List.mem_append_right _ h)))) w_x_print_good
theorem g_x_prints_print_554 : GoodIn w_x_prints (wsV RX12 554 RX12 yX12_print w_x_print) := goodIn_app (nb_g4 (List.mem_cons_of_mem _ (List.mem_append_left _ (List.mem_append_left _ (List.mem_of_getElem? (i := 10) rfl)))) (List.mem_cons_of_mem _ (List.mem_append_left _ (List.mem_append_left _ (List.mem_of_getElem? (i := 11) rfl)))) (List.mem_cons_of_mem _ (List.mem_append_left _ (List.mem_append_left _ (List.mem_of_getElem? (i := 12) rfl)))) (List.mem_cons_of_mem _ (List.mem_append_left _ (List.mem_append_left _ (List.mem_of_getElem? (i := 6) rfl)))) (by decide +kernel)) gg_x_prints_print
theorem gg_x_prints_putOut : GoodIn w_x_prints w_x_putOut := goodIn_sub (fun w h => (List.mem_cons.mp h).elim (fun e => (List.mem_cons_of_mem _ (List.mem_append_left _ (List.mem_append_right _ (List.mem_append_right _ (List.mem_append_right _ (List.mem_append_left _ (List.mem_cons.mpr (Or.inl e))))))))) (fun h => (List.mem_append.mp h).elim (fun h => (List.mem_cons_of_mem _ (List.mem_append_left _ (List.mem_append_right _ (List.mem_append_right _ (List.mem_append_right _ (List.mem_append_left _ (List.mem_cons_of_mem _ h)))))))) (fun h => List.mem_cons_of_mem _ (List.mem_append_right _ h)))) w_x_putOut_good
theorem g_x_prints_putOut_974 : GoodIn w_x_prints (wsV RX12 974 RX12 yX12_putOut w_x_putOut) := goodIn_app (nb_g4 (List.mem_cons_of_mem _ (List.mem_append_left _ (List.mem_append_left _ (List.mem_of_getElem? (i := 14) rfl)))) (List.mem_cons_of_mem _ (List.mem_append_left _ (List.mem_append_left _ (List.mem_of_getElem? (i := 15) rfl)))) (List.mem_cons_of_mem _ (List.mem_append_left _ (List.mem_append_left _ (List.mem_of_getElem? (i := 16) rfl)))) (List.mem_cons_of_mem _ (List.mem_append_left _ (List.mem_append_left _ (List.mem_of_getElem? (i := 6) rfl)))) (by decide +kernel)) gg_x_prints_putOut
set_option maxHeartbeats 40000000 in
set_option maxRecDepth 100000 in
theorem c_x_prints (l : Launch) (dC : Nat → ClassId) (dI : Nat → Nat → Nat) (cy : Nat → ClassId) (a : Nat → Nat) (k0 : Nat) (L0 : Nat → Int32) (σ0 : MS) (r0 : Int32 × MS) (h0 : x_prints k0 0 L0 σ0 = some r0) (sz : Nat) : Met l yX12_prints w_x_prints ({ frames := 1365, cells := 0, slots := 0, locals := 36657 }) (va_Pc [.ref (a 0), .int (L0 1)] (nIn (dC, dI) cy sz (vM cy a σ0))) (va_Qv (fun _ : Unit => True) (fun _ t => nOut (dC, dI) cy (va_A (vM cy a σ0) sz) (vM cy a r0.2) t) (va_A (vM cy a σ0) sz)) 0 0 (va_A (vM cy a σ0) sz) := by
  refine Met.ofW (cc := cX12_prints) (maxL := 5) (ret := none) (by decide) rfl ?_
  intro p e s m args below meth c s₁ B hml hv
  obtain ⟨rfl, hsz, hP, hK, hD0, hG⟩ := hv
  have hx := B.exec
  have hb := B.bytes
  have hr := B.returns
  have hts := atoms_spec (ws := w_x_prints) B.pre
  have hown : s.vm.findClass RX12 = some m.cls := findClass_of_methodNamed B.named
  have hlocks := B.notSynchronized
  subst hsz
  have hD := hD0.self (sz := s.heap.size)
  generalize hAe : va_A (vM cy a σ0) s.heap.size = A at hD ⊢
  have hA : ∀ q : Nat, s.heap.size ≤ q → A q := fun q h => by rw [← hAe]; exact Or.inr h
  have hS : va_S A s.heap s.heap [] := va_S.rf
  have hl := lv_entry ([.ref (a 0), .int (L0 1)]) (n := 5) (Nat.le_of_ble_eq_true rfl)
  rw [lg_entry_eq]
  generalize (lg_sl ([.ref (a 0), .int (L0 1)]) ++ List.replicate (5 - (lg_sl ([.ref (a 0), .int (L0 1)])).length) Slot.unset).toArray = ls at hl ⊢
  have hl : lv_has ls 5 [(0, .ref (a 0)), (1, .int (L0 1))] := hl
  have blk : ∀ k : Nat, (bT p l e (headSpec w_x_prints ({ frames := 1365, cells := 0, slots := 0, locals := 36657 })).room s m #[.ref (a 0), .int (L0 1)] below meth c dC dI cy a A (qV dC dI cy a A below #[.ref (a 0), .int (L0 1)] s) 5 (x_prints k 0) (fun L => [(0, .ref (a 0)), (1, .int (L 1))]) 0 (fun L => [])) ∧ (bT p l e (headSpec w_x_prints ({ frames := 1365, cells := 0, slots := 0, locals := 36657 })).room s m #[.ref (a 0), .int (L0 1)] below meth c dC dI cy a A (qV dC dI cy a A below #[.ref (a 0), .int (L0 1)] s) 5 (x_prints k 1) (fun L => [(0, .ref (a 0)), (1, .int (L 1)), (2, .int (L 2)), (3, .int (L 3))]) 12 (fun L => [])) ∧ (bT p l e (headSpec w_x_prints ({ frames := 1365, cells := 0, slots := 0, locals := 36657 })).room s m #[.ref (a 0), .int (L0 1)] below meth c dC dI cy a A (qV dC dI cy a A below #[.ref (a 0), .int (L0 1)] s) 5 (x_prints k 2) (fun L => [(0, .ref (a 0)), (1, .int (L 1)), (2, .int (L 2)), (3, .int (L 3))]) 39 (fun L => [])) ∧ (bT p l e (headSpec w_x_prints ({ frames := 1365, cells := 0, slots := 0, locals := 36657 })).room s m #[.ref (a 0), .int (L0 1)] below meth c dC dI cy a A (qV dC dI cy a A below #[.ref (a 0), .int (L0 1)] s) 5 (x_prints k 3) (fun L => [(0, .ref (a 0)), (1, .int (L 1)), (2, .int (L 2)), (3, .int (L 3))]) 47 (fun L => [])) ∧ (bT p l e (headSpec w_x_prints ({ frames := 1365, cells := 0, slots := 0, locals := 36657 })).room s m #[.ref (a 0), .int (L0 1)] below meth c dC dI cy a A (qV dC dI cy a A below #[.ref (a 0), .int (L0 1)] s) 5 (x_prints k 4) (fun L => [(0, .ref (a 0)), (1, .int (L 1)), (2, .int (L 2)), (3, .int (L 3))]) 49 (fun L => [])) ∧ (bT p l e (headSpec w_x_prints ({ frames := 1365, cells := 0, slots := 0, locals := 36657 })).room s m #[.ref (a 0), .int (L0 1)] below meth c dC dI cy a A (qV dC dI cy a A below #[.ref (a 0), .int (L0 1)] s) 5 (x_prints k 5) (fun L => [(0, .ref (a 0)), (1, .int (L 1)), (2, .int (L 2)), (3, .int (L 3))]) 62 (fun L => [])) ∧ (bT p l e (headSpec w_x_prints ({ frames := 1365, cells := 0, slots := 0, locals := 36657 })).room s m #[.ref (a 0), .int (L0 1)] below meth c dC dI cy a A (qV dC dI cy a A below #[.ref (a 0), .int (L0 1)] s) 5 (x_prints k 6) (fun L => [(0, .ref (a 0)), (1, .int (L 1)), (2, .int (L 2)), (3, .int (L 3)), (4, .int (L 4))]) 76 (fun L => [])) ∧ (bT p l e (headSpec w_x_prints ({ frames := 1365, cells := 0, slots := 0, locals := 36657 })).room s m #[.ref (a 0), .int (L0 1)] below meth c dC dI cy a A (qV dC dI cy a A below #[.ref (a 0), .int (L0 1)] s) 5 (x_prints k 7) (fun L => [(0, .ref (a 0)), (1, .int (L 1)), (2, .int (L 2)), (3, .int (L 3)), (4, .int (L 4))]) 102 (fun L => [])) ∧ (bT p l e (headSpec w_x_prints ({ frames := 1365, cells := 0, slots := 0, locals := 36657 })).room s m #[.ref (a 0), .int (L0 1)] below meth c dC dI cy a A (qV dC dI cy a A below #[.ref (a 0), .int (L0 1)] s) 5 (x_prints k 8) (fun L => [(0, .ref (a 0)), (1, .int (L 1)), (2, .int (L 2)), (3, .int (L 3)), (4, .int (L 4))]) 118 (fun L => [.ref (a 0)])) ∧ (bT p l e (headSpec w_x_prints ({ frames := 1365, cells := 0, slots := 0, locals := 36657 })).room s m #[.ref (a 0), .int (L0 1)] below meth c dC dI cy a A (qV dC dI cy a A below #[.ref (a 0), .int (L0 1)] s) 5 (x_prints k 9) (fun L => [(0, .ref (a 0)), (1, .int (L 1)), (2, .int (L 2)), (3, .int (L 3)), (4, .int (L 4))]) 120 (fun L => [.int (L 100), .ref (a 0)])) ∧ (bT p l e (headSpec w_x_prints ({ frames := 1365, cells := 0, slots := 0, locals := 36657 })).room s m #[.ref (a 0), .int (L0 1)] below meth c dC dI cy a A (qV dC dI cy a A below #[.ref (a 0), .int (L0 1)] s) 5 (x_prints k 10) (fun L => [(0, .ref (a 0)), (1, .int (L 1)), (2, .int (L 2)), (3, .int (L 3))]) 129 (fun L => [])) := by
    intro k
    induction k with
    | zero => exact ⟨fun L σ r h => (by cases h), fun L σ r h => (by cases h), fun L σ r h => (by cases h), fun L σ r h => (by cases h), fun L σ r h => (by cases h), fun L σ r h => (by cases h), fun L σ r h => (by cases h), fun L σ r h => (by cases h), fun L σ r h => (by cases h), fun L σ r h => (by cases h), fun L σ r h => (by cases h)⟩
    | succ k ih =>
      refine ⟨?_, ?_, ?_, ?_, ?_, ?_, ?_, ?_, ?_, ?_, ?_⟩
      · intro L σ r h H locs ls hP hD hS hl
        rw [x_prints] at h
        refine lv_aload_n hx hb dX12_prints_0 rfl (lv_at hl 0 rfl) ?_
        refine ng_59 hx hb hts in_x_prints hown hK hP (hts _ (List.mem_cons_of_mem _ (List.mem_append_left _ (List.mem_append_left _ (List.mem_of_getElem? (i := 0) rfl))))) dX12_prints_1 ?_
        refine lv_istore_n (lv' := [(2, .int (σ.1 59)), (0, .ref (a 0)), (1, .int (L 1))]) hx hb dX12_prints_4 rfl hl (by decide) rfl (fun ls hl => ?_)
        refine lv_aload_n hx hb dX12_prints_5 rfl (lv_at hl 1 rfl) ?_
        refine ng_15 hx hb hts in_x_prints hown hK hP (hts _ (List.mem_cons_of_mem _ (List.mem_append_left _ (List.mem_append_left _ (List.mem_of_getElem? (i := 1) rfl))))) dX12_prints_6 ?_
        refine lv_iload_n hx hb dX12_prints_9 rfl (lv_at hl 2 rfl) ?_
        obtain ⟨q1, h⟩ := nb_ite1 h
        refine nl_5 hx hb hK hP q1 dX12_prints_10 ?_
        refine lv_istore_n (lv' := [(3, .int (σ.2.2 5 ((L 1)).toNatClampNeg)), (2, .int (σ.1 59)), (0, .ref (a 0)), (1, .int (L 1))]) hx hb dX12_prints_11 rfl hl (by decide) rfl (fun ls hl => ?_)
        exact ih.2.1 (upd (upd L 2 ((σ.1 59))) 3 ((σ.2.2 5 ((L 1)).toNatClampNeg))) σ r h H locs ls hP hD hS (lv_sub hl [2, 3, 1, 0] rfl)
      · intro L σ r h H locs ls hP hD hS hl
        rw [x_prints] at h
        refine lv_iload_n hx hb dX12_prints_12 rfl (lv_at hl 3 rfl) ?_
        refine lv_iconst (v := (-1)) hx hb dX12_prints_13 (by decide) ?_
        refine lv_icmp_eq (tgt := 39) hx hb dX12_prints_14 (by decide) (fun c1 => ?_) (fun c1 => ?_)
        · rw [if_pos c1] at h
          exact ih.2.2.1 L σ r h H locs ls hP hD hS (lv_sub hl [0, 1, 2, 3] rfl)
        · rw [if_neg c1] at h
          refine lv_aload_n hx hb dX12_prints_17 rfl (lv_at hl 0 rfl) ?_
          refine ng_56 hx hb hts in_x_prints hown hK hP (hts _ (List.mem_cons_of_mem _ (List.mem_append_left _ (List.mem_append_left _ (List.mem_of_getElem? (i := 2) rfl))))) dX12_prints_18 ?_
          refine lv_if_ne (tgt := 39) hx hb dX12_prints_21 (by decide) (fun c2 => ?_) (fun c2 => ?_)
          · rw [if_neg c2] at h
            exact ih.2.2.1 L σ r h H locs ls hP hD hS (lv_sub hl [0, 1, 2, 3] rfl)
          · rw [if_pos c2] at h
            refine lv_aload_n hx hb dX12_prints_24 rfl (lv_at hl 0 rfl) ?_
            refine lv_iload_n hx hb dX12_prints_25 rfl (lv_at hl 3 rfl) ?_
            obtain ⟨r3, hc3, h⟩ := ob_ex h
            refine nc_Vv (As := [.int (L 3)]) (rest := []) ⟨hx, hb, hml, hown, hts⟩ (c_x_eval l dC dI cy a k (upd (fun _ => 0) 1 ((L 3))) σ r3 hc3 H.size) (cwV 1 hts g_x_prints_eval_566 rfl rfl rfl hd_x_eval ⟨Nat.le_of_ble_eq_true rfl, Nat.le_of_ble_eq_true rfl⟩) hK hG hA hP hD hS rfl hl.1 rfl (Nat.le_of_ble_eq_true rfl) dX12_prints_26 ⟨Nat.le_refl _, Nat.le_refl _⟩ (fun H locs hP hD hS => ?_)
            refine lv_aload_n hx hb dX12_prints_29 rfl (lv_at hl 0 rfl) ?_
            refine ng_19 hx hb hts in_x_prints hown hK hP (hts _ (List.mem_cons_of_mem _ (List.mem_append_left _ (List.mem_append_left _ (List.mem_of_getElem? (i := 7) rfl))))) dX12_prints_30 ?_
            refine lv_iload_n hx hb dX12_prints_33 rfl (lv_at hl 3 rfl) ?_
            obtain ⟨q4, h⟩ := nb_ite1 h
            refine nl_9 hx hb hK hP q4 dX12_prints_34 ?_
            refine lv_istore_n (lv' := [(3, .int (r3.2.2.2 9 ((L 3)).toNatClampNeg)), (0, .ref (a 0)), (1, .int (L 1)), (2, .int (L 2))]) hx hb dX12_prints_35 rfl hl (by decide) rfl (fun ls hl => ?_)
            refine lv_goto (tgt := 12) hx hb dX12_prints_36 (by decide) ?_
            exact ih.2.1 (upd L 3 ((r3.2.2.2 9 ((L 3)).toNatClampNeg))) r3.2 r h H locs ls hP hD hS (lv_sub hl [1, 2, 3, 0] rfl)
      · intro L σ r h H locs ls hP hD hS hl
        rw [x_prints] at h
        refine lv_aload_n hx hb dX12_prints_39 rfl (lv_at hl 0 rfl) ?_
        refine ng_56 hx hb hts in_x_prints hown hK hP (hts _ (List.mem_cons_of_mem _ (List.mem_append_left _ (List.mem_append_left _ (List.mem_of_getElem? (i := 2) rfl))))) dX12_prints_40 ?_
        refine lv_if_le (tgt := 47) hx hb dX12_prints_43 (by decide) (fun c1 => ?_) (fun c1 => ?_)
        · rw [if_pos c1] at h
          exact ih.2.2.2.1 L σ r h H locs ls hP hD hS (lv_sub hl [0, 1, 2, 3] rfl)
        · rw [if_neg c1] at h
          cases h
          exact W.vret hx hb hr (fun t ht hW => ⟨⟨(), rfl, trivial, by rw [ht]; exact hP, va_K.moved hW.alike hK, hD⟩, hS.F ht⟩) hS.2.2 dX12_prints_46
      · intro L σ r h H locs ls hP hD hS hl
        rw [x_prints] at h
        refine lv_iload_n hx hb dX12_prints_47 rfl (lv_at hl 2 rfl) ?_
        refine lv_istore_n (lv' := [(3, .int (L 2)), (0, .ref (a 0)), (1, .int (L 1)), (2, .int (L 2))]) hx hb dX12_prints_48 rfl hl (by decide) rfl (fun ls hl => ?_)
        exact ih.2.2.2.2.1 (upd L 3 ((L 2))) σ r h H locs ls hP hD hS (lv_sub hl [1, 2, 3, 0] rfl)
      · intro L σ r h H locs ls hP hD hS hl
        rw [x_prints] at h
        refine lv_iload_n hx hb dX12_prints_49 rfl (lv_at hl 3 rfl) ?_
        refine lv_aload_n hx hb dX12_prints_50 rfl (lv_at hl 0 rfl) ?_
        refine ng_59 hx hb hts in_x_prints hown hK hP (hts _ (List.mem_cons_of_mem _ (List.mem_append_left _ (List.mem_append_left _ (List.mem_of_getElem? (i := 0) rfl))))) dX12_prints_51 ?_
        refine lv_icmp_ge (tgt := 129) hx hb dX12_prints_54 (by decide) (fun c1 => ?_) (fun c1 => ?_)
        · rw [if_pos c1] at h
          exact ih.2.2.2.2.2.2.2.2.2.2 L σ r h H locs ls hP hD hS (lv_sub hl [0, 1, 2, 3] rfl)
        · rw [if_neg c1] at h
          refine lv_aload_n hx hb dX12_prints_57 rfl (lv_at hl 0 rfl) ?_
          refine lv_iconst (v := 0) hx hb dX12_prints_58 (by decide) ?_
          refine np_93 hx hb hts in_x_prints hown hK hP hD hS (hts _ (List.mem_cons_of_mem _ (List.mem_append_left _ (List.mem_append_left _ (List.mem_of_getElem? (i := 8) rfl))))) dX12_prints_59 (fun H locs hP hD hS => ?_)
          exact ih.2.2.2.2.2.1 L (upd σ.1 93 0, σ.2.1, σ.2.2) r h H locs ls hP hD hS (lv_sub hl [0, 1, 2, 3] rfl)
      · intro L σ r h H locs ls hP hD hS hl
        rw [x_prints] at h
        refine lv_aload_n hx hb dX12_prints_62 rfl (lv_at hl 0 rfl) ?_
        refine lv_aload_n hx hb dX12_prints_63 rfl (lv_at hl 0 rfl) ?_
        refine ng_58 hx hb hts in_x_prints hown hK hP (hts _ (List.mem_cons_of_mem _ (List.mem_append_left _ (List.mem_append_left _ (List.mem_of_getElem? (i := 9) rfl))))) dX12_prints_64 ?_
        refine lv_iload_n hx hb dX12_prints_67 rfl (lv_at hl 3 rfl) ?_
        obtain ⟨q1, h⟩ := nb_ite1 h
        refine nl_29 hx hb hK hP q1 dX12_prints_68 ?_
        refine lv_iconst (v := 1) hx hb dX12_prints_69 (by decide) ?_
        obtain ⟨r2, hc2, h⟩ := ob_ex h
        refine nc_Vv (As := [.int (σ.2.2 29 ((L 3)).toNatClampNeg), .int 1]) (rest := []) ⟨hx, hb, hml, hown, hts⟩ (c_x_print l dC dI cy a k (upd (upd (fun _ => 0) 1 ((σ.2.2 29 ((L 3)).toNatClampNeg))) 2 1) σ r2 hc2 H.size) (cwV 2 hts g_x_prints_print_554 rfl rfl rfl hd_x_print ⟨Nat.le_of_ble_eq_true rfl, Nat.le_of_ble_eq_true rfl⟩) hK hG hA hP hD hS rfl hl.1 rfl (Nat.le_of_ble_eq_true rfl) dX12_prints_70 ⟨Nat.le_refl _, Nat.le_refl _⟩ (fun H locs hP hD hS => ?_)
        refine lv_iconst (v := 0) hx hb dX12_prints_73 (by decide) ?_
        refine lv_istore (lv' := [(4, .int 0), (0, .ref (a 0)), (1, .int (L 1)), (2, .int (L 2)), (3, .int (L 3))]) hx hb dX12_prints_74 hl (by decide) rfl (fun ls hl => ?_)
        exact ih.2.2.2.2.2.2.1 (upd L 4 0) r2.2 r h H locs ls hP hD hS (lv_sub hl [1, 2, 3, 4, 0] rfl)
      · intro L σ r h H locs ls hP hD hS hl
        rw [x_prints] at h
        refine lv_iload hx hb dX12_prints_76 (lv_at hl 4 rfl) ?_
        refine lv_aload_n hx hb dX12_prints_78 rfl (lv_at hl 0 rfl) ?_
        refine ng_93 hx hb hts in_x_prints hown hK hP (hts _ (List.mem_cons_of_mem _ (List.mem_append_left _ (List.mem_append_left _ (List.mem_of_getElem? (i := 8) rfl))))) dX12_prints_79 ?_
        refine lv_icmp_ge (tgt := 102) hx hb dX12_prints_82 (by decide) (fun c1 => ?_) (fun c1 => ?_)
        · rw [if_pos c1] at h
          exact ih.2.2.2.2.2.2.2.1 L σ r h H locs ls hP hD hS (lv_sub hl [0, 1, 2, 3, 4] rfl)
        · rw [if_neg c1] at h
          refine lv_aload_n hx hb dX12_prints_85 rfl (lv_at hl 0 rfl) ?_
          refine lv_aload_n hx hb dX12_prints_86 rfl (lv_at hl 0 rfl) ?_
          refine ng_92 hx hb hts in_x_prints hown hK hP (hts _ (List.mem_cons_of_mem _ (List.mem_append_left _ (List.mem_append_left _ (List.mem_of_getElem? (i := 13) rfl))))) dX12_prints_87 ?_
          refine lv_iload hx hb dX12_prints_90 (lv_at hl 4 rfl) ?_
          obtain ⟨q2, h⟩ := nb_ite1 h
          refine nl_48 hx hb hK hP q2 dX12_prints_92 ?_
          obtain ⟨r3, hc3, h⟩ := ob_ex h
          refine nc_Vv (As := [.int (σ.2.2 48 ((L 4)).toNatClampNeg)]) (rest := []) ⟨hx, hb, hml, hown, hts⟩ (c_x_putOut l dC dI cy a k (upd (fun _ => 0) 1 ((σ.2.2 48 ((L 4)).toNatClampNeg))) σ r3 hc3 H.size) (cwV 1 hts g_x_prints_putOut_974 rfl rfl rfl hd_x_putOut ⟨Nat.le_of_ble_eq_true rfl, Nat.le_of_ble_eq_true rfl⟩) hK hG hA hP hD hS rfl hl.1 rfl (Nat.le_of_ble_eq_true rfl) dX12_prints_93 ⟨Nat.le_refl _, Nat.le_refl _⟩ (fun H locs hP hD hS => ?_)
          refine lv_iinc (v := ((L 4)) + 1) (lv' := [(4, .int (((L 4)) + 1)), (0, .ref (a 0)), (1, .int (L 1)), (2, .int (L 2)), (3, .int (L 3))]) hx hb dX12_prints_96 hl (k := 4) rfl rfl (by decide) rfl (fun ls hl => ?_)
          refine lv_goto (tgt := 76) hx hb dX12_prints_99 (by decide) ?_
          exact ih.2.2.2.2.2.2.1 (upd L 4 (((L 4)) + 1)) r3.2 r h H locs ls hP hD hS (lv_sub hl [1, 2, 3, 4, 0] rfl)
      · intro L σ r h H locs ls hP hD hS hl
        rw [x_prints] at h
        refine lv_aload_n hx hb dX12_prints_102 rfl (lv_at hl 0 rfl) ?_
        refine lv_iload_n hx hb dX12_prints_103 rfl (lv_at hl 3 rfl) ?_
        refine lv_aload_n hx hb dX12_prints_104 rfl (lv_at hl 0 rfl) ?_
        refine ng_59 hx hb hts in_x_prints hown hK hP (hts _ (List.mem_cons_of_mem _ (List.mem_append_left _ (List.mem_append_left _ (List.mem_of_getElem? (i := 0) rfl))))) dX12_prints_105 ?_
        refine lv_iconst (v := 1) hx hb dX12_prints_108 (by decide) ?_
        refine lv_isub hx hb dX12_prints_109 ?_
        refine lv_icmp_ne (tgt := 118) hx hb dX12_prints_110 (by decide) (fun c1 => ?_) (fun c1 => ?_)
        · rw [if_neg c1] at h
          exact ih.2.2.2.2.2.2.2.2.1 L σ r h H locs ls hP hD hS (lv_sub hl [0, 1, 2, 3, 4] rfl)
        · rw [if_pos c1] at h
          refine lv_bipush (v := 10) hx hb dX12_prints_113 (by decide) ?_
          refine lv_goto (tgt := 120) hx hb dX12_prints_115 (by decide) ?_
          exact ih.2.2.2.2.2.2.2.2.2.1 (upd L 100 10) σ r h H locs ls hP hD hS (lv_sub hl [0, 1, 2, 3, 4] rfl)
      · intro L σ r h H locs ls hP hD hS hl
        rw [x_prints] at h
        refine lv_bipush (v := 32) hx hb dX12_prints_118 (by decide) ?_
        exact ih.2.2.2.2.2.2.2.2.2.1 (upd L 100 32) σ r h H locs ls hP hD hS (lv_sub hl [0, 1, 2, 3, 4] rfl)
      · intro L σ r h H locs ls hP hD hS hl
        rw [x_prints] at h
        obtain ⟨r1, hc1, h⟩ := ob_ex h
        refine nc_Vv (As := [.int (L 100)]) (rest := []) ⟨hx, hb, hml, hown, hts⟩ (c_x_putOut l dC dI cy a k (upd (fun _ => 0) 1 ((L 100))) σ r1 hc1 H.size) (cwV 1 hts g_x_prints_putOut_974 rfl rfl rfl hd_x_putOut ⟨Nat.le_of_ble_eq_true rfl, Nat.le_of_ble_eq_true rfl⟩) hK hG hA hP hD hS rfl hl.1 rfl (Nat.le_of_ble_eq_true rfl) dX12_prints_120 ⟨Nat.le_refl _, Nat.le_refl _⟩ (fun H locs hP hD hS => ?_)
        refine lv_iinc (v := ((L 3)) + 1) (lv' := [(3, .int (((L 3)) + 1)), (0, .ref (a 0)), (1, .int (L 1)), (2, .int (L 2)), (4, .int (L 4))]) hx hb dX12_prints_123 hl (k := 3) rfl rfl (by decide) rfl (fun ls hl => ?_)
        refine lv_goto (tgt := 49) hx hb dX12_prints_126 (by decide) ?_
        exact ih.2.2.2.2.1 (upd L 3 (((L 3)) + 1)) r1.2 r h H locs ls hP hD hS (lv_sub hl [1, 2, 3, 0] rfl)
      · intro L σ r h H locs ls hP hD hS hl
        rw [x_prints] at h
        refine lv_aload_n hx hb dX12_prints_129 rfl (lv_at hl 0 rfl) ?_
        refine lv_iload_n hx hb dX12_prints_130 rfl (lv_at hl 1 rfl) ?_
        obtain ⟨r1, hc1, h⟩ := ob_ex h
        refine nc_Vv (As := [.int (L 1)]) (rest := []) ⟨hx, hb, hml, hown, hts⟩ (c_x_pass l dC dI cy a k (upd (fun _ => 0) 1 ((L 1))) σ r1 hc1 H.size) (cwV 1 hts g_x_prints_pass_926 rfl rfl rfl hd_x_pass ⟨Nat.le_of_ble_eq_true rfl, Nat.le_of_ble_eq_true rfl⟩) hK hG hA hP hD hS rfl hl.1 rfl (Nat.le_of_ble_eq_true rfl) dX12_prints_131 ⟨Nat.le_refl _, Nat.le_refl _⟩ (fun H locs hP hD hS => ?_)
        cases h
        exact W.vret hx hb hr (fun t ht hW => ⟨⟨(), rfl, trivial, by rw [ht]; exact hP, va_K.moved hW.alike hK, hD⟩, hS.F ht⟩) hS.2.2 dX12_prints_134
  exact (blk k0).1 L0 σ0 r0 h0 s.heap [] ls hP hD hS hl

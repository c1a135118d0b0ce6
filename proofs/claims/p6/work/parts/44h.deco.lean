/-! loopOf -/
def x_loopOf : Nat → Nat → (Nat → Int32) → MS → Option (Int32 × MS)
  | 0, _, _, _ => none
  | k + 1, 0, L, σ => if ¬ (((L 1)) < 0 ∨ 70000 ≤ ((L 1)).toNatClampNeg) then (if ¬ (((σ.2.2 8 ((L 1)).toNatClampNeg)) < 0 ∨ 401 ≤ ((σ.2.2 8 ((L 1)).toNatClampNeg)).toNatClampNeg) then (x_loopOf k 1 (upd L 2 ((σ.2.2 10 ((σ.2.2 8 ((L 1)).toNatClampNeg)).toNatClampNeg))) σ) else none) else none
  | k + 1, 1, L, σ => if ¬ (((L 2)) < 0 ∨ 70000 ≤ ((L 2)).toNatClampNeg) then (if ((σ.2.2 4 ((L 2)).toNatClampNeg)) = 47 then (x_loopOf k 2 L σ) else (if ¬ (((L 2)) < 0 ∨ 70000 ≤ ((L 2)).toNatClampNeg) then (if ((σ.2.2 4 ((L 2)).toNatClampNeg)) = 48 then (x_loopOf k 2 L σ) else (if ¬ (((L 2)) < 0 ∨ 70000 ≤ ((L 2)).toNatClampNeg) then (if ¬ (((σ.2.2 8 ((L 2)).toNatClampNeg)) < 0 ∨ 401 ≤ ((σ.2.2 8 ((L 2)).toNatClampNeg)).toNatClampNeg) then (x_loopOf k 1 (upd L 2 ((σ.2.2 10 ((σ.2.2 8 ((L 2)).toNatClampNeg)).toNatClampNeg))) σ) else none) else none)) else none)) else none
  | k + 1, 2, L, σ => some ((L 2), σ)
  | _ + 1, _ + 3, _, _ => none
def o_x_loopOf : List Cond := [.fieldLink RX12 291 "SetHouseModel" "up" "[I", .fieldLink RX12 95 "SetHouseModel" "x4" "[I", .fieldLink RX12 83 "SetHouseModel" "op" "[I"]
theorem o_x_loopOf_good : o_x_loopOf.all goodWord = true := by decide +kernel
def p_x_loopOf : List Cond := o_x_loopOf ++ []
theorem p_x_loopOf_good : p_x_loopOf.all goodWord = true := nb_all2 o_x_loopOf_good rfl
def w_x_loopOf : List Cond := .code yX12_loopOf cX12_loopOf 3 (some .int) :: (p_x_loopOf ++ fM)
theorem w_x_loopOf_good : w_x_loopOf.all goodWord = true := nb_allc (by decide +kernel) (nb_all2 p_x_loopOf_good fM_good)
theorem in_x_loopOf : ∀ w ∈ wsX120, w ∈ w_x_loopOf := fun _ h => List.mem_cons_of_mem _ (List.mem_append_right _ h)
set_option maxHeartbeats 40000000 in
set_option maxRecDepth 100000 in
theorem c_x_loopOf (l : Launch) (dC : Nat → ClassId) (dI : Nat → Nat → Nat) (cy : Nat → ClassId) (a : Nat → Nat) (k0 : Nat) (L0 : Nat → Int32) (σ0 : MS) (r0 : Int32 × MS) (h0 : x_loopOf k0 0 L0 σ0 = some r0) (sz : Nat) : Met l yX12_loopOf w_x_loopOf ({ frames := 0, cells := 0, slots := 0, locals := 0 }) (va_Pc [.ref (a 0), .int (L0 1)] (nIn (dC, dI) cy sz (vM cy a σ0))) (va_Qi (fun (z : Int32) (_ : Unit) => z = r0.1) (fun _ t => nOut (dC, dI) cy (va_A (vM cy a σ0) sz) (vM cy a r0.2) t) (va_A (vM cy a σ0) sz)) 0 0 (va_A (vM cy a σ0) sz) := by
  refine Met.ofW (cc := cX12_loopOf) (maxL := 3) (ret := (some .int)) (by decide) rfl ?_
  intro p e s m args below meth c s₁ B hml hv
  obtain ⟨rfl, hsz, hP, hK, hD0, hG⟩ := hv
  have hx := B.exec
  have hb := B.bytes
  have hr := B.returns
  have hts := atoms_spec (ws := w_x_loopOf) B.pre
  have hown : s.vm.findClass RX12 = some m.cls := findClass_of_methodNamed B.named
  have hlocks := B.notSynchronized
  subst hsz
  have hD := hD0.self (sz := s.heap.size)
  generalize hAe : va_A (vM cy a σ0) s.heap.size = A at hD ⊢
  have hA : ∀ q : Nat, s.heap.size ≤ q → A q := fun q h => by rw [← hAe]; exact Or.inr h
  have hS : va_S A s.heap s.heap [] := va_S.rf
  have hl := lv_entry ([.ref (a 0), .int (L0 1)]) (n := 3) (Nat.le_of_ble_eq_true rfl)
  rw [lg_entry_eq]
  generalize (lg_sl ([.ref (a 0), .int (L0 1)]) ++ List.replicate (3 - (lg_sl ([.ref (a 0), .int (L0 1)])).length) Slot.unset).toArray = ls at hl ⊢
  have hl : lv_has ls 3 [(0, .ref (a 0)), (1, .int (L0 1))] := hl
  have blk : ∀ k : Nat, (∀ (L : Nat → Int32) (σ : MS) (r : Int32 × MS), x_loopOf k 0 L σ = some r → ∀ (H : Heap) (locs : List Loc) (ls : Array Slot), va_P (dC, dI) nCl (vM cy a σ) H → va_D A (vM cy a σ) → va_S A s.heap H locs → lv_has ls 3 [(0, .ref (a 0)), (1, .int (L 1))] → W p l e (headSpec w_x_loopOf ({ frames := 0, cells := 0, slots := 0, locals := 0 })).room s m #[.ref (a 0), .int (L0 1)] below meth c H locs 0 0 (MQ below (va_Qi (fun (z : Int32) (_ : Unit) => z = r.1) (fun _ t => nOut (dC, dI) cy A (vM cy a r.2) t) A) #[.ref (a 0), .int (L0 1)] s 0 0 A) (F0 m 0 ls [])) ∧ (∀ (L : Nat → Int32) (σ : MS) (r : Int32 × MS), x_loopOf k 1 L σ = some r → ∀ (H : Heap) (locs : List Loc) (ls : Array Slot), va_P (dC, dI) nCl (vM cy a σ) H → va_D A (vM cy a σ) → va_S A s.heap H locs → lv_has ls 3 [(0, .ref (a 0)), (1, .int (L 1)), (2, .int (L 2))] → W p l e (headSpec w_x_loopOf ({ frames := 0, cells := 0, slots := 0, locals := 0 })).room s m #[.ref (a 0), .int (L0 1)] below meth c H locs 0 0 (MQ below (va_Qi (fun (z : Int32) (_ : Unit) => z = r.1) (fun _ t => nOut (dC, dI) cy A (vM cy a r.2) t) A) #[.ref (a 0), .int (L0 1)] s 0 0 A) (F0 m 12 ls [])) ∧ (∀ (L : Nat → Int32) (σ : MS) (r : Int32 × MS), x_loopOf k 2 L σ = some r → ∀ (H : Heap) (locs : List Loc) (ls : Array Slot), va_P (dC, dI) nCl (vM cy a σ) H → va_D A (vM cy a σ) → va_S A s.heap H locs → lv_has ls 3 [(0, .ref (a 0)), (1, .int (L 1)), (2, .int (L 2))] → W p l e (headSpec w_x_loopOf ({ frames := 0, cells := 0, slots := 0, locals := 0 })).room s m #[.ref (a 0), .int (L0 1)] below meth c H locs 0 0 (MQ below (va_Qi (fun (z : Int32) (_ : Unit) => z = r.1) (fun _ t => nOut (dC, dI) cy A (vM cy a r.2) t) A) #[.ref (a 0), .int (L0 1)] s 0 0 A) (F0 m 49 ls [])) := by
    intro k
    induction k with
    | zero => exact ⟨fun L σ r h => (by cases h), fun L σ r h => (by cases h), fun L σ r h => (by cases h)⟩
    | succ k ih =>
      refine ⟨?_, ?_, ?_⟩
      · intro L σ r h H locs ls hP hD hS hl
        rw [x_loopOf] at h
        refine lv_aload_n hx hb dX12_loopOf_0 rfl (lv_at hl 0 rfl) ?_
        refine va_get (D := (dC, dI)) (ci := 11) (v := .ref (a 10)) (C := RX12) (T := TX12) (N := 121) hx hb hts in_x_loopOf hown hK hP 0 rfl rfl 20 (by decide) (hts _ (List.mem_cons_of_mem _ (List.mem_append_left _ (List.mem_append_left _ (List.mem_of_getElem? (i := 0) rfl))))) (fun _ h9 => h9) rfl dX12_loopOf_1 ?_
        refine lv_aload_n hx hb dX12_loopOf_4 rfl (lv_at hl 0 rfl) ?_
        refine va_get (D := (dC, dI)) (ci := 11) (v := .ref (a 8)) (C := RX12) (T := TX12) (N := 121) hx hb hts in_x_loopOf hown hK hP 0 rfl rfl 18 (by decide) (hts _ (List.mem_cons_of_mem _ (List.mem_append_left _ (List.mem_append_left _ (List.mem_of_getElem? (i := 1) rfl))))) (fun _ h9 => h9) rfl dX12_loopOf_5 ?_
        refine lv_iload_n hx hb dX12_loopOf_8 rfl (lv_at hl 1 rfl) ?_
        by_cases q1 : ¬ (((L 1)) < 0 ∨ 70000 ≤ ((L 1)).toNatClampNeg)
        · rw [if_pos q1] at h
          refine va_iald hx hb hK hP 8 1 rfl rfl (nb_inp q1) dX12_loopOf_9 ?_
          by_cases q2 : ¬ (((σ.2.2 8 ((L 1)).toNatClampNeg)) < 0 ∨ 401 ≤ ((σ.2.2 8 ((L 1)).toNatClampNeg)).toNatClampNeg)
          · rw [if_pos q2] at h
            refine va_iald hx hb hK hP 10 1 rfl rfl (nb_inp q2) dX12_loopOf_10 ?_
            refine lv_istore_n (lv' := [(2, .int (σ.2.2 10 ((σ.2.2 8 ((L 1)).toNatClampNeg)).toNatClampNeg)), (0, .ref (a 0)), (1, .int (L 1))]) hx hb dX12_loopOf_11 rfl hl (by decide) rfl (fun ls hl => ?_)
            exact ih.2.1 (upd L 2 ((σ.2.2 10 ((σ.2.2 8 ((L 1)).toNatClampNeg)).toNatClampNeg))) σ r h H locs ls hP hD hS (lv_sub hl [1, 2, 0] rfl)
          · rw [if_neg q2] at h; cases h
        · rw [if_neg q1] at h; cases h
      · intro L σ r h H locs ls hP hD hS hl
        rw [x_loopOf] at h
        refine lv_aload_n hx hb dX12_loopOf_12 rfl (lv_at hl 0 rfl) ?_
        refine va_get (D := (dC, dI)) (ci := 11) (v := .ref (a 4)) (C := RX12) (T := TX12) (N := 121) hx hb hts in_x_loopOf hown hK hP 0 rfl rfl 14 (by decide) (hts _ (List.mem_cons_of_mem _ (List.mem_append_left _ (List.mem_append_left _ (List.mem_of_getElem? (i := 2) rfl))))) (fun _ h9 => h9) rfl dX12_loopOf_13 ?_
        refine lv_iload_n hx hb dX12_loopOf_16 rfl (lv_at hl 2 rfl) ?_
        by_cases q1 : ¬ (((L 2)) < 0 ∨ 70000 ≤ ((L 2)).toNatClampNeg)
        · rw [if_pos q1] at h
          refine va_iald hx hb hK hP 4 1 rfl rfl (nb_inp q1) dX12_loopOf_17 ?_
          refine lv_bipush (v := 47) hx hb dX12_loopOf_18 (by decide) ?_
          refine lv_icmp_eq (tgt := 49) hx hb dX12_loopOf_20 (by decide) (fun c2 => ?_) (fun c2 => ?_)
          · rw [if_pos c2] at h
            exact ih.2.2 L σ r h H locs ls hP hD hS (lv_sub hl [0, 1, 2] rfl)
          · rw [if_neg c2] at h
            refine lv_aload_n hx hb dX12_loopOf_23 rfl (lv_at hl 0 rfl) ?_
            refine va_get (D := (dC, dI)) (ci := 11) (v := .ref (a 4)) (C := RX12) (T := TX12) (N := 121) hx hb hts in_x_loopOf hown hK hP 0 rfl rfl 14 (by decide) (hts _ (List.mem_cons_of_mem _ (List.mem_append_left _ (List.mem_append_left _ (List.mem_of_getElem? (i := 2) rfl))))) (fun _ h9 => h9) rfl dX12_loopOf_24 ?_
            refine lv_iload_n hx hb dX12_loopOf_27 rfl (lv_at hl 2 rfl) ?_
            by_cases q3 : ¬ (((L 2)) < 0 ∨ 70000 ≤ ((L 2)).toNatClampNeg)
            · rw [if_pos q3] at h
              refine va_iald hx hb hK hP 4 1 rfl rfl (nb_inp q3) dX12_loopOf_28 ?_
              refine lv_bipush (v := 48) hx hb dX12_loopOf_29 (by decide) ?_
              refine lv_icmp_eq (tgt := 49) hx hb dX12_loopOf_31 (by decide) (fun c4 => ?_) (fun c4 => ?_)
              · rw [if_pos c4] at h
                exact ih.2.2 L σ r h H locs ls hP hD hS (lv_sub hl [0, 1, 2] rfl)
              · rw [if_neg c4] at h
                refine lv_aload_n hx hb dX12_loopOf_34 rfl (lv_at hl 0 rfl) ?_
                refine va_get (D := (dC, dI)) (ci := 11) (v := .ref (a 10)) (C := RX12) (T := TX12) (N := 121) hx hb hts in_x_loopOf hown hK hP 0 rfl rfl 20 (by decide) (hts _ (List.mem_cons_of_mem _ (List.mem_append_left _ (List.mem_append_left _ (List.mem_of_getElem? (i := 0) rfl))))) (fun _ h9 => h9) rfl dX12_loopOf_35 ?_
                refine lv_aload_n hx hb dX12_loopOf_38 rfl (lv_at hl 0 rfl) ?_
                refine va_get (D := (dC, dI)) (ci := 11) (v := .ref (a 8)) (C := RX12) (T := TX12) (N := 121) hx hb hts in_x_loopOf hown hK hP 0 rfl rfl 18 (by decide) (hts _ (List.mem_cons_of_mem _ (List.mem_append_left _ (List.mem_append_left _ (List.mem_of_getElem? (i := 1) rfl))))) (fun _ h9 => h9) rfl dX12_loopOf_39 ?_
                refine lv_iload_n hx hb dX12_loopOf_42 rfl (lv_at hl 2 rfl) ?_
                by_cases q5 : ¬ (((L 2)) < 0 ∨ 70000 ≤ ((L 2)).toNatClampNeg)
                · rw [if_pos q5] at h
                  refine va_iald hx hb hK hP 8 1 rfl rfl (nb_inp q5) dX12_loopOf_43 ?_
                  by_cases q6 : ¬ (((σ.2.2 8 ((L 2)).toNatClampNeg)) < 0 ∨ 401 ≤ ((σ.2.2 8 ((L 2)).toNatClampNeg)).toNatClampNeg)
                  · rw [if_pos q6] at h
                    refine va_iald hx hb hK hP 10 1 rfl rfl (nb_inp q6) dX12_loopOf_44 ?_
                    refine lv_istore_n (lv' := [(2, .int (σ.2.2 10 ((σ.2.2 8 ((L 2)).toNatClampNeg)).toNatClampNeg)), (0, .ref (a 0)), (1, .int (L 1))]) hx hb dX12_loopOf_45 rfl hl (by decide) rfl (fun ls hl => ?_)
                    refine lv_goto (tgt := 12) hx hb dX12_loopOf_46 (by decide) ?_
                    exact ih.2.1 (upd L 2 ((σ.2.2 10 ((σ.2.2 8 ((L 2)).toNatClampNeg)).toNatClampNeg))) σ r h H locs ls hP hD hS (lv_sub hl [1, 2, 0] rfl)
                  · rw [if_neg q6] at h; cases h
                · rw [if_neg q5] at h; cases h
            · rw [if_neg q3] at h; cases h
        · rw [if_neg q1] at h; cases h
      · intro L σ r h H locs ls hP hD hS hl
        rw [x_loopOf] at h
        refine lv_iload_n hx hb dX12_loopOf_49 rfl (lv_at hl 2 rfl) ?_
        cases h
        exact W.iret (v := (L 2)) hx hb hr (fun t ht hW => ⟨⟨(L 2), (), rfl, rfl, by rw [ht]; exact hP, va_K.moved hW.alike hK, hD⟩, hS.F ht⟩) hS.2.2 dX12_loopOf_50
  exact (blk k0).1 L0 σ0 r0 h0 s.heap [] ls hP hD hS hl
/-! makePoint -/
def x_makePoint : Nat → Nat → (Nat → Int32) → MS → Option (Int32 × MS)
  | 0, _, _, _ => none
  | k + 1, 0, L, σ => if ((σ.1 63)) = 20 then (x_makePoint k 1 L σ) else (if ((((((σ.1 64)) + ((σ.1 65)))) + ((σ.1 64)))) ≤ 40000 then (x_makePoint k 2 L σ) else (x_makePoint k 1 L σ))
  | k + 1, 1, L, σ => ob (x_fail k 0 (upd (fun _ => 0) 1 6) σ) (fun r1 => some (0, r1.2))
  | k + 1, 2, L, σ => if ¬ ((0 : Int32) < 0 ∨ 11514 ≤ (0 : Int32).toNatClampNeg) then (x_makePoint k 3 L (σ.1, σ.2.1, updG σ.2.2 30 (upd (σ.2.2 30) (0 : Int32).toNatClampNeg ((L 1))))) else none
  | k + 1, 3, L, σ => x_makePoint k 4 (upd L 2 0) σ
  | k + 1, 4, L, σ => if 11514 ≤ ((L 2)) then (x_makePoint k 6 L σ) else (if ¬ (((L 2)) < 0 ∨ 11514 ≤ ((L 2)).toNatClampNeg) then (if ¬ (((((11514 * ((σ.1 63)))) + ((L 2)))) < 0 ∨ 230280 ≤ ((((11514 * ((σ.1 63)))) + ((L 2)))).toNatClampNeg) then (x_makePoint k 5 L (σ.1, σ.2.1, updG σ.2.2 31 (upd (σ.2.2 31) ((((11514 * ((σ.1 63)))) + ((L 2)))).toNatClampNeg ((σ.2.2 30 ((L 2)).toNatClampNeg))))) else none) else none)
  | k + 1, 5, L, σ => x_makePoint k 4 (upd L 2 (((L 2)) + 1)) σ
  | k + 1, 6, L, σ => if ¬ (((σ.1 63)) < 0 ∨ 20 ≤ ((σ.1 63)).toNatClampNeg) then (x_makePoint k 7 L (σ.1, σ.2.1, updG σ.2.2 32 (upd (σ.2.2 32) ((σ.1 63)).toNatClampNeg ((σ.1 64))))) else none
  | k + 1, 7, L, σ => x_makePoint k 8 L (upd σ.1 65 ((((σ.1 65)) + ((σ.1 64)))), σ.2.1, σ.2.2)
  | k + 1, 8, L, σ => some (0, (upd σ.1 63 ((((σ.1 63)) + 1)), σ.2.1, σ.2.2))
  | _ + 1, _ + 9, _, _ => none
def o_x_makePoint : List Cond := [.fieldLink RX12 402 "SetHouseModel" "points" "I", .fieldLink RX12 852 "SetHouseModel" "total" "I", .fieldLink RX12 855 "SetHouseModel" "pointsTotal" "I", .constant RX12 858 (40000), .methodLink RX12 369 yX12_fail, .instanceMethod yX12_fail, .selects RX12 yX12_fail yX12_fail, .initialized RX12, .fieldLink RX12 395 "SetHouseModel" "st" "[I", .fieldLink RX12 405 "SetHouseModel" "saved" "[I", .fieldLink RX12 968 "SetHouseModel" "savedTotal" "[I"]
theorem o_x_makePoint_good : o_x_makePoint.all goodWord = true := by decide +kernel
def p_x_makePoint : List Cond := o_x_makePoint ++ ((.code yX12_fail cX12_fail 2 none :: p_x_fail) ++ [])
theorem p_x_makePoint_good : p_x_makePoint.all goodWord = true := nb_all2 o_x_makePoint_good (nb_all2 (nb_allc (by decide +kernel) p_x_fail_good) rfl)
def w_x_makePoint : List Cond := .code yX12_makePoint cX12_makePoint 3 none :: (p_x_makePoint ++ fM)
theorem w_x_makePoint_good : w_x_makePoint.all goodWord = true := nb_allc (by decide +kernel) (nb_all2 p_x_makePoint_good fM_good)
theorem in_x_makePoint : ∀ w ∈ wsX120, w ∈ w_x_makePoint := fun _ h => List.mem_cons_of_mem _ (List.mem_append_right _ h)
theorem gg_x_makePoint_fail : GoodIn w_x_makePoint w_x_fail := goodIn_sub (fun w h => (List.mem_cons.mp h).elim (fun e => (List.mem_cons_of_mem _ (List.mem_append_left _ (List.mem_append_right _ (List.mem_append_left _ (List.mem_cons.mpr (Or.inl e))))))) (fun h => (List.mem_append.mp h).elim (fun h => (List.mem_cons_of_mem _ (List.mem_append_left _ (List.mem_append_right _ (List.mem_append_left _ (List.mem_cons_of_mem _ h)))))) (fun h => List.mem_cons_of_mem _ (List.mem_append_right _ h)))) w_x_fail_good
theorem g_x_makePoint_fail_369 : GoodIn w_x_makePoint (wsV RX12 369 RX12 yX12_fail w_x_fail) := goodIn_app (nb_g4 (List.mem_cons_of_mem _ (List.mem_append_left _ (List.mem_append_left _ (List.mem_of_getElem? (i := 4) rfl)))) (List.mem_cons_of_mem _ (List.mem_append_left _ (List.mem_append_left _ (List.mem_of_getElem? (i := 5) rfl)))) (List.mem_cons_of_mem _ (List.mem_append_left _ (List.mem_append_left _ (List.mem_of_getElem? (i := 6) rfl)))) (List.mem_cons_of_mem _ (List.mem_append_left _ (List.mem_append_left _ (List.mem_of_getElem? (i := 7) rfl)))) (by decide +kernel)) gg_x_makePoint_fail
set_option maxHeartbeats 40000000 in
set_option maxRecDepth 100000 in
theorem c_x_makePoint (l : Launch) (dC : Nat → ClassId) (dI : Nat → Nat → Nat) (cy : Nat → ClassId) (a : Nat → Nat) (k0 : Nat) (L0 : Nat → Int32) (σ0 : MS) (r0 : Int32 × MS) (h0 : x_makePoint k0 0 L0 σ0 = some r0) (sz : Nat) : Met l yX12_makePoint w_x_makePoint ({ frames := 1, cells := 0, slots := 0, locals := 21 }) (va_Pc [.ref (a 0), .int (L0 1)] (nIn (dC, dI) cy sz (vM cy a σ0))) (va_Qv (fun _ : Unit => True) (fun _ t => nOut (dC, dI) cy (va_A (vM cy a σ0) sz) (vM cy a r0.2) t) (va_A (vM cy a σ0) sz)) 0 0 (va_A (vM cy a σ0) sz) := by
  refine Met.ofW (cc := cX12_makePoint) (maxL := 3) (ret := none) (by decide) rfl ?_
  intro p e s m args below meth c s₁ B hml hv
  obtain ⟨rfl, hsz, hP, hK, hD0, hG⟩ := hv
  have hx := B.exec
  have hb := B.bytes
  have hr := B.returns
  have hts := atoms_spec (ws := w_x_makePoint) B.pre
  have hown : s.vm.findClass RX12 = some m.cls := findClass_of_methodNamed B.named
  have hlocks := B.notSynchronized
  subst hsz
  have hD := hD0.self (sz := s.heap.size)
  generalize hAe : va_A (vM cy a σ0) s.heap.size = A at hD ⊢
  have hA : ∀ q : Nat, s.heap.size ≤ q → A q := fun q h => by rw [← hAe]; exact Or.inr h
  have hS : va_S A s.heap s.heap [] := va_S.rf
  have hl := lv_entry ([.ref (a 0), .int (L0 1)]) (n := 3) (Nat.le_of_ble_eq_true rfl)
  rw [lg_entry_eq]
  generalize (lg_sl ([.ref (a 0), .int (L0 1)]) ++ List.replicate (3 - (lg_sl ([.ref (a 0), .int (L0 1)])).length) Slot.unset).toArray = ls at hl ⊢
  have hl : lv_has ls 3 [(0, .ref (a 0)), (1, .int (L0 1))] := hl
  have blk : ∀ k : Nat, (∀ (L : Nat → Int32) (σ : MS) (r : Int32 × MS), x_makePoint k 0 L σ = some r → ∀ (H : Heap) (locs : List Loc) (ls : Array Slot), va_P (dC, dI) nCl (vM cy a σ) H → va_D A (vM cy a σ) → va_S A s.heap H locs → lv_has ls 3 [(0, .ref (a 0)), (1, .int (L 1))] → W p l e (headSpec w_x_makePoint ({ frames := 1, cells := 0, slots := 0, locals := 21 })).room s m #[.ref (a 0), .int (L0 1)] below meth c H locs 0 0 (MQ below (va_Qv (fun _ : Unit => True) (fun _ t => nOut (dC, dI) cy A (vM cy a r.2) t) A) #[.ref (a 0), .int (L0 1)] s 0 0 A) (F0 m 0 ls [])) ∧ (∀ (L : Nat → Int32) (σ : MS) (r : Int32 × MS), x_makePoint k 1 L σ = some r → ∀ (H : Heap) (locs : List Loc) (ls : Array Slot), va_P (dC, dI) nCl (vM cy a σ) H → va_D A (vM cy a σ) → va_S A s.heap H locs → lv_has ls 3 [(0, .ref (a 0)), (1, .int (L 1))] → W p l e (headSpec w_x_makePoint ({ frames := 1, cells := 0, slots := 0, locals := 21 })).room s m #[.ref (a 0), .int (L0 1)] below meth c H locs 0 0 (MQ below (va_Qv (fun _ : Unit => True) (fun _ t => nOut (dC, dI) cy A (vM cy a r.2) t) A) #[.ref (a 0), .int (L0 1)] s 0 0 A) (F0 m 29 ls [])) ∧ (∀ (L : Nat → Int32) (σ : MS) (r : Int32 × MS), x_makePoint k 2 L σ = some r → ∀ (H : Heap) (locs : List Loc) (ls : Array Slot), va_P (dC, dI) nCl (vM cy a σ) H → va_D A (vM cy a σ) → va_S A s.heap H locs → lv_has ls 3 [(0, .ref (a 0)), (1, .int (L 1))] → W p l e (headSpec w_x_makePoint ({ frames := 1, cells := 0, slots := 0, locals := 21 })).room s m #[.ref (a 0), .int (L0 1)] below meth c H locs 0 0 (MQ below (va_Qv (fun _ : Unit => True) (fun _ t => nOut (dC, dI) cy A (vM cy a r.2) t) A) #[.ref (a 0), .int (L0 1)] s 0 0 A) (F0 m 36 ls [])) ∧ (∀ (L : Nat → Int32) (σ : MS) (r : Int32 × MS), x_makePoint k 3 L σ = some r → ∀ (H : Heap) (locs : List Loc) (ls : Array Slot), va_P (dC, dI) nCl (vM cy a σ) H → va_D A (vM cy a σ) → va_S A s.heap H locs → lv_has ls 3 [(0, .ref (a 0)), (1, .int (L 1))] → W p l e (headSpec w_x_makePoint ({ frames := 1, cells := 0, slots := 0, locals := 21 })).room s m #[.ref (a 0), .int (L0 1)] below meth c H locs 0 0 (MQ below (va_Qv (fun _ : Unit => True) (fun _ t => nOut (dC, dI) cy A (vM cy a r.2) t) A) #[.ref (a 0), .int (L0 1)] s 0 0 A) (F0 m 43 ls [])) ∧ (∀ (L : Nat → Int32) (σ : MS) (r : Int32 × MS), x_makePoint k 4 L σ = some r → ∀ (H : Heap) (locs : List Loc) (ls : Array Slot), va_P (dC, dI) nCl (vM cy a σ) H → va_D A (vM cy a σ) → va_S A s.heap H locs → lv_has ls 3 [(0, .ref (a 0)), (1, .int (L 1)), (2, .int (L 2))] → W p l e (headSpec w_x_makePoint ({ frames := 1, cells := 0, slots := 0, locals := 21 })).room s m #[.ref (a 0), .int (L0 1)] below meth c H locs 0 0 (MQ below (va_Qv (fun _ : Unit => True) (fun _ t => nOut (dC, dI) cy A (vM cy a r.2) t) A) #[.ref (a 0), .int (L0 1)] s 0 0 A) (F0 m 45 ls [])) ∧ (∀ (L : Nat → Int32) (σ : MS) (r : Int32 × MS), x_makePoint k 5 L σ = some r → ∀ (H : Heap) (locs : List Loc) (ls : Array Slot), va_P (dC, dI) nCl (vM cy a σ) H → va_D A (vM cy a σ) → va_S A s.heap H locs → lv_has ls 3 [(0, .ref (a 0)), (1, .int (L 1)), (2, .int (L 2))] → W p l e (headSpec w_x_makePoint ({ frames := 1, cells := 0, slots := 0, locals := 21 })).room s m #[.ref (a 0), .int (L0 1)] below meth c H locs 0 0 (MQ below (va_Qv (fun _ : Unit => True) (fun _ t => nOut (dC, dI) cy A (vM cy a r.2) t) A) #[.ref (a 0), .int (L0 1)] s 0 0 A) (F0 m 73 ls [])) ∧ (∀ (L : Nat → Int32) (σ : MS) (r : Int32 × MS), x_makePoint k 6 L σ = some r → ∀ (H : Heap) (locs : List Loc) (ls : Array Slot), va_P (dC, dI) nCl (vM cy a σ) H → va_D A (vM cy a σ) → va_S A s.heap H locs → lv_has ls 3 [(0, .ref (a 0)), (1, .int (L 1)), (2, .int (L 2))] → W p l e (headSpec w_x_makePoint ({ frames := 1, cells := 0, slots := 0, locals := 21 })).room s m #[.ref (a 0), .int (L0 1)] below meth c H locs 0 0 (MQ below (va_Qv (fun _ : Unit => True) (fun _ t => nOut (dC, dI) cy A (vM cy a r.2) t) A) #[.ref (a 0), .int (L0 1)] s 0 0 A) (F0 m 79 ls [])) ∧ (∀ (L : Nat → Int32) (σ : MS) (r : Int32 × MS), x_makePoint k 7 L σ = some r → ∀ (H : Heap) (locs : List Loc) (ls : Array Slot), va_P (dC, dI) nCl (vM cy a σ) H → va_D A (vM cy a σ) → va_S A s.heap H locs → lv_has ls 3 [(0, .ref (a 0)), (1, .int (L 1)), (2, .int (L 2))] → W p l e (headSpec w_x_makePoint ({ frames := 1, cells := 0, slots := 0, locals := 21 })).room s m #[.ref (a 0), .int (L0 1)] below meth c H locs 0 0 (MQ below (va_Qv (fun _ : Unit => True) (fun _ t => nOut (dC, dI) cy A (vM cy a r.2) t) A) #[.ref (a 0), .int (L0 1)] s 0 0 A) (F0 m 92 ls [])) ∧ (∀ (L : Nat → Int32) (σ : MS) (r : Int32 × MS), x_makePoint k 8 L σ = some r → ∀ (H : Heap) (locs : List Loc) (ls : Array Slot), va_P (dC, dI) nCl (vM cy a σ) H → va_D A (vM cy a σ) → va_S A s.heap H locs → lv_has ls 3 [(0, .ref (a 0)), (1, .int (L 1)), (2, .int (L 2))] → W p l e (headSpec w_x_makePoint ({ frames := 1, cells := 0, slots := 0, locals := 21 })).room s m #[.ref (a 0), .int (L0 1)] below meth c H locs 0 0 (MQ below (va_Qv (fun _ : Unit => True) (fun _ t => nOut (dC, dI) cy A (vM cy a r.2) t) A) #[.ref (a 0), .int (L0 1)] s 0 0 A) (F0 m 105 ls [])) := by
    intro k
    induction k with
    | zero => exact ⟨fun L σ r h => (by cases h), fun L σ r h => (by cases h), fun L σ r h => (by cases h), fun L σ r h => (by cases h), fun L σ r h => (by cases h), fun L σ r h => (by cases h), fun L σ r h => (by cases h), fun L σ r h => (by cases h), fun L σ r h => (by cases h)⟩
    | succ k ih =>
      refine ⟨?_, ?_, ?_, ?_, ?_, ?_, ?_, ?_, ?_⟩
      · intro L σ r h H locs ls hP hD hS hl
        rw [x_makePoint] at h
        refine lv_aload_n hx hb dX12_makePoint_0 rfl (lv_at hl 0 rfl) ?_
        refine va_get (D := (dC, dI)) (ci := 11) (v := .int (σ.1 63)) (C := RX12) (T := TX12) (N := 121) hx hb hts in_x_makePoint hown hK hP 0 rfl rfl 63 (by decide) (hts _ (List.mem_cons_of_mem _ (List.mem_append_left _ (List.mem_append_left _ (List.mem_of_getElem? (i := 0) rfl))))) (fun _ h9 => h9) rfl dX12_makePoint_1 ?_
        refine lv_bipush (v := 20) hx hb dX12_makePoint_4 (by decide) ?_
        refine lv_icmp_eq (tgt := 29) hx hb dX12_makePoint_6 (by decide) (fun c1 => ?_) (fun c1 => ?_)
        · rw [if_pos c1] at h
          exact ih.2.1 L σ r h H locs ls hP hD hS (lv_sub hl [0, 1] rfl)
        · rw [if_neg c1] at h
          refine lv_aload_n hx hb dX12_makePoint_9 rfl (lv_at hl 0 rfl) ?_
          refine va_get (D := (dC, dI)) (ci := 11) (v := .int (σ.1 64)) (C := RX12) (T := TX12) (N := 121) hx hb hts in_x_makePoint hown hK hP 0 rfl rfl 64 (by decide) (hts _ (List.mem_cons_of_mem _ (List.mem_append_left _ (List.mem_append_left _ (List.mem_of_getElem? (i := 1) rfl))))) (fun _ h9 => h9) rfl dX12_makePoint_10 ?_
          refine lv_aload_n hx hb dX12_makePoint_13 rfl (lv_at hl 0 rfl) ?_
          refine va_get (D := (dC, dI)) (ci := 11) (v := .int (σ.1 65)) (C := RX12) (T := TX12) (N := 121) hx hb hts in_x_makePoint hown hK hP 0 rfl rfl 65 (by decide) (hts _ (List.mem_cons_of_mem _ (List.mem_append_left _ (List.mem_append_left _ (List.mem_of_getElem? (i := 2) rfl))))) (fun _ h9 => h9) rfl dX12_makePoint_14 ?_
          refine lv_iadd hx hb dX12_makePoint_17 ?_
          refine lv_aload_n hx hb dX12_makePoint_18 rfl (lv_at hl 0 rfl) ?_
          refine va_get (D := (dC, dI)) (ci := 11) (v := .int (σ.1 64)) (C := RX12) (T := TX12) (N := 121) hx hb hts in_x_makePoint hown hK hP 0 rfl rfl 64 (by decide) (hts _ (List.mem_cons_of_mem _ (List.mem_append_left _ (List.mem_append_left _ (List.mem_of_getElem? (i := 1) rfl))))) (fun _ h9 => h9) rfl dX12_makePoint_19 ?_
          refine lv_iadd hx hb dX12_makePoint_22 ?_
          refine lv_ldcw (v := 40000) hx hb hown (hts _ (List.mem_cons_of_mem _ (List.mem_append_left _ (List.mem_append_left _ (List.mem_of_getElem? (i := 3) rfl))))) dX12_makePoint_23 ?_
          refine lv_icmp_le (tgt := 36) hx hb dX12_makePoint_26 (by decide) (fun c2 => ?_) (fun c2 => ?_)
          · rw [if_pos c2] at h
            exact ih.2.2.1 L σ r h H locs ls hP hD hS (lv_sub hl [0, 1] rfl)
          · rw [if_neg c2] at h
            exact ih.2.1 L σ r h H locs ls hP hD hS (lv_sub hl [0, 1] rfl)
      · intro L σ r h H locs ls hP hD hS hl
        rw [x_makePoint] at h
        refine lv_aload_n hx hb dX12_makePoint_29 rfl (lv_at hl 0 rfl) ?_
        refine lv_bipush (v := 6) hx hb dX12_makePoint_30 (by decide) ?_
        cases hc1 : x_fail k 0 (upd (fun _ => 0) 1 6) σ with
        | none => rw [hc1, ob_none] at h; cases h
        | some r1 =>
          rw [hc1, ob_some] at h
          have hFc := va_free (wc := vM cy a σ) hD hS hA [0, 1, 2, 3, 4, 5, 6, 7, 8, 9, 10, 11, 12, 13, 14, 15, 16, 17, 18, 19, 20, 21, 22, 23, 24, 25, 26, 27, 28, 29, 30, 31, 32, 33, 34, 35, 36, 37, 38, 39, 40, 41, 42, 43, 44, 45, 46, 47, 48, 49, 50, 51, 52, 53, 54, 55, 56, 57] rfl
          refine va_callv (va_runV (As := [.int 6]) (rest := []) ⟨hx, hb, hml, hown, hts⟩ (c_x_fail l dC dI cy a k (upd (fun _ => 0) 1 6) σ r1 hc1 H.size) (cwV 1 hts g_x_makePoint_fail_369 rfl rfl rfl (by decide +kernel) ⟨Nat.le_of_ble_eq_true rfl, Nat.le_of_ble_eq_true rfl⟩) ⟨nb_blind, va_recv hK hP (ci := 11) (q0 := 0) rfl rfl, fun U hU hW => ⟨rfl, by rw [hU], by rw [hU]; exact hP, va_K.moved hW.alike hK, hD.weaken (fun _ _ _ _ => trivial), hG.warm hW⟩⟩ rfl rfl hl.1 rfl (lv_room (Nat.le_of_ble_eq_true rfl)) dX12_makePoint_32 ⟨Nat.le_of_ble_eq_true rfl, Nat.le_of_ble_eq_true rfl⟩) hS (fun q _ h => hFc q h) hFc (fun _ t H1 locs ht hvm hw hB hz1 hk1 hS => ?_)
          obtain ⟨hP1, hK1, hD1⟩ := hB
          rw [ht] at hP1
          obtain ⟨hP, hD⟩ := va_join (wr := []) (w1 := vM cy a r1.2) hP hD [0, 1, 2, 3, 4, 5, 6, 7, 8, 9, 10, 11, 12, 13, 14, 15, 16, 17, 18, 19, 20, 21, 22, 23, 24, 25, 26, 27, 28, 29, 30, 31, 32, 33, 34, 35, 36, 37, 38, 39, 40, 41, 42, 43, 44, 45, 46, 47, 48, 49, 50, 51, 52, 53, 54, 55, 56, 57] [] rfl rfl (by decide) (by decide) hk1 hFc hP1 hD1
          generalize H1 = H at hP hS ⊢
          have hP : va_P (dC, dI) nCl (vM cy a r1.2) H := hP
          have hD : va_D A (vM cy a r1.2) := hD
          cases h
          exact W.vret hx hb hr (fun t ht hW => ⟨⟨(), rfl, trivial, by rw [ht]; exact hP, va_K.moved hW.alike hK, hD⟩, hS.F ht⟩) hS.2.2 dX12_makePoint_35
      · intro L σ r h H locs ls hP hD hS hl
        rw [x_makePoint] at h
        refine lv_aload_n hx hb dX12_makePoint_36 rfl (lv_at hl 0 rfl) ?_
        refine va_get (D := (dC, dI)) (ci := 11) (v := .ref (a 30)) (C := RX12) (T := TX12) (N := 121) hx hb hts in_x_makePoint hown hK hP 0 rfl rfl 60 (by decide) (hts _ (List.mem_cons_of_mem _ (List.mem_append_left _ (List.mem_append_left _ (List.mem_of_getElem? (i := 8) rfl))))) (fun _ h9 => h9) rfl dX12_makePoint_37 ?_
        refine lv_iconst (v := 0) hx hb dX12_makePoint_40 (by decide) ?_
        refine lv_iload_n hx hb dX12_makePoint_41 rfl (lv_at hl 1 rfl) ?_
        by_cases q1 : ¬ ((0 : Int32) < 0 ∨ 11514 ≤ (0 : Int32).toNatClampNeg)
        · rw [if_pos q1] at h
          refine va_iast hx hb hK hP hD hS 30 1 rfl rfl (nb_inp q1) dX12_makePoint_42 (fun H locs hP hD hS => ?_)
          have hP : va_P (dC, dI) nCl (vM cy a (σ.1, σ.2.1, updG σ.2.2 30 (upd (σ.2.2 30) (0 : Int32).toNatClampNeg ((L 1))))) H := hP
          have hD : va_D A (vM cy a (σ.1, σ.2.1, updG σ.2.2 30 (upd (σ.2.2 30) (0 : Int32).toNatClampNeg ((L 1))))) := hD
          exact ih.2.2.2.1 L (σ.1, σ.2.1, updG σ.2.2 30 (upd (σ.2.2 30) (0 : Int32).toNatClampNeg ((L 1)))) r h H locs ls hP hD hS (lv_sub hl [0, 1] rfl)
        · rw [if_neg q1] at h; cases h
      · intro L σ r h H locs ls hP hD hS hl
        rw [x_makePoint] at h
        refine lv_iconst (v := 0) hx hb dX12_makePoint_43 (by decide) ?_
        refine lv_istore_n (lv' := [(2, .int 0), (0, .ref (a 0)), (1, .int (L 1))]) hx hb dX12_makePoint_44 rfl hl (by decide) rfl (fun ls hl => ?_)
        exact ih.2.2.2.2.1 (upd L 2 0) σ r h H locs ls hP hD hS (lv_sub hl [1, 2, 0] rfl)
      · intro L σ r h H locs ls hP hD hS hl
        rw [x_makePoint] at h
        refine lv_iload_n hx hb dX12_makePoint_45 rfl (lv_at hl 2 rfl) ?_
        refine lv_sipush (v := 11514) hx hb dX12_makePoint_46 (by decide) ?_
        refine lv_icmp_ge (tgt := 79) hx hb dX12_makePoint_49 (by decide) (fun c1 => ?_) (fun c1 => ?_)
        · rw [if_pos c1] at h
          exact ih.2.2.2.2.2.2.1 L σ r h H locs ls hP hD hS (lv_sub hl [0, 1, 2] rfl)
        · rw [if_neg c1] at h
          refine lv_aload_n hx hb dX12_makePoint_52 rfl (lv_at hl 0 rfl) ?_
          refine va_get (D := (dC, dI)) (ci := 11) (v := .ref (a 31)) (C := RX12) (T := TX12) (N := 121) hx hb hts in_x_makePoint hown hK hP 0 rfl rfl 61 (by decide) (hts _ (List.mem_cons_of_mem _ (List.mem_append_left _ (List.mem_append_left _ (List.mem_of_getElem? (i := 9) rfl))))) (fun _ h9 => h9) rfl dX12_makePoint_53 ?_
          refine lv_sipush (v := 11514) hx hb dX12_makePoint_56 (by decide) ?_
          refine lv_aload_n hx hb dX12_makePoint_59 rfl (lv_at hl 0 rfl) ?_
          refine va_get (D := (dC, dI)) (ci := 11) (v := .int (σ.1 63)) (C := RX12) (T := TX12) (N := 121) hx hb hts in_x_makePoint hown hK hP 0 rfl rfl 63 (by decide) (hts _ (List.mem_cons_of_mem _ (List.mem_append_left _ (List.mem_append_left _ (List.mem_of_getElem? (i := 0) rfl))))) (fun _ h9 => h9) rfl dX12_makePoint_60 ?_
          refine lv_imul hx hb dX12_makePoint_63 ?_
          refine lv_iload_n hx hb dX12_makePoint_64 rfl (lv_at hl 2 rfl) ?_
          refine lv_iadd hx hb dX12_makePoint_65 ?_
          refine lv_aload_n hx hb dX12_makePoint_66 rfl (lv_at hl 0 rfl) ?_
          refine va_get (D := (dC, dI)) (ci := 11) (v := .ref (a 30)) (C := RX12) (T := TX12) (N := 121) hx hb hts in_x_makePoint hown hK hP 0 rfl rfl 60 (by decide) (hts _ (List.mem_cons_of_mem _ (List.mem_append_left _ (List.mem_append_left _ (List.mem_of_getElem? (i := 8) rfl))))) (fun _ h9 => h9) rfl dX12_makePoint_67 ?_
          refine lv_iload_n hx hb dX12_makePoint_70 rfl (lv_at hl 2 rfl) ?_
          by_cases q2 : ¬ (((L 2)) < 0 ∨ 11514 ≤ ((L 2)).toNatClampNeg)
          · rw [if_pos q2] at h
            refine va_iald hx hb hK hP 30 1 rfl rfl (nb_inp q2) dX12_makePoint_71 ?_
            by_cases q3 : ¬ (((((11514 * ((σ.1 63)))) + ((L 2)))) < 0 ∨ 230280 ≤ ((((11514 * ((σ.1 63)))) + ((L 2)))).toNatClampNeg)
            · rw [if_pos q3] at h
              refine va_iast hx hb hK hP hD hS 31 1 rfl rfl (nb_inp q3) dX12_makePoint_72 (fun H locs hP hD hS => ?_)
              have hP : va_P (dC, dI) nCl (vM cy a (σ.1, σ.2.1, updG σ.2.2 31 (upd (σ.2.2 31) ((((11514 * ((σ.1 63)))) + ((L 2)))).toNatClampNeg ((σ.2.2 30 ((L 2)).toNatClampNeg))))) H := hP
              have hD : va_D A (vM cy a (σ.1, σ.2.1, updG σ.2.2 31 (upd (σ.2.2 31) ((((11514 * ((σ.1 63)))) + ((L 2)))).toNatClampNeg ((σ.2.2 30 ((L 2)).toNatClampNeg))))) := hD
              exact ih.2.2.2.2.2.1 L (σ.1, σ.2.1, updG σ.2.2 31 (upd (σ.2.2 31) ((((11514 * ((σ.1 63)))) + ((L 2)))).toNatClampNeg ((σ.2.2 30 ((L 2)).toNatClampNeg)))) r h H locs ls hP hD hS (lv_sub hl [0, 1, 2] rfl)
            · rw [if_neg q3] at h; cases h
          · rw [if_neg q2] at h; cases h
      · intro L σ r h H locs ls hP hD hS hl
        rw [x_makePoint] at h
        refine lv_iinc (v := ((L 2)) + 1) (lv' := [(2, .int (((L 2)) + 1)), (0, .ref (a 0)), (1, .int (L 1))]) hx hb dX12_makePoint_73 hl (k := 2) rfl rfl (by decide) rfl (fun ls hl => ?_)
        refine lv_goto (tgt := 45) hx hb dX12_makePoint_76 (by decide) ?_
        exact ih.2.2.2.2.1 (upd L 2 (((L 2)) + 1)) σ r h H locs ls hP hD hS (lv_sub hl [1, 2, 0] rfl)
      · intro L σ r h H locs ls hP hD hS hl
        rw [x_makePoint] at h
        refine lv_aload_n hx hb dX12_makePoint_79 rfl (lv_at hl 0 rfl) ?_
        refine va_get (D := (dC, dI)) (ci := 11) (v := .ref (a 32)) (C := RX12) (T := TX12) (N := 121) hx hb hts in_x_makePoint hown hK hP 0 rfl rfl 62 (by decide) (hts _ (List.mem_cons_of_mem _ (List.mem_append_left _ (List.mem_append_left _ (List.mem_of_getElem? (i := 10) rfl))))) (fun _ h9 => h9) rfl dX12_makePoint_80 ?_
        refine lv_aload_n hx hb dX12_makePoint_83 rfl (lv_at hl 0 rfl) ?_
        refine va_get (D := (dC, dI)) (ci := 11) (v := .int (σ.1 63)) (C := RX12) (T := TX12) (N := 121) hx hb hts in_x_makePoint hown hK hP 0 rfl rfl 63 (by decide) (hts _ (List.mem_cons_of_mem _ (List.mem_append_left _ (List.mem_append_left _ (List.mem_of_getElem? (i := 0) rfl))))) (fun _ h9 => h9) rfl dX12_makePoint_84 ?_
        refine lv_aload_n hx hb dX12_makePoint_87 rfl (lv_at hl 0 rfl) ?_
        refine va_get (D := (dC, dI)) (ci := 11) (v := .int (σ.1 64)) (C := RX12) (T := TX12) (N := 121) hx hb hts in_x_makePoint hown hK hP 0 rfl rfl 64 (by decide) (hts _ (List.mem_cons_of_mem _ (List.mem_append_left _ (List.mem_append_left _ (List.mem_of_getElem? (i := 1) rfl))))) (fun _ h9 => h9) rfl dX12_makePoint_88 ?_
        by_cases q1 : ¬ (((σ.1 63)) < 0 ∨ 20 ≤ ((σ.1 63)).toNatClampNeg)
        · rw [if_pos q1] at h
          refine va_iast hx hb hK hP hD hS 32 1 rfl rfl (nb_inp q1) dX12_makePoint_91 (fun H locs hP hD hS => ?_)
          have hP : va_P (dC, dI) nCl (vM cy a (σ.1, σ.2.1, updG σ.2.2 32 (upd (σ.2.2 32) ((σ.1 63)).toNatClampNeg ((σ.1 64))))) H := hP
          have hD : va_D A (vM cy a (σ.1, σ.2.1, updG σ.2.2 32 (upd (σ.2.2 32) ((σ.1 63)).toNatClampNeg ((σ.1 64))))) := hD
          exact ih.2.2.2.2.2.2.2.1 L (σ.1, σ.2.1, updG σ.2.2 32 (upd (σ.2.2 32) ((σ.1 63)).toNatClampNeg ((σ.1 64)))) r h H locs ls hP hD hS (lv_sub hl [0, 1, 2] rfl)
        · rw [if_neg q1] at h; cases h
      · intro L σ r h H locs ls hP hD hS hl
        rw [x_makePoint] at h
        refine lv_aload_n hx hb dX12_makePoint_92 rfl (lv_at hl 0 rfl) ?_
        refine lv_dup hx hb dX12_makePoint_93 rfl ?_
        refine va_get (D := (dC, dI)) (ci := 11) (v := .int (σ.1 65)) (C := RX12) (T := TX12) (N := 121) hx hb hts in_x_makePoint hown hK hP 0 rfl rfl 65 (by decide) (hts _ (List.mem_cons_of_mem _ (List.mem_append_left _ (List.mem_append_left _ (List.mem_of_getElem? (i := 2) rfl))))) (fun _ h9 => h9) rfl dX12_makePoint_94 ?_
        refine lv_aload_n hx hb dX12_makePoint_97 rfl (lv_at hl 0 rfl) ?_
        refine va_get (D := (dC, dI)) (ci := 11) (v := .int (σ.1 64)) (C := RX12) (T := TX12) (N := 121) hx hb hts in_x_makePoint hown hK hP 0 rfl rfl 64 (by decide) (hts _ (List.mem_cons_of_mem _ (List.mem_append_left _ (List.mem_append_left _ (List.mem_of_getElem? (i := 1) rfl))))) (fun _ h9 => h9) rfl dX12_makePoint_98 ?_
        refine lv_iadd hx hb dX12_makePoint_101 ?_
        refine va_put (D := (dC, dI)) (ci := 11) (v := .int (((σ.1 65)) + ((σ.1 64)))) (ty := .int) (C := RX12) (T := TX12) (N := 121) hx hb hts in_x_makePoint tyX12 tyX12_ok nmX12 hown hK hP hD hS 0 rfl rfl 65 (by decide) (hts _ (List.mem_cons_of_mem _ (List.mem_append_left _ (List.mem_append_left _ (List.mem_of_getElem? (i := 2) rfl))))) (fun _ h9 => h9) rfl (by decide +kernel) rfl rfl (Nat.le_of_ble_eq_true rfl) dX12_makePoint_102 (fun H locs hP hD hS => ?_)
        have hP : va_P (dC, dI) nCl (vM cy a (upd σ.1 65 ((((σ.1 65)) + ((σ.1 64)))), σ.2.1, σ.2.2)) H := hP
        have hD : va_D A (vM cy a (upd σ.1 65 ((((σ.1 65)) + ((σ.1 64)))), σ.2.1, σ.2.2)) := hD
        exact ih.2.2.2.2.2.2.2.2 L (upd σ.1 65 ((((σ.1 65)) + ((σ.1 64)))), σ.2.1, σ.2.2) r h H locs ls hP hD hS (lv_sub hl [0, 1, 2] rfl)
      · intro L σ r h H locs ls hP hD hS hl
        rw [x_makePoint] at h
        refine lv_aload_n hx hb dX12_makePoint_105 rfl (lv_at hl 0 rfl) ?_
        refine lv_dup hx hb dX12_makePoint_106 rfl ?_
        refine va_get (D := (dC, dI)) (ci := 11) (v := .int (σ.1 63)) (C := RX12) (T := TX12) (N := 121) hx hb hts in_x_makePoint hown hK hP 0 rfl rfl 63 (by decide) (hts _ (List.mem_cons_of_mem _ (List.mem_append_left _ (List.mem_append_left _ (List.mem_of_getElem? (i := 0) rfl))))) (fun _ h9 => h9) rfl dX12_makePoint_107 ?_
        refine lv_iconst (v := 1) hx hb dX12_makePoint_110 (by decide) ?_
        refine lv_iadd hx hb dX12_makePoint_111 ?_
        refine va_put (D := (dC, dI)) (ci := 11) (v := .int (((σ.1 63)) + 1)) (ty := .int) (C := RX12) (T := TX12) (N := 121) hx hb hts in_x_makePoint tyX12 tyX12_ok nmX12 hown hK hP hD hS 0 rfl rfl 63 (by decide) (hts _ (List.mem_cons_of_mem _ (List.mem_append_left _ (List.mem_append_left _ (List.mem_of_getElem? (i := 0) rfl))))) (fun _ h9 => h9) rfl (by decide +kernel) rfl rfl (Nat.le_of_ble_eq_true rfl) dX12_makePoint_112 (fun H locs hP hD hS => ?_)
        have hP : va_P (dC, dI) nCl (vM cy a (upd σ.1 63 ((((σ.1 63)) + 1)), σ.2.1, σ.2.2)) H := hP
        have hD : va_D A (vM cy a (upd σ.1 63 ((((σ.1 63)) + 1)), σ.2.1, σ.2.2)) := hD
        cases h
        exact W.vret hx hb hr (fun t ht hW => ⟨⟨(), rfl, trivial, by rw [ht]; exact hP, va_K.moved hW.alike hK, hD⟩, hS.F ht⟩) hS.2.2 dX12_makePoint_115
  exact (blk k0).1 L0 σ0 r0 h0 s.heap [] ls hP hD hS hl
/-! putOut -/
def x_putOut : Nat → Nat → (Nat → Int32) → MS → Option (Int32 × MS)
  | 0, _, _, _ => none
  | k + 1, 0, L, σ => if 60000 ≤ ((σ.1 106)) then (x_putOut k 1 L σ) else (if ¬ (((σ.1 106)) < 0 ∨ 60000 ≤ ((σ.1 106)).toNatClampNeg) then (x_putOut k 1 L (σ.1, σ.2.1, updG σ.2.2 52 (upd (σ.2.2 52) ((σ.1 106)).toNatClampNeg ((L 1))))) else none)
  | k + 1, 1, L, σ => if 2000000000 ≤ ((σ.1 106)) then (x_putOut k 2 (upd L 100 ((σ.1 106))) σ) else (x_putOut k 3 (upd (upd L 100 1) 101 ((σ.1 106))) σ)
  | k + 1, 2, L, σ => x_putOut k 3 (upd (upd L 100 0) 101 ((L 100))) σ
  | k + 1, 3, L, σ => some (0, (upd σ.1 106 ((((L 101)) + ((L 100)))), σ.2.1, σ.2.2))
  | _ + 1, _ + 4, _, _ => none
def o_x_putOut : List Cond := [.fieldLink RX12 977 "SetHouseModel" "outSize" "I", .constant RX12 368 (60000), .fieldLink RX12 980 "SetHouseModel" "out" "[I", .constant RX12 983 (2000000000)]
theorem o_x_putOut_good : o_x_putOut.all goodWord = true := by decide +kernel
def p_x_putOut : List Cond := o_x_putOut ++ []
theorem p_x_putOut_good : p_x_putOut.all goodWord = true := nb_all2 o_x_putOut_good rfl
def w_x_putOut : List Cond := .code yX12_putOut cX12_putOut 2 none :: (p_x_putOut ++ fM)
theorem w_x_putOut_good : w_x_putOut.all goodWord = true := nb_allc (by decide +kernel) (nb_all2 p_x_putOut_good fM_good)
theorem in_x_putOut : ∀ w ∈ wsX120, w ∈ w_x_putOut := fun _ h => List.mem_cons_of_mem _ (List.mem_append_right _ h)
set_option maxHeartbeats 40000000 in
set_option maxRecDepth 100000 in
theorem c_x_putOut (l : Launch) (dC : Nat → ClassId) (dI : Nat → Nat → Nat) (cy : Nat → ClassId) (a : Nat → Nat) (k0 : Nat) (L0 : Nat → Int32) (σ0 : MS) (r0 : Int32 × MS) (h0 : x_putOut k0 0 L0 σ0 = some r0) (sz : Nat) : Met l yX12_putOut w_x_putOut ({ frames := 0, cells := 0, slots := 0, locals := 0 }) (va_Pc [.ref (a 0), .int (L0 1)] (nIn (dC, dI) cy sz (vM cy a σ0))) (va_Qv (fun _ : Unit => True) (fun _ t => nOut (dC, dI) cy (va_A (vM cy a σ0) sz) (vM cy a r0.2) t) (va_A (vM cy a σ0) sz)) 0 0 (va_A (vM cy a σ0) sz) := by
  refine Met.ofW (cc := cX12_putOut) (maxL := 2) (ret := none) (by decide) rfl ?_
  intro p e s m args below meth c s₁ B hml hv
  obtain ⟨rfl, hsz, hP, hK, hD0, hG⟩ := hv
  have hx := B.exec
  have hb := B.bytes
  have hr := B.returns
  have hts := atoms_spec (ws := w_x_putOut) B.pre
  have hown : s.vm.findClass RX12 = some m.cls := findClass_of_methodNamed B.named
  have hlocks := B.notSynchronized
  subst hsz
  have hD := hD0.self (sz := s.heap.size)
  generalize hAe : va_A (vM cy a σ0) s.heap.size = A at hD ⊢
  have hA : ∀ q : Nat, s.heap.size ≤ q → A q := fun q h => by rw [← hAe]; exact Or.inr h
  have hS : va_S A s.heap s.heap [] := va_S.rf
  have hl := lv_entry ([.ref (a 0), .int (L0 1)]) (n := 2) (Nat.le_of_ble_eq_true rfl)
  rw [lg_entry_eq]
  generalize (lg_sl ([.ref (a 0), .int (L0 1)]) ++ List.replicate (2 - (lg_sl ([.ref (a 0), .int (L0 1)])).length) Slot.unset).toArray = ls at hl ⊢
  have hl : lv_has ls 2 [(0, .ref (a 0)), (1, .int (L0 1))] := hl
  have blk : ∀ k : Nat, (∀ (L : Nat → Int32) (σ : MS) (r : Int32 × MS), x_putOut k 0 L σ = some r → ∀ (H : Heap) (locs : List Loc) (ls : Array Slot), va_P (dC, dI) nCl (vM cy a σ) H → va_D A (vM cy a σ) → va_S A s.heap H locs → lv_has ls 2 [(0, .ref (a 0)), (1, .int (L 1))] → W p l e (headSpec w_x_putOut ({ frames := 0, cells := 0, slots := 0, locals := 0 })).room s m #[.ref (a 0), .int (L0 1)] below meth c H locs 0 0 (MQ below (va_Qv (fun _ : Unit => True) (fun _ t => nOut (dC, dI) cy A (vM cy a r.2) t) A) #[.ref (a 0), .int (L0 1)] s 0 0 A) (F0 m 0 ls [])) ∧ (∀ (L : Nat → Int32) (σ : MS) (r : Int32 × MS), x_putOut k 1 L σ = some r → ∀ (H : Heap) (locs : List Loc) (ls : Array Slot), va_P (dC, dI) nCl (vM cy a σ) H → va_D A (vM cy a σ) → va_S A s.heap H locs → lv_has ls 2 [(0, .ref (a 0)), (1, .int (L 1))] → W p l e (headSpec w_x_putOut ({ frames := 0, cells := 0, slots := 0, locals := 0 })).room s m #[.ref (a 0), .int (L0 1)] below meth c H locs 0 0 (MQ below (va_Qv (fun _ : Unit => True) (fun _ t => nOut (dC, dI) cy A (vM cy a r.2) t) A) #[.ref (a 0), .int (L0 1)] s 0 0 A) (F0 m 20 ls [])) ∧ (∀ (L : Nat → Int32) (σ : MS) (r : Int32 × MS), x_putOut k 2 L σ = some r → ∀ (H : Heap) (locs : List Loc) (ls : Array Slot), va_P (dC, dI) nCl (vM cy a σ) H → va_D A (vM cy a σ) → va_S A s.heap H locs → lv_has ls 2 [(0, .ref (a 0)), (1, .int (L 1))] → W p l e (headSpec w_x_putOut ({ frames := 0, cells := 0, slots := 0, locals := 0 })).room s m #[.ref (a 0), .int (L0 1)] below meth c H locs 0 0 (MQ below (va_Qv (fun _ : Unit => True) (fun _ t => nOut (dC, dI) cy A (vM cy a r.2) t) A) #[.ref (a 0), .int (L0 1)] s 0 0 A) (F0 m 39 ls [.int (L 100), .ref (a 0)])) ∧ (∀ (L : Nat → Int32) (σ : MS) (r : Int32 × MS), x_putOut k 3 L σ = some r → ∀ (H : Heap) (locs : List Loc) (ls : Array Slot), va_P (dC, dI) nCl (vM cy a σ) H → va_D A (vM cy a σ) → va_S A s.heap H locs → lv_has ls 2 [(0, .ref (a 0)), (1, .int (L 1))] → W p l e (headSpec w_x_putOut ({ frames := 0, cells := 0, slots := 0, locals := 0 })).room s m #[.ref (a 0), .int (L0 1)] below meth c H locs 0 0 (MQ below (va_Qv (fun _ : Unit => True) (fun _ t => nOut (dC, dI) cy A (vM cy a r.2) t) A) #[.ref (a 0), .int (L0 1)] s 0 0 A) (F0 m 40 ls [.int (L 100), .int (L 101), .ref (a 0)])) := by
    intro k
    induction k with
    | zero => exact ⟨fun L σ r h => (by cases h), fun L σ r h => (by cases h), fun L σ r h => (by cases h), fun L σ r h => (by cases h)⟩
    | succ k ih =>
      refine ⟨?_, ?_, ?_, ?_⟩
      · intro L σ r h H locs ls hP hD hS hl
        rw [x_putOut] at h
        refine lv_aload_n hx hb dX12_putOut_0 rfl (lv_at hl 0 rfl) ?_
        refine va_get (D := (dC, dI)) (ci := 11) (v := .int (σ.1 106)) (C := RX12) (T := TX12) (N := 121) hx hb hts in_x_putOut hown hK hP 0 rfl rfl 106 (by decide) (hts _ (List.mem_cons_of_mem _ (List.mem_append_left _ (List.mem_append_left _ (List.mem_of_getElem? (i := 0) rfl))))) (fun _ h9 => h9) rfl dX12_putOut_1 ?_
        refine lv_ldcw (v := 60000) hx hb hown (hts _ (List.mem_cons_of_mem _ (List.mem_append_left _ (List.mem_append_left _ (List.mem_of_getElem? (i := 1) rfl))))) dX12_putOut_4 ?_
        refine lv_icmp_ge (tgt := 20) hx hb dX12_putOut_7 (by decide) (fun c1 => ?_) (fun c1 => ?_)
        · rw [if_pos c1] at h
          exact ih.2.1 L σ r h H locs ls hP hD hS (lv_sub hl [0, 1] rfl)
        · rw [if_neg c1] at h
          refine lv_aload_n hx hb dX12_putOut_10 rfl (lv_at hl 0 rfl) ?_
          refine va_get (D := (dC, dI)) (ci := 11) (v := .ref (a 52)) (C := RX12) (T := TX12) (N := 121) hx hb hts in_x_putOut hown hK hP 0 rfl rfl 107 (by decide) (hts _ (List.mem_cons_of_mem _ (List.mem_append_left _ (List.mem_append_left _ (List.mem_of_getElem? (i := 2) rfl))))) (fun _ h9 => h9) rfl dX12_putOut_11 ?_
          refine lv_aload_n hx hb dX12_putOut_14 rfl (lv_at hl 0 rfl) ?_
          refine va_get (D := (dC, dI)) (ci := 11) (v := .int (σ.1 106)) (C := RX12) (T := TX12) (N := 121) hx hb hts in_x_putOut hown hK hP 0 rfl rfl 106 (by decide) (hts _ (List.mem_cons_of_mem _ (List.mem_append_left _ (List.mem_append_left _ (List.mem_of_getElem? (i := 0) rfl))))) (fun _ h9 => h9) rfl dX12_putOut_15 ?_
          refine lv_iload_n hx hb dX12_putOut_18 rfl (lv_at hl 1 rfl) ?_
          by_cases q2 : ¬ (((σ.1 106)) < 0 ∨ 60000 ≤ ((σ.1 106)).toNatClampNeg)
          · rw [if_pos q2] at h
            refine va_iast hx hb hK hP hD hS 52 1 rfl rfl (nb_inp q2) dX12_putOut_19 (fun H locs hP hD hS => ?_)
            have hP : va_P (dC, dI) nCl (vM cy a (σ.1, σ.2.1, updG σ.2.2 52 (upd (σ.2.2 52) ((σ.1 106)).toNatClampNeg ((L 1))))) H := hP
            have hD : va_D A (vM cy a (σ.1, σ.2.1, updG σ.2.2 52 (upd (σ.2.2 52) ((σ.1 106)).toNatClampNeg ((L 1))))) := hD
            exact ih.2.1 L (σ.1, σ.2.1, updG σ.2.2 52 (upd (σ.2.2 52) ((σ.1 106)).toNatClampNeg ((L 1)))) r h H locs ls hP hD hS (lv_sub hl [0, 1] rfl)
          · rw [if_neg q2] at h; cases h
      · intro L σ r h H locs ls hP hD hS hl
        rw [x_putOut] at h
        refine lv_aload_n hx hb dX12_putOut_20 rfl (lv_at hl 0 rfl) ?_
        refine lv_dup hx hb dX12_putOut_21 rfl ?_
        refine va_get (D := (dC, dI)) (ci := 11) (v := .int (σ.1 106)) (C := RX12) (T := TX12) (N := 121) hx hb hts in_x_putOut hown hK hP 0 rfl rfl 106 (by decide) (hts _ (List.mem_cons_of_mem _ (List.mem_append_left _ (List.mem_append_left _ (List.mem_of_getElem? (i := 0) rfl))))) (fun _ h9 => h9) rfl dX12_putOut_22 ?_
        refine lv_aload_n hx hb dX12_putOut_25 rfl (lv_at hl 0 rfl) ?_
        refine va_get (D := (dC, dI)) (ci := 11) (v := .int (σ.1 106)) (C := RX12) (T := TX12) (N := 121) hx hb hts in_x_putOut hown hK hP 0 rfl rfl 106 (by decide) (hts _ (List.mem_cons_of_mem _ (List.mem_append_left _ (List.mem_append_left _ (List.mem_of_getElem? (i := 0) rfl))))) (fun _ h9 => h9) rfl dX12_putOut_26 ?_
        refine lv_ldcw (v := 2000000000) hx hb hown (hts _ (List.mem_cons_of_mem _ (List.mem_append_left _ (List.mem_append_left _ (List.mem_of_getElem? (i := 3) rfl))))) dX12_putOut_29 ?_
        refine lv_icmp_ge (tgt := 39) hx hb dX12_putOut_32 (by decide) (fun c1 => ?_) (fun c1 => ?_)
        · rw [if_pos c1] at h
          exact ih.2.2.1 (upd L 100 ((σ.1 106))) σ r h H locs ls hP hD hS (lv_sub hl [0, 1] rfl)
        · rw [if_neg c1] at h
          refine lv_iconst (v := 1) hx hb dX12_putOut_35 (by decide) ?_
          refine lv_goto (tgt := 40) hx hb dX12_putOut_36 (by decide) ?_
          exact ih.2.2.2 (upd (upd L 100 1) 101 ((σ.1 106))) σ r h H locs ls hP hD hS (lv_sub hl [0, 1] rfl)
      · intro L σ r h H locs ls hP hD hS hl
        rw [x_putOut] at h
        refine lv_iconst (v := 0) hx hb dX12_putOut_39 (by decide) ?_
        exact ih.2.2.2 (upd (upd L 100 0) 101 ((L 100))) σ r h H locs ls hP hD hS (lv_sub hl [0, 1] rfl)
      · intro L σ r h H locs ls hP hD hS hl
        rw [x_putOut] at h
        refine lv_iadd hx hb dX12_putOut_40 ?_
        refine va_put (D := (dC, dI)) (ci := 11) (v := .int (((L 101)) + ((L 100)))) (ty := .int) (C := RX12) (T := TX12) (N := 121) hx hb hts in_x_putOut tyX12 tyX12_ok nmX12 hown hK hP hD hS 0 rfl rfl 106 (by decide) (hts _ (List.mem_cons_of_mem _ (List.mem_append_left _ (List.mem_append_left _ (List.mem_of_getElem? (i := 0) rfl))))) (fun _ h9 => h9) rfl (by decide +kernel) rfl rfl (Nat.le_of_ble_eq_true rfl) dX12_putOut_41 (fun H locs hP hD hS => ?_)
        have hP : va_P (dC, dI) nCl (vM cy a (upd σ.1 106 ((((L 101)) + ((L 100)))), σ.2.1, σ.2.2)) H := hP
        have hD : va_D A (vM cy a (upd σ.1 106 ((((L 101)) + ((L 100)))), σ.2.1, σ.2.2)) := hD
        cases h
        exact W.vret hx hb hr (fun t ht hW => ⟨⟨(), rfl, trivial, by rw [ht]; exact hP, va_K.moved hW.alike hK, hD⟩, hS.F ht⟩) hS.2.2 dX12_putOut_44
  exact (blk k0).1 L0 σ0 r0 h0 s.heap [] ls hP hD hS hl
/-! beginText -/
def x_beginText : Nat → Nat → (Nat → Int32) → MS → Option (Int32 × MS)
  | 0, _, _, _ => none
  | k + 1, 0, L, σ => x_beginText k 1 L (upd σ.1 5 0, σ.2.1, σ.2.2)
  | k + 1, 1, L, σ => x_beginText k 2 L (upd σ.1 10 0, σ.2.1, σ.2.2)
  | k + 1, 2, L, σ => x_beginText k 3 L (upd σ.1 13 0, σ.2.1, σ.2.2)
  | k + 1, 3, L, σ => x_beginText k 4 L (upd σ.1 38 0, σ.2.1, σ.2.2)
  | k + 1, 4, L, σ => x_beginText k 5 L (upd σ.1 52 0, σ.2.1, σ.2.2)
  | k + 1, 5, L, σ => some (0, (upd σ.1 45 0, σ.2.1, σ.2.2))
  | _ + 1, _ + 6, _, _ => none
def o_x_beginText : List Cond := [.fieldLink RX12 21 "SetHouseModel" "at" "I", .fieldLink RX12 11 "SetHouseModel" "bad" "Z", .fieldLink RX12 77 "SetHouseModel" "opened" "I", .fieldLink RX12 114 "SetHouseModel" "seenNames" "I", .fieldLink RX12 256 "SetHouseModel" "rowNames" "I", .fieldLink RX12 321 "SetHouseModel" "loops" "I"]
theorem o_x_beginText_good : o_x_beginText.all goodWord = true := by decide +kernel
def p_x_beginText : List Cond := o_x_beginText ++ []
theorem p_x_beginText_good : p_x_beginText.all goodWord = true := nb_all2 o_x_beginText_good rfl
def w_x_beginText : List Cond := .code yX12_beginText cX12_beginText 1 none :: (p_x_beginText ++ fM)
theorem w_x_beginText_good : w_x_beginText.all goodWord = true := nb_allc (by decide +kernel) (nb_all2 p_x_beginText_good fM_good)
theorem in_x_beginText : ∀ w ∈ wsX120, w ∈ w_x_beginText := fun _ h => List.mem_cons_of_mem _ (List.mem_append_right _ h)
set_option maxHeartbeats 40000000 in
set_option maxRecDepth 100000 in
theorem c_x_beginText (l : Launch) (dC : Nat → ClassId) (dI : Nat → Nat → Nat) (cy : Nat → ClassId) (a : Nat → Nat) (k0 : Nat) (L0 : Nat → Int32) (σ0 : MS) (r0 : Int32 × MS) (h0 : x_beginText k0 0 L0 σ0 = some r0) (sz : Nat) : Met l yX12_beginText w_x_beginText ({ frames := 0, cells := 0, slots := 0, locals := 0 }) (va_Pc [.ref (a 0)] (nIn (dC, dI) cy sz (vM cy a σ0))) (va_Qv (fun _ : Unit => True) (fun _ t => nOut (dC, dI) cy (va_A (vM cy a σ0) sz) (vM cy a r0.2) t) (va_A (vM cy a σ0) sz)) 0 0 (va_A (vM cy a σ0) sz) := by
  refine Met.ofW (cc := cX12_beginText) (maxL := 1) (ret := none) (by decide) rfl ?_
  intro p e s m args below meth c s₁ B hml hv
  obtain ⟨rfl, hsz, hP, hK, hD0, hG⟩ := hv
  have hx := B.exec
  have hb := B.bytes
  have hr := B.returns
  have hts := atoms_spec (ws := w_x_beginText) B.pre
  have hown : s.vm.findClass RX12 = some m.cls := findClass_of_methodNamed B.named
  have hlocks := B.notSynchronized
  subst hsz
  have hD := hD0.self (sz := s.heap.size)
  generalize hAe : va_A (vM cy a σ0) s.heap.size = A at hD ⊢
  have hA : ∀ q : Nat, s.heap.size ≤ q → A q := fun q h => by rw [← hAe]; exact Or.inr h
  have hS : va_S A s.heap s.heap [] := va_S.rf
  have hl := lv_entry ([.ref (a 0)]) (n := 1) (Nat.le_of_ble_eq_true rfl)
  rw [lg_entry_eq]
  generalize (lg_sl ([.ref (a 0)]) ++ List.replicate (1 - (lg_sl ([.ref (a 0)])).length) Slot.unset).toArray = ls at hl ⊢
  have hl : lv_has ls 1 [(0, .ref (a 0))] := hl
  have blk : ∀ k : Nat, (∀ (L : Nat → Int32) (σ : MS) (r : Int32 × MS), x_beginText k 0 L σ = some r → ∀ (H : Heap) (locs : List Loc) (ls : Array Slot), va_P (dC, dI) nCl (vM cy a σ) H → va_D A (vM cy a σ) → va_S A s.heap H locs → lv_has ls 1 [(0, .ref (a 0))] → W p l e (headSpec w_x_beginText ({ frames := 0, cells := 0, slots := 0, locals := 0 })).room s m #[.ref (a 0)] below meth c H locs 0 0 (MQ below (va_Qv (fun _ : Unit => True) (fun _ t => nOut (dC, dI) cy A (vM cy a r.2) t) A) #[.ref (a 0)] s 0 0 A) (F0 m 0 ls [])) ∧ (∀ (L : Nat → Int32) (σ : MS) (r : Int32 × MS), x_beginText k 1 L σ = some r → ∀ (H : Heap) (locs : List Loc) (ls : Array Slot), va_P (dC, dI) nCl (vM cy a σ) H → va_D A (vM cy a σ) → va_S A s.heap H locs → lv_has ls 1 [(0, .ref (a 0))] → W p l e (headSpec w_x_beginText ({ frames := 0, cells := 0, slots := 0, locals := 0 })).room s m #[.ref (a 0)] below meth c H locs 0 0 (MQ below (va_Qv (fun _ : Unit => True) (fun _ t => nOut (dC, dI) cy A (vM cy a r.2) t) A) #[.ref (a 0)] s 0 0 A) (F0 m 5 ls [])) ∧ (∀ (L : Nat → Int32) (σ : MS) (r : Int32 × MS), x_beginText k 2 L σ = some r → ∀ (H : Heap) (locs : List Loc) (ls : Array Slot), va_P (dC, dI) nCl (vM cy a σ) H → va_D A (vM cy a σ) → va_S A s.heap H locs → lv_has ls 1 [(0, .ref (a 0))] → W p l e (headSpec w_x_beginText ({ frames := 0, cells := 0, slots := 0, locals := 0 })).room s m #[.ref (a 0)] below meth c H locs 0 0 (MQ below (va_Qv (fun _ : Unit => True) (fun _ t => nOut (dC, dI) cy A (vM cy a r.2) t) A) #[.ref (a 0)] s 0 0 A) (F0 m 10 ls [])) ∧ (∀ (L : Nat → Int32) (σ : MS) (r : Int32 × MS), x_beginText k 3 L σ = some r → ∀ (H : Heap) (locs : List Loc) (ls : Array Slot), va_P (dC, dI) nCl (vM cy a σ) H → va_D A (vM cy a σ) → va_S A s.heap H locs → lv_has ls 1 [(0, .ref (a 0))] → W p l e (headSpec w_x_beginText ({ frames := 0, cells := 0, slots := 0, locals := 0 })).room s m #[.ref (a 0)] below meth c H locs 0 0 (MQ below (va_Qv (fun _ : Unit => True) (fun _ t => nOut (dC, dI) cy A (vM cy a r.2) t) A) #[.ref (a 0)] s 0 0 A) (F0 m 15 ls [])) ∧ (∀ (L : Nat → Int32) (σ : MS) (r : Int32 × MS), x_beginText k 4 L σ = some r → ∀ (H : Heap) (locs : List Loc) (ls : Array Slot), va_P (dC, dI) nCl (vM cy a σ) H → va_D A (vM cy a σ) → va_S A s.heap H locs → lv_has ls 1 [(0, .ref (a 0))] → W p l e (headSpec w_x_beginText ({ frames := 0, cells := 0, slots := 0, locals := 0 })).room s m #[.ref (a 0)] below meth c H locs 0 0 (MQ below (va_Qv (fun _ : Unit => True) (fun _ t => nOut (dC, dI) cy A (vM cy a r.2) t) A) #[.ref (a 0)] s 0 0 A) (F0 m 20 ls [])) ∧ (∀ (L : Nat → Int32) (σ : MS) (r : Int32 × MS), x_beginText k 5 L σ = some r → ∀ (H : Heap) (locs : List Loc) (ls : Array Slot), va_P (dC, dI) nCl (vM cy a σ) H → va_D A (vM cy a σ) → va_S A s.heap H locs → lv_has ls 1 [(0, .ref (a 0))] → W p l e (headSpec w_x_beginText ({ frames := 0, cells := 0, slots := 0, locals := 0 })).room s m #[.ref (a 0)] below meth c H locs 0 0 (MQ below (va_Qv (fun _ : Unit => True) (fun _ t => nOut (dC, dI) cy A (vM cy a r.2) t) A) #[.ref (a 0)] s 0 0 A) (F0 m 25 ls [])) := by
    intro k
    induction k with
    | zero => exact ⟨fun L σ r h => (by cases h), fun L σ r h => (by cases h), fun L σ r h => (by cases h), fun L σ r h => (by cases h), fun L σ r h => (by cases h), fun L σ r h => (by cases h)⟩
    | succ k ih =>
      refine ⟨?_, ?_, ?_, ?_, ?_, ?_⟩
      · intro L σ r h H locs ls hP hD hS hl
        rw [x_beginText] at h
        refine lv_aload_n hx hb dX12_beginText_0 rfl (lv_at hl 0 rfl) ?_
        refine lv_iconst (v := 0) hx hb dX12_beginText_1 (by decide) ?_
        refine va_put (D := (dC, dI)) (ci := 11) (v := .int 0) (ty := .int) (C := RX12) (T := TX12) (N := 121) hx hb hts in_x_beginText tyX12 tyX12_ok nmX12 hown hK hP hD hS 0 rfl rfl 5 (by decide) (hts _ (List.mem_cons_of_mem _ (List.mem_append_left _ (List.mem_append_left _ (List.mem_of_getElem? (i := 0) rfl))))) (fun _ h9 => h9) rfl (by decide +kernel) rfl rfl (Nat.le_of_ble_eq_true rfl) dX12_beginText_2 (fun H locs hP hD hS => ?_)
        have hP : va_P (dC, dI) nCl (vM cy a (upd σ.1 5 0, σ.2.1, σ.2.2)) H := hP
        have hD : va_D A (vM cy a (upd σ.1 5 0, σ.2.1, σ.2.2)) := hD
        exact ih.2.1 L (upd σ.1 5 0, σ.2.1, σ.2.2) r h H locs ls hP hD hS (lv_sub hl [0] rfl)
      · intro L σ r h H locs ls hP hD hS hl
        rw [x_beginText] at h
        refine lv_aload_n hx hb dX12_beginText_5 rfl (lv_at hl 0 rfl) ?_
        refine lv_iconst (v := 0) hx hb dX12_beginText_6 (by decide) ?_
        refine va_put (D := (dC, dI)) (ci := 11) (v := .int 0) (ty := .boolean) (C := RX12) (T := TX12) (N := 121) hx hb hts in_x_beginText tyX12 tyX12_ok nmX12 hown hK hP hD hS 0 rfl rfl 10 (by decide) (hts _ (List.mem_cons_of_mem _ (List.mem_append_left _ (List.mem_append_left _ (List.mem_of_getElem? (i := 1) rfl))))) (fun _ h9 => h9) rfl (by decide +kernel) rfl rfl (Nat.le_of_ble_eq_true rfl) dX12_beginText_7 (fun H locs hP hD hS => ?_)
        have hP : va_P (dC, dI) nCl (vM cy a (upd σ.1 10 0, σ.2.1, σ.2.2)) H := hP
        have hD : va_D A (vM cy a (upd σ.1 10 0, σ.2.1, σ.2.2)) := hD
        exact ih.2.2.1 L (upd σ.1 10 0, σ.2.1, σ.2.2) r h H locs ls hP hD hS (lv_sub hl [0] rfl)
      · intro L σ r h H locs ls hP hD hS hl
        rw [x_beginText] at h
        refine lv_aload_n hx hb dX12_beginText_10 rfl (lv_at hl 0 rfl) ?_
        refine lv_iconst (v := 0) hx hb dX12_beginText_11 (by decide) ?_
        refine va_put (D := (dC, dI)) (ci := 11) (v := .int 0) (ty := .int) (C := RX12) (T := TX12) (N := 121) hx hb hts in_x_beginText tyX12 tyX12_ok nmX12 hown hK hP hD hS 0 rfl rfl 13 (by decide) (hts _ (List.mem_cons_of_mem _ (List.mem_append_left _ (List.mem_append_left _ (List.mem_of_getElem? (i := 2) rfl))))) (fun _ h9 => h9) rfl (by decide +kernel) rfl rfl (Nat.le_of_ble_eq_true rfl) dX12_beginText_12 (fun H locs hP hD hS => ?_)
        have hP : va_P (dC, dI) nCl (vM cy a (upd σ.1 13 0, σ.2.1, σ.2.2)) H := hP
        have hD : va_D A (vM cy a (upd σ.1 13 0, σ.2.1, σ.2.2)) := hD
        exact ih.2.2.2.1 L (upd σ.1 13 0, σ.2.1, σ.2.2) r h H locs ls hP hD hS (lv_sub hl [0] rfl)
      · intro L σ r h H locs ls hP hD hS hl
        rw [x_beginText] at h
        refine lv_aload_n hx hb dX12_beginText_15 rfl (lv_at hl 0 rfl) ?_
        refine lv_iconst (v := 0) hx hb dX12_beginText_16 (by decide) ?_
        refine va_put (D := (dC, dI)) (ci := 11) (v := .int 0) (ty := .int) (C := RX12) (T := TX12) (N := 121) hx hb hts in_x_beginText tyX12 tyX12_ok nmX12 hown hK hP hD hS 0 rfl rfl 38 (by decide) (hts _ (List.mem_cons_of_mem _ (List.mem_append_left _ (List.mem_append_left _ (List.mem_of_getElem? (i := 3) rfl))))) (fun _ h9 => h9) rfl (by decide +kernel) rfl rfl (Nat.le_of_ble_eq_true rfl) dX12_beginText_17 (fun H locs hP hD hS => ?_)
        have hP : va_P (dC, dI) nCl (vM cy a (upd σ.1 38 0, σ.2.1, σ.2.2)) H := hP
        have hD : va_D A (vM cy a (upd σ.1 38 0, σ.2.1, σ.2.2)) := hD
        exact ih.2.2.2.2.1 L (upd σ.1 38 0, σ.2.1, σ.2.2) r h H locs ls hP hD hS (lv_sub hl [0] rfl)
      · intro L σ r h H locs ls hP hD hS hl
        rw [x_beginText] at h
        refine lv_aload_n hx hb dX12_beginText_20 rfl (lv_at hl 0 rfl) ?_
        refine lv_iconst (v := 0) hx hb dX12_beginText_21 (by decide) ?_
        refine va_put (D := (dC, dI)) (ci := 11) (v := .int 0) (ty := .int) (C := RX12) (T := TX12) (N := 121) hx hb hts in_x_beginText tyX12 tyX12_ok nmX12 hown hK hP hD hS 0 rfl rfl 52 (by decide) (hts _ (List.mem_cons_of_mem _ (List.mem_append_left _ (List.mem_append_left _ (List.mem_of_getElem? (i := 4) rfl))))) (fun _ h9 => h9) rfl (by decide +kernel) rfl rfl (Nat.le_of_ble_eq_true rfl) dX12_beginText_22 (fun H locs hP hD hS => ?_)
        have hP : va_P (dC, dI) nCl (vM cy a (upd σ.1 52 0, σ.2.1, σ.2.2)) H := hP
        have hD : va_D A (vM cy a (upd σ.1 52 0, σ.2.1, σ.2.2)) := hD
        exact ih.2.2.2.2.2 L (upd σ.1 52 0, σ.2.1, σ.2.2) r h H locs ls hP hD hS (lv_sub hl [0] rfl)
      · intro L σ r h H locs ls hP hD hS hl
        rw [x_beginText] at h
        refine lv_aload_n hx hb dX12_beginText_25 rfl (lv_at hl 0 rfl) ?_
        refine lv_iconst (v := 0) hx hb dX12_beginText_26 (by decide) ?_
        refine va_put (D := (dC, dI)) (ci := 11) (v := .int 0) (ty := .int) (C := RX12) (T := TX12) (N := 121) hx hb hts in_x_beginText tyX12 tyX12_ok nmX12 hown hK hP hD hS 0 rfl rfl 45 (by decide) (hts _ (List.mem_cons_of_mem _ (List.mem_append_left _ (List.mem_append_left _ (List.mem_of_getElem? (i := 5) rfl))))) (fun _ h9 => h9) rfl (by decide +kernel) rfl rfl (Nat.le_of_ble_eq_true rfl) dX12_beginText_27 (fun H locs hP hD hS => ?_)
        have hP : va_P (dC, dI) nCl (vM cy a (upd σ.1 45 0, σ.2.1, σ.2.2)) H := hP
        have hD : va_D A (vM cy a (upd σ.1 45 0, σ.2.1, σ.2.2)) := hD
        cases h
        exact W.vret hx hb hr (fun t ht hW => ⟨⟨(), rfl, trivial, by rw [ht]; exact hP, va_K.moved hW.alike hK, hD⟩, hS.F ht⟩) hS.2.2 dX12_beginText_30
  exact (blk k0).1 L0 σ0 r0 h0 s.heap [] ls hP hD hS hl
/-! good -/
def x_good : Nat → Nat → (Nat → Int32) → MS → Option (Int32 × MS)
  | 0, _, _, _ => none
  | k + 1, 0, L, σ => x_good k 1 L (upd σ.1 2 ((L 1)), σ.2.1, σ.2.2)
  | k + 1, 1, L, σ => if ((L 1)) = 0 then (x_good k 3 (upd L 100 1) σ) else (x_good k 2 L σ)
  | k + 1, 2, L, σ => x_good k 3 (upd L 100 0) σ
  | k + 1, 3, L, σ => if ((L 100)) = 0 ∨ ((L 100)) = 1 then some ((L 100), σ) else none
  | _ + 1, _ + 4, _, _ => none
def o_x_good : List Cond := [.fieldLink RX12 993 "SetHouseModel" "code" "I"]
theorem o_x_good_good : o_x_good.all goodWord = true := by decide +kernel
def p_x_good : List Cond := o_x_good ++ []
theorem p_x_good_good : p_x_good.all goodWord = true := nb_all2 o_x_good_good rfl
def w_x_good : List Cond := .code yX12_good cX12_good 2 (some .boolean) :: (p_x_good ++ fM)
theorem w_x_good_good : w_x_good.all goodWord = true := nb_allc (by decide +kernel) (nb_all2 p_x_good_good fM_good)
theorem in_x_good : ∀ w ∈ wsX120, w ∈ w_x_good := fun _ h => List.mem_cons_of_mem _ (List.mem_append_right _ h)
set_option maxHeartbeats 40000000 in
set_option maxRecDepth 100000 in
theorem c_x_good (l : Launch) (dC : Nat → ClassId) (dI : Nat → Nat → Nat) (cy : Nat → ClassId) (a : Nat → Nat) (k0 : Nat) (L0 : Nat → Int32) (σ0 : MS) (r0 : Int32 × MS) (h0 : x_good k0 0 L0 σ0 = some r0) (sz : Nat) : Met l yX12_good w_x_good ({ frames := 0, cells := 0, slots := 0, locals := 0 }) (va_Pc [.ref (a 0), .int (L0 1)] (nIn (dC, dI) cy sz (vM cy a σ0))) (va_Qi (fun (z : Int32) (_ : Unit) => z = r0.1) (fun _ t => nOut (dC, dI) cy (va_A (vM cy a σ0) sz) (vM cy a r0.2) t) (va_A (vM cy a σ0) sz)) 0 0 (va_A (vM cy a σ0) sz) := by
  refine Met.ofW (cc := cX12_good) (maxL := 2) (ret := (some .boolean)) (by decide) rfl ?_
  intro p e s m args below meth c s₁ B hml hv
  obtain ⟨rfl, hsz, hP, hK, hD0, hG⟩ := hv
  have hx := B.exec
  have hb := B.bytes
  have hr := B.returns
  have hts := atoms_spec (ws := w_x_good) B.pre
  have hown : s.vm.findClass RX12 = some m.cls := findClass_of_methodNamed B.named
  have hlocks := B.notSynchronized
  subst hsz
  have hD := hD0.self (sz := s.heap.size)
  generalize hAe : va_A (vM cy a σ0) s.heap.size = A at hD ⊢
  have hA : ∀ q : Nat, s.heap.size ≤ q → A q := fun q h => by rw [← hAe]; exact Or.inr h
  have hS : va_S A s.heap s.heap [] := va_S.rf
  have hl := lv_entry ([.ref (a 0), .int (L0 1)]) (n := 2) (Nat.le_of_ble_eq_true rfl)
  rw [lg_entry_eq]
  generalize (lg_sl ([.ref (a 0), .int (L0 1)]) ++ List.replicate (2 - (lg_sl ([.ref (a 0), .int (L0 1)])).length) Slot.unset).toArray = ls at hl ⊢
  have hl : lv_has ls 2 [(0, .ref (a 0)), (1, .int (L0 1))] := hl
  have blk : ∀ k : Nat, (∀ (L : Nat → Int32) (σ : MS) (r : Int32 × MS), x_good k 0 L σ = some r → ∀ (H : Heap) (locs : List Loc) (ls : Array Slot), va_P (dC, dI) nCl (vM cy a σ) H → va_D A (vM cy a σ) → va_S A s.heap H locs → lv_has ls 2 [(0, .ref (a 0)), (1, .int (L 1))] → W p l e (headSpec w_x_good ({ frames := 0, cells := 0, slots := 0, locals := 0 })).room s m #[.ref (a 0), .int (L0 1)] below meth c H locs 0 0 (MQ below (va_Qi (fun (z : Int32) (_ : Unit) => z = r.1) (fun _ t => nOut (dC, dI) cy A (vM cy a r.2) t) A) #[.ref (a 0), .int (L0 1)] s 0 0 A) (F0 m 0 ls [])) ∧ (∀ (L : Nat → Int32) (σ : MS) (r : Int32 × MS), x_good k 1 L σ = some r → ∀ (H : Heap) (locs : List Loc) (ls : Array Slot), va_P (dC, dI) nCl (vM cy a σ) H → va_D A (vM cy a σ) → va_S A s.heap H locs → lv_has ls 2 [(0, .ref (a 0)), (1, .int (L 1))] → W p l e (headSpec w_x_good ({ frames := 0, cells := 0, slots := 0, locals := 0 })).room s m #[.ref (a 0), .int (L0 1)] below meth c H locs 0 0 (MQ below (va_Qi (fun (z : Int32) (_ : Unit) => z = r.1) (fun _ t => nOut (dC, dI) cy A (vM cy a r.2) t) A) #[.ref (a 0), .int (L0 1)] s 0 0 A) (F0 m 5 ls [])) ∧ (∀ (L : Nat → Int32) (σ : MS) (r : Int32 × MS), x_good k 2 L σ = some r → ∀ (H : Heap) (locs : List Loc) (ls : Array Slot), va_P (dC, dI) nCl (vM cy a σ) H → va_D A (vM cy a σ) → va_S A s.heap H locs → lv_has ls 2 [(0, .ref (a 0)), (1, .int (L 1))] → W p l e (headSpec w_x_good ({ frames := 0, cells := 0, slots := 0, locals := 0 })).room s m #[.ref (a 0), .int (L0 1)] below meth c H locs 0 0 (MQ below (va_Qi (fun (z : Int32) (_ : Unit) => z = r.1) (fun _ t => nOut (dC, dI) cy A (vM cy a r.2) t) A) #[.ref (a 0), .int (L0 1)] s 0 0 A) (F0 m 13 ls [])) ∧ (∀ (L : Nat → Int32) (σ : MS) (r : Int32 × MS), x_good k 3 L σ = some r → ∀ (H : Heap) (locs : List Loc) (ls : Array Slot), va_P (dC, dI) nCl (vM cy a σ) H → va_D A (vM cy a σ) → va_S A s.heap H locs → lv_has ls 2 [(0, .ref (a 0)), (1, .int (L 1))] → W p l e (headSpec w_x_good ({ frames := 0, cells := 0, slots := 0, locals := 0 })).room s m #[.ref (a 0), .int (L0 1)] below meth c H locs 0 0 (MQ below (va_Qi (fun (z : Int32) (_ : Unit) => z = r.1) (fun _ t => nOut (dC, dI) cy A (vM cy a r.2) t) A) #[.ref (a 0), .int (L0 1)] s 0 0 A) (F0 m 14 ls [.int (L 100)])) := by
    intro k
    induction k with
    | zero => exact ⟨fun L σ r h => (by cases h), fun L σ r h => (by cases h), fun L σ r h => (by cases h), fun L σ r h => (by cases h)⟩
    | succ k ih =>
      refine ⟨?_, ?_, ?_, ?_⟩
      · intro L σ r h H locs ls hP hD hS hl
        rw [x_good] at h
        refine lv_aload_n hx hb dX12_good_0 rfl (lv_at hl 0 rfl) ?_
        refine lv_iload_n hx hb dX12_good_1 rfl (lv_at hl 1 rfl) ?_
        refine va_put (D := (dC, dI)) (ci := 11) (v := .int (L 1)) (ty := .int) (C := RX12) (T := TX12) (N := 121) hx hb hts in_x_good tyX12 tyX12_ok nmX12 hown hK hP hD hS 0 rfl rfl 2 (by decide) (hts _ (List.mem_cons_of_mem _ (List.mem_append_left _ (List.mem_append_left _ (List.mem_of_getElem? (i := 0) rfl))))) (fun _ h9 => h9) rfl (by decide +kernel) rfl rfl (Nat.le_of_ble_eq_true rfl) dX12_good_2 (fun H locs hP hD hS => ?_)
        have hP : va_P (dC, dI) nCl (vM cy a (upd σ.1 2 ((L 1)), σ.2.1, σ.2.2)) H := hP
        have hD : va_D A (vM cy a (upd σ.1 2 ((L 1)), σ.2.1, σ.2.2)) := hD
        exact ih.2.1 L (upd σ.1 2 ((L 1)), σ.2.1, σ.2.2) r h H locs ls hP hD hS (lv_sub hl [0, 1] rfl)
      · intro L σ r h H locs ls hP hD hS hl
        rw [x_good] at h
        refine lv_iload_n hx hb dX12_good_5 rfl (lv_at hl 1 rfl) ?_
        refine lv_if_ne (tgt := 13) hx hb dX12_good_6 (by decide) (fun c1 => ?_) (fun c1 => ?_)
        · rw [if_neg c1] at h
          exact ih.2.2.1 L σ r h H locs ls hP hD hS (lv_sub hl [0, 1] rfl)
        · rw [if_pos c1] at h
          refine lv_iconst (v := 1) hx hb dX12_good_9 (by decide) ?_
          refine lv_goto (tgt := 14) hx hb dX12_good_10 (by decide) ?_
          exact ih.2.2.2 (upd L 100 1) σ r h H locs ls hP hD hS (lv_sub hl [0, 1] rfl)
      · intro L σ r h H locs ls hP hD hS hl
        rw [x_good] at h
        refine lv_iconst (v := 0) hx hb dX12_good_13 (by decide) ?_
        exact ih.2.2.2 (upd L 100 0) σ r h H locs ls hP hD hS (lv_sub hl [0, 1] rfl)
      · intro L σ r h H locs ls hP hD hS hl
        rw [x_good] at h
        by_cases q1 : ((L 100)) = 0 ∨ ((L 100)) = 1
        · rw [if_pos q1] at h
          cases h
          exact W.zret (v := (L 100)) hx hb hr (nb_bz q1) (fun t ht hW => ⟨⟨(L 100), (), rfl, rfl, by rw [ht]; exact hP, va_K.moved hW.alike hK, hD⟩, hS.F ht⟩) hS.2.2 dX12_good_14
        · rw [if_neg q1] at h; cases h
  exact (blk k0).1 L0 σ0 r0 h0 s.heap [] ls hP hD hS hl
/-! init_ -/
def x_init_ : Nat → Nat → (Nat → Int32) → MS → Option (Int32 × MS)
  | 0, _, _, _ => none
  | k + 1, 0, L, σ => x_init_ k 1 L (upd σ.1 2 0, σ.2.1, σ.2.2)
  | k + 1, 1, L, σ => x_init_ k 2 L (upd σ.1 4 0, σ.2.1, σ.2.2)
  | k + 1, 2, L, σ => x_init_ k 3 L (upd σ.1 11 0, σ.2.1, σ.2.2)
  | k + 1, 3, L, σ => x_init_ k 4 L (upd σ.1 54 0, σ.2.1, σ.2.2)
  | k + 1, 4, L, σ => x_init_ k 5 L (upd σ.1 55 4, σ.2.1, σ.2.2)
  | k + 1, 5, L, σ => x_init_ k 6 L (upd σ.1 59 0, σ.2.1, σ.2.2)
  | k + 1, 6, L, σ => x_init_ k 7 L (upd σ.1 72 0, σ.2.1, σ.2.2)
  | k + 1, 7, L, σ => x_init_ k 8 L (upd σ.1 63 0, σ.2.1, σ.2.2)
  | k + 1, 8, L, σ => x_init_ k 9 L (upd σ.1 65 0, σ.2.1, σ.2.2)
  | k + 1, 9, L, σ => x_init_ k 10 L (upd σ.1 73 0, σ.2.1, σ.2.2)
  | k + 1, 10, L, σ => x_init_ k 11 L (upd σ.1 79 0, σ.2.1, σ.2.2)
  | k + 1, 11, L, σ => x_init_ k 12 L (upd σ.1 109 0, σ.2.1, σ.2.2)
  | k + 1, 12, L, σ => x_init_ k 13 L (upd σ.1 120 0, σ.2.1, σ.2.2)
  | k + 1, 13, L, σ => if ¬ ((0 : Int32) < 0 ∨ 2 ≤ (0 : Int32).toNatClampNeg) then (x_init_ k 14 L (σ.1, σ.2.1, updG σ.2.2 40 (upd (σ.2.2 40) (0 : Int32).toNatClampNeg 0))) else none
  | k + 1, 14, L, σ => if ¬ ((1 : Int32) < 0 ∨ 2 ≤ (1 : Int32).toNatClampNeg) then (x_init_ k 15 L (σ.1, σ.2.1, updG σ.2.2 40 (upd (σ.2.2 40) (1 : Int32).toNatClampNeg 0))) else none
  | k + 1, 15, L, σ => x_init_ k 16 L (upd σ.1 111 0, σ.2.1, σ.2.2)
  | k + 1, 16, L, σ => x_init_ k 17 L (upd σ.1 112 0, σ.2.1, σ.2.2)
  | k + 1, 17, L, σ => x_init_ k 18 L (upd σ.1 115 0, σ.2.1, σ.2.2)
  | k + 1, 18, L, σ => x_init_ k 19 L (upd σ.1 22 1, σ.2.1, σ.2.2)
  | k + 1, 19, L, σ => x_init_ k 20 L (upd σ.1 24 0, σ.2.1, σ.2.2)
  | k + 1, 20, L, σ => x_init_ k 21 L (upd σ.1 25 0, σ.2.1, σ.2.2)
  | k + 1, 21, L, σ => if ¬ ((0 : Int32) < 0 ∨ 43 ≤ (0 : Int32).toNatClampNeg) then (x_init_ k 22 L (σ.1, σ.2.1, updG σ.2.2 21 (upd (σ.2.2 21) (0 : Int32).toNatClampNeg 0))) else none
  | k + 1, 22, L, σ => x_init_ k 23 L (upd σ.1 44 0, σ.2.1, σ.2.2)
  | k + 1, 23, L, σ => x_init_ k 24 L (upd σ.1 31 0, σ.2.1, σ.2.2)
  | k + 1, 24, L, σ => if ¬ ((1 : Int32) < 0 ∨ 11514 ≤ (1 : Int32).toNatClampNeg) then (x_init_ k 25 L (σ.1, σ.2.1, updG σ.2.2 30 (upd (σ.2.2 30) (1 : Int32).toNatClampNeg 0))) else none
  | k + 1, 25, L, σ => if ¬ ((3 : Int32) < 0 ∨ 11514 ≤ (3 : Int32).toNatClampNeg) then (x_init_ k 26 L (σ.1, σ.2.1, updG σ.2.2 30 (upd (σ.2.2 30) (3 : Int32).toNatClampNeg 0))) else none
  | k + 1, 26, L, σ => if ¬ ((2 : Int32) < 0 ∨ 11514 ≤ (2 : Int32).toNatClampNeg) then (x_init_ k 27 L (σ.1, σ.2.1, updG σ.2.2 30 (upd (σ.2.2 30) (2 : Int32).toNatClampNeg 0))) else none
  | k + 1, 27, L, σ => x_init_ k 28 (upd L 1 0) σ
  | k + 1, 28, L, σ => if 60 ≤ ((L 1)) then (x_init_ k 30 L σ) else (if ¬ (((4 + ((L 1)))) < 0 ∨ 11514 ≤ ((4 + ((L 1)))).toNatClampNeg) then (x_init_ k 29 L (σ.1, σ.2.1, updG σ.2.2 30 (upd (σ.2.2 30) ((4 + ((L 1)))).toNatClampNeg 0))) else none)
  | k + 1, 29, L, σ => x_init_ k 28 (upd L 1 (((L 1)) + 1)) σ
  | k + 1, 30, L, σ => x_init_ k 31 (upd L 1 0) σ
  | k + 1, 31, L, σ => if 1380 ≤ ((L 1)) then (x_init_ k 33 L σ) else (if ¬ (((L 1)) < 0 ∨ 1380 ≤ ((L 1)).toNatClampNeg) then (x_init_ k 32 L (σ.1, σ.2.1, updG σ.2.2 33 (upd (σ.2.2 33) ((L 1)).toNatClampNeg 0))) else none)
  | k + 1, 32, L, σ => x_init_ k 31 (upd L 1 (((L 1)) + 1)) σ
  | k + 1, 33, L, σ => x_init_ k 34 (upd L 1 0) σ
  | k + 1, 34, L, σ => if 8 ≤ ((L 1)) then (x_init_ k 38 L σ) else (if ¬ (((L 1)) < 0 ∨ 8 ≤ ((L 1)).toNatClampNeg) then (x_init_ k 35 L (σ.1, σ.2.1, updG σ.2.2 36 (upd (σ.2.2 36) ((L 1)).toNatClampNeg 0))) else none)
  | k + 1, 35, L, σ => if ¬ (((L 1)) < 0 ∨ 8 ≤ ((L 1)).toNatClampNeg) then (x_init_ k 36 L (σ.1, σ.2.1, updG σ.2.2 37 (upd (σ.2.2 37) ((L 1)).toNatClampNeg 0))) else none
  | k + 1, 36, L, σ => if ¬ (((L 1)) < 0 ∨ 8 ≤ ((L 1)).toNatClampNeg) then (x_init_ k 37 L (σ.1, σ.2.1, updG σ.2.2 38 (upd (σ.2.2 38) ((L 1)).toNatClampNeg 0))) else none
  | k + 1, 37, L, σ => x_init_ k 34 (upd L 1 (((L 1)) + 1)) σ
  | k + 1, 38, L, σ => some (0, σ)
  | _ + 1, _ + 39, _, _ => none
def o_x_init_ : List Cond := [.fieldLink RX12 993 "SetHouseModel" "code" "I", .fieldLink RX12 1 "SetHouseModel" "taped" "I", .fieldLink RX12 15 "SetHouseModel" "faultCode" "I", .fieldLink RX12 378 "SetHouseModel" "base" "I", .fieldLink RX12 375 "SetHouseModel" "high" "I", .fieldLink RX12 385 "SetHouseModel" "top" "I", .fieldLink RX12 414 "SetHouseModel" "evTop" "I", .fieldLink RX12 402 "SetHouseModel" "points" "I", .fieldLink RX12 855 "SetHouseModel" "pointsTotal" "I", .fieldLink RX12 1029 "SetHouseModel" "views" "I", .fieldLink RX12 1032 "SetHouseModel" "shownCount" "I", .fieldLink RX12 1035 "SetHouseModel" "workOfExp" "I", .fieldLink RX12 1038 "SetHouseModel" "shownSize" "I", .fieldLink RX12 426 "SetHouseModel" "showns" "[I", .fieldLink RX12 1041 "SetHouseModel" "isProgram" "Z", .fieldLink RX12 1044 "SetHouseModel" "isRun" "Z", .fieldLink RX12 1047 "SetHouseModel" "programSize" "I", .fieldLink RX12 80 "SetHouseModel" "nodes" "I", .fieldLink RX12 105 "SetHouseModel" "pooled" "I", .fieldLink RX12 139 "SetHouseModel" "entities" "I", .fieldLink RX12 157 "SetHouseModel" "held" "[I", .fieldLink RX12 297 "SetHouseModel" "statements" "I", .fieldLink RX12 349 "SetHouseModel" "procs" "I", .fieldLink RX12 395 "SetHouseModel" "st" "[I", .fieldLink RX12 408 "SetHouseModel" "frames" "[I", .fieldLink RX12 417 "SetHouseModel" "viewValue" "[I", .fieldLink RX12 420 "SetHouseModel" "viewCame" "[I", .fieldLink RX12 423 "SetHouseModel" "viewWent" "[I"]
theorem o_x_init__good : o_x_init_.all goodWord = true := by decide +kernel
def p_x_init_ : List Cond := o_x_init_ ++ []
theorem p_x_init__good : p_x_init_.all goodWord = true := nb_all2 o_x_init__good rfl
def w_x_init_ : List Cond := .code yX12_init_ cX12_init_ 2 none :: (p_x_init_ ++ fM)
theorem w_x_init__good : w_x_init_.all goodWord = true := nb_allc (by decide +kernel) (nb_all2 p_x_init__good fM_good)
theorem in_x_init_ : ∀ w ∈ wsX120, w ∈ w_x_init_ := fun _ h => List.mem_cons_of_mem _ (List.mem_append_right _ h)
set_option maxHeartbeats 40000000 in
set_option maxRecDepth 100000 in
theorem c_x_init_ (l : Launch) (dC : Nat → ClassId) (dI : Nat → Nat → Nat) (cy : Nat → ClassId) (a : Nat → Nat) (k0 : Nat) (L0 : Nat → Int32) (σ0 : MS) (r0 : Int32 × MS) (h0 : x_init_ k0 0 L0 σ0 = some r0) (sz : Nat) : Met l yX12_init_ w_x_init_ ({ frames := 0, cells := 0, slots := 0, locals := 0 }) (va_Pc [.ref (a 0)] (nIn (dC, dI) cy sz (vM cy a σ0))) (va_Qv (fun _ : Unit => True) (fun _ t => nOut (dC, dI) cy (va_A (vM cy a σ0) sz) (vM cy a r0.2) t) (va_A (vM cy a σ0) sz)) 0 0 (va_A (vM cy a σ0) sz) := by
  refine Met.ofW (cc := cX12_init_) (maxL := 2) (ret := none) (by decide) rfl ?_
  intro p e s m args below meth c s₁ B hml hv
  obtain ⟨rfl, hsz, hP, hK, hD0, hG⟩ := hv
  have hx := B.exec
  have hb := B.bytes
  have hr := B.returns
  have hts := atoms_spec (ws := w_x_init_) B.pre
  have hown : s.vm.findClass RX12 = some m.cls := findClass_of_methodNamed B.named
  have hlocks := B.notSynchronized
  subst hsz
  have hD := hD0.self (sz := s.heap.size)
  generalize hAe : va_A (vM cy a σ0) s.heap.size = A at hD ⊢
  have hA : ∀ q : Nat, s.heap.size ≤ q → A q := fun q h => by rw [← hAe]; exact Or.inr h
  have hS : va_S A s.heap s.heap [] := va_S.rf
  have hl := lv_entry ([.ref (a 0)]) (n := 2) (Nat.le_of_ble_eq_true rfl)
  rw [lg_entry_eq]
  generalize (lg_sl ([.ref (a 0)]) ++ List.replicate (2 - (lg_sl ([.ref (a 0)])).length) Slot.unset).toArray = ls at hl ⊢
  have hl : lv_has ls 2 [(0, .ref (a 0))] := hl
  have blk : ∀ k : Nat, (∀ (L : Nat → Int32) (σ : MS) (r : Int32 × MS), x_init_ k 0 L σ = some r → ∀ (H : Heap) (locs : List Loc) (ls : Array Slot), va_P (dC, dI) nCl (vM cy a σ) H → va_D A (vM cy a σ) → va_S A s.heap H locs → lv_has ls 2 [(0, .ref (a 0))] → W p l e (headSpec w_x_init_ ({ frames := 0, cells := 0, slots := 0, locals := 0 })).room s m #[.ref (a 0)] below meth c H locs 0 0 (MQ below (va_Qv (fun _ : Unit => True) (fun _ t => nOut (dC, dI) cy A (vM cy a r.2) t) A) #[.ref (a 0)] s 0 0 A) (F0 m 0 ls [])) ∧ (∀ (L : Nat → Int32) (σ : MS) (r : Int32 × MS), x_init_ k 1 L σ = some r → ∀ (H : Heap) (locs : List Loc) (ls : Array Slot), va_P (dC, dI) nCl (vM cy a σ) H → va_D A (vM cy a σ) → va_S A s.heap H locs → lv_has ls 2 [(0, .ref (a 0))] → W p l e (headSpec w_x_init_ ({ frames := 0, cells := 0, slots := 0, locals := 0 })).room s m #[.ref (a 0)] below meth c H locs 0 0 (MQ below (va_Qv (fun _ : Unit => True) (fun _ t => nOut (dC, dI) cy A (vM cy a r.2) t) A) #[.ref (a 0)] s 0 0 A) (F0 m 5 ls [])) ∧ (∀ (L : Nat → Int32) (σ : MS) (r : Int32 × MS), x_init_ k 2 L σ = some r → ∀ (H : Heap) (locs : List Loc) (ls : Array Slot), va_P (dC, dI) nCl (vM cy a σ) H → va_D A (vM cy a σ) → va_S A s.heap H locs → lv_has ls 2 [(0, .ref (a 0))] → W p l e (headSpec w_x_init_ ({ frames := 0, cells := 0, slots := 0, locals := 0 })).room s m #[.ref (a 0)] below meth c H locs 0 0 (MQ below (va_Qv (fun _ : Unit => True) (fun _ t => nOut (dC, dI) cy A (vM cy a r.2) t) A) #[.ref (a 0)] s 0 0 A) (F0 m 10 ls [])) ∧ (∀ (L : Nat → Int32) (σ : MS) (r : Int32 × MS), x_init_ k 3 L σ = some r → ∀ (H : Heap) (locs : List Loc) (ls : Array Slot), va_P (dC, dI) nCl (vM cy a σ) H → va_D A (vM cy a σ) → va_S A s.heap H locs → lv_has ls 2 [(0, .ref (a 0))] → W p l e (headSpec w_x_init_ ({ frames := 0, cells := 0, slots := 0, locals := 0 })).room s m #[.ref (a 0)] below meth c H locs 0 0 (MQ below (va_Qv (fun _ : Unit => True) (fun _ t => nOut (dC, dI) cy A (vM cy a r.2) t) A) #[.ref (a 0)] s 0 0 A) (F0 m 15 ls [])) ∧ (∀ (L : Nat → Int32) (σ : MS) (r : Int32 × MS), x_init_ k 4 L σ = some r → ∀ (H : Heap) (locs : List Loc) (ls : Array Slot), va_P (dC, dI) nCl (vM cy a σ) H → va_D A (vM cy a σ) → va_S A s.heap H locs → lv_has ls 2 [(0, .ref (a 0))] → W p l e (headSpec w_x_init_ ({ frames := 0, cells := 0, slots := 0, locals := 0 })).room s m #[.ref (a 0)] below meth c H locs 0 0 (MQ below (va_Qv (fun _ : Unit => True) (fun _ t => nOut (dC, dI) cy A (vM cy a r.2) t) A) #[.ref (a 0)] s 0 0 A) (F0 m 20 ls [])) ∧ (∀ (L : Nat → Int32) (σ : MS) (r : Int32 × MS), x_init_ k 5 L σ = some r → ∀ (H : Heap) (locs : List Loc) (ls : Array Slot), va_P (dC, dI) nCl (vM cy a σ) H → va_D A (vM cy a σ) → va_S A s.heap H locs → lv_has ls 2 [(0, .ref (a 0))] → W p l e (headSpec w_x_init_ ({ frames := 0, cells := 0, slots := 0, locals := 0 })).room s m #[.ref (a 0)] below meth c H locs 0 0 (MQ below (va_Qv (fun _ : Unit => True) (fun _ t => nOut (dC, dI) cy A (vM cy a r.2) t) A) #[.ref (a 0)] s 0 0 A) (F0 m 25 ls [])) ∧ (∀ (L : Nat → Int32) (σ : MS) (r : Int32 × MS), x_init_ k 6 L σ = some r → ∀ (H : Heap) (locs : List Loc) (ls : Array Slot), va_P (dC, dI) nCl (vM cy a σ) H → va_D A (vM cy a σ) → va_S A s.heap H locs → lv_has ls 2 [(0, .ref (a 0))] → W p l e (headSpec w_x_init_ ({ frames := 0, cells := 0, slots := 0, locals := 0 })).room s m #[.ref (a 0)] below meth c H locs 0 0 (MQ below (va_Qv (fun _ : Unit => True) (fun _ t => nOut (dC, dI) cy A (vM cy a r.2) t) A) #[.ref (a 0)] s 0 0 A) (F0 m 30 ls [])) ∧ (∀ (L : Nat → Int32) (σ : MS) (r : Int32 × MS), x_init_ k 7 L σ = some r → ∀ (H : Heap) (locs : List Loc) (ls : Array Slot), va_P (dC, dI) nCl (vM cy a σ) H → va_D A (vM cy a σ) → va_S A s.heap H locs → lv_has ls 2 [(0, .ref (a 0))] → W p l e (headSpec w_x_init_ ({ frames := 0, cells := 0, slots := 0, locals := 0 })).room s m #[.ref (a 0)] below meth c H locs 0 0 (MQ below (va_Qv (fun _ : Unit => True) (fun _ t => nOut (dC, dI) cy A (vM cy a r.2) t) A) #[.ref (a 0)] s 0 0 A) (F0 m 35 ls [])) ∧ (∀ (L : Nat → Int32) (σ : MS) (r : Int32 × MS), x_init_ k 8 L σ = some r → ∀ (H : Heap) (locs : List Loc) (ls : Array Slot), va_P (dC, dI) nCl (vM cy a σ) H → va_D A (vM cy a σ) → va_S A s.heap H locs → lv_has ls 2 [(0, .ref (a 0))] → W p l e (headSpec w_x_init_ ({ frames := 0, cells := 0, slots := 0, locals := 0 })).room s m #[.ref (a 0)] below meth c H locs 0 0 (MQ below (va_Qv (fun _ : Unit => True) (fun _ t => nOut (dC, dI) cy A (vM cy a r.2) t) A) #[.ref (a 0)] s 0 0 A) (F0 m 40 ls [])) ∧ (∀ (L : Nat → Int32) (σ : MS) (r : Int32 × MS), x_init_ k 9 L σ = some r → ∀ (H : Heap) (locs : List Loc) (ls : Array Slot), va_P (dC, dI) nCl (vM cy a σ) H → va_D A (vM cy a σ) → va_S A s.heap H locs → lv_has ls 2 [(0, .ref (a 0))] → W p l e (headSpec w_x_init_ ({ frames := 0, cells := 0, slots := 0, locals := 0 })).room s m #[.ref (a 0)] below meth c H locs 0 0 (MQ below (va_Qv (fun _ : Unit => True) (fun _ t => nOut (dC, dI) cy A (vM cy a r.2) t) A) #[.ref (a 0)] s 0 0 A) (F0 m 45 ls [])) ∧ (∀ (L : Nat → Int32) (σ : MS) (r : Int32 × MS), x_init_ k 10 L σ = some r → ∀ (H : Heap) (locs : List Loc) (ls : Array Slot), va_P (dC, dI) nCl (vM cy a σ) H → va_D A (vM cy a σ) → va_S A s.heap H locs → lv_has ls 2 [(0, .ref (a 0))] → W p l e (headSpec w_x_init_ ({ frames := 0, cells := 0, slots := 0, locals := 0 })).room s m #[.ref (a 0)] below meth c H locs 0 0 (MQ below (va_Qv (fun _ : Unit => True) (fun _ t => nOut (dC, dI) cy A (vM cy a r.2) t) A) #[.ref (a 0)] s 0 0 A) (F0 m 50 ls [])) ∧ (∀ (L : Nat → Int32) (σ : MS) (r : Int32 × MS), x_init_ k 11 L σ = some r → ∀ (H : Heap) (locs : List Loc) (ls : Array Slot), va_P (dC, dI) nCl (vM cy a σ) H → va_D A (vM cy a σ) → va_S A s.heap H locs → lv_has ls 2 [(0, .ref (a 0))] → W p l e (headSpec w_x_init_ ({ frames := 0, cells := 0, slots := 0, locals := 0 })).room s m #[.ref (a 0)] below meth c H locs 0 0 (MQ below (va_Qv (fun _ : Unit => True) (fun _ t => nOut (dC, dI) cy A (vM cy a r.2) t) A) #[.ref (a 0)] s 0 0 A) (F0 m 55 ls [])) ∧ (∀ (L : Nat → Int32) (σ : MS) (r : Int32 × MS), x_init_ k 12 L σ = some r → ∀ (H : Heap) (locs : List Loc) (ls : Array Slot), va_P (dC, dI) nCl (vM cy a σ) H → va_D A (vM cy a σ) → va_S A s.heap H locs → lv_has ls 2 [(0, .ref (a 0))] → W p l e (headSpec w_x_init_ ({ frames := 0, cells := 0, slots := 0, locals := 0 })).room s m #[.ref (a 0)] below meth c H locs 0 0 (MQ below (va_Qv (fun _ : Unit => True) (fun _ t => nOut (dC, dI) cy A (vM cy a r.2) t) A) #[.ref (a 0)] s 0 0 A) (F0 m 60 ls [])) ∧ (∀ (L : Nat → Int32) (σ : MS) (r : Int32 × MS), x_init_ k 13 L σ = some r → ∀ (H : Heap) (locs : List Loc) (ls : Array Slot), va_P (dC, dI) nCl (vM cy a σ) H → va_D A (vM cy a σ) → va_S A s.heap H locs → lv_has ls 2 [(0, .ref (a 0))] → W p l e (headSpec w_x_init_ ({ frames := 0, cells := 0, slots := 0, locals := 0 })).room s m #[.ref (a 0)] below meth c H locs 0 0 (MQ below (va_Qv (fun _ : Unit => True) (fun _ t => nOut (dC, dI) cy A (vM cy a r.2) t) A) #[.ref (a 0)] s 0 0 A) (F0 m 65 ls [])) ∧ (∀ (L : Nat → Int32) (σ : MS) (r : Int32 × MS), x_init_ k 14 L σ = some r → ∀ (H : Heap) (locs : List Loc) (ls : Array Slot), va_P (dC, dI) nCl (vM cy a σ) H → va_D A (vM cy a σ) → va_S A s.heap H locs → lv_has ls 2 [(0, .ref (a 0))] → W p l e (headSpec w_x_init_ ({ frames := 0, cells := 0, slots := 0, locals := 0 })).room s m #[.ref (a 0)] below meth c H locs 0 0 (MQ below (va_Qv (fun _ : Unit => True) (fun _ t => nOut (dC, dI) cy A (vM cy a r.2) t) A) #[.ref (a 0)] s 0 0 A) (F0 m 72 ls [])) ∧ (∀ (L : Nat → Int32) (σ : MS) (r : Int32 × MS), x_init_ k 15 L σ = some r → ∀ (H : Heap) (locs : List Loc) (ls : Array Slot), va_P (dC, dI) nCl (vM cy a σ) H → va_D A (vM cy a σ) → va_S A s.heap H locs → lv_has ls 2 [(0, .ref (a 0))] → W p l e (headSpec w_x_init_ ({ frames := 0, cells := 0, slots := 0, locals := 0 })).room s m #[.ref (a 0)] below meth c H locs 0 0 (MQ below (va_Qv (fun _ : Unit => True) (fun _ t => nOut (dC, dI) cy A (vM cy a r.2) t) A) #[.ref (a 0)] s 0 0 A) (F0 m 79 ls [])) ∧ (∀ (L : Nat → Int32) (σ : MS) (r : Int32 × MS), x_init_ k 16 L σ = some r → ∀ (H : Heap) (locs : List Loc) (ls : Array Slot), va_P (dC, dI) nCl (vM cy a σ) H → va_D A (vM cy a σ) → va_S A s.heap H locs → lv_has ls 2 [(0, .ref (a 0))] → W p l e (headSpec w_x_init_ ({ frames := 0, cells := 0, slots := 0, locals := 0 })).room s m #[.ref (a 0)] below meth c H locs 0 0 (MQ below (va_Qv (fun _ : Unit => True) (fun _ t => nOut (dC, dI) cy A (vM cy a r.2) t) A) #[.ref (a 0)] s 0 0 A) (F0 m 84 ls [])) ∧ (∀ (L : Nat → Int32) (σ : MS) (r : Int32 × MS), x_init_ k 17 L σ = some r → ∀ (H : Heap) (locs : List Loc) (ls : Array Slot), va_P (dC, dI) nCl (vM cy a σ) H → va_D A (vM cy a σ) → va_S A s.heap H locs → lv_has ls 2 [(0, .ref (a 0))] → W p l e (headSpec w_x_init_ ({ frames := 0, cells := 0, slots := 0, locals := 0 })).room s m #[.ref (a 0)] below meth c H locs 0 0 (MQ below (va_Qv (fun _ : Unit => True) (fun _ t => nOut (dC, dI) cy A (vM cy a r.2) t) A) #[.ref (a 0)] s 0 0 A) (F0 m 89 ls [])) ∧ (∀ (L : Nat → Int32) (σ : MS) (r : Int32 × MS), x_init_ k 18 L σ = some r → ∀ (H : Heap) (locs : List Loc) (ls : Array Slot), va_P (dC, dI) nCl (vM cy a σ) H → va_D A (vM cy a σ) → va_S A s.heap H locs → lv_has ls 2 [(0, .ref (a 0))] → W p l e (headSpec w_x_init_ ({ frames := 0, cells := 0, slots := 0, locals := 0 })).room s m #[.ref (a 0)] below meth c H locs 0 0 (MQ below (va_Qv (fun _ : Unit => True) (fun _ t => nOut (dC, dI) cy A (vM cy a r.2) t) A) #[.ref (a 0)] s 0 0 A) (F0 m 94 ls [])) ∧ (∀ (L : Nat → Int32) (σ : MS) (r : Int32 × MS), x_init_ k 19 L σ = some r → ∀ (H : Heap) (locs : List Loc) (ls : Array Slot), va_P (dC, dI) nCl (vM cy a σ) H → va_D A (vM cy a σ) → va_S A s.heap H locs → lv_has ls 2 [(0, .ref (a 0))] → W p l e (headSpec w_x_init_ ({ frames := 0, cells := 0, slots := 0, locals := 0 })).room s m #[.ref (a 0)] below meth c H locs 0 0 (MQ below (va_Qv (fun _ : Unit => True) (fun _ t => nOut (dC, dI) cy A (vM cy a r.2) t) A) #[.ref (a 0)] s 0 0 A) (F0 m 99 ls [])) ∧ (∀ (L : Nat → Int32) (σ : MS) (r : Int32 × MS), x_init_ k 20 L σ = some r → ∀ (H : Heap) (locs : List Loc) (ls : Array Slot), va_P (dC, dI) nCl (vM cy a σ) H → va_D A (vM cy a σ) → va_S A s.heap H locs → lv_has ls 2 [(0, .ref (a 0))] → W p l e (headSpec w_x_init_ ({ frames := 0, cells := 0, slots := 0, locals := 0 })).room s m #[.ref (a 0)] below meth c H locs 0 0 (MQ below (va_Qv (fun _ : Unit => True) (fun _ t => nOut (dC, dI) cy A (vM cy a r.2) t) A) #[.ref (a 0)] s 0 0 A) (F0 m 104 ls [])) ∧ (∀ (L : Nat → Int32) (σ : MS) (r : Int32 × MS), x_init_ k 21 L σ = some r → ∀ (H : Heap) (locs : List Loc) (ls : Array Slot), va_P (dC, dI) nCl (vM cy a σ) H → va_D A (vM cy a σ) → va_S A s.heap H locs → lv_has ls 2 [(0, .ref (a 0))] → W p l e (headSpec w_x_init_ ({ frames := 0, cells := 0, slots := 0, locals := 0 })).room s m #[.ref (a 0)] below meth c H locs 0 0 (MQ below (va_Qv (fun _ : Unit => True) (fun _ t => nOut (dC, dI) cy A (vM cy a r.2) t) A) #[.ref (a 0)] s 0 0 A) (F0 m 109 ls [])) ∧ (∀ (L : Nat → Int32) (σ : MS) (r : Int32 × MS), x_init_ k 22 L σ = some r → ∀ (H : Heap) (locs : List Loc) (ls : Array Slot), va_P (dC, dI) nCl (vM cy a σ) H → va_D A (vM cy a σ) → va_S A s.heap H locs → lv_has ls 2 [(0, .ref (a 0))] → W p l e (headSpec w_x_init_ ({ frames := 0, cells := 0, slots := 0, locals := 0 })).room s m #[.ref (a 0)] below meth c H locs 0 0 (MQ below (va_Qv (fun _ : Unit => True) (fun _ t => nOut (dC, dI) cy A (vM cy a r.2) t) A) #[.ref (a 0)] s 0 0 A) (F0 m 116 ls [])) ∧ (∀ (L : Nat → Int32) (σ : MS) (r : Int32 × MS), x_init_ k 23 L σ = some r → ∀ (H : Heap) (locs : List Loc) (ls : Array Slot), va_P (dC, dI) nCl (vM cy a σ) H → va_D A (vM cy a σ) → va_S A s.heap H locs → lv_has ls 2 [(0, .ref (a 0))] → W p l e (headSpec w_x_init_ ({ frames := 0, cells := 0, slots := 0, locals := 0 })).room s m #[.ref (a 0)] below meth c H locs 0 0 (MQ below (va_Qv (fun _ : Unit => True) (fun _ t => nOut (dC, dI) cy A (vM cy a r.2) t) A) #[.ref (a 0)] s 0 0 A) (F0 m 121 ls [])) ∧ (∀ (L : Nat → Int32) (σ : MS) (r : Int32 × MS), x_init_ k 24 L σ = some r → ∀ (H : Heap) (locs : List Loc) (ls : Array Slot), va_P (dC, dI) nCl (vM cy a σ) H → va_D A (vM cy a σ) → va_S A s.heap H locs → lv_has ls 2 [(0, .ref (a 0))] → W p l e (headSpec w_x_init_ ({ frames := 0, cells := 0, slots := 0, locals := 0 })).room s m #[.ref (a 0)] below meth c H locs 0 0 (MQ below (va_Qv (fun _ : Unit => True) (fun _ t => nOut (dC, dI) cy A (vM cy a r.2) t) A) #[.ref (a 0)] s 0 0 A) (F0 m 126 ls [])) ∧ (∀ (L : Nat → Int32) (σ : MS) (r : Int32 × MS), x_init_ k 25 L σ = some r → ∀ (H : Heap) (locs : List Loc) (ls : Array Slot), va_P (dC, dI) nCl (vM cy a σ) H → va_D A (vM cy a σ) → va_S A s.heap H locs → lv_has ls 2 [(0, .ref (a 0))] → W p l e (headSpec w_x_init_ ({ frames := 0, cells := 0, slots := 0, locals := 0 })).room s m #[.ref (a 0)] below meth c H locs 0 0 (MQ below (va_Qv (fun _ : Unit => True) (fun _ t => nOut (dC, dI) cy A (vM cy a r.2) t) A) #[.ref (a 0)] s 0 0 A) (F0 m 133 ls [])) ∧ (∀ (L : Nat → Int32) (σ : MS) (r : Int32 × MS), x_init_ k 26 L σ = some r → ∀ (H : Heap) (locs : List Loc) (ls : Array Slot), va_P (dC, dI) nCl (vM cy a σ) H → va_D A (vM cy a σ) → va_S A s.heap H locs → lv_has ls 2 [(0, .ref (a 0))] → W p l e (headSpec w_x_init_ ({ frames := 0, cells := 0, slots := 0, locals := 0 })).room s m #[.ref (a 0)] below meth c H locs 0 0 (MQ below (va_Qv (fun _ : Unit => True) (fun _ t => nOut (dC, dI) cy A (vM cy a r.2) t) A) #[.ref (a 0)] s 0 0 A) (F0 m 140 ls [])) ∧ (∀ (L : Nat → Int32) (σ : MS) (r : Int32 × MS), x_init_ k 27 L σ = some r → ∀ (H : Heap) (locs : List Loc) (ls : Array Slot), va_P (dC, dI) nCl (vM cy a σ) H → va_D A (vM cy a σ) → va_S A s.heap H locs → lv_has ls 2 [(0, .ref (a 0))] → W p l e (headSpec w_x_init_ ({ frames := 0, cells := 0, slots := 0, locals := 0 })).room s m #[.ref (a 0)] below meth c H locs 0 0 (MQ below (va_Qv (fun _ : Unit => True) (fun _ t => nOut (dC, dI) cy A (vM cy a r.2) t) A) #[.ref (a 0)] s 0 0 A) (F0 m 147 ls [])) ∧ (∀ (L : Nat → Int32) (σ : MS) (r : Int32 × MS), x_init_ k 28 L σ = some r → ∀ (H : Heap) (locs : List Loc) (ls : Array Slot), va_P (dC, dI) nCl (vM cy a σ) H → va_D A (vM cy a σ) → va_S A s.heap H locs → lv_has ls 2 [(0, .ref (a 0)), (1, .int (L 1))] → W p l e (headSpec w_x_init_ ({ frames := 0, cells := 0, slots := 0, locals := 0 })).room s m #[.ref (a 0)] below meth c H locs 0 0 (MQ below (va_Qv (fun _ : Unit => True) (fun _ t => nOut (dC, dI) cy A (vM cy a r.2) t) A) #[.ref (a 0)] s 0 0 A) (F0 m 149 ls [])) ∧ (∀ (L : Nat → Int32) (σ : MS) (r : Int32 × MS), x_init_ k 29 L σ = some r → ∀ (H : Heap) (locs : List Loc) (ls : Array Slot), va_P (dC, dI) nCl (vM cy a σ) H → va_D A (vM cy a σ) → va_S A s.heap H locs → lv_has ls 2 [(0, .ref (a 0)), (1, .int (L 1))] → W p l e (headSpec w_x_init_ ({ frames := 0, cells := 0, slots := 0, locals := 0 })).room s m #[.ref (a 0)] below meth c H locs 0 0 (MQ below (va_Qv (fun _ : Unit => True) (fun _ t => nOut (dC, dI) cy A (vM cy a r.2) t) A) #[.ref (a 0)] s 0 0 A) (F0 m 164 ls [])) ∧ (∀ (L : Nat → Int32) (σ : MS) (r : Int32 × MS), x_init_ k 30 L σ = some r → ∀ (H : Heap) (locs : List Loc) (ls : Array Slot), va_P (dC, dI) nCl (vM cy a σ) H → va_D A (vM cy a σ) → va_S A s.heap H locs → lv_has ls 2 [(0, .ref (a 0)), (1, .int (L 1))] → W p l e (headSpec w_x_init_ ({ frames := 0, cells := 0, slots := 0, locals := 0 })).room s m #[.ref (a 0)] below meth c H locs 0 0 (MQ below (va_Qv (fun _ : Unit => True) (fun _ t => nOut (dC, dI) cy A (vM cy a r.2) t) A) #[.ref (a 0)] s 0 0 A) (F0 m 170 ls [])) ∧ (∀ (L : Nat → Int32) (σ : MS) (r : Int32 × MS), x_init_ k 31 L σ = some r → ∀ (H : Heap) (locs : List Loc) (ls : Array Slot), va_P (dC, dI) nCl (vM cy a σ) H → va_D A (vM cy a σ) → va_S A s.heap H locs → lv_has ls 2 [(0, .ref (a 0)), (1, .int (L 1))] → W p l e (headSpec w_x_init_ ({ frames := 0, cells := 0, slots := 0, locals := 0 })).room s m #[.ref (a 0)] below meth c H locs 0 0 (MQ below (va_Qv (fun _ : Unit => True) (fun _ t => nOut (dC, dI) cy A (vM cy a r.2) t) A) #[.ref (a 0)] s 0 0 A) (F0 m 172 ls [])) ∧ (∀ (L : Nat → Int32) (σ : MS) (r : Int32 × MS), x_init_ k 32 L σ = some r → ∀ (H : Heap) (locs : List Loc) (ls : Array Slot), va_P (dC, dI) nCl (vM cy a σ) H → va_D A (vM cy a σ) → va_S A s.heap H locs → lv_has ls 2 [(0, .ref (a 0)), (1, .int (L 1))] → W p l e (headSpec w_x_init_ ({ frames := 0, cells := 0, slots := 0, locals := 0 })).room s m #[.ref (a 0)] below meth c H locs 0 0 (MQ below (va_Qv (fun _ : Unit => True) (fun _ t => nOut (dC, dI) cy A (vM cy a r.2) t) A) #[.ref (a 0)] s 0 0 A) (F0 m 186 ls [])) ∧ (∀ (L : Nat → Int32) (σ : MS) (r : Int32 × MS), x_init_ k 33 L σ = some r → ∀ (H : Heap) (locs : List Loc) (ls : Array Slot), va_P (dC, dI) nCl (vM cy a σ) H → va_D A (vM cy a σ) → va_S A s.heap H locs → lv_has ls 2 [(0, .ref (a 0)), (1, .int (L 1))] → W p l e (headSpec w_x_init_ ({ frames := 0, cells := 0, slots := 0, locals := 0 })).room s m #[.ref (a 0)] below meth c H locs 0 0 (MQ below (va_Qv (fun _ : Unit => True) (fun _ t => nOut (dC, dI) cy A (vM cy a r.2) t) A) #[.ref (a 0)] s 0 0 A) (F0 m 192 ls [])) ∧ (∀ (L : Nat → Int32) (σ : MS) (r : Int32 × MS), x_init_ k 34 L σ = some r → ∀ (H : Heap) (locs : List Loc) (ls : Array Slot), va_P (dC, dI) nCl (vM cy a σ) H → va_D A (vM cy a σ) → va_S A s.heap H locs → lv_has ls 2 [(0, .ref (a 0)), (1, .int (L 1))] → W p l e (headSpec w_x_init_ ({ frames := 0, cells := 0, slots := 0, locals := 0 })).room s m #[.ref (a 0)] below meth c H locs 0 0 (MQ below (va_Qv (fun _ : Unit => True) (fun _ t => nOut (dC, dI) cy A (vM cy a r.2) t) A) #[.ref (a 0)] s 0 0 A) (F0 m 194 ls [])) ∧ (∀ (L : Nat → Int32) (σ : MS) (r : Int32 × MS), x_init_ k 35 L σ = some r → ∀ (H : Heap) (locs : List Loc) (ls : Array Slot), va_P (dC, dI) nCl (vM cy a σ) H → va_D A (vM cy a σ) → va_S A s.heap H locs → lv_has ls 2 [(0, .ref (a 0)), (1, .int (L 1))] → W p l e (headSpec w_x_init_ ({ frames := 0, cells := 0, slots := 0, locals := 0 })).room s m #[.ref (a 0)] below meth c H locs 0 0 (MQ below (va_Qv (fun _ : Unit => True) (fun _ t => nOut (dC, dI) cy A (vM cy a r.2) t) A) #[.ref (a 0)] s 0 0 A) (F0 m 207 ls [])) ∧ (∀ (L : Nat → Int32) (σ : MS) (r : Int32 × MS), x_init_ k 36 L σ = some r → ∀ (H : Heap) (locs : List Loc) (ls : Array Slot), va_P (dC, dI) nCl (vM cy a σ) H → va_D A (vM cy a σ) → va_S A s.heap H locs → lv_has ls 2 [(0, .ref (a 0)), (1, .int (L 1))] → W p l e (headSpec w_x_init_ ({ frames := 0, cells := 0, slots := 0, locals := 0 })).room s m #[.ref (a 0)] below meth c H locs 0 0 (MQ below (va_Qv (fun _ : Unit => True) (fun _ t => nOut (dC, dI) cy A (vM cy a r.2) t) A) #[.ref (a 0)] s 0 0 A) (F0 m 214 ls [])) ∧ (∀ (L : Nat → Int32) (σ : MS) (r : Int32 × MS), x_init_ k 37 L σ = some r → ∀ (H : Heap) (locs : List Loc) (ls : Array Slot), va_P (dC, dI) nCl (vM cy a σ) H → va_D A (vM cy a σ) → va_S A s.heap H locs → lv_has ls 2 [(0, .ref (a 0)), (1, .int (L 1))] → W p l e (headSpec w_x_init_ ({ frames := 0, cells := 0, slots := 0, locals := 0 })).room s m #[.ref (a 0)] below meth c H locs 0 0 (MQ below (va_Qv (fun _ : Unit => True) (fun _ t => nOut (dC, dI) cy A (vM cy a r.2) t) A) #[.ref (a 0)] s 0 0 A) (F0 m 221 ls [])) ∧ (∀ (L : Nat → Int32) (σ : MS) (r : Int32 × MS), x_init_ k 38 L σ = some r → ∀ (H : Heap) (locs : List Loc) (ls : Array Slot), va_P (dC, dI) nCl (vM cy a σ) H → va_D A (vM cy a σ) → va_S A s.heap H locs → lv_has ls 2 [(0, .ref (a 0)), (1, .int (L 1))] → W p l e (headSpec w_x_init_ ({ frames := 0, cells := 0, slots := 0, locals := 0 })).room s m #[.ref (a 0)] below meth c H locs 0 0 (MQ below (va_Qv (fun _ : Unit => True) (fun _ t => nOut (dC, dI) cy A (vM cy a r.2) t) A) #[.ref (a 0)] s 0 0 A) (F0 m 227 ls [])) := by
    intro k
    induction k with
    | zero => exact ⟨fun L σ r h => (by cases h), fun L σ r h => (by cases h), fun L σ r h => (by cases h), fun L σ r h => (by cases h), fun L σ r h => (by cases h), fun L σ r h => (by cases h), fun L σ r h => (by cases h), fun L σ r h => (by cases h), fun L σ r h => (by cases h), fun L σ r h => (by cases h), fun L σ r h => (by cases h), fun L σ r h => (by cases h), fun L σ r h => (by cases h), fun L σ r h => (by cases h), fun L σ r h => (by cases h), fun L σ r h => (by cases h), fun L σ r h => (by cases h), fun L σ r h => (by cases h), fun L σ r h => (by cases h), fun L σ r h => (by cases h), fun L σ r h => (by cases h), fun L σ r h => (by cases h), fun L σ r h => (by cases h), fun L σ r h => (by cases h), fun L σ r h => (by cases h), fun L σ r h => (by cases h), fun L σ r h => (by cases h), fun L σ r h => (by cases h), fun L σ r h => (by cases h), fun L σ r h => (by cases h), fun L σ r h => (by cases h), fun L σ r h => (by cases h), fun L σ r h => (by cases h), fun L σ r h => (by cases h), fun L σ r h => (by cases h), fun L σ r h => (by cases h), fun L σ r h => (by cases h), fun L σ r h => (by cases h), fun L σ r h => (by cases h)⟩
    | succ k ih =>
      refine ⟨?_, ?_, ?_, ?_, ?_, ?_, ?_, ?_, ?_, ?_, ?_, ?_, ?_, ?_, ?_, ?_, ?_, ?_, ?_, ?_, ?_, ?_, ?_, ?_, ?_, ?_, ?_, ?_, ?_, ?_, ?_, ?_, ?_, ?_, ?_, ?_, ?_, ?_, ?_⟩
      · intro L σ r h H locs ls hP hD hS hl
        rw [x_init_] at h
        refine lv_aload_n hx hb dX12_init__0 rfl (lv_at hl 0 rfl) ?_
        refine lv_iconst (v := 0) hx hb dX12_init__1 (by decide) ?_
        refine va_put (D := (dC, dI)) (ci := 11) (v := .int 0) (ty := .int) (C := RX12) (T := TX12) (N := 121) hx hb hts in_x_init_ tyX12 tyX12_ok nmX12 hown hK hP hD hS 0 rfl rfl 2 (by decide) (hts _ (List.mem_cons_of_mem _ (List.mem_append_left _ (List.mem_append_left _ (List.mem_of_getElem? (i := 0) rfl))))) (fun _ h9 => h9) rfl (by decide +kernel) rfl rfl (Nat.le_of_ble_eq_true rfl) dX12_init__2 (fun H locs hP hD hS => ?_)
        have hP : va_P (dC, dI) nCl (vM cy a (upd σ.1 2 0, σ.2.1, σ.2.2)) H := hP
        have hD : va_D A (vM cy a (upd σ.1 2 0, σ.2.1, σ.2.2)) := hD
        exact ih.2.1 L (upd σ.1 2 0, σ.2.1, σ.2.2) r h H locs ls hP hD hS (lv_sub hl [0] rfl)
      · intro L σ r h H locs ls hP hD hS hl
        rw [x_init_] at h
        refine lv_aload_n hx hb dX12_init__5 rfl (lv_at hl 0 rfl) ?_
        refine lv_iconst (v := 0) hx hb dX12_init__6 (by decide) ?_
        refine va_put (D := (dC, dI)) (ci := 11) (v := .int 0) (ty := .int) (C := RX12) (T := TX12) (N := 121) hx hb hts in_x_init_ tyX12 tyX12_ok nmX12 hown hK hP hD hS 0 rfl rfl 4 (by decide) (hts _ (List.mem_cons_of_mem _ (List.mem_append_left _ (List.mem_append_left _ (List.mem_of_getElem? (i := 1) rfl))))) (fun _ h9 => h9) rfl (by decide +kernel) rfl rfl (Nat.le_of_ble_eq_true rfl) dX12_init__7 (fun H locs hP hD hS => ?_)
        have hP : va_P (dC, dI) nCl (vM cy a (upd σ.1 4 0, σ.2.1, σ.2.2)) H := hP
        have hD : va_D A (vM cy a (upd σ.1 4 0, σ.2.1, σ.2.2)) := hD
        exact ih.2.2.1 L (upd σ.1 4 0, σ.2.1, σ.2.2) r h H locs ls hP hD hS (lv_sub hl [0] rfl)
      · intro L σ r h H locs ls hP hD hS hl
        rw [x_init_] at h
        refine lv_aload_n hx hb dX12_init__10 rfl (lv_at hl 0 rfl) ?_
        refine lv_iconst (v := 0) hx hb dX12_init__11 (by decide) ?_
        refine va_put (D := (dC, dI)) (ci := 11) (v := .int 0) (ty := .int) (C := RX12) (T := TX12) (N := 121) hx hb hts in_x_init_ tyX12 tyX12_ok nmX12 hown hK hP hD hS 0 rfl rfl 11 (by decide) (hts _ (List.mem_cons_of_mem _ (List.mem_append_left _ (List.mem_append_left _ (List.mem_of_getElem? (i := 2) rfl))))) (fun _ h9 => h9) rfl (by decide +kernel) rfl rfl (Nat.le_of_ble_eq_true rfl) dX12_init__12 (fun H locs hP hD hS => ?_)
        have hP : va_P (dC, dI) nCl (vM cy a (upd σ.1 11 0, σ.2.1, σ.2.2)) H := hP
        have hD : va_D A (vM cy a (upd σ.1 11 0, σ.2.1, σ.2.2)) := hD
        exact ih.2.2.2.1 L (upd σ.1 11 0, σ.2.1, σ.2.2) r h H locs ls hP hD hS (lv_sub hl [0] rfl)
      · intro L σ r h H locs ls hP hD hS hl
        rw [x_init_] at h
        refine lv_aload_n hx hb dX12_init__15 rfl (lv_at hl 0 rfl) ?_
        refine lv_iconst (v := 0) hx hb dX12_init__16 (by decide) ?_
        refine va_put (D := (dC, dI)) (ci := 11) (v := .int 0) (ty := .int) (C := RX12) (T := TX12) (N := 121) hx hb hts in_x_init_ tyX12 tyX12_ok nmX12 hown hK hP hD hS 0 rfl rfl 54 (by decide) (hts _ (List.mem_cons_of_mem _ (List.mem_append_left _ (List.mem_append_left _ (List.mem_of_getElem? (i := 3) rfl))))) (fun _ h9 => h9) rfl (by decide +kernel) rfl rfl (Nat.le_of_ble_eq_true rfl) dX12_init__17 (fun H locs hP hD hS => ?_)
        have hP : va_P (dC, dI) nCl (vM cy a (upd σ.1 54 0, σ.2.1, σ.2.2)) H := hP
        have hD : va_D A (vM cy a (upd σ.1 54 0, σ.2.1, σ.2.2)) := hD
        exact ih.2.2.2.2.1 L (upd σ.1 54 0, σ.2.1, σ.2.2) r h H locs ls hP hD hS (lv_sub hl [0] rfl)
      · intro L σ r h H locs ls hP hD hS hl
        rw [x_init_] at h
        refine lv_aload_n hx hb dX12_init__20 rfl (lv_at hl 0 rfl) ?_
        refine lv_iconst (v := 4) hx hb dX12_init__21 (by decide) ?_
        refine va_put (D := (dC, dI)) (ci := 11) (v := .int 4) (ty := .int) (C := RX12) (T := TX12) (N := 121) hx hb hts in_x_init_ tyX12 tyX12_ok nmX12 hown hK hP hD hS 0 rfl rfl 55 (by decide) (hts _ (List.mem_cons_of_mem _ (List.mem_append_left _ (List.mem_append_left _ (List.mem_of_getElem? (i := 4) rfl))))) (fun _ h9 => h9) rfl (by decide +kernel) rfl rfl (Nat.le_of_ble_eq_true rfl) dX12_init__22 (fun H locs hP hD hS => ?_)
        have hP : va_P (dC, dI) nCl (vM cy a (upd σ.1 55 4, σ.2.1, σ.2.2)) H := hP
        have hD : va_D A (vM cy a (upd σ.1 55 4, σ.2.1, σ.2.2)) := hD
        exact ih.2.2.2.2.2.1 L (upd σ.1 55 4, σ.2.1, σ.2.2) r h H locs ls hP hD hS (lv_sub hl [0] rfl)
      · intro L σ r h H locs ls hP hD hS hl
        rw [x_init_] at h
        refine lv_aload_n hx hb dX12_init__25 rfl (lv_at hl 0 rfl) ?_
        refine lv_iconst (v := 0) hx hb dX12_init__26 (by decide) ?_
        refine va_put (D := (dC, dI)) (ci := 11) (v := .int 0) (ty := .int) (C := RX12) (T := TX12) (N := 121) hx hb hts in_x_init_ tyX12 tyX12_ok nmX12 hown hK hP hD hS 0 rfl rfl 59 (by decide) (hts _ (List.mem_cons_of_mem _ (List.mem_append_left _ (List.mem_append_left _ (List.mem_of_getElem? (i := 5) rfl))))) (fun _ h9 => h9) rfl (by decide +kernel) rfl rfl (Nat.le_of_ble_eq_true rfl) dX12_init__27 (fun H locs hP hD hS => ?_)
        have hP : va_P (dC, dI) nCl (vM cy a (upd σ.1 59 0, σ.2.1, σ.2.2)) H := hP
        have hD : va_D A (vM cy a (upd σ.1 59 0, σ.2.1, σ.2.2)) := hD
        exact ih.2.2.2.2.2.2.1 L (upd σ.1 59 0, σ.2.1, σ.2.2) r h H locs ls hP hD hS (lv_sub hl [0] rfl)
      · intro L σ r h H locs ls hP hD hS hl
        rw [x_init_] at h
        refine lv_aload_n hx hb dX12_init__30 rfl (lv_at hl 0 rfl) ?_
        refine lv_iconst (v := 0) hx hb dX12_init__31 (by decide) ?_
        refine va_put (D := (dC, dI)) (ci := 11) (v := .int 0) (ty := .int) (C := RX12) (T := TX12) (N := 121) hx hb hts in_x_init_ tyX12 tyX12_ok nmX12 hown hK hP hD hS 0 rfl rfl 72 (by decide) (hts _ (List.mem_cons_of_mem _ (List.mem_append_left _ (List.mem_append_left _ (List.mem_of_getElem? (i := 6) rfl))))) (fun _ h9 => h9) rfl (by decide +kernel) rfl rfl (Nat.le_of_ble_eq_true rfl) dX12_init__32 (fun H locs hP hD hS => ?_)
        have hP : va_P (dC, dI) nCl (vM cy a (upd σ.1 72 0, σ.2.1, σ.2.2)) H := hP
        have hD : va_D A (vM cy a (upd σ.1 72 0, σ.2.1, σ.2.2)) := hD
        exact ih.2.2.2.2.2.2.2.1 L (upd σ.1 72 0, σ.2.1, σ.2.2) r h H locs ls hP hD hS (lv_sub hl [0] rfl)
      · intro L σ r h H locs ls hP hD hS hl
        rw [x_init_] at h
        refine lv_aload_n hx hb dX12_init__35 rfl (lv_at hl 0 rfl) ?_
        refine lv_iconst (v := 0) hx hb dX12_init__36 (by decide) ?_
        refine va_put (D := (dC, dI)) (ci := 11) (v := .int 0) (ty := .int) (C := RX12) (T := TX12) (N := 121) hx hb hts in_x_init_ tyX12 tyX12_ok nmX12 hown hK hP hD hS 0 rfl rfl 63 (by decide) (hts _ (List.mem_cons_of_mem _ (List.mem_append_left _ (List.mem_append_left _ (List.mem_of_getElem? (i := 7) rfl))))) (fun _ h9 => h9) rfl (by decide +kernel) rfl rfl (Nat.le_of_ble_eq_true rfl) dX12_init__37 (fun H locs hP hD hS => ?_)
        have hP : va_P (dC, dI) nCl (vM cy a (upd σ.1 63 0, σ.2.1, σ.2.2)) H := hP
        have hD : va_D A (vM cy a (upd σ.1 63 0, σ.2.1, σ.2.2)) := hD
        exact ih.2.2.2.2.2.2.2.2.1 L (upd σ.1 63 0, σ.2.1, σ.2.2) r h H locs ls hP hD hS (lv_sub hl [0] rfl)
      · intro L σ r h H locs ls hP hD hS hl
        rw [x_init_] at h
        refine lv_aload_n hx hb dX12_init__40 rfl (lv_at hl 0 rfl) ?_
        refine lv_iconst (v := 0) hx hb dX12_init__41 (by decide) ?_
        refine va_put (D := (dC, dI)) (ci := 11) (v := .int 0) (ty := .int) (C := RX12) (T := TX12) (N := 121) hx hb hts in_x_init_ tyX12 tyX12_ok nmX12 hown hK hP hD hS 0 rfl rfl 65 (by decide) (hts _ (List.mem_cons_of_mem _ (List.mem_append_left _ (List.mem_append_left _ (List.mem_of_getElem? (i := 8) rfl))))) (fun _ h9 => h9) rfl (by decide +kernel) rfl rfl (Nat.le_of_ble_eq_true rfl) dX12_init__42 (fun H locs hP hD hS => ?_)
        have hP : va_P (dC, dI) nCl (vM cy a (upd σ.1 65 0, σ.2.1, σ.2.2)) H := hP
        have hD : va_D A (vM cy a (upd σ.1 65 0, σ.2.1, σ.2.2)) := hD
        exact ih.2.2.2.2.2.2.2.2.2.1 L (upd σ.1 65 0, σ.2.1, σ.2.2) r h H locs ls hP hD hS (lv_sub hl [0] rfl)
      · intro L σ r h H locs ls hP hD hS hl
        rw [x_init_] at h
        refine lv_aload_n hx hb dX12_init__45 rfl (lv_at hl 0 rfl) ?_
        refine lv_iconst (v := 0) hx hb dX12_init__46 (by decide) ?_
        refine va_put (D := (dC, dI)) (ci := 11) (v := .int 0) (ty := .int) (C := RX12) (T := TX12) (N := 121) hx hb hts in_x_init_ tyX12 tyX12_ok nmX12 hown hK hP hD hS 0 rfl rfl 73 (by decide) (hts _ (List.mem_cons_of_mem _ (List.mem_append_left _ (List.mem_append_left _ (List.mem_of_getElem? (i := 9) rfl))))) (fun _ h9 => h9) rfl (by decide +kernel) rfl rfl (Nat.le_of_ble_eq_true rfl) dX12_init__47 (fun H locs hP hD hS => ?_)
        have hP : va_P (dC, dI) nCl (vM cy a (upd σ.1 73 0, σ.2.1, σ.2.2)) H := hP
        have hD : va_D A (vM cy a (upd σ.1 73 0, σ.2.1, σ.2.2)) := hD
        exact ih.2.2.2.2.2.2.2.2.2.2.1 L (upd σ.1 73 0, σ.2.1, σ.2.2) r h H locs ls hP hD hS (lv_sub hl [0] rfl)
      · intro L σ r h H locs ls hP hD hS hl
        rw [x_init_] at h
        refine lv_aload_n hx hb dX12_init__50 rfl (lv_at hl 0 rfl) ?_
        refine lv_iconst (v := 0) hx hb dX12_init__51 (by decide) ?_
        refine va_put (D := (dC, dI)) (ci := 11) (v := .int 0) (ty := .int) (C := RX12) (T := TX12) (N := 121) hx hb hts in_x_init_ tyX12 tyX12_ok nmX12 hown hK hP hD hS 0 rfl rfl 79 (by decide) (hts _ (List.mem_cons_of_mem _ (List.mem_append_left _ (List.mem_append_left _ (List.mem_of_getElem? (i := 10) rfl))))) (fun _ h9 => h9) rfl (by decide +kernel) rfl rfl (Nat.le_of_ble_eq_true rfl) dX12_init__52 (fun H locs hP hD hS => ?_)
        have hP : va_P (dC, dI) nCl (vM cy a (upd σ.1 79 0, σ.2.1, σ.2.2)) H := hP
        have hD : va_D A (vM cy a (upd σ.1 79 0, σ.2.1, σ.2.2)) := hD
        exact ih.2.2.2.2.2.2.2.2.2.2.2.1 L (upd σ.1 79 0, σ.2.1, σ.2.2) r h H locs ls hP hD hS (lv_sub hl [0] rfl)
      · intro L σ r h H locs ls hP hD hS hl
        rw [x_init_] at h
        refine lv_aload_n hx hb dX12_init__55 rfl (lv_at hl 0 rfl) ?_
        refine lv_iconst (v := 0) hx hb dX12_init__56 (by decide) ?_
        refine va_put (D := (dC, dI)) (ci := 11) (v := .int 0) (ty := .int) (C := RX12) (T := TX12) (N := 121) hx hb hts in_x_init_ tyX12 tyX12_ok nmX12 hown hK hP hD hS 0 rfl rfl 109 (by decide) (hts _ (List.mem_cons_of_mem _ (List.mem_append_left _ (List.mem_append_left _ (List.mem_of_getElem? (i := 11) rfl))))) (fun _ h9 => h9) rfl (by decide +kernel) rfl rfl (Nat.le_of_ble_eq_true rfl) dX12_init__57 (fun H locs hP hD hS => ?_)
        have hP : va_P (dC, dI) nCl (vM cy a (upd σ.1 109 0, σ.2.1, σ.2.2)) H := hP
        have hD : va_D A (vM cy a (upd σ.1 109 0, σ.2.1, σ.2.2)) := hD
        exact ih.2.2.2.2.2.2.2.2.2.2.2.2.1 L (upd σ.1 109 0, σ.2.1, σ.2.2) r h H locs ls hP hD hS (lv_sub hl [0] rfl)
      · intro L σ r h H locs ls hP hD hS hl
        rw [x_init_] at h
        refine lv_aload_n hx hb dX12_init__60 rfl (lv_at hl 0 rfl) ?_
        refine lv_iconst (v := 0) hx hb dX12_init__61 (by decide) ?_
        refine va_put (D := (dC, dI)) (ci := 11) (v := .int 0) (ty := .int) (C := RX12) (T := TX12) (N := 121) hx hb hts in_x_init_ tyX12 tyX12_ok nmX12 hown hK hP hD hS 0 rfl rfl 120 (by decide) (hts _ (List.mem_cons_of_mem _ (List.mem_append_left _ (List.mem_append_left _ (List.mem_of_getElem? (i := 12) rfl))))) (fun _ h9 => h9) rfl (by decide +kernel) rfl rfl (Nat.le_of_ble_eq_true rfl) dX12_init__62 (fun H locs hP hD hS => ?_)
        have hP : va_P (dC, dI) nCl (vM cy a (upd σ.1 120 0, σ.2.1, σ.2.2)) H := hP
        have hD : va_D A (vM cy a (upd σ.1 120 0, σ.2.1, σ.2.2)) := hD
        exact ih.2.2.2.2.2.2.2.2.2.2.2.2.2.1 L (upd σ.1 120 0, σ.2.1, σ.2.2) r h H locs ls hP hD hS (lv_sub hl [0] rfl)
      · intro L σ r h H locs ls hP hD hS hl
        rw [x_init_] at h
        refine lv_aload_n hx hb dX12_init__65 rfl (lv_at hl 0 rfl) ?_
        refine va_get (D := (dC, dI)) (ci := 11) (v := .ref (a 40)) (C := RX12) (T := TX12) (N := 121) hx hb hts in_x_init_ hown hK hP 0 rfl rfl 78 (by decide) (hts _ (List.mem_cons_of_mem _ (List.mem_append_left _ (List.mem_append_left _ (List.mem_of_getElem? (i := 13) rfl))))) (fun _ h9 => h9) rfl dX12_init__66 ?_
        refine lv_iconst (v := 0) hx hb dX12_init__69 (by decide) ?_
        refine lv_iconst (v := 0) hx hb dX12_init__70 (by decide) ?_
        by_cases q1 : ¬ ((0 : Int32) < 0 ∨ 2 ≤ (0 : Int32).toNatClampNeg)
        · rw [if_pos q1] at h
          refine va_iast hx hb hK hP hD hS 40 1 rfl rfl (nb_inp q1) dX12_init__71 (fun H locs hP hD hS => ?_)
          have hP : va_P (dC, dI) nCl (vM cy a (σ.1, σ.2.1, updG σ.2.2 40 (upd (σ.2.2 40) (0 : Int32).toNatClampNeg 0))) H := hP
          have hD : va_D A (vM cy a (σ.1, σ.2.1, updG σ.2.2 40 (upd (σ.2.2 40) (0 : Int32).toNatClampNeg 0))) := hD
          exact ih.2.2.2.2.2.2.2.2.2.2.2.2.2.2.1 L (σ.1, σ.2.1, updG σ.2.2 40 (upd (σ.2.2 40) (0 : Int32).toNatClampNeg 0)) r h H locs ls hP hD hS (lv_sub hl [0] rfl)
        · rw [if_neg q1] at h; cases h
      · intro L σ r h H locs ls hP hD hS hl
        rw [x_init_] at h
        refine lv_aload_n hx hb dX12_init__72 rfl (lv_at hl 0 rfl) ?_
        refine va_get (D := (dC, dI)) (ci := 11) (v := .ref (a 40)) (C := RX12) (T := TX12) (N := 121) hx hb hts in_x_init_ hown hK hP 0 rfl rfl 78 (by decide) (hts _ (List.mem_cons_of_mem _ (List.mem_append_left _ (List.mem_append_left _ (List.mem_of_getElem? (i := 13) rfl))))) (fun _ h9 => h9) rfl dX12_init__73 ?_
        refine lv_iconst (v := 1) hx hb dX12_init__76 (by decide) ?_
        refine lv_iconst (v := 0) hx hb dX12_init__77 (by decide) ?_
        by_cases q1 : ¬ ((1 : Int32) < 0 ∨ 2 ≤ (1 : Int32).toNatClampNeg)
        · rw [if_pos q1] at h
          refine va_iast hx hb hK hP hD hS 40 1 rfl rfl (nb_inp q1) dX12_init__78 (fun H locs hP hD hS => ?_)
          have hP : va_P (dC, dI) nCl (vM cy a (σ.1, σ.2.1, updG σ.2.2 40 (upd (σ.2.2 40) (1 : Int32).toNatClampNeg 0))) H := hP
          have hD : va_D A (vM cy a (σ.1, σ.2.1, updG σ.2.2 40 (upd (σ.2.2 40) (1 : Int32).toNatClampNeg 0))) := hD
          exact ih.2.2.2.2.2.2.2.2.2.2.2.2.2.2.2.1 L (σ.1, σ.2.1, updG σ.2.2 40 (upd (σ.2.2 40) (1 : Int32).toNatClampNeg 0)) r h H locs ls hP hD hS (lv_sub hl [0] rfl)
        · rw [if_neg q1] at h; cases h
      · intro L σ r h H locs ls hP hD hS hl
        rw [x_init_] at h
        refine lv_aload_n hx hb dX12_init__79 rfl (lv_at hl 0 rfl) ?_
        refine lv_iconst (v := 0) hx hb dX12_init__80 (by decide) ?_
        refine va_put (D := (dC, dI)) (ci := 11) (v := .int 0) (ty := .boolean) (C := RX12) (T := TX12) (N := 121) hx hb hts in_x_init_ tyX12 tyX12_ok nmX12 hown hK hP hD hS 0 rfl rfl 111 (by decide) (hts _ (List.mem_cons_of_mem _ (List.mem_append_left _ (List.mem_append_left _ (List.mem_of_getElem? (i := 14) rfl))))) (fun _ h9 => h9) rfl (by decide +kernel) rfl rfl (Nat.le_of_ble_eq_true rfl) dX12_init__81 (fun H locs hP hD hS => ?_)
        have hP : va_P (dC, dI) nCl (vM cy a (upd σ.1 111 0, σ.2.1, σ.2.2)) H := hP
        have hD : va_D A (vM cy a (upd σ.1 111 0, σ.2.1, σ.2.2)) := hD
        exact ih.2.2.2.2.2.2.2.2.2.2.2.2.2.2.2.2.1 L (upd σ.1 111 0, σ.2.1, σ.2.2) r h H locs ls hP hD hS (lv_sub hl [0] rfl)
      · intro L σ r h H locs ls hP hD hS hl
        rw [x_init_] at h
        refine lv_aload_n hx hb dX12_init__84 rfl (lv_at hl 0 rfl) ?_
        refine lv_iconst (v := 0) hx hb dX12_init__85 (by decide) ?_
        refine va_put (D := (dC, dI)) (ci := 11) (v := .int 0) (ty := .boolean) (C := RX12) (T := TX12) (N := 121) hx hb hts in_x_init_ tyX12 tyX12_ok nmX12 hown hK hP hD hS 0 rfl rfl 112 (by decide) (hts _ (List.mem_cons_of_mem _ (List.mem_append_left _ (List.mem_append_left _ (List.mem_of_getElem? (i := 15) rfl))))) (fun _ h9 => h9) rfl (by decide +kernel) rfl rfl (Nat.le_of_ble_eq_true rfl) dX12_init__86 (fun H locs hP hD hS => ?_)
        have hP : va_P (dC, dI) nCl (vM cy a (upd σ.1 112 0, σ.2.1, σ.2.2)) H := hP
        have hD : va_D A (vM cy a (upd σ.1 112 0, σ.2.1, σ.2.2)) := hD
        exact ih.2.2.2.2.2.2.2.2.2.2.2.2.2.2.2.2.2.1 L (upd σ.1 112 0, σ.2.1, σ.2.2) r h H locs ls hP hD hS (lv_sub hl [0] rfl)
      · intro L σ r h H locs ls hP hD hS hl
        rw [x_init_] at h
        refine lv_aload_n hx hb dX12_init__89 rfl (lv_at hl 0 rfl) ?_
        refine lv_iconst (v := 0) hx hb dX12_init__90 (by decide) ?_
        refine va_put (D := (dC, dI)) (ci := 11) (v := .int 0) (ty := .int) (C := RX12) (T := TX12) (N := 121) hx hb hts in_x_init_ tyX12 tyX12_ok nmX12 hown hK hP hD hS 0 rfl rfl 115 (by decide) (hts _ (List.mem_cons_of_mem _ (List.mem_append_left _ (List.mem_append_left _ (List.mem_of_getElem? (i := 16) rfl))))) (fun _ h9 => h9) rfl (by decide +kernel) rfl rfl (Nat.le_of_ble_eq_true rfl) dX12_init__91 (fun H locs hP hD hS => ?_)
        have hP : va_P (dC, dI) nCl (vM cy a (upd σ.1 115 0, σ.2.1, σ.2.2)) H := hP
        have hD : va_D A (vM cy a (upd σ.1 115 0, σ.2.1, σ.2.2)) := hD
        exact ih.2.2.2.2.2.2.2.2.2.2.2.2.2.2.2.2.2.2.1 L (upd σ.1 115 0, σ.2.1, σ.2.2) r h H locs ls hP hD hS (lv_sub hl [0] rfl)
      · intro L σ r h H locs ls hP hD hS hl
        rw [x_init_] at h
        refine lv_aload_n hx hb dX12_init__94 rfl (lv_at hl 0 rfl) ?_
        refine lv_iconst (v := 1) hx hb dX12_init__95 (by decide) ?_
        refine va_put (D := (dC, dI)) (ci := 11) (v := .int 1) (ty := .int) (C := RX12) (T := TX12) (N := 121) hx hb hts in_x_init_ tyX12 tyX12_ok nmX12 hown hK hP hD hS 0 rfl rfl 22 (by decide) (hts _ (List.mem_cons_of_mem _ (List.mem_append_left _ (List.mem_append_left _ (List.mem_of_getElem? (i := 17) rfl))))) (fun _ h9 => h9) rfl (by decide +kernel) rfl rfl (Nat.le_of_ble_eq_true rfl) dX12_init__96 (fun H locs hP hD hS => ?_)
        have hP : va_P (dC, dI) nCl (vM cy a (upd σ.1 22 1, σ.2.1, σ.2.2)) H := hP
        have hD : va_D A (vM cy a (upd σ.1 22 1, σ.2.1, σ.2.2)) := hD
        exact ih.2.2.2.2.2.2.2.2.2.2.2.2.2.2.2.2.2.2.2.1 L (upd σ.1 22 1, σ.2.1, σ.2.2) r h H locs ls hP hD hS (lv_sub hl [0] rfl)
      · intro L σ r h H locs ls hP hD hS hl
        rw [x_init_] at h
        refine lv_aload_n hx hb dX12_init__99 rfl (lv_at hl 0 rfl) ?_
        refine lv_iconst (v := 0) hx hb dX12_init__100 (by decide) ?_
        refine va_put (D := (dC, dI)) (ci := 11) (v := .int 0) (ty := .int) (C := RX12) (T := TX12) (N := 121) hx hb hts in_x_init_ tyX12 tyX12_ok nmX12 hown hK hP hD hS 0 rfl rfl 24 (by decide) (hts _ (List.mem_cons_of_mem _ (List.mem_append_left _ (List.mem_append_left _ (List.mem_of_getElem? (i := 18) rfl))))) (fun _ h9 => h9) rfl (by decide +kernel) rfl rfl (Nat.le_of_ble_eq_true rfl) dX12_init__101 (fun H locs hP hD hS => ?_)
        have hP : va_P (dC, dI) nCl (vM cy a (upd σ.1 24 0, σ.2.1, σ.2.2)) H := hP
        have hD : va_D A (vM cy a (upd σ.1 24 0, σ.2.1, σ.2.2)) := hD
        exact ih.2.2.2.2.2.2.2.2.2.2.2.2.2.2.2.2.2.2.2.2.1 L (upd σ.1 24 0, σ.2.1, σ.2.2) r h H locs ls hP hD hS (lv_sub hl [0] rfl)
      · intro L σ r h H locs ls hP hD hS hl
        rw [x_init_] at h
        refine lv_aload_n hx hb dX12_init__104 rfl (lv_at hl 0 rfl) ?_
        refine lv_iconst (v := 0) hx hb dX12_init__105 (by decide) ?_
        refine va_put (D := (dC, dI)) (ci := 11) (v := .int 0) (ty := .int) (C := RX12) (T := TX12) (N := 121) hx hb hts in_x_init_ tyX12 tyX12_ok nmX12 hown hK hP hD hS 0 rfl rfl 25 (by decide) (hts _ (List.mem_cons_of_mem _ (List.mem_append_left _ (List.mem_append_left _ (List.mem_of_getElem? (i := 19) rfl))))) (fun _ h9 => h9) rfl (by decide +kernel) rfl rfl (Nat.le_of_ble_eq_true rfl) dX12_init__106 (fun H locs hP hD hS => ?_)
        have hP : va_P (dC, dI) nCl (vM cy a (upd σ.1 25 0, σ.2.1, σ.2.2)) H := hP
        have hD : va_D A (vM cy a (upd σ.1 25 0, σ.2.1, σ.2.2)) := hD
        exact ih.2.2.2.2.2.2.2.2.2.2.2.2.2.2.2.2.2.2.2.2.2.1 L (upd σ.1 25 0, σ.2.1, σ.2.2) r h H locs ls hP hD hS (lv_sub hl [0] rfl)
      · intro L σ r h H locs ls hP hD hS hl
        rw [x_init_] at h
        refine lv_aload_n hx hb dX12_init__109 rfl (lv_at hl 0 rfl) ?_
        refine va_get (D := (dC, dI)) (ci := 11) (v := .ref (a 21)) (C := RX12) (T := TX12) (N := 121) hx hb hts in_x_init_ hown hK hP 0 rfl rfl 36 (by decide) (hts _ (List.mem_cons_of_mem _ (List.mem_append_left _ (List.mem_append_left _ (List.mem_of_getElem? (i := 20) rfl))))) (fun _ h9 => h9) rfl dX12_init__110 ?_
        refine lv_iconst (v := 0) hx hb dX12_init__113 (by decide) ?_
        refine lv_iconst (v := 0) hx hb dX12_init__114 (by decide) ?_
        by_cases q1 : ¬ ((0 : Int32) < 0 ∨ 43 ≤ (0 : Int32).toNatClampNeg)
        · rw [if_pos q1] at h
          refine va_iast hx hb hK hP hD hS 21 1 rfl rfl (nb_inp q1) dX12_init__115 (fun H locs hP hD hS => ?_)
          have hP : va_P (dC, dI) nCl (vM cy a (σ.1, σ.2.1, updG σ.2.2 21 (upd (σ.2.2 21) (0 : Int32).toNatClampNeg 0))) H := hP
          have hD : va_D A (vM cy a (σ.1, σ.2.1, updG σ.2.2 21 (upd (σ.2.2 21) (0 : Int32).toNatClampNeg 0))) := hD
          exact ih.2.2.2.2.2.2.2.2.2.2.2.2.2.2.2.2.2.2.2.2.2.2.1 L (σ.1, σ.2.1, updG σ.2.2 21 (upd (σ.2.2 21) (0 : Int32).toNatClampNeg 0)) r h H locs ls hP hD hS (lv_sub hl [0] rfl)
        · rw [if_neg q1] at h; cases h
      · intro L σ r h H locs ls hP hD hS hl
        rw [x_init_] at h
        refine lv_aload_n hx hb dX12_init__116 rfl (lv_at hl 0 rfl) ?_
        refine lv_iconst (v := 0) hx hb dX12_init__117 (by decide) ?_
        refine va_put (D := (dC, dI)) (ci := 11) (v := .int 0) (ty := .int) (C := RX12) (T := TX12) (N := 121) hx hb hts in_x_init_ tyX12 tyX12_ok nmX12 hown hK hP hD hS 0 rfl rfl 44 (by decide) (hts _ (List.mem_cons_of_mem _ (List.mem_append_left _ (List.mem_append_left _ (List.mem_of_getElem? (i := 21) rfl))))) (fun _ h9 => h9) rfl (by decide +kernel) rfl rfl (Nat.le_of_ble_eq_true rfl) dX12_init__118 (fun H locs hP hD hS => ?_)
        have hP : va_P (dC, dI) nCl (vM cy a (upd σ.1 44 0, σ.2.1, σ.2.2)) H := hP
        have hD : va_D A (vM cy a (upd σ.1 44 0, σ.2.1, σ.2.2)) := hD
        exact ih.2.2.2.2.2.2.2.2.2.2.2.2.2.2.2.2.2.2.2.2.2.2.2.1 L (upd σ.1 44 0, σ.2.1, σ.2.2) r h H locs ls hP hD hS (lv_sub hl [0] rfl)
      · intro L σ r h H locs ls hP hD hS hl
        rw [x_init_] at h
        refine lv_aload_n hx hb dX12_init__121 rfl (lv_at hl 0 rfl) ?_
        refine lv_iconst (v := 0) hx hb dX12_init__122 (by decide) ?_
        refine va_put (D := (dC, dI)) (ci := 11) (v := .int 0) (ty := .int) (C := RX12) (T := TX12) (N := 121) hx hb hts in_x_init_ tyX12 tyX12_ok nmX12 hown hK hP hD hS 0 rfl rfl 31 (by decide) (hts _ (List.mem_cons_of_mem _ (List.mem_append_left _ (List.mem_append_left _ (List.mem_of_getElem? (i := 22) rfl))))) (fun _ h9 => h9) rfl (by decide +kernel) rfl rfl (Nat.le_of_ble_eq_true rfl) dX12_init__123 (fun H locs hP hD hS => ?_)
        have hP : va_P (dC, dI) nCl (vM cy a (upd σ.1 31 0, σ.2.1, σ.2.2)) H := hP
        have hD : va_D A (vM cy a (upd σ.1 31 0, σ.2.1, σ.2.2)) := hD
        exact ih.2.2.2.2.2.2.2.2.2.2.2.2.2.2.2.2.2.2.2.2.2.2.2.2.1 L (upd σ.1 31 0, σ.2.1, σ.2.2) r h H locs ls hP hD hS (lv_sub hl [0] rfl)
      · intro L σ r h H locs ls hP hD hS hl
        rw [x_init_] at h
        refine lv_aload_n hx hb dX12_init__126 rfl (lv_at hl 0 rfl) ?_
        refine va_get (D := (dC, dI)) (ci := 11) (v := .ref (a 30)) (C := RX12) (T := TX12) (N := 121) hx hb hts in_x_init_ hown hK hP 0 rfl rfl 60 (by decide) (hts _ (List.mem_cons_of_mem _ (List.mem_append_left _ (List.mem_append_left _ (List.mem_of_getElem? (i := 23) rfl))))) (fun _ h9 => h9) rfl dX12_init__127 ?_
        refine lv_iconst (v := 1) hx hb dX12_init__130 (by decide) ?_
        refine lv_iconst (v := 0) hx hb dX12_init__131 (by decide) ?_
        by_cases q1 : ¬ ((1 : Int32) < 0 ∨ 11514 ≤ (1 : Int32).toNatClampNeg)
        · rw [if_pos q1] at h
          refine va_iast hx hb hK hP hD hS 30 1 rfl rfl (nb_inp q1) dX12_init__132 (fun H locs hP hD hS => ?_)
          have hP : va_P (dC, dI) nCl (vM cy a (σ.1, σ.2.1, updG σ.2.2 30 (upd (σ.2.2 30) (1 : Int32).toNatClampNeg 0))) H := hP
          have hD : va_D A (vM cy a (σ.1, σ.2.1, updG σ.2.2 30 (upd (σ.2.2 30) (1 : Int32).toNatClampNeg 0))) := hD
          exact ih.2.2.2.2.2.2.2.2.2.2.2.2.2.2.2.2.2.2.2.2.2.2.2.2.2.1 L (σ.1, σ.2.1, updG σ.2.2 30 (upd (σ.2.2 30) (1 : Int32).toNatClampNeg 0)) r h H locs ls hP hD hS (lv_sub hl [0] rfl)
        · rw [if_neg q1] at h; cases h
      · intro L σ r h H locs ls hP hD hS hl
        rw [x_init_] at h
        refine lv_aload_n hx hb dX12_init__133 rfl (lv_at hl 0 rfl) ?_
        refine va_get (D := (dC, dI)) (ci := 11) (v := .ref (a 30)) (C := RX12) (T := TX12) (N := 121) hx hb hts in_x_init_ hown hK hP 0 rfl rfl 60 (by decide) (hts _ (List.mem_cons_of_mem _ (List.mem_append_left _ (List.mem_append_left _ (List.mem_of_getElem? (i := 23) rfl))))) (fun _ h9 => h9) rfl dX12_init__134 ?_
        refine lv_iconst (v := 3) hx hb dX12_init__137 (by decide) ?_
        refine lv_iconst (v := 0) hx hb dX12_init__138 (by decide) ?_
        by_cases q1 : ¬ ((3 : Int32) < 0 ∨ 11514 ≤ (3 : Int32).toNatClampNeg)
        · rw [if_pos q1] at h
          refine va_iast hx hb hK hP hD hS 30 1 rfl rfl (nb_inp q1) dX12_init__139 (fun H locs hP hD hS => ?_)
          have hP : va_P (dC, dI) nCl (vM cy a (σ.1, σ.2.1, updG σ.2.2 30 (upd (σ.2.2 30) (3 : Int32).toNatClampNeg 0))) H := hP
          have hD : va_D A (vM cy a (σ.1, σ.2.1, updG σ.2.2 30 (upd (σ.2.2 30) (3 : Int32).toNatClampNeg 0))) := hD
          exact ih.2.2.2.2.2.2.2.2.2.2.2.2.2.2.2.2.2.2.2.2.2.2.2.2.2.2.1 L (σ.1, σ.2.1, updG σ.2.2 30 (upd (σ.2.2 30) (3 : Int32).toNatClampNeg 0)) r h H locs ls hP hD hS (lv_sub hl [0] rfl)
        · rw [if_neg q1] at h; cases h
      · intro L σ r h H locs ls hP hD hS hl
        rw [x_init_] at h
        refine lv_aload_n hx hb dX12_init__140 rfl (lv_at hl 0 rfl) ?_
        refine va_get (D := (dC, dI)) (ci := 11) (v := .ref (a 30)) (C := RX12) (T := TX12) (N := 121) hx hb hts in_x_init_ hown hK hP 0 rfl rfl 60 (by decide) (hts _ (List.mem_cons_of_mem _ (List.mem_append_left _ (List.mem_append_left _ (List.mem_of_getElem? (i := 23) rfl))))) (fun _ h9 => h9) rfl dX12_init__141 ?_
        refine lv_iconst (v := 2) hx hb dX12_init__144 (by decide) ?_
        refine lv_iconst (v := 0) hx hb dX12_init__145 (by decide) ?_
        by_cases q1 : ¬ ((2 : Int32) < 0 ∨ 11514 ≤ (2 : Int32).toNatClampNeg)
        · rw [if_pos q1] at h
          refine va_iast hx hb hK hP hD hS 30 1 rfl rfl (nb_inp q1) dX12_init__146 (fun H locs hP hD hS => ?_)
          have hP : va_P (dC, dI) nCl (vM cy a (σ.1, σ.2.1, updG σ.2.2 30 (upd (σ.2.2 30) (2 : Int32).toNatClampNeg 0))) H := hP
          have hD : va_D A (vM cy a (σ.1, σ.2.1, updG σ.2.2 30 (upd (σ.2.2 30) (2 : Int32).toNatClampNeg 0))) := hD
          exact ih.2.2.2.2.2.2.2.2.2.2.2.2.2.2.2.2.2.2.2.2.2.2.2.2.2.2.2.1 L (σ.1, σ.2.1, updG σ.2.2 30 (upd (σ.2.2 30) (2 : Int32).toNatClampNeg 0)) r h H locs ls hP hD hS (lv_sub hl [0] rfl)
        · rw [if_neg q1] at h; cases h
      · intro L σ r h H locs ls hP hD hS hl
        rw [x_init_] at h
        refine lv_iconst (v := 0) hx hb dX12_init__147 (by decide) ?_
        refine lv_istore_n (lv' := [(1, .int 0), (0, .ref (a 0))]) hx hb dX12_init__148 rfl hl (by decide) rfl (fun ls hl => ?_)
        exact ih.2.2.2.2.2.2.2.2.2.2.2.2.2.2.2.2.2.2.2.2.2.2.2.2.2.2.2.2.1 (upd L 1 0) σ r h H locs ls hP hD hS (lv_sub hl [1, 0] rfl)
      · intro L σ r h H locs ls hP hD hS hl
        rw [x_init_] at h
        refine lv_iload_n hx hb dX12_init__149 rfl (lv_at hl 1 rfl) ?_
        refine lv_bipush (v := 60) hx hb dX12_init__150 (by decide) ?_
        refine lv_icmp_ge (tgt := 170) hx hb dX12_init__152 (by decide) (fun c1 => ?_) (fun c1 => ?_)
        · rw [if_pos c1] at h
          exact ih.2.2.2.2.2.2.2.2.2.2.2.2.2.2.2.2.2.2.2.2.2.2.2.2.2.2.2.2.2.2.1 L σ r h H locs ls hP hD hS (lv_sub hl [0, 1] rfl)
        · rw [if_neg c1] at h
          refine lv_aload_n hx hb dX12_init__155 rfl (lv_at hl 0 rfl) ?_
          refine va_get (D := (dC, dI)) (ci := 11) (v := .ref (a 30)) (C := RX12) (T := TX12) (N := 121) hx hb hts in_x_init_ hown hK hP 0 rfl rfl 60 (by decide) (hts _ (List.mem_cons_of_mem _ (List.mem_append_left _ (List.mem_append_left _ (List.mem_of_getElem? (i := 23) rfl))))) (fun _ h9 => h9) rfl dX12_init__156 ?_
          refine lv_iconst (v := 4) hx hb dX12_init__159 (by decide) ?_
          refine lv_iload_n hx hb dX12_init__160 rfl (lv_at hl 1 rfl) ?_
          refine lv_iadd hx hb dX12_init__161 ?_
          refine lv_iconst (v := 0) hx hb dX12_init__162 (by decide) ?_
          by_cases q2 : ¬ (((4 + ((L 1)))) < 0 ∨ 11514 ≤ ((4 + ((L 1)))).toNatClampNeg)
          · rw [if_pos q2] at h
            refine va_iast hx hb hK hP hD hS 30 1 rfl rfl (nb_inp q2) dX12_init__163 (fun H locs hP hD hS => ?_)
            have hP : va_P (dC, dI) nCl (vM cy a (σ.1, σ.2.1, updG σ.2.2 30 (upd (σ.2.2 30) ((4 + ((L 1)))).toNatClampNeg 0))) H := hP
            have hD : va_D A (vM cy a (σ.1, σ.2.1, updG σ.2.2 30 (upd (σ.2.2 30) ((4 + ((L 1)))).toNatClampNeg 0))) := hD
            exact ih.2.2.2.2.2.2.2.2.2.2.2.2.2.2.2.2.2.2.2.2.2.2.2.2.2.2.2.2.2.1 L (σ.1, σ.2.1, updG σ.2.2 30 (upd (σ.2.2 30) ((4 + ((L 1)))).toNatClampNeg 0)) r h H locs ls hP hD hS (lv_sub hl [0, 1] rfl)
          · rw [if_neg q2] at h; cases h
      · intro L σ r h H locs ls hP hD hS hl
        rw [x_init_] at h
        refine lv_iinc (v := ((L 1)) + 1) (lv' := [(1, .int (((L 1)) + 1)), (0, .ref (a 0))]) hx hb dX12_init__164 hl (k := 1) rfl rfl (by decide) rfl (fun ls hl => ?_)
        refine lv_goto (tgt := 149) hx hb dX12_init__167 (by decide) ?_
        exact ih.2.2.2.2.2.2.2.2.2.2.2.2.2.2.2.2.2.2.2.2.2.2.2.2.2.2.2.2.1 (upd L 1 (((L 1)) + 1)) σ r h H locs ls hP hD hS (lv_sub hl [1, 0] rfl)
      · intro L σ r h H locs ls hP hD hS hl
        rw [x_init_] at h
        refine lv_iconst (v := 0) hx hb dX12_init__170 (by decide) ?_
        refine lv_istore_n (lv' := [(1, .int 0), (0, .ref (a 0))]) hx hb dX12_init__171 rfl hl (by decide) rfl (fun ls hl => ?_)
        exact ih.2.2.2.2.2.2.2.2.2.2.2.2.2.2.2.2.2.2.2.2.2.2.2.2.2.2.2.2.2.2.2.1 (upd L 1 0) σ r h H locs ls hP hD hS (lv_sub hl [1, 0] rfl)
      · intro L σ r h H locs ls hP hD hS hl
        rw [x_init_] at h
        refine lv_iload_n hx hb dX12_init__172 rfl (lv_at hl 1 rfl) ?_
        refine lv_sipush (v := 1380) hx hb dX12_init__173 (by decide) ?_
        refine lv_icmp_ge (tgt := 192) hx hb dX12_init__176 (by decide) (fun c1 => ?_) (fun c1 => ?_)
        · rw [if_pos c1] at h
          exact ih.2.2.2.2.2.2.2.2.2.2.2.2.2.2.2.2.2.2.2.2.2.2.2.2.2.2.2.2.2.2.2.2.2.1 L σ r h H locs ls hP hD hS (lv_sub hl [0, 1] rfl)
        · rw [if_neg c1] at h
          refine lv_aload_n hx hb dX12_init__179 rfl (lv_at hl 0 rfl) ?_
          refine va_get (D := (dC, dI)) (ci := 11) (v := .ref (a 33)) (C := RX12) (T := TX12) (N := 121) hx hb hts in_x_init_ hown hK hP 0 rfl rfl 66 (by decide) (hts _ (List.mem_cons_of_mem _ (List.mem_append_left _ (List.mem_append_left _ (List.mem_of_getElem? (i := 24) rfl))))) (fun _ h9 => h9) rfl dX12_init__180 ?_
          refine lv_iload_n hx hb dX12_init__183 rfl (lv_at hl 1 rfl) ?_
          refine lv_iconst (v := 0) hx hb dX12_init__184 (by decide) ?_
          by_cases q2 : ¬ (((L 1)) < 0 ∨ 1380 ≤ ((L 1)).toNatClampNeg)
          · rw [if_pos q2] at h
            refine va_iast hx hb hK hP hD hS 33 1 rfl rfl (nb_inp q2) dX12_init__185 (fun H locs hP hD hS => ?_)
            have hP : va_P (dC, dI) nCl (vM cy a (σ.1, σ.2.1, updG σ.2.2 33 (upd (σ.2.2 33) ((L 1)).toNatClampNeg 0))) H := hP
            have hD : va_D A (vM cy a (σ.1, σ.2.1, updG σ.2.2 33 (upd (σ.2.2 33) ((L 1)).toNatClampNeg 0))) := hD
            exact ih.2.2.2.2.2.2.2.2.2.2.2.2.2.2.2.2.2.2.2.2.2.2.2.2.2.2.2.2.2.2.2.2.1 L (σ.1, σ.2.1, updG σ.2.2 33 (upd (σ.2.2 33) ((L 1)).toNatClampNeg 0)) r h H locs ls hP hD hS (lv_sub hl [0, 1] rfl)
          · rw [if_neg q2] at h; cases h
      · intro L σ r h H locs ls hP hD hS hl
        rw [x_init_] at h
        refine lv_iinc (v := ((L 1)) + 1) (lv' := [(1, .int (((L 1)) + 1)), (0, .ref (a 0))]) hx hb dX12_init__186 hl (k := 1) rfl rfl (by decide) rfl (fun ls hl => ?_)
        refine lv_goto (tgt := 172) hx hb dX12_init__189 (by decide) ?_
        exact ih.2.2.2.2.2.2.2.2.2.2.2.2.2.2.2.2.2.2.2.2.2.2.2.2.2.2.2.2.2.2.2.1 (upd L 1 (((L 1)) + 1)) σ r h H locs ls hP hD hS (lv_sub hl [1, 0] rfl)
      · intro L σ r h H locs ls hP hD hS hl
        rw [x_init_] at h
        refine lv_iconst (v := 0) hx hb dX12_init__192 (by decide) ?_
        refine lv_istore_n (lv' := [(1, .int 0), (0, .ref (a 0))]) hx hb dX12_init__193 rfl hl (by decide) rfl (fun ls hl => ?_)
        exact ih.2.2.2.2.2.2.2.2.2.2.2.2.2.2.2.2.2.2.2.2.2.2.2.2.2.2.2.2.2.2.2.2.2.2.1 (upd L 1 0) σ r h H locs ls hP hD hS (lv_sub hl [1, 0] rfl)
      · intro L σ r h H locs ls hP hD hS hl
        rw [x_init_] at h
        refine lv_iload_n hx hb dX12_init__194 rfl (lv_at hl 1 rfl) ?_
        refine lv_bipush (v := 8) hx hb dX12_init__195 (by decide) ?_
        refine lv_icmp_ge (tgt := 227) hx hb dX12_init__197 (by decide) (fun c1 => ?_) (fun c1 => ?_)
        · rw [if_pos c1] at h
          exact ih.2.2.2.2.2.2.2.2.2.2.2.2.2.2.2.2.2.2.2.2.2.2.2.2.2.2.2.2.2.2.2.2.2.2.2.2.2.2 L σ r h H locs ls hP hD hS (lv_sub hl [0, 1] rfl)
        · rw [if_neg c1] at h
          refine lv_aload_n hx hb dX12_init__200 rfl (lv_at hl 0 rfl) ?_
          refine va_get (D := (dC, dI)) (ci := 11) (v := .ref (a 36)) (C := RX12) (T := TX12) (N := 121) hx hb hts in_x_init_ hown hK hP 0 rfl rfl 74 (by decide) (hts _ (List.mem_cons_of_mem _ (List.mem_append_left _ (List.mem_append_left _ (List.mem_of_getElem? (i := 25) rfl))))) (fun _ h9 => h9) rfl dX12_init__201 ?_
          refine lv_iload_n hx hb dX12_init__204 rfl (lv_at hl 1 rfl) ?_
          refine lv_iconst (v := 0) hx hb dX12_init__205 (by decide) ?_
          by_cases q2 : ¬ (((L 1)) < 0 ∨ 8 ≤ ((L 1)).toNatClampNeg)
          · rw [if_pos q2] at h
            refine va_iast hx hb hK hP hD hS 36 1 rfl rfl (nb_inp q2) dX12_init__206 (fun H locs hP hD hS => ?_)
            have hP : va_P (dC, dI) nCl (vM cy a (σ.1, σ.2.1, updG σ.2.2 36 (upd (σ.2.2 36) ((L 1)).toNatClampNeg 0))) H := hP
            have hD : va_D A (vM cy a (σ.1, σ.2.1, updG σ.2.2 36 (upd (σ.2.2 36) ((L 1)).toNatClampNeg 0))) := hD
            exact ih.2.2.2.2.2.2.2.2.2.2.2.2.2.2.2.2.2.2.2.2.2.2.2.2.2.2.2.2.2.2.2.2.2.2.2.1 L (σ.1, σ.2.1, updG σ.2.2 36 (upd (σ.2.2 36) ((L 1)).toNatClampNeg 0)) r h H locs ls hP hD hS (lv_sub hl [0, 1] rfl)
          · rw [if_neg q2] at h; cases h
      · intro L σ r h H locs ls hP hD hS hl
        rw [x_init_] at h
        refine lv_aload_n hx hb dX12_init__207 rfl (lv_at hl 0 rfl) ?_
        refine va_get (D := (dC, dI)) (ci := 11) (v := .ref (a 37)) (C := RX12) (T := TX12) (N := 121) hx hb hts in_x_init_ hown hK hP 0 rfl rfl 75 (by decide) (hts _ (List.mem_cons_of_mem _ (List.mem_append_left _ (List.mem_append_left _ (List.mem_of_getElem? (i := 26) rfl))))) (fun _ h9 => h9) rfl dX12_init__208 ?_
        refine lv_iload_n hx hb dX12_init__211 rfl (lv_at hl 1 rfl) ?_
        refine lv_iconst (v := 0) hx hb dX12_init__212 (by decide) ?_
        by_cases q1 : ¬ (((L 1)) < 0 ∨ 8 ≤ ((L 1)).toNatClampNeg)
        · rw [if_pos q1] at h
          refine va_iast hx hb hK hP hD hS 37 1 rfl rfl (nb_inp q1) dX12_init__213 (fun H locs hP hD hS => ?_)
          have hP : va_P (dC, dI) nCl (vM cy a (σ.1, σ.2.1, updG σ.2.2 37 (upd (σ.2.2 37) ((L 1)).toNatClampNeg 0))) H := hP
          have hD : va_D A (vM cy a (σ.1, σ.2.1, updG σ.2.2 37 (upd (σ.2.2 37) ((L 1)).toNatClampNeg 0))) := hD
          exact ih.2.2.2.2.2.2.2.2.2.2.2.2.2.2.2.2.2.2.2.2.2.2.2.2.2.2.2.2.2.2.2.2.2.2.2.2.1 L (σ.1, σ.2.1, updG σ.2.2 37 (upd (σ.2.2 37) ((L 1)).toNatClampNeg 0)) r h H locs ls hP hD hS (lv_sub hl [0, 1] rfl)
        · rw [if_neg q1] at h; cases h
      · intro L σ r h H locs ls hP hD hS hl
        rw [x_init_] at h
        refine lv_aload_n hx hb dX12_init__214 rfl (lv_at hl 0 rfl) ?_
        refine va_get (D := (dC, dI)) (ci := 11) (v := .ref (a 38)) (C := RX12) (T := TX12) (N := 121) hx hb hts in_x_init_ hown hK hP 0 rfl rfl 76 (by decide) (hts _ (List.mem_cons_of_mem _ (List.mem_append_left _ (List.mem_append_left _ (List.mem_of_getElem? (i := 27) rfl))))) (fun _ h9 => h9) rfl dX12_init__215 ?_
        refine lv_iload_n hx hb dX12_init__218 rfl (lv_at hl 1 rfl) ?_
        refine lv_iconst (v := 0) hx hb dX12_init__219 (by decide) ?_
        by_cases q1 : ¬ (((L 1)) < 0 ∨ 8 ≤ ((L 1)).toNatClampNeg)
        · rw [if_pos q1] at h
          refine va_iast hx hb hK hP hD hS 38 1 rfl rfl (nb_inp q1) dX12_init__220 (fun H locs hP hD hS => ?_)
          have hP : va_P (dC, dI) nCl (vM cy a (σ.1, σ.2.1, updG σ.2.2 38 (upd (σ.2.2 38) ((L 1)).toNatClampNeg 0))) H := hP
          have hD : va_D A (vM cy a (σ.1, σ.2.1, updG σ.2.2 38 (upd (σ.2.2 38) ((L 1)).toNatClampNeg 0))) := hD
          exact ih.2.2.2.2.2.2.2.2.2.2.2.2.2.2.2.2.2.2.2.2.2.2.2.2.2.2.2.2.2.2.2.2.2.2.2.2.2.1 L (σ.1, σ.2.1, updG σ.2.2 38 (upd (σ.2.2 38) ((L 1)).toNatClampNeg 0)) r h H locs ls hP hD hS (lv_sub hl [0, 1] rfl)
        · rw [if_neg q1] at h; cases h
      · intro L σ r h H locs ls hP hD hS hl
        rw [x_init_] at h
        refine lv_iinc (v := ((L 1)) + 1) (lv' := [(1, .int (((L 1)) + 1)), (0, .ref (a 0))]) hx hb dX12_init__221 hl (k := 1) rfl rfl (by decide) rfl (fun ls hl => ?_)
        refine lv_goto (tgt := 194) hx hb dX12_init__224 (by decide) ?_
        exact ih.2.2.2.2.2.2.2.2.2.2.2.2.2.2.2.2.2.2.2.2.2.2.2.2.2.2.2.2.2.2.2.2.2.2.1 (upd L 1 (((L 1)) + 1)) σ r h H locs ls hP hD hS (lv_sub hl [1, 0] rfl)
      · intro L σ r h H locs ls hP hD hS hl
        rw [x_init_] at h
        cases h
        exact W.vret hx hb hr (fun t ht hW => ⟨⟨(), rfl, trivial, by rw [ht]; exact hP, va_K.moved hW.alike hK, hD⟩, hS.F ht⟩) hS.2.2 dX12_init__227
  exact (blk k0).1 L0 σ0 r0 h0 s.heap [] ls hP hD hS hl
/-! thrown -/
def x_thrown : Nat → Nat → (Nat → Int32) → MS → Option (Int32 × MS)
  | 0, _, _, _ => none
  | k + 1, 0, L, σ => some ((σ.1 2), σ)
  | _ + 1, _ + 1, _, _ => none
def o_x_thrown : List Cond := [.fieldLink RX12 993 "SetHouseModel" "code" "I"]
theorem o_x_thrown_good : o_x_thrown.all goodWord = true := by decide +kernel
def p_x_thrown : List Cond := o_x_thrown ++ []
theorem p_x_thrown_good : p_x_thrown.all goodWord = true := nb_all2 o_x_thrown_good rfl
def w_x_thrown : List Cond := .code yX12_thrown cX12_thrown 1 (some .int) :: (p_x_thrown ++ fM)
theorem w_x_thrown_good : w_x_thrown.all goodWord = true := nb_allc (by decide +kernel) (nb_all2 p_x_thrown_good fM_good)
theorem in_x_thrown : ∀ w ∈ wsX120, w ∈ w_x_thrown := fun _ h => List.mem_cons_of_mem _ (List.mem_append_right _ h)
set_option maxHeartbeats 40000000 in
set_option maxRecDepth 100000 in
theorem c_x_thrown (l : Launch) (dC : Nat → ClassId) (dI : Nat → Nat → Nat) (cy : Nat → ClassId) (a : Nat → Nat) (k0 : Nat) (L0 : Nat → Int32) (σ0 : MS) (r0 : Int32 × MS) (h0 : x_thrown k0 0 L0 σ0 = some r0) (sz : Nat) : Met l yX12_thrown w_x_thrown ({ frames := 0, cells := 0, slots := 0, locals := 0 }) (va_Pc [.ref (a 0)] (nIn (dC, dI) cy sz (vM cy a σ0))) (va_Qi (fun (z : Int32) (_ : Unit) => z = r0.1) (fun _ t => nOut (dC, dI) cy (va_A (vM cy a σ0) sz) (vM cy a r0.2) t) (va_A (vM cy a σ0) sz)) 0 0 (va_A (vM cy a σ0) sz) := by
  refine Met.ofW (cc := cX12_thrown) (maxL := 1) (ret := (some .int)) (by decide) rfl ?_
  intro p e s m args below meth c s₁ B hml hv
  obtain ⟨rfl, hsz, hP, hK, hD0, hG⟩ := hv
  have hx := B.exec
  have hb := B.bytes
  have hr := B.returns
  have hts := atoms_spec (ws := w_x_thrown) B.pre
  have hown : s.vm.findClass RX12 = some m.cls := findClass_of_methodNamed B.named
  have hlocks := B.notSynchronized
  subst hsz
  have hD := hD0.self (sz := s.heap.size)
  generalize hAe : va_A (vM cy a σ0) s.heap.size = A at hD ⊢
  have hA : ∀ q : Nat, s.heap.size ≤ q → A q := fun q h => by rw [← hAe]; exact Or.inr h
  have hS : va_S A s.heap s.heap [] := va_S.rf
  have hl := lv_entry ([.ref (a 0)]) (n := 1) (Nat.le_of_ble_eq_true rfl)
  rw [lg_entry_eq]
  generalize (lg_sl ([.ref (a 0)]) ++ List.replicate (1 - (lg_sl ([.ref (a 0)])).length) Slot.unset).toArray = ls at hl ⊢
  have hl : lv_has ls 1 [(0, .ref (a 0))] := hl
  have blk : ∀ k : Nat, (∀ (L : Nat → Int32) (σ : MS) (r : Int32 × MS), x_thrown k 0 L σ = some r → ∀ (H : Heap) (locs : List Loc) (ls : Array Slot), va_P (dC, dI) nCl (vM cy a σ) H → va_D A (vM cy a σ) → va_S A s.heap H locs → lv_has ls 1 [(0, .ref (a 0))] → W p l e (headSpec w_x_thrown ({ frames := 0, cells := 0, slots := 0, locals := 0 })).room s m #[.ref (a 0)] below meth c H locs 0 0 (MQ below (va_Qi (fun (z : Int32) (_ : Unit) => z = r.1) (fun _ t => nOut (dC, dI) cy A (vM cy a r.2) t) A) #[.ref (a 0)] s 0 0 A) (F0 m 0 ls [])) := by
    intro k
    induction k with
    | zero => exact fun L σ r h => (by cases h)
    | succ k ih =>
      skip
      · intro L σ r h H locs ls hP hD hS hl
        rw [x_thrown] at h
        refine lv_aload_n hx hb dX12_thrown_0 rfl (lv_at hl 0 rfl) ?_
        refine va_get (D := (dC, dI)) (ci := 11) (v := .int (σ.1 2)) (C := RX12) (T := TX12) (N := 121) hx hb hts in_x_thrown hown hK hP 0 rfl rfl 2 (by decide) (hts _ (List.mem_cons_of_mem _ (List.mem_append_left _ (List.mem_append_left _ (List.mem_of_getElem? (i := 0) rfl))))) (fun _ h9 => h9) rfl dX12_thrown_1 ?_
        cases h
        exact W.iret (v := (σ.1 2)) hx hb hr (fun t ht hW => ⟨⟨(σ.1 2), (), rfl, rfl, by rw [ht]; exact hP, va_K.moved hW.alike hK, hD⟩, hS.F ht⟩) hS.2.2 dX12_thrown_4
  exact (blk k0) L0 σ0 r0 h0 s.heap [] ls hP hD hS hl
/-! end -/
def x_end : Nat → Nat → (Nat → Int32) → MS → Option (Int32 × MS)
  | 0, _, _, _ => none
  | k + 1, 0, L, σ => if ((L 1)) < 0 then (x_end k 1 L σ) else (if ((L 1)) ≤ ((σ.1 4)) then (x_end k 2 L σ) else (x_end k 1 L σ))
  | k + 1, 1, L, σ => x_end k 3 (upd L 100 1) σ
  | k + 1, 2, L, σ => x_end k 3 (upd L 100 0) σ
  | k + 1, 3, L, σ => ob (x_good k 0 (upd (fun _ => 0) 1 ((L 100))) σ) (fun r1 => if r1.1 = 0 then (x_end k 4 L r1.2) else (x_end k 4 L (upd r1.2.1 4 ((L 1)), r1.2.2.1, r1.2.2.2)))
  | k + 1, 4, L, σ => some (0, σ)
  | _ + 1, _ + 5, _, _ => none
def o_x_end : List Cond := [.fieldLink RX12 1 "SetHouseModel" "taped" "I", .methodLink RX12 1050 yX12_good, .instanceMethod yX12_good, .selects RX12 yX12_good yX12_good, .initialized RX12]
theorem o_x_end_good : o_x_end.all goodWord = true := by decide +kernel
def p_x_end : List Cond := o_x_end ++ ((.code yX12_good cX12_good 2 (some .boolean) :: p_x_good) ++ [])
theorem p_x_end_good : p_x_end.all goodWord = true := nb_all2 o_x_end_good (nb_all2 (nb_allc (by decide +kernel) p_x_good_good) rfl)
def w_x_end : List Cond := .code yX12_end cX12_end 2 none :: (p_x_end ++ fM)
theorem w_x_end_good : w_x_end.all goodWord = true := nb_allc (by decide +kernel) (nb_all2 p_x_end_good fM_good)
theorem in_x_end : ∀ w ∈ wsX120, w ∈ w_x_end := fun _ h => List.mem_cons_of_mem _ (List.mem_append_right _ h)
theorem gg_x_end_good : GoodIn w_x_end w_x_good := goodIn_sub (fun w h => (List.mem_cons.mp h).elim (fun e => (List.mem_cons_of_mem _ (List.mem_append_left _ (List.mem_append_right _ (List.mem_append_left _ (List.mem_cons.mpr (Or.inl e))))))) (fun h => (List.mem_append.mp h).elim (fun h => (List.mem_cons_of_mem _ (List.mem_append_left _ (List.mem_append_right _ (List.mem_append_left _ (List.mem_cons_of_mem _ h)))))) (fun h => List.mem_cons_of_mem _ (List.mem_append_right _ h)))) w_x_good_good
theorem g_x_end_good_1050 : GoodIn w_x_end (wsV RX12 1050 RX12 yX12_good w_x_good) := goodIn_app (nb_g4 (List.mem_cons_of_mem _ (List.mem_append_left _ (List.mem_append_left _ (List.mem_of_getElem? (i := 1) rfl)))) (List.mem_cons_of_mem _ (List.mem_append_left _ (List.mem_append_left _ (List.mem_of_getElem? (i := 2) rfl)))) (List.mem_cons_of_mem _ (List.mem_append_left _ (List.mem_append_left _ (List.mem_of_getElem? (i := 3) rfl)))) (List.mem_cons_of_mem _ (List.mem_append_left _ (List.mem_append_left _ (List.mem_of_getElem? (i := 4) rfl)))) (by decide +kernel)) gg_x_end_good
set_option maxHeartbeats 40000000 in
set_option maxRecDepth 100000 in
theorem c_x_end (l : Launch) (dC : Nat → ClassId) (dI : Nat → Nat → Nat) (cy : Nat → ClassId) (a : Nat → Nat) (k0 : Nat) (L0 : Nat → Int32) (σ0 : MS) (r0 : Int32 × MS) (h0 : x_end k0 0 L0 σ0 = some r0) (sz : Nat) : Met l yX12_end w_x_end ({ frames := 1, cells := 0, slots := 0, locals := 21 }) (va_Pc [.ref (a 0), .int (L0 1)] (nIn (dC, dI) cy sz (vM cy a σ0))) (va_Qv (fun _ : Unit => True) (fun _ t => nOut (dC, dI) cy (va_A (vM cy a σ0) sz) (vM cy a r0.2) t) (va_A (vM cy a σ0) sz)) 0 0 (va_A (vM cy a σ0) sz) := by
  refine Met.ofW (cc := cX12_end) (maxL := 2) (ret := none) (by decide) rfl ?_
  intro p e s m args below meth c s₁ B hml hv
  obtain ⟨rfl, hsz, hP, hK, hD0, hG⟩ := hv
  have hx := B.exec
  have hb := B.bytes
  have hr := B.returns
  have hts := atoms_spec (ws := w_x_end) B.pre
  have hown : s.vm.findClass RX12 = some m.cls := findClass_of_methodNamed B.named
  have hlocks := B.notSynchronized
  subst hsz
  have hD := hD0.self (sz := s.heap.size)
  generalize hAe : va_A (vM cy a σ0) s.heap.size = A at hD ⊢
  have hA : ∀ q : Nat, s.heap.size ≤ q → A q := fun q h => by rw [← hAe]; exact Or.inr h
  have hS : va_S A s.heap s.heap [] := va_S.rf
  have hl := lv_entry ([.ref (a 0), .int (L0 1)]) (n := 2) (Nat.le_of_ble_eq_true rfl)
  rw [lg_entry_eq]
  generalize (lg_sl ([.ref (a 0), .int (L0 1)]) ++ List.replicate (2 - (lg_sl ([.ref (a 0), .int (L0 1)])).length) Slot.unset).toArray = ls at hl ⊢
  have hl : lv_has ls 2 [(0, .ref (a 0)), (1, .int (L0 1))] := hl
  have blk : ∀ k : Nat, (∀ (L : Nat → Int32) (σ : MS) (r : Int32 × MS), x_end k 0 L σ = some r → ∀ (H : Heap) (locs : List Loc) (ls : Array Slot), va_P (dC, dI) nCl (vM cy a σ) H → va_D A (vM cy a σ) → va_S A s.heap H locs → lv_has ls 2 [(0, .ref (a 0)), (1, .int (L 1))] → W p l e (headSpec w_x_end ({ frames := 1, cells := 0, slots := 0, locals := 21 })).room s m #[.ref (a 0), .int (L0 1)] below meth c H locs 0 0 (MQ below (va_Qv (fun _ : Unit => True) (fun _ t => nOut (dC, dI) cy A (vM cy a r.2) t) A) #[.ref (a 0), .int (L0 1)] s 0 0 A) (F0 m 0 ls [])) ∧ (∀ (L : Nat → Int32) (σ : MS) (r : Int32 × MS), x_end k 1 L σ = some r → ∀ (H : Heap) (locs : List Loc) (ls : Array Slot), va_P (dC, dI) nCl (vM cy a σ) H → va_D A (vM cy a σ) → va_S A s.heap H locs → lv_has ls 2 [(0, .ref (a 0)), (1, .int (L 1))] → W p l e (headSpec w_x_end ({ frames := 1, cells := 0, slots := 0, locals := 21 })).room s m #[.ref (a 0), .int (L0 1)] below meth c H locs 0 0 (MQ below (va_Qv (fun _ : Unit => True) (fun _ t => nOut (dC, dI) cy A (vM cy a r.2) t) A) #[.ref (a 0), .int (L0 1)] s 0 0 A) (F0 m 13 ls [.ref (a 0)])) ∧ (∀ (L : Nat → Int32) (σ : MS) (r : Int32 × MS), x_end k 2 L σ = some r → ∀ (H : Heap) (locs : List Loc) (ls : Array Slot), va_P (dC, dI) nCl (vM cy a σ) H → va_D A (vM cy a σ) → va_S A s.heap H locs → lv_has ls 2 [(0, .ref (a 0)), (1, .int (L 1))] → W p l e (headSpec w_x_end ({ frames := 1, cells := 0, slots := 0, locals := 21 })).room s m #[.ref (a 0), .int (L0 1)] below meth c H locs 0 0 (MQ below (va_Qv (fun _ : Unit => True) (fun _ t => nOut (dC, dI) cy A (vM cy a r.2) t) A) #[.ref (a 0), .int (L0 1)] s 0 0 A) (F0 m 17 ls [.ref (a 0)])) ∧ (∀ (L : Nat → Int32) (σ : MS) (r : Int32 × MS), x_end k 3 L σ = some r → ∀ (H : Heap) (locs : List Loc) (ls : Array Slot), va_P (dC, dI) nCl (vM cy a σ) H → va_D A (vM cy a σ) → va_S A s.heap H locs → lv_has ls 2 [(0, .ref (a 0)), (1, .int (L 1))] → W p l e (headSpec w_x_end ({ frames := 1, cells := 0, slots := 0, locals := 21 })).room s m #[.ref (a 0), .int (L0 1)] below meth c H locs 0 0 (MQ below (va_Qv (fun _ : Unit => True) (fun _ t => nOut (dC, dI) cy A (vM cy a r.2) t) A) #[.ref (a 0), .int (L0 1)] s 0 0 A) (F0 m 18 ls [.int (L 100), .ref (a 0)])) ∧ (∀ (L : Nat → Int32) (σ : MS) (r : Int32 × MS), x_end k 4 L σ = some r → ∀ (H : Heap) (locs : List Loc) (ls : Array Slot), va_P (dC, dI) nCl (vM cy a σ) H → va_D A (vM cy a σ) → va_S A s.heap H locs → lv_has ls 2 [(0, .ref (a 0)), (1, .int (L 1))] → W p l e (headSpec w_x_end ({ frames := 1, cells := 0, slots := 0, locals := 21 })).room s m #[.ref (a 0), .int (L0 1)] below meth c H locs 0 0 (MQ below (va_Qv (fun _ : Unit => True) (fun _ t => nOut (dC, dI) cy A (vM cy a r.2) t) A) #[.ref (a 0), .int (L0 1)] s 0 0 A) (F0 m 29 ls [])) := by
    intro k
    induction k with
    | zero => exact ⟨fun L σ r h => (by cases h), fun L σ r h => (by cases h), fun L σ r h => (by cases h), fun L σ r h => (by cases h), fun L σ r h => (by cases h)⟩
    | succ k ih =>
      refine ⟨?_, ?_, ?_, ?_, ?_⟩
      · intro L σ r h H locs ls hP hD hS hl
        rw [x_end] at h
        refine lv_aload_n hx hb dX12_end_0 rfl (lv_at hl 0 rfl) ?_
        refine lv_iload_n hx hb dX12_end_1 rfl (lv_at hl 1 rfl) ?_
        refine lv_if_lt (tgt := 13) hx hb dX12_end_2 (by decide) (fun c1 => ?_) (fun c1 => ?_)
        · rw [if_pos c1] at h
          exact ih.2.1 L σ r h H locs ls hP hD hS (lv_sub hl [0, 1] rfl)
        · rw [if_neg c1] at h
          refine lv_iload_n hx hb dX12_end_5 rfl (lv_at hl 1 rfl) ?_
          refine lv_aload_n hx hb dX12_end_6 rfl (lv_at hl 0 rfl) ?_
          refine va_get (D := (dC, dI)) (ci := 11) (v := .int (σ.1 4)) (C := RX12) (T := TX12) (N := 121) hx hb hts in_x_end hown hK hP 0 rfl rfl 4 (by decide) (hts _ (List.mem_cons_of_mem _ (List.mem_append_left _ (List.mem_append_left _ (List.mem_of_getElem? (i := 0) rfl))))) (fun _ h9 => h9) rfl dX12_end_7 ?_
          refine lv_icmp_le (tgt := 17) hx hb dX12_end_10 (by decide) (fun c2 => ?_) (fun c2 => ?_)
          · rw [if_pos c2] at h
            exact ih.2.2.1 L σ r h H locs ls hP hD hS (lv_sub hl [0, 1] rfl)
          · rw [if_neg c2] at h
            exact ih.2.1 L σ r h H locs ls hP hD hS (lv_sub hl [0, 1] rfl)
      · intro L σ r h H locs ls hP hD hS hl
        rw [x_end] at h
        refine lv_iconst (v := 1) hx hb dX12_end_13 (by decide) ?_
        refine lv_goto (tgt := 18) hx hb dX12_end_14 (by decide) ?_
        exact ih.2.2.2.1 (upd L 100 1) σ r h H locs ls hP hD hS (lv_sub hl [0, 1] rfl)
      · intro L σ r h H locs ls hP hD hS hl
        rw [x_end] at h
        refine lv_iconst (v := 0) hx hb dX12_end_17 (by decide) ?_
        exact ih.2.2.2.1 (upd L 100 0) σ r h H locs ls hP hD hS (lv_sub hl [0, 1] rfl)
      · intro L σ r h H locs ls hP hD hS hl
        rw [x_end] at h
        cases hc1 : x_good k 0 (upd (fun _ => 0) 1 ((L 100))) σ with
        | none => rw [hc1, ob_none] at h; cases h
        | some r1 =>
          rw [hc1, ob_some] at h
          have hFc := va_free (wc := vM cy a σ) hD hS hA [0, 1, 2, 3, 4, 5, 6, 7, 8, 9, 10, 11, 12, 13, 14, 15, 16, 17, 18, 19, 20, 21, 22, 23, 24, 25, 26, 27, 28, 29, 30, 31, 32, 33, 34, 35, 36, 37, 38, 39, 40, 41, 42, 43, 44, 45, 46, 47, 48, 49, 50, 51, 52, 53, 54, 55, 56, 57] rfl
          refine va_calli (va_runV (As := [.int (L 100)]) (rest := []) ⟨hx, hb, hml, hown, hts⟩ (c_x_good l dC dI cy a k (upd (fun _ => 0) 1 ((L 100))) σ r1 hc1 H.size) (cwV 1 hts g_x_end_good_1050 rfl rfl rfl (by decide +kernel) ⟨Nat.le_of_ble_eq_true rfl, Nat.le_of_ble_eq_true rfl⟩) ⟨nb_blind, va_recv hK hP (ci := 11) (q0 := 0) rfl rfl, fun U hU hW => ⟨rfl, by rw [hU], by rw [hU]; exact hP, va_K.moved hW.alike hK, hD.weaken (fun _ _ _ _ => trivial), hG.warm hW⟩⟩ rfl rfl hl.1 rfl (lv_room (Nat.le_of_ble_eq_true rfl)) dX12_end_18 ⟨Nat.le_of_ble_eq_true rfl, Nat.le_of_ble_eq_true rfl⟩) hS (fun q _ h => hFc q h) hFc (fun z9 _ t H1 locs ht hvm hw hB hz1 hk1 hS => ?_)
          subst hw
          obtain ⟨hP1, hK1, hD1⟩ := hB
          rw [ht] at hP1
          obtain ⟨hP, hD⟩ := va_join (wr := []) (w1 := vM cy a r1.2) hP hD [0, 1, 2, 3, 4, 5, 6, 7, 8, 9, 10, 11, 12, 13, 14, 15, 16, 17, 18, 19, 20, 21, 22, 23, 24, 25, 26, 27, 28, 29, 30, 31, 32, 33, 34, 35, 36, 37, 38, 39, 40, 41, 42, 43, 44, 45, 46, 47, 48, 49, 50, 51, 52, 53, 54, 55, 56, 57] [] rfl rfl (by decide) (by decide) hk1 hFc hP1 hD1
          generalize H1 = H at hP hS ⊢
          have hP : va_P (dC, dI) nCl (vM cy a r1.2) H := hP
          have hD : va_D A (vM cy a r1.2) := hD
          refine lv_if_eq (tgt := 29) hx hb dX12_end_21 (by decide) (fun c2 => ?_) (fun c2 => ?_)
          · rw [if_pos c2] at h
            exact ih.2.2.2.2 L r1.2 r h H locs ls hP hD hS (lv_sub hl [0, 1] rfl)
          · rw [if_neg c2] at h
            refine lv_aload_n hx hb dX12_end_24 rfl (lv_at hl 0 rfl) ?_
            refine lv_iload_n hx hb dX12_end_25 rfl (lv_at hl 1 rfl) ?_
            refine va_put (D := (dC, dI)) (ci := 11) (v := .int (L 1)) (ty := .int) (C := RX12) (T := TX12) (N := 121) hx hb hts in_x_end tyX12 tyX12_ok nmX12 hown hK hP hD hS 0 rfl rfl 4 (by decide) (hts _ (List.mem_cons_of_mem _ (List.mem_append_left _ (List.mem_append_left _ (List.mem_of_getElem? (i := 0) rfl))))) (fun _ h9 => h9) rfl (by decide +kernel) rfl rfl (Nat.le_of_ble_eq_true rfl) dX12_end_26 (fun H locs hP hD hS => ?_)
            have hP : va_P (dC, dI) nCl (vM cy a (upd r1.2.1 4 ((L 1)), r1.2.2.1, r1.2.2.2)) H := hP
            have hD : va_D A (vM cy a (upd r1.2.1 4 ((L 1)), r1.2.2.1, r1.2.2.2)) := hD
            exact ih.2.2.2.2 L (upd r1.2.1 4 ((L 1)), r1.2.2.1, r1.2.2.2) r h H locs ls hP hD hS (lv_sub hl [0, 1] rfl)
      · intro L σ r h H locs ls hP hD hS hl
        rw [x_end] at h
        cases h
        exact W.vret hx hb hr (fun t ht hW => ⟨⟨(), rfl, trivial, by rw [ht]; exact hP, va_K.moved hW.alike hK, hD⟩, hS.F ht⟩) hS.2.2 dX12_end_29
  exact (blk k0).1 L0 σ0 r0 h0 s.heap [] ls hP hD hS hl
/-! fault_ -/
def x_fault_ : Nat → Nat → (Nat → Int32) → MS → Option (Int32 × MS)
  | 0, _, _, _ => none
  | k + 1, 0, L, σ => x_fault_ k 1 L (upd σ.1 2 0, σ.2.1, σ.2.2)
  | k + 1, 1, L, σ => some ((σ.1 11), σ)
  | _ + 1, _ + 2, _, _ => none
def o_x_fault_ : List Cond := [.fieldLink RX12 993 "SetHouseModel" "code" "I", .fieldLink RX12 15 "SetHouseModel" "faultCode" "I"]
theorem o_x_fault__good : o_x_fault_.all goodWord = true := by decide +kernel
def p_x_fault_ : List Cond := o_x_fault_ ++ []
theorem p_x_fault__good : p_x_fault_.all goodWord = true := nb_all2 o_x_fault__good rfl
def w_x_fault_ : List Cond := .code yX12_fault_ cX12_fault_ 1 (some .int) :: (p_x_fault_ ++ fM)
theorem w_x_fault__good : w_x_fault_.all goodWord = true := nb_allc (by decide +kernel) (nb_all2 p_x_fault__good fM_good)
theorem in_x_fault_ : ∀ w ∈ wsX120, w ∈ w_x_fault_ := fun _ h => List.mem_cons_of_mem _ (List.mem_append_right _ h)
set_option maxHeartbeats 40000000 in
set_option maxRecDepth 100000 in
theorem c_x_fault_ (l : Launch) (dC : Nat → ClassId) (dI : Nat → Nat → Nat) (cy : Nat → ClassId) (a : Nat → Nat) (k0 : Nat) (L0 : Nat → Int32) (σ0 : MS) (r0 : Int32 × MS) (h0 : x_fault_ k0 0 L0 σ0 = some r0) (sz : Nat) : Met l yX12_fault_ w_x_fault_ ({ frames := 0, cells := 0, slots := 0, locals := 0 }) (va_Pc [.ref (a 0)] (nIn (dC, dI) cy sz (vM cy a σ0))) (va_Qi (fun (z : Int32) (_ : Unit) => z = r0.1) (fun _ t => nOut (dC, dI) cy (va_A (vM cy a σ0) sz) (vM cy a r0.2) t) (va_A (vM cy a σ0) sz)) 0 0 (va_A (vM cy a σ0) sz) := by
  refine Met.ofW (cc := cX12_fault_) (maxL := 1) (ret := (some .int)) (by decide) rfl ?_
  intro p e s m args below meth c s₁ B hml hv
  obtain ⟨rfl, hsz, hP, hK, hD0, hG⟩ := hv
  have hx := B.exec
  have hb := B.bytes
  have hr := B.returns
  have hts := atoms_spec (ws := w_x_fault_) B.pre
  have hown : s.vm.findClass RX12 = some m.cls := findClass_of_methodNamed B.named
  have hlocks := B.notSynchronized
  subst hsz
  have hD := hD0.self (sz := s.heap.size)
  generalize hAe : va_A (vM cy a σ0) s.heap.size = A at hD ⊢
  have hA : ∀ q : Nat, s.heap.size ≤ q → A q := fun q h => by rw [← hAe]; exact Or.inr h
  have hS : va_S A s.heap s.heap [] := va_S.rf
  have hl := lv_entry ([.ref (a 0)]) (n := 1) (Nat.le_of_ble_eq_true rfl)
  rw [lg_entry_eq]
  generalize (lg_sl ([.ref (a 0)]) ++ List.replicate (1 - (lg_sl ([.ref (a 0)])).length) Slot.unset).toArray = ls at hl ⊢
  have hl : lv_has ls 1 [(0, .ref (a 0))] := hl
  have blk : ∀ k : Nat, (∀ (L : Nat → Int32) (σ : MS) (r : Int32 × MS), x_fault_ k 0 L σ = some r → ∀ (H : Heap) (locs : List Loc) (ls : Array Slot), va_P (dC, dI) nCl (vM cy a σ) H → va_D A (vM cy a σ) → va_S A s.heap H locs → lv_has ls 1 [(0, .ref (a 0))] → W p l e (headSpec w_x_fault_ ({ frames := 0, cells := 0, slots := 0, locals := 0 })).room s m #[.ref (a 0)] below meth c H locs 0 0 (MQ below (va_Qi (fun (z : Int32) (_ : Unit) => z = r.1) (fun _ t => nOut (dC, dI) cy A (vM cy a r.2) t) A) #[.ref (a 0)] s 0 0 A) (F0 m 0 ls [])) ∧ (∀ (L : Nat → Int32) (σ : MS) (r : Int32 × MS), x_fault_ k 1 L σ = some r → ∀ (H : Heap) (locs : List Loc) (ls : Array Slot), va_P (dC, dI) nCl (vM cy a σ) H → va_D A (vM cy a σ) → va_S A s.heap H locs → lv_has ls 1 [(0, .ref (a 0))] → W p l e (headSpec w_x_fault_ ({ frames := 0, cells := 0, slots := 0, locals := 0 })).room s m #[.ref (a 0)] below meth c H locs 0 0 (MQ below (va_Qi (fun (z : Int32) (_ : Unit) => z = r.1) (fun _ t => nOut (dC, dI) cy A (vM cy a r.2) t) A) #[.ref (a 0)] s 0 0 A) (F0 m 5 ls [])) := by
    intro k
    induction k with
    | zero => exact ⟨fun L σ r h => (by cases h), fun L σ r h => (by cases h)⟩
    | succ k ih =>
      refine ⟨?_, ?_⟩
      · intro L σ r h H locs ls hP hD hS hl
        rw [x_fault_] at h
        refine lv_aload_n hx hb dX12_fault__0 rfl (lv_at hl 0 rfl) ?_
        refine lv_iconst (v := 0) hx hb dX12_fault__1 (by decide) ?_
        refine va_put (D := (dC, dI)) (ci := 11) (v := .int 0) (ty := .int) (C := RX12) (T := TX12) (N := 121) hx hb hts in_x_fault_ tyX12 tyX12_ok nmX12 hown hK hP hD hS 0 rfl rfl 2 (by decide) (hts _ (List.mem_cons_of_mem _ (List.mem_append_left _ (List.mem_append_left _ (List.mem_of_getElem? (i := 0) rfl))))) (fun _ h9 => h9) rfl (by decide +kernel) rfl rfl (Nat.le_of_ble_eq_true rfl) dX12_fault__2 (fun H locs hP hD hS => ?_)
        have hP : va_P (dC, dI) nCl (vM cy a (upd σ.1 2 0, σ.2.1, σ.2.2)) H := hP
        have hD : va_D A (vM cy a (upd σ.1 2 0, σ.2.1, σ.2.2)) := hD
        exact ih.2 L (upd σ.1 2 0, σ.2.1, σ.2.2) r h H locs ls hP hD hS (lv_sub hl [0] rfl)
      · intro L σ r h H locs ls hP hD hS hl
        rw [x_fault_] at h
        refine lv_aload_n hx hb dX12_fault__5 rfl (lv_at hl 0 rfl) ?_
        refine va_get (D := (dC, dI)) (ci := 11) (v := .int (σ.1 11)) (C := RX12) (T := TX12) (N := 121) hx hb hts in_x_fault_ hown hK hP 0 rfl rfl 11 (by decide) (hts _ (List.mem_cons_of_mem _ (List.mem_append_left _ (List.mem_append_left _ (List.mem_of_getElem? (i := 1) rfl))))) (fun _ h9 => h9) rfl dX12_fault__6 ?_
        cases h
        exact W.iret (v := (σ.1 11)) hx hb hr (fun t ht hW => ⟨⟨(σ.1 11), (), rfl, rfl, by rw [ht]; exact hP, va_K.moved hW.alike hK, hD⟩, hS.F ht⟩) hS.2.2 dX12_fault__9
  exact (blk k0).1 L0 σ0 r0 h0 s.heap [] ls hP hD hS hl

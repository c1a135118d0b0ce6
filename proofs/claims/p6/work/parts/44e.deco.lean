/-! valueOf -/
def x_valueOf : Nat → Nat → (Nat → Int32) → MS → Option (Int32 × MS)
  | 0, _, _, _ => none
  | k + 1, 0, L, σ => if ¬ (((L 1)) < 0 ∨ 70000 ≤ ((L 1)).toNatClampNeg) then (if ((σ.2.2 5 ((L 1)).toNatClampNeg)) = 0 then (if ¬ (((L 1)) < 0 ∨ 70000 ≤ ((L 1)).toNatClampNeg) then (if ¬ (((4 + ((σ.2.2 6 ((L 1)).toNatClampNeg)))) < 0 ∨ 11514 ≤ ((4 + ((σ.2.2 6 ((L 1)).toNatClampNeg)))).toNatClampNeg) then (some ((σ.2.2 30 ((4 + ((σ.2.2 6 ((L 1)).toNatClampNeg)))).toNatClampNeg), σ)) else none) else none) else (x_valueOf k 1 L σ)) else none
  | k + 1, 1, L, σ => if ((σ.1 69)) = 0 then (x_valueOf k 2 L σ) else (if ¬ (((L 1)) < 0 ∨ 70000 ≤ ((L 1)).toNatClampNeg) then (if ¬ (((((σ.1 68)) + ((σ.2.2 6 ((L 1)).toNatClampNeg)))) < 0 ∨ 1380 ≤ ((((σ.1 68)) + ((σ.2.2 6 ((L 1)).toNatClampNeg)))).toNatClampNeg) then (x_valueOf k 3 (upd L 100 ((σ.2.2 33 ((((σ.1 68)) + ((σ.2.2 6 ((L 1)).toNatClampNeg)))).toNatClampNeg))) σ) else none) else none)
  | k + 1, 2, L, σ => if ¬ ((1 : Int32) < 0 ∨ 11514 ≤ (1 : Int32).toNatClampNeg) then (if ¬ (((L 1)) < 0 ∨ 70000 ≤ ((L 1)).toNatClampNeg) then (if ¬ (((((214 + ((60 * ((((σ.2.2 30 (1 : Int32).toNatClampNeg)) - 1)))))) + ((σ.2.2 6 ((L 1)).toNatClampNeg)))) < 0 ∨ 11514 ≤ ((((214 + ((60 * ((((σ.2.2 30 (1 : Int32).toNatClampNeg)) - 1)))))) + ((σ.2.2 6 ((L 1)).toNatClampNeg)))).toNatClampNeg) then (x_valueOf k 3 (upd L 100 ((σ.2.2 30 ((((214 + ((60 * ((((σ.2.2 30 (1 : Int32).toNatClampNeg)) - 1)))))) + ((σ.2.2 6 ((L 1)).toNatClampNeg)))).toNatClampNeg))) σ) else none) else none) else none
  | k + 1, 3, L, σ => some ((L 100), σ)
  | _ + 1, _ + 4, _, _ => none
def o_x_valueOf : List Cond := [.fieldLink RX12 86 "SetHouseModel" "x1" "[I", .fieldLink RX12 395 "SetHouseModel" "st" "[I", .fieldLink RX12 89 "SetHouseModel" "x2" "[I", .fieldLink RX12 557 "SetHouseModel" "inFrames" "Z", .fieldLink RX12 408 "SetHouseModel" "frames" "[I", .fieldLink RX12 560 "SetHouseModel" "localBase" "I"]
theorem o_x_valueOf_good : o_x_valueOf.all goodWord = true := by decide +kernel
def p_x_valueOf : List Cond := o_x_valueOf ++ []
theorem p_x_valueOf_good : p_x_valueOf.all goodWord = true := nb_all2 o_x_valueOf_good rfl
def w_x_valueOf : List Cond := .code yX12_valueOf cX12_valueOf 2 (some .int) :: (p_x_valueOf ++ fM)
theorem w_x_valueOf_good : w_x_valueOf.all goodWord = true := nb_allc (by decide +kernel) (nb_all2 p_x_valueOf_good fM_good)
theorem in_x_valueOf : ∀ w ∈ wsX120, w ∈ w_x_valueOf := fun _ h => List.mem_cons_of_mem _ (List.mem_append_right _ h)
set_option maxHeartbeats 40000000 in
set_option maxRecDepth 100000 in
theorem c_x_valueOf (l : Launch) (dC : Nat → ClassId) (dI : Nat → Nat → Nat) (cy : Nat → ClassId) (a : Nat → Nat) (k0 : Nat) (L0 : Nat → Int32) (σ0 : MS) (r0 : Int32 × MS) (h0 : x_valueOf k0 0 L0 σ0 = some r0) (sz : Nat) : Met l yX12_valueOf w_x_valueOf ({ frames := 0, cells := 0, slots := 0, locals := 0 }) (va_Pc [.ref (a 0), .int (L0 1)] (nIn (dC, dI) cy sz (vM cy a σ0))) (va_Qi (fun (z : Int32) (_ : Unit) => z = r0.1) (fun _ t => nOut (dC, dI) cy (va_A (vM cy a σ0) sz) (vM cy a r0.2) t) (va_A (vM cy a σ0) sz)) 0 0 (va_A (vM cy a σ0) sz) := by
  refine Met.ofW (cc := cX12_valueOf) (maxL := 2) (ret := (some .int)) (by decide) rfl ?_
  intro p e s m args below meth c s₁ B hml hv
  obtain ⟨rfl, hsz, hP, hK, hD0, hG⟩ := hv
  have hx := B.exec
  have hb := B.bytes
  have hr := B.returns
  have hts := atoms_spec (ws := w_x_valueOf) B.pre
  have hown : s.vm.findClass RX12 = some m.cls := findClass_of_methodNamed B.named
  have hlocks := B.notSynchronized
  subst hsz
  have hD := hD0.self (sz := s.heap.size)
  generalize hAe : va_A (vM cy a σ0) s.heap.size = A at hD ⊢
  have hA : ∀ q : Nat, s.heap.size ≤ q → A q := fun q h => by rw [← hAe]; exact Or.inr h
  have hS : va_S A s.heap s.heap [] := va_S.rf
  have hl := lv_entry ([.ref (a 0), .int (L0 1)]) (n := 2) (Nat.le_of_ble_eq_true rfl)
  rw [lg_entry_eq]
  generalize (lg_sl ([.ref (a 0), .int (L0 1)]) ++ List.replicate (2 - (lg_sl ([.ref (a 0), .int (L0 1)])).length) Slot.unset).toArray = ls at hl ⊢
  have hl : lv_has ls 2 [(0, .ref (a 0)), (1, .int (L0 1))] := hl
  have blk : ∀ k : Nat, (∀ (L : Nat → Int32) (σ : MS) (r : Int32 × MS), x_valueOf k 0 L σ = some r → ∀ (H : Heap) (locs : List Loc) (ls : Array Slot), va_P (dC, dI) nCl (vM cy a σ) H → va_D A (vM cy a σ) → va_S A s.heap H locs → lv_has ls 2 [(0, .ref (a 0)), (1, .int (L 1))] → W p l e (headSpec w_x_valueOf ({ frames := 0, cells := 0, slots := 0, locals := 0 })).room s m #[.ref (a 0), .int (L0 1)] below meth c H locs 0 0 (MQ below (va_Qi (fun (z : Int32) (_ : Unit) => z = r.1) (fun _ t => nOut (dC, dI) cy A (vM cy a r.2) t) A) #[.ref (a 0), .int (L0 1)] s 0 0 A) (F0 m 0 ls [])) ∧ (∀ (L : Nat → Int32) (σ : MS) (r : Int32 × MS), x_valueOf k 1 L σ = some r → ∀ (H : Heap) (locs : List Loc) (ls : Array Slot), va_P (dC, dI) nCl (vM cy a σ) H → va_D A (vM cy a σ) → va_S A s.heap H locs → lv_has ls 2 [(0, .ref (a 0)), (1, .int (L 1))] → W p l e (headSpec w_x_valueOf ({ frames := 0, cells := 0, slots := 0, locals := 0 })).room s m #[.ref (a 0), .int (L0 1)] below meth c H locs 0 0 (MQ below (va_Qi (fun (z : Int32) (_ : Unit) => z = r.1) (fun _ t => nOut (dC, dI) cy A (vM cy a r.2) t) A) #[.ref (a 0), .int (L0 1)] s 0 0 A) (F0 m 23 ls [])) ∧ (∀ (L : Nat → Int32) (σ : MS) (r : Int32 × MS), x_valueOf k 2 L σ = some r → ∀ (H : Heap) (locs : List Loc) (ls : Array Slot), va_P (dC, dI) nCl (vM cy a σ) H → va_D A (vM cy a σ) → va_S A s.heap H locs → lv_has ls 2 [(0, .ref (a 0)), (1, .int (L 1))] → W p l e (headSpec w_x_valueOf ({ frames := 0, cells := 0, slots := 0, locals := 0 })).room s m #[.ref (a 0), .int (L0 1)] below meth c H locs 0 0 (MQ below (va_Qi (fun (z : Int32) (_ : Unit) => z = r.1) (fun _ t => nOut (dC, dI) cy A (vM cy a r.2) t) A) #[.ref (a 0), .int (L0 1)] s 0 0 A) (F0 m 49 ls [])) ∧ (∀ (L : Nat → Int32) (σ : MS) (r : Int32 × MS), x_valueOf k 3 L σ = some r → ∀ (H : Heap) (locs : List Loc) (ls : Array Slot), va_P (dC, dI) nCl (vM cy a σ) H → va_D A (vM cy a σ) → va_S A s.heap H locs → lv_has ls 2 [(0, .ref (a 0)), (1, .int (L 1))] → W p l e (headSpec w_x_valueOf ({ frames := 0, cells := 0, slots := 0, locals := 0 })).room s m #[.ref (a 0), .int (L0 1)] below meth c H locs 0 0 (MQ below (va_Qi (fun (z : Int32) (_ : Unit) => z = r.1) (fun _ t => nOut (dC, dI) cy A (vM cy a r.2) t) A) #[.ref (a 0), .int (L0 1)] s 0 0 A) (F0 m 76 ls [.int (L 100)])) := by
    intro k
    induction k with
    | zero => exact ⟨fun L σ r h => (by cases h), fun L σ r h => (by cases h), fun L σ r h => (by cases h), fun L σ r h => (by cases h)⟩
    | succ k ih =>
      refine ⟨?_, ?_, ?_, ?_⟩
      · intro L σ r h H locs ls hP hD hS hl
        rw [x_valueOf] at h
        refine lv_aload_n hx hb dX12_valueOf_0 rfl (lv_at hl 0 rfl) ?_
        refine va_get (D := (dC, dI)) (ci := 11) (v := .ref (a 5)) (C := RX12) (T := TX12) (N := 121) hx hb hts in_x_valueOf hown hK hP 0 rfl rfl 15 (by decide) (hts _ (List.mem_cons_of_mem _ (List.mem_append_left _ (List.mem_append_left _ (List.mem_of_getElem? (i := 0) rfl))))) (fun _ h9 => h9) rfl dX12_valueOf_1 ?_
        refine lv_iload_n hx hb dX12_valueOf_4 rfl (lv_at hl 1 rfl) ?_
        by_cases q1 : ¬ (((L 1)) < 0 ∨ 70000 ≤ ((L 1)).toNatClampNeg)
        · rw [if_pos q1] at h
          refine va_iald hx hb hK hP 5 1 rfl rfl (nb_inp q1) dX12_valueOf_5 ?_
          refine lv_if_ne (tgt := 23) hx hb dX12_valueOf_6 (by decide) (fun c2 => ?_) (fun c2 => ?_)
          · rw [if_neg c2] at h
            exact ih.2.1 L σ r h H locs ls hP hD hS (lv_sub hl [0, 1] rfl)
          · rw [if_pos c2] at h
            refine lv_aload_n hx hb dX12_valueOf_9 rfl (lv_at hl 0 rfl) ?_
            refine va_get (D := (dC, dI)) (ci := 11) (v := .ref (a 30)) (C := RX12) (T := TX12) (N := 121) hx hb hts in_x_valueOf hown hK hP 0 rfl rfl 60 (by decide) (hts _ (List.mem_cons_of_mem _ (List.mem_append_left _ (List.mem_append_left _ (List.mem_of_getElem? (i := 1) rfl))))) (fun _ h9 => h9) rfl dX12_valueOf_10 ?_
            refine lv_iconst (v := 4) hx hb dX12_valueOf_13 (by decide) ?_
            refine lv_aload_n hx hb dX12_valueOf_14 rfl (lv_at hl 0 rfl) ?_
            refine va_get (D := (dC, dI)) (ci := 11) (v := .ref (a 6)) (C := RX12) (T := TX12) (N := 121) hx hb hts in_x_valueOf hown hK hP 0 rfl rfl 16 (by decide) (hts _ (List.mem_cons_of_mem _ (List.mem_append_left _ (List.mem_append_left _ (List.mem_of_getElem? (i := 2) rfl))))) (fun _ h9 => h9) rfl dX12_valueOf_15 ?_
            refine lv_iload_n hx hb dX12_valueOf_18 rfl (lv_at hl 1 rfl) ?_
            by_cases q3 : ¬ (((L 1)) < 0 ∨ 70000 ≤ ((L 1)).toNatClampNeg)
            · rw [if_pos q3] at h
              refine va_iald hx hb hK hP 6 1 rfl rfl (nb_inp q3) dX12_valueOf_19 ?_
              refine lv_iadd hx hb dX12_valueOf_20 ?_
              by_cases q4 : ¬ (((4 + ((σ.2.2 6 ((L 1)).toNatClampNeg)))) < 0 ∨ 11514 ≤ ((4 + ((σ.2.2 6 ((L 1)).toNatClampNeg)))).toNatClampNeg)
              · rw [if_pos q4] at h
                refine va_iald hx hb hK hP 30 1 rfl rfl (nb_inp q4) dX12_valueOf_21 ?_
                cases h
                exact W.iret (v := (σ.2.2 30 ((4 + ((σ.2.2 6 ((L 1)).toNatClampNeg)))).toNatClampNeg)) hx hb hr (fun t ht hW => ⟨⟨(σ.2.2 30 ((4 + ((σ.2.2 6 ((L 1)).toNatClampNeg)))).toNatClampNeg), (), rfl, rfl, by rw [ht]; exact hP, va_K.moved hW.alike hK, hD⟩, hS.F ht⟩) hS.2.2 dX12_valueOf_22
              · rw [if_neg q4] at h; cases h
            · rw [if_neg q3] at h; cases h
        · rw [if_neg q1] at h; cases h
      · intro L σ r h H locs ls hP hD hS hl
        rw [x_valueOf] at h
        refine lv_aload_n hx hb dX12_valueOf_23 rfl (lv_at hl 0 rfl) ?_
        refine va_get (D := (dC, dI)) (ci := 11) (v := .int (σ.1 69)) (C := RX12) (T := TX12) (N := 121) hx hb hts in_x_valueOf hown hK hP 0 rfl rfl 69 (by decide) (hts _ (List.mem_cons_of_mem _ (List.mem_append_left _ (List.mem_append_left _ (List.mem_of_getElem? (i := 3) rfl))))) (fun _ h9 => h9) rfl dX12_valueOf_24 ?_
        refine lv_if_eq (tgt := 49) hx hb dX12_valueOf_27 (by decide) (fun c1 => ?_) (fun c1 => ?_)
        · rw [if_pos c1] at h
          exact ih.2.2.1 L σ r h H locs ls hP hD hS (lv_sub hl [0, 1] rfl)
        · rw [if_neg c1] at h
          refine lv_aload_n hx hb dX12_valueOf_30 rfl (lv_at hl 0 rfl) ?_
          refine va_get (D := (dC, dI)) (ci := 11) (v := .ref (a 33)) (C := RX12) (T := TX12) (N := 121) hx hb hts in_x_valueOf hown hK hP 0 rfl rfl 66 (by decide) (hts _ (List.mem_cons_of_mem _ (List.mem_append_left _ (List.mem_append_left _ (List.mem_of_getElem? (i := 4) rfl))))) (fun _ h9 => h9) rfl dX12_valueOf_31 ?_
          refine lv_aload_n hx hb dX12_valueOf_34 rfl (lv_at hl 0 rfl) ?_
          refine va_get (D := (dC, dI)) (ci := 11) (v := .int (σ.1 68)) (C := RX12) (T := TX12) (N := 121) hx hb hts in_x_valueOf hown hK hP 0 rfl rfl 68 (by decide) (hts _ (List.mem_cons_of_mem _ (List.mem_append_left _ (List.mem_append_left _ (List.mem_of_getElem? (i := 5) rfl))))) (fun _ h9 => h9) rfl dX12_valueOf_35 ?_
          refine lv_aload_n hx hb dX12_valueOf_38 rfl (lv_at hl 0 rfl) ?_
          refine va_get (D := (dC, dI)) (ci := 11) (v := .ref (a 6)) (C := RX12) (T := TX12) (N := 121) hx hb hts in_x_valueOf hown hK hP 0 rfl rfl 16 (by decide) (hts _ (List.mem_cons_of_mem _ (List.mem_append_left _ (List.mem_append_left _ (List.mem_of_getElem? (i := 2) rfl))))) (fun _ h9 => h9) rfl dX12_valueOf_39 ?_
          refine lv_iload_n hx hb dX12_valueOf_42 rfl (lv_at hl 1 rfl) ?_
          by_cases q2 : ¬ (((L 1)) < 0 ∨ 70000 ≤ ((L 1)).toNatClampNeg)
          · rw [if_pos q2] at h
            refine va_iald hx hb hK hP 6 1 rfl rfl (nb_inp q2) dX12_valueOf_43 ?_
            refine lv_iadd hx hb dX12_valueOf_44 ?_
            by_cases q3 : ¬ (((((σ.1 68)) + ((σ.2.2 6 ((L 1)).toNatClampNeg)))) < 0 ∨ 1380 ≤ ((((σ.1 68)) + ((σ.2.2 6 ((L 1)).toNatClampNeg)))).toNatClampNeg)
            · rw [if_pos q3] at h
              refine va_iald hx hb hK hP 33 1 rfl rfl (nb_inp q3) dX12_valueOf_45 ?_
              refine lv_goto (tgt := 76) hx hb dX12_valueOf_46 (by decide) ?_
              exact ih.2.2.2 (upd L 100 ((σ.2.2 33 ((((σ.1 68)) + ((σ.2.2 6 ((L 1)).toNatClampNeg)))).toNatClampNeg))) σ r h H locs ls hP hD hS (lv_sub hl [0, 1] rfl)
            · rw [if_neg q3] at h; cases h
          · rw [if_neg q2] at h; cases h
      · intro L σ r h H locs ls hP hD hS hl
        rw [x_valueOf] at h
        refine lv_aload_n hx hb dX12_valueOf_49 rfl (lv_at hl 0 rfl) ?_
        refine va_get (D := (dC, dI)) (ci := 11) (v := .ref (a 30)) (C := RX12) (T := TX12) (N := 121) hx hb hts in_x_valueOf hown hK hP 0 rfl rfl 60 (by decide) (hts _ (List.mem_cons_of_mem _ (List.mem_append_left _ (List.mem_append_left _ (List.mem_of_getElem? (i := 1) rfl))))) (fun _ h9 => h9) rfl dX12_valueOf_50 ?_
        refine lv_sipush (v := 214) hx hb dX12_valueOf_53 (by decide) ?_
        refine lv_bipush (v := 60) hx hb dX12_valueOf_56 (by decide) ?_
        refine lv_aload_n hx hb dX12_valueOf_58 rfl (lv_at hl 0 rfl) ?_
        refine va_get (D := (dC, dI)) (ci := 11) (v := .ref (a 30)) (C := RX12) (T := TX12) (N := 121) hx hb hts in_x_valueOf hown hK hP 0 rfl rfl 60 (by decide) (hts _ (List.mem_cons_of_mem _ (List.mem_append_left _ (List.mem_append_left _ (List.mem_of_getElem? (i := 1) rfl))))) (fun _ h9 => h9) rfl dX12_valueOf_59 ?_
        refine lv_iconst (v := 1) hx hb dX12_valueOf_62 (by decide) ?_
        by_cases q1 : ¬ ((1 : Int32) < 0 ∨ 11514 ≤ (1 : Int32).toNatClampNeg)
        · rw [if_pos q1] at h
          refine va_iald hx hb hK hP 30 1 rfl rfl (nb_inp q1) dX12_valueOf_63 ?_
          refine lv_iconst (v := 1) hx hb dX12_valueOf_64 (by decide) ?_
          refine lv_isub hx hb dX12_valueOf_65 ?_
          refine lv_imul hx hb dX12_valueOf_66 ?_
          refine lv_iadd hx hb dX12_valueOf_67 ?_
          refine lv_aload_n hx hb dX12_valueOf_68 rfl (lv_at hl 0 rfl) ?_
          refine va_get (D := (dC, dI)) (ci := 11) (v := .ref (a 6)) (C := RX12) (T := TX12) (N := 121) hx hb hts in_x_valueOf hown hK hP 0 rfl rfl 16 (by decide) (hts _ (List.mem_cons_of_mem _ (List.mem_append_left _ (List.mem_append_left _ (List.mem_of_getElem? (i := 2) rfl))))) (fun _ h9 => h9) rfl dX12_valueOf_69 ?_
          refine lv_iload_n hx hb dX12_valueOf_72 rfl (lv_at hl 1 rfl) ?_
          by_cases q2 : ¬ (((L 1)) < 0 ∨ 70000 ≤ ((L 1)).toNatClampNeg)
          · rw [if_pos q2] at h
            refine va_iald hx hb hK hP 6 1 rfl rfl (nb_inp q2) dX12_valueOf_73 ?_
            refine lv_iadd hx hb dX12_valueOf_74 ?_
            by_cases q3 : ¬ (((((214 + ((60 * ((((σ.2.2 30 (1 : Int32).toNatClampNeg)) - 1)))))) + ((σ.2.2 6 ((L 1)).toNatClampNeg)))) < 0 ∨ 11514 ≤ ((((214 + ((60 * ((((σ.2.2 30 (1 : Int32).toNatClampNeg)) - 1)))))) + ((σ.2.2 6 ((L 1)).toNatClampNeg)))).toNatClampNeg)
            · rw [if_pos q3] at h
              refine va_iald hx hb hK hP 30 1 rfl rfl (nb_inp q3) dX12_valueOf_75 ?_
              exact ih.2.2.2 (upd L 100 ((σ.2.2 30 ((((214 + ((60 * ((((σ.2.2 30 (1 : Int32).toNatClampNeg)) - 1)))))) + ((σ.2.2 6 ((L 1)).toNatClampNeg)))).toNatClampNeg))) σ r h H locs ls hP hD hS (lv_sub hl [0, 1] rfl)
            · rw [if_neg q3] at h; cases h
          · rw [if_neg q2] at h; cases h
        · rw [if_neg q1] at h; cases h
      · intro L σ r h H locs ls hP hD hS hl
        rw [x_valueOf] at h
        cases h
        exact W.iret (v := (L 100)) hx hb hr (fun t ht hW => ⟨⟨(L 100), (), rfl, rfl, by rw [ht]; exact hP, va_K.moved hW.alike hK, hD⟩, hS.F ht⟩) hS.2.2 dX12_valueOf_76
  exact (blk k0).1 L0 σ0 r0 h0 s.heap [] ls hP hD hS hl
/-! answer -/
def x_answer : Nat → Nat → (Nat → Int32) → MS → Option (Int32 × MS)
  | 0, _, _, _ => none
  | k + 1, 0, L, σ => if ((σ.1 56)) = 0 then (ob (x_size k 0 (upd (fun _ => 0) 1 ((L 1))) σ) (fun r2 => ob (x_worked k 0 (upd (fun _ => 0) 1 r2.1) r2.2) (fun r3 => x_answer k 1 L r3.2))) else (x_answer k 1 L σ)
  | k + 1, 1, L, σ => some ((L 1), σ)
  | _ + 1, _ + 2, _, _ => none
def o_x_answer : List Cond := [.fieldLink RX12 362 "SetHouseModel" "err" "I", .methodLink RX12 432 yX12_size, .instanceMethod yX12_size, .selects RX12 yX12_size yX12_size, .initialized RX12, .methodLink RX12 563 yX12_worked, .instanceMethod yX12_worked, .selects RX12 yX12_worked yX12_worked]
theorem o_x_answer_good : o_x_answer.all goodWord = true := by decide +kernel
def p_x_answer : List Cond := o_x_answer ++ ((.code yX12_size cX12_size 2 (some .int) :: p_x_size) ++ ((.code yX12_worked cX12_worked 2 none :: p_x_worked) ++ []))
theorem p_x_answer_good : p_x_answer.all goodWord = true := nb_all2 o_x_answer_good (nb_all2 (nb_allc (by decide +kernel) p_x_size_good) (nb_all2 (nb_allc (by decide +kernel) p_x_worked_good) rfl))
def w_x_answer : List Cond := .code yX12_answer cX12_answer 2 (some .int) :: (p_x_answer ++ fM)
theorem w_x_answer_good : w_x_answer.all goodWord = true := nb_allc (by decide +kernel) (nb_all2 p_x_answer_good fM_good)
theorem in_x_answer : ∀ w ∈ wsX120, w ∈ w_x_answer := fun _ h => List.mem_cons_of_mem _ (List.mem_append_right _ h)
theorem gg_x_answer_size : GoodIn w_x_answer w_x_size := goodIn_sub (fun w h => (List.mem_cons.mp h).elim (fun e => (List.mem_cons_of_mem _ (List.mem_append_left _ (List.mem_append_right _ (List.mem_append_left _ (List.mem_cons.mpr (Or.inl e))))))) (fun h => (List.mem_append.mp h).elim (fun h => (List.mem_cons_of_mem _ (List.mem_append_left _ (List.mem_append_right _ (List.mem_append_left _ (List.mem_cons_of_mem _ h)))))) (fun h => List.mem_cons_of_mem _ (List.mem_append_right _ h)))) w_x_size_good
theorem gg_x_answer_worked : GoodIn w_x_answer w_x_worked := goodIn_sub (fun w h => (List.mem_cons.mp h).elim (fun e => (List.mem_cons_of_mem _ (List.mem_append_left _ (List.mem_append_right _ (List.mem_append_right _ (List.mem_append_left _ (List.mem_cons.mpr (Or.inl e)))))))) (fun h => (List.mem_append.mp h).elim (fun h => (List.mem_cons_of_mem _ (List.mem_append_left _ (List.mem_append_right _ (List.mem_append_right _ (List.mem_append_left _ (List.mem_cons_of_mem _ h))))))) (fun h => List.mem_cons_of_mem _ (List.mem_append_right _ h)))) w_x_worked_good
theorem g_x_answer_size_432 : GoodIn w_x_answer (wsV RX12 432 RX12 yX12_size w_x_size) := goodIn_app (nb_g4 (List.mem_cons_of_mem _ (List.mem_append_left _ (List.mem_append_left _ (List.mem_of_getElem? (i := 1) rfl)))) (List.mem_cons_of_mem _ (List.mem_append_left _ (List.mem_append_left _ (List.mem_of_getElem? (i := 2) rfl)))) (List.mem_cons_of_mem _ (List.mem_append_left _ (List.mem_append_left _ (List.mem_of_getElem? (i := 3) rfl)))) (List.mem_cons_of_mem _ (List.mem_append_left _ (List.mem_append_left _ (List.mem_of_getElem? (i := 4) rfl)))) (by decide +kernel)) gg_x_answer_size
theorem g_x_answer_worked_563 : GoodIn w_x_answer (wsV RX12 563 RX12 yX12_worked w_x_worked) := goodIn_app (nb_g4 (List.mem_cons_of_mem _ (List.mem_append_left _ (List.mem_append_left _ (List.mem_of_getElem? (i := 5) rfl)))) (List.mem_cons_of_mem _ (List.mem_append_left _ (List.mem_append_left _ (List.mem_of_getElem? (i := 6) rfl)))) (List.mem_cons_of_mem _ (List.mem_append_left _ (List.mem_append_left _ (List.mem_of_getElem? (i := 7) rfl)))) (List.mem_cons_of_mem _ (List.mem_append_left _ (List.mem_append_left _ (List.mem_of_getElem? (i := 4) rfl)))) (by decide +kernel)) gg_x_answer_worked
set_option maxHeartbeats 40000000 in
set_option maxRecDepth 100000 in
theorem c_x_answer (l : Launch) (dC : Nat → ClassId) (dI : Nat → Nat → Nat) (cy : Nat → ClassId) (a : Nat → Nat) (k0 : Nat) (L0 : Nat → Int32) (σ0 : MS) (r0 : Int32 × MS) (h0 : x_answer k0 0 L0 σ0 = some r0) (sz : Nat) : Met l yX12_answer w_x_answer ({ frames := 2, cells := 0, slots := 0, locals := 42 }) (va_Pc [.ref (a 0), .int (L0 1)] (nIn (dC, dI) cy sz (vM cy a σ0))) (va_Qi (fun (z : Int32) (_ : Unit) => z = r0.1) (fun _ t => nOut (dC, dI) cy (va_A (vM cy a σ0) sz) (vM cy a r0.2) t) (va_A (vM cy a σ0) sz)) 0 0 (va_A (vM cy a σ0) sz) := by
  refine Met.ofW (cc := cX12_answer) (maxL := 2) (ret := (some .int)) (by decide) rfl ?_
  intro p e s m args below meth c s₁ B hml hv
  obtain ⟨rfl, hsz, hP, hK, hD0, hG⟩ := hv
  have hx := B.exec
  have hb := B.bytes
  have hr := B.returns
  have hts := atoms_spec (ws := w_x_answer) B.pre
  have hown : s.vm.findClass RX12 = some m.cls := findClass_of_methodNamed B.named
  have hlocks := B.notSynchronized
  subst hsz
  have hD := hD0.self (sz := s.heap.size)
  generalize hAe : va_A (vM cy a σ0) s.heap.size = A at hD ⊢
  have hA : ∀ q : Nat, s.heap.size ≤ q → A q := fun q h => by rw [← hAe]; exact Or.inr h
  have hS : va_S A s.heap s.heap [] := va_S.rf
  have hl := lv_entry ([.ref (a 0), .int (L0 1)]) (n := 2) (Nat.le_of_ble_eq_true rfl)
  rw [lg_entry_eq]
  generalize (lg_sl ([.ref (a 0), .int (L0 1)]) ++ List.replicate (2 - (lg_sl ([.ref (a 0), .int (L0 1)])).length) Slot.unset).toArray = ls at hl ⊢
  have hl : lv_has ls 2 [(0, .ref (a 0)), (1, .int (L0 1))] := hl
  have blk : ∀ k : Nat, (∀ (L : Nat → Int32) (σ : MS) (r : Int32 × MS), x_answer k 0 L σ = some r → ∀ (H : Heap) (locs : List Loc) (ls : Array Slot), va_P (dC, dI) nCl (vM cy a σ) H → va_D A (vM cy a σ) → va_S A s.heap H locs → lv_has ls 2 [(0, .ref (a 0)), (1, .int (L 1))] → W p l e (headSpec w_x_answer ({ frames := 2, cells := 0, slots := 0, locals := 42 })).room s m #[.ref (a 0), .int (L0 1)] below meth c H locs 0 0 (MQ below (va_Qi (fun (z : Int32) (_ : Unit) => z = r.1) (fun _ t => nOut (dC, dI) cy A (vM cy a r.2) t) A) #[.ref (a 0), .int (L0 1)] s 0 0 A) (F0 m 0 ls [])) ∧ (∀ (L : Nat → Int32) (σ : MS) (r : Int32 × MS), x_answer k 1 L σ = some r → ∀ (H : Heap) (locs : List Loc) (ls : Array Slot), va_P (dC, dI) nCl (vM cy a σ) H → va_D A (vM cy a σ) → va_S A s.heap H locs → lv_has ls 2 [(0, .ref (a 0)), (1, .int (L 1))] → W p l e (headSpec w_x_answer ({ frames := 2, cells := 0, slots := 0, locals := 42 })).room s m #[.ref (a 0), .int (L0 1)] below meth c H locs 0 0 (MQ below (va_Qi (fun (z : Int32) (_ : Unit) => z = r.1) (fun _ t => nOut (dC, dI) cy A (vM cy a r.2) t) A) #[.ref (a 0), .int (L0 1)] s 0 0 A) (F0 m 16 ls [])) := by
    intro k
    induction k with
    | zero => exact ⟨fun L σ r h => (by cases h), fun L σ r h => (by cases h)⟩
    | succ k ih =>
      refine ⟨?_, ?_⟩
      · intro L σ r h H locs ls hP hD hS hl
        rw [x_answer] at h
        refine lv_aload_n hx hb dX12_answer_0 rfl (lv_at hl 0 rfl) ?_
        refine va_get (D := (dC, dI)) (ci := 11) (v := .int (σ.1 56)) (C := RX12) (T := TX12) (N := 121) hx hb hts in_x_answer hown hK hP 0 rfl rfl 56 (by decide) (hts _ (List.mem_cons_of_mem _ (List.mem_append_left _ (List.mem_append_left _ (List.mem_of_getElem? (i := 0) rfl))))) (fun _ h9 => h9) rfl dX12_answer_1 ?_
        refine lv_if_ne (tgt := 16) hx hb dX12_answer_4 (by decide) (fun c1 => ?_) (fun c1 => ?_)
        · rw [if_neg c1] at h
          exact ih.2 L σ r h H locs ls hP hD hS (lv_sub hl [0, 1] rfl)
        · rw [if_pos c1] at h
          refine lv_aload_n hx hb dX12_answer_7 rfl (lv_at hl 0 rfl) ?_
          refine lv_aload_n hx hb dX12_answer_8 rfl (lv_at hl 0 rfl) ?_
          refine lv_iload_n hx hb dX12_answer_9 rfl (lv_at hl 1 rfl) ?_
          cases hc2 : x_size k 0 (upd (fun _ => 0) 1 ((L 1))) σ with
          | none => rw [hc2, ob_none] at h; cases h
          | some r2 =>
            rw [hc2, ob_some] at h
            have hFc := va_free (wc := vM cy a σ) hD hS hA [0, 1, 2, 3, 4, 5, 6, 7, 8, 9, 10, 11, 12, 13, 14, 15, 16, 17, 18, 19, 20, 21, 22, 23, 24, 25, 26, 27, 28, 29, 30, 31, 32, 33, 34, 35, 36, 37, 38, 39, 40, 41, 42, 43, 44, 45, 46, 47, 48, 49, 50, 51, 52, 53, 54, 55, 56, 57] rfl
            refine va_calli (va_runV (As := [.int (L 1)]) (rest := [.ref (a 0)]) ⟨hx, hb, hml, hown, hts⟩ (c_x_size l dC dI cy a k (upd (fun _ => 0) 1 ((L 1))) σ r2 hc2 H.size) (cwV 1 hts g_x_answer_size_432 rfl rfl rfl (by decide +kernel) ⟨Nat.le_of_ble_eq_true rfl, Nat.le_of_ble_eq_true rfl⟩) ⟨nb_blind, va_recv hK hP (ci := 11) (q0 := 0) rfl rfl, fun U hU hW => ⟨rfl, by rw [hU], by rw [hU]; exact hP, va_K.moved hW.alike hK, hD.weaken (fun _ _ _ _ => trivial), hG.warm hW⟩⟩ rfl rfl hl.1 rfl (lv_room (Nat.le_of_ble_eq_true rfl)) dX12_answer_10 ⟨Nat.le_of_ble_eq_true rfl, Nat.le_of_ble_eq_true rfl⟩) hS (fun q _ h => hFc q h) hFc (fun z9 _ t H1 locs ht hvm hw hB hz1 hk1 hS => ?_)
            subst hw
            obtain ⟨hP1, hK1, hD1⟩ := hB
            rw [ht] at hP1
            obtain ⟨hP, hD⟩ := va_join (wr := []) (w1 := vM cy a r2.2) hP hD [0, 1, 2, 3, 4, 5, 6, 7, 8, 9, 10, 11, 12, 13, 14, 15, 16, 17, 18, 19, 20, 21, 22, 23, 24, 25, 26, 27, 28, 29, 30, 31, 32, 33, 34, 35, 36, 37, 38, 39, 40, 41, 42, 43, 44, 45, 46, 47, 48, 49, 50, 51, 52, 53, 54, 55, 56, 57] [] rfl rfl (by decide) (by decide) hk1 hFc hP1 hD1
            generalize H1 = H at hP hS ⊢
            have hP : va_P (dC, dI) nCl (vM cy a r2.2) H := hP
            have hD : va_D A (vM cy a r2.2) := hD
            cases hc3 : x_worked k 0 (upd (fun _ => 0) 1 r2.1) r2.2 with
            | none => rw [hc3, ob_none] at h; cases h
            | some r3 =>
              rw [hc3, ob_some] at h
              have hFc := va_free (wc := vM cy a r2.2) hD hS hA [0, 1, 2, 3, 4, 5, 6, 7, 8, 9, 10, 11, 12, 13, 14, 15, 16, 17, 18, 19, 20, 21, 22, 23, 24, 25, 26, 27, 28, 29, 30, 31, 32, 33, 34, 35, 36, 37, 38, 39, 40, 41, 42, 43, 44, 45, 46, 47, 48, 49, 50, 51, 52, 53, 54, 55, 56, 57] rfl
              refine va_callv (va_runV (As := [.int r2.1]) (rest := []) ⟨hx, hb, hml, hown, hts⟩ (c_x_worked l dC dI cy a k (upd (fun _ => 0) 1 r2.1) r2.2 r3 hc3 H.size) (cwV 1 hts g_x_answer_worked_563 rfl rfl rfl (by decide +kernel) ⟨Nat.le_of_ble_eq_true rfl, Nat.le_of_ble_eq_true rfl⟩) ⟨nb_blind, va_recv hK hP (ci := 11) (q0 := 0) rfl rfl, fun U hU hW => ⟨rfl, by rw [hU], by rw [hU]; exact hP, va_K.moved hW.alike hK, hD.weaken (fun _ _ _ _ => trivial), hG.warm hW⟩⟩ rfl rfl hl.1 rfl (lv_room (Nat.le_of_ble_eq_true rfl)) dX12_answer_13 ⟨Nat.le_of_ble_eq_true rfl, Nat.le_of_ble_eq_true rfl⟩) hS (fun q _ h => hFc q h) hFc (fun _ t H1 locs ht hvm hw hB hz1 hk1 hS => ?_)
              obtain ⟨hP1, hK1, hD1⟩ := hB
              rw [ht] at hP1
              obtain ⟨hP, hD⟩ := va_join (wr := []) (w1 := vM cy a r3.2) hP hD [0, 1, 2, 3, 4, 5, 6, 7, 8, 9, 10, 11, 12, 13, 14, 15, 16, 17, 18, 19, 20, 21, 22, 23, 24, 25, 26, 27, 28, 29, 30, 31, 32, 33, 34, 35, 36, 37, 38, 39, 40, 41, 42, 43, 44, 45, 46, 47, 48, 49, 50, 51, 52, 53, 54, 55, 56, 57] [] rfl rfl (by decide) (by decide) hk1 hFc hP1 hD1
              generalize H1 = H at hP hS ⊢
              have hP : va_P (dC, dI) nCl (vM cy a r3.2) H := hP
              have hD : va_D A (vM cy a r3.2) := hD
              exact ih.2 L r3.2 r h H locs ls hP hD hS (lv_sub hl [0, 1] rfl)
      · intro L σ r h H locs ls hP hD hS hl
        rw [x_answer] at h
        refine lv_iload_n hx hb dX12_answer_16 rfl (lv_at hl 1 rfl) ?_
        cases h
        exact W.iret (v := (L 1)) hx hb hr (fun t ht hW => ⟨⟨(L 1), (), rfl, rfl, by rw [ht]; exact hP, va_K.moved hW.alike hK, hD⟩, hS.F ht⟩) hS.2.2 dX12_answer_17
  exact (blk k0).1 L0 σ0 r0 h0 s.heap [] ls hP hD hS hl
/-! truth -/
def x_truth : Nat → Nat → (Nat → Int32) → MS → Option (Int32 × MS)
  | 0, _, _, _ => none
  | k + 1, 0, L, σ => if ((L 1)) = 0 then (x_truth k 1 L σ) else (x_truth k 2 (upd L 100 2) σ)
  | k + 1, 1, L, σ => x_truth k 2 (upd L 100 1) σ
  | k + 1, 2, L, σ => some ((L 100), σ)
  | _ + 1, _ + 3, _, _ => none
def o_x_truth : List Cond := []
theorem o_x_truth_good : o_x_truth.all goodWord = true := by decide +kernel
def p_x_truth : List Cond := o_x_truth ++ []
theorem p_x_truth_good : p_x_truth.all goodWord = true := nb_all2 o_x_truth_good rfl
def w_x_truth : List Cond := .code yX12_truth cX12_truth 2 (some .int) :: (p_x_truth ++ fM)
theorem w_x_truth_good : w_x_truth.all goodWord = true := nb_allc (by decide +kernel) (nb_all2 p_x_truth_good fM_good)
theorem in_x_truth : ∀ w ∈ wsX120, w ∈ w_x_truth := fun _ h => List.mem_cons_of_mem _ (List.mem_append_right _ h)
set_option maxHeartbeats 40000000 in
set_option maxRecDepth 100000 in
theorem c_x_truth (l : Launch) (dC : Nat → ClassId) (dI : Nat → Nat → Nat) (cy : Nat → ClassId) (a : Nat → Nat) (k0 : Nat) (L0 : Nat → Int32) (σ0 : MS) (r0 : Int32 × MS) (h0 : x_truth k0 0 L0 σ0 = some r0) (sz : Nat) : Met l yX12_truth w_x_truth ({ frames := 0, cells := 0, slots := 0, locals := 0 }) (va_Pc [.ref (a 0), .int (L0 1)] (nIn (dC, dI) cy sz (vM cy a σ0))) (va_Qi (fun (z : Int32) (_ : Unit) => z = r0.1) (fun _ t => nOut (dC, dI) cy (va_A (vM cy a σ0) sz) (vM cy a r0.2) t) (va_A (vM cy a σ0) sz)) 0 0 (va_A (vM cy a σ0) sz) := by
  refine Met.ofW (cc := cX12_truth) (maxL := 2) (ret := (some .int)) (by decide) rfl ?_
  intro p e s m args below meth c s₁ B hml hv
  obtain ⟨rfl, hsz, hP, hK, hD0, hG⟩ := hv
  have hx := B.exec
  have hb := B.bytes
  have hr := B.returns
  have hts := atoms_spec (ws := w_x_truth) B.pre
  have hown : s.vm.findClass RX12 = some m.cls := findClass_of_methodNamed B.named
  have hlocks := B.notSynchronized
  subst hsz
  have hD := hD0.self (sz := s.heap.size)
  generalize hAe : va_A (vM cy a σ0) s.heap.size = A at hD ⊢
  have hA : ∀ q : Nat, s.heap.size ≤ q → A q := fun q h => by rw [← hAe]; exact Or.inr h
  have hS : va_S A s.heap s.heap [] := va_S.rf
  have hl := lv_entry ([.ref (a 0), .int (L0 1)]) (n := 2) (Nat.le_of_ble_eq_true rfl)
  rw [lg_entry_eq]
  generalize (lg_sl ([.ref (a 0), .int (L0 1)]) ++ List.replicate (2 - (lg_sl ([.ref (a 0), .int (L0 1)])).length) Slot.unset).toArray = ls at hl ⊢
  have hl : lv_has ls 2 [(0, .ref (a 0)), (1, .int (L0 1))] := hl
  have blk : ∀ k : Nat, (∀ (L : Nat → Int32) (σ : MS) (r : Int32 × MS), x_truth k 0 L σ = some r → ∀ (H : Heap) (locs : List Loc) (ls : Array Slot), va_P (dC, dI) nCl (vM cy a σ) H → va_D A (vM cy a σ) → va_S A s.heap H locs → lv_has ls 2 [(0, .ref (a 0)), (1, .int (L 1))] → W p l e (headSpec w_x_truth ({ frames := 0, cells := 0, slots := 0, locals := 0 })).room s m #[.ref (a 0), .int (L0 1)] below meth c H locs 0 0 (MQ below (va_Qi (fun (z : Int32) (_ : Unit) => z = r.1) (fun _ t => nOut (dC, dI) cy A (vM cy a r.2) t) A) #[.ref (a 0), .int (L0 1)] s 0 0 A) (F0 m 0 ls [])) ∧ (∀ (L : Nat → Int32) (σ : MS) (r : Int32 × MS), x_truth k 1 L σ = some r → ∀ (H : Heap) (locs : List Loc) (ls : Array Slot), va_P (dC, dI) nCl (vM cy a σ) H → va_D A (vM cy a σ) → va_S A s.heap H locs → lv_has ls 2 [(0, .ref (a 0)), (1, .int (L 1))] → W p l e (headSpec w_x_truth ({ frames := 0, cells := 0, slots := 0, locals := 0 })).room s m #[.ref (a 0), .int (L0 1)] below meth c H locs 0 0 (MQ below (va_Qi (fun (z : Int32) (_ : Unit) => z = r.1) (fun _ t => nOut (dC, dI) cy A (vM cy a r.2) t) A) #[.ref (a 0), .int (L0 1)] s 0 0 A) (F0 m 8 ls [])) ∧ (∀ (L : Nat → Int32) (σ : MS) (r : Int32 × MS), x_truth k 2 L σ = some r → ∀ (H : Heap) (locs : List Loc) (ls : Array Slot), va_P (dC, dI) nCl (vM cy a σ) H → va_D A (vM cy a σ) → va_S A s.heap H locs → lv_has ls 2 [(0, .ref (a 0)), (1, .int (L 1))] → W p l e (headSpec w_x_truth ({ frames := 0, cells := 0, slots := 0, locals := 0 })).room s m #[.ref (a 0), .int (L0 1)] below meth c H locs 0 0 (MQ below (va_Qi (fun (z : Int32) (_ : Unit) => z = r.1) (fun _ t => nOut (dC, dI) cy A (vM cy a r.2) t) A) #[.ref (a 0), .int (L0 1)] s 0 0 A) (F0 m 9 ls [.int (L 100)])) := by
    intro k
    induction k with
    | zero => exact ⟨fun L σ r h => (by cases h), fun L σ r h => (by cases h), fun L σ r h => (by cases h)⟩
    | succ k ih =>
      refine ⟨?_, ?_, ?_⟩
      · intro L σ r h H locs ls hP hD hS hl
        rw [x_truth] at h
        refine lv_iload_n hx hb dX12_truth_0 rfl (lv_at hl 1 rfl) ?_
        refine lv_if_eq (tgt := 8) hx hb dX12_truth_1 (by decide) (fun c1 => ?_) (fun c1 => ?_)
        · rw [if_pos c1] at h
          exact ih.2.1 L σ r h H locs ls hP hD hS (lv_sub hl [0, 1] rfl)
        · rw [if_neg c1] at h
          refine lv_iconst (v := 2) hx hb dX12_truth_4 (by decide) ?_
          refine lv_goto (tgt := 9) hx hb dX12_truth_5 (by decide) ?_
          exact ih.2.2 (upd L 100 2) σ r h H locs ls hP hD hS (lv_sub hl [0, 1] rfl)
      · intro L σ r h H locs ls hP hD hS hl
        rw [x_truth] at h
        refine lv_iconst (v := 1) hx hb dX12_truth_8 (by decide) ?_
        exact ih.2.2 (upd L 100 1) σ r h H locs ls hP hD hS (lv_sub hl [0, 1] rfl)
      · intro L σ r h H locs ls hP hD hS hl
        rw [x_truth] at h
        cases h
        exact W.iret (v := (L 100)) hx hb hr (fun t ht hW => ⟨⟨(L 100), (), rfl, rfl, by rw [ht]; exact hP, va_K.moved hW.alike hK, hD⟩, hS.F ht⟩) hS.2.2 dX12_truth_9
  exact (blk k0).1 L0 σ0 r0 h0 s.heap [] ls hP hD hS hl
/-! wrongKind -/
def x_wrongKind : Nat → Nat → (Nat → Int32) → MS → Option (Int32 × MS)
  | 0, _, _, _ => none
  | k + 1, 0, L, σ => ob (x_fail k 0 (upd (fun _ => 0) 1 1) σ) (fun r1 => some (0, r1.2))
  | _ + 1, _ + 1, _, _ => none
def o_x_wrongKind : List Cond := [.methodLink RX12 369 yX12_fail, .instanceMethod yX12_fail, .selects RX12 yX12_fail yX12_fail, .initialized RX12]
theorem o_x_wrongKind_good : o_x_wrongKind.all goodWord = true := by decide +kernel
def p_x_wrongKind : List Cond := o_x_wrongKind ++ ((.code yX12_fail cX12_fail 2 none :: p_x_fail) ++ [])
theorem p_x_wrongKind_good : p_x_wrongKind.all goodWord = true := nb_all2 o_x_wrongKind_good (nb_all2 (nb_allc (by decide +kernel) p_x_fail_good) rfl)
def w_x_wrongKind : List Cond := .code yX12_wrongKind cX12_wrongKind 1 (some .int) :: (p_x_wrongKind ++ fM)
theorem w_x_wrongKind_good : w_x_wrongKind.all goodWord = true := nb_allc (by decide +kernel) (nb_all2 p_x_wrongKind_good fM_good)
theorem in_x_wrongKind : ∀ w ∈ wsX120, w ∈ w_x_wrongKind := fun _ h => List.mem_cons_of_mem _ (List.mem_append_right _ h)
theorem gg_x_wrongKind_fail : GoodIn w_x_wrongKind w_x_fail := goodIn_sub (fun w h => (List.mem_cons.mp h).elim (fun e => (List.mem_cons_of_mem _ (List.mem_append_left _ (List.mem_append_right _ (List.mem_append_left _ (List.mem_cons.mpr (Or.inl e))))))) (fun h => (List.mem_append.mp h).elim (fun h => (List.mem_cons_of_mem _ (List.mem_append_left _ (List.mem_append_right _ (List.mem_append_left _ (List.mem_cons_of_mem _ h)))))) (fun h => List.mem_cons_of_mem _ (List.mem_append_right _ h)))) w_x_fail_good
theorem g_x_wrongKind_fail_369 : GoodIn w_x_wrongKind (wsV RX12 369 RX12 yX12_fail w_x_fail) := goodIn_app (nb_g4 (List.mem_cons_of_mem _ (List.mem_append_left _ (List.mem_append_left _ (List.mem_of_getElem? (i := 0) rfl)))) (List.mem_cons_of_mem _ (List.mem_append_left _ (List.mem_append_left _ (List.mem_of_getElem? (i := 1) rfl)))) (List.mem_cons_of_mem _ (List.mem_append_left _ (List.mem_append_left _ (List.mem_of_getElem? (i := 2) rfl)))) (List.mem_cons_of_mem _ (List.mem_append_left _ (List.mem_append_left _ (List.mem_of_getElem? (i := 3) rfl)))) (by decide +kernel)) gg_x_wrongKind_fail
set_option maxHeartbeats 40000000 in
set_option maxRecDepth 100000 in
theorem c_x_wrongKind (l : Launch) (dC : Nat → ClassId) (dI : Nat → Nat → Nat) (cy : Nat → ClassId) (a : Nat → Nat) (k0 : Nat) (L0 : Nat → Int32) (σ0 : MS) (r0 : Int32 × MS) (h0 : x_wrongKind k0 0 L0 σ0 = some r0) (sz : Nat) : Met l yX12_wrongKind w_x_wrongKind ({ frames := 1, cells := 0, slots := 0, locals := 21 }) (va_Pc [.ref (a 0)] (nIn (dC, dI) cy sz (vM cy a σ0))) (va_Qi (fun (z : Int32) (_ : Unit) => z = r0.1) (fun _ t => nOut (dC, dI) cy (va_A (vM cy a σ0) sz) (vM cy a r0.2) t) (va_A (vM cy a σ0) sz)) 0 0 (va_A (vM cy a σ0) sz) := by
  refine Met.ofW (cc := cX12_wrongKind) (maxL := 1) (ret := (some .int)) (by decide) rfl ?_
  intro p e s m args below meth c s₁ B hml hv
  obtain ⟨rfl, hsz, hP, hK, hD0, hG⟩ := hv
  have hx := B.exec
  have hb := B.bytes
  have hr := B.returns
  have hts := atoms_spec (ws := w_x_wrongKind) B.pre
  have hown : s.vm.findClass RX12 = some m.cls := findClass_of_methodNamed B.named
  have hlocks := B.notSynchronized
  subst hsz
  have hD := hD0.self (sz := s.heap.size)
  generalize hAe : va_A (vM cy a σ0) s.heap.size = A at hD ⊢
  have hA : ∀ q : Nat, s.heap.size ≤ q → A q := fun q h => by rw [← hAe]; exact Or.inr h
  have hS : va_S A s.heap s.heap [] := va_S.rf
  have hl := lv_entry ([.ref (a 0)]) (n := 1) (Nat.le_of_ble_eq_true rfl)
  rw [lg_entry_eq]
  generalize (lg_sl ([.ref (a 0)]) ++ List.replicate (1 - (lg_sl ([.ref (a 0)])).length) Slot.unset).toArray = ls at hl ⊢
  have hl : lv_has ls 1 [(0, .ref (a 0))] := hl
  have blk : ∀ k : Nat, (∀ (L : Nat → Int32) (σ : MS) (r : Int32 × MS), x_wrongKind k 0 L σ = some r → ∀ (H : Heap) (locs : List Loc) (ls : Array Slot), va_P (dC, dI) nCl (vM cy a σ) H → va_D A (vM cy a σ) → va_S A s.heap H locs → lv_has ls 1 [(0, .ref (a 0))] → W p l e (headSpec w_x_wrongKind ({ frames := 1, cells := 0, slots := 0, locals := 21 })).room s m #[.ref (a 0)] below meth c H locs 0 0 (MQ below (va_Qi (fun (z : Int32) (_ : Unit) => z = r.1) (fun _ t => nOut (dC, dI) cy A (vM cy a r.2) t) A) #[.ref (a 0)] s 0 0 A) (F0 m 0 ls [])) := by
    intro k
    induction k with
    | zero => exact fun L σ r h => (by cases h)
    | succ k ih =>
      skip
      · intro L σ r h H locs ls hP hD hS hl
        rw [x_wrongKind] at h
        refine lv_aload_n hx hb dX12_wrongKind_0 rfl (lv_at hl 0 rfl) ?_
        refine lv_iconst (v := 1) hx hb dX12_wrongKind_1 (by decide) ?_
        cases hc1 : x_fail k 0 (upd (fun _ => 0) 1 1) σ with
        | none => rw [hc1, ob_none] at h; cases h
        | some r1 =>
          rw [hc1, ob_some] at h
          have hFc := va_free (wc := vM cy a σ) hD hS hA [0, 1, 2, 3, 4, 5, 6, 7, 8, 9, 10, 11, 12, 13, 14, 15, 16, 17, 18, 19, 20, 21, 22, 23, 24, 25, 26, 27, 28, 29, 30, 31, 32, 33, 34, 35, 36, 37, 38, 39, 40, 41, 42, 43, 44, 45, 46, 47, 48, 49, 50, 51, 52, 53, 54, 55, 56, 57] rfl
          refine va_callv (va_runV (As := [.int 1]) (rest := []) ⟨hx, hb, hml, hown, hts⟩ (c_x_fail l dC dI cy a k (upd (fun _ => 0) 1 1) σ r1 hc1 H.size) (cwV 1 hts g_x_wrongKind_fail_369 rfl rfl rfl (by decide +kernel) ⟨Nat.le_of_ble_eq_true rfl, Nat.le_of_ble_eq_true rfl⟩) ⟨nb_blind, va_recv hK hP (ci := 11) (q0 := 0) rfl rfl, fun U hU hW => ⟨rfl, by rw [hU], by rw [hU]; exact hP, va_K.moved hW.alike hK, hD.weaken (fun _ _ _ _ => trivial), hG.warm hW⟩⟩ rfl rfl hl.1 rfl (lv_room (Nat.le_of_ble_eq_true rfl)) dX12_wrongKind_2 ⟨Nat.le_of_ble_eq_true rfl, Nat.le_of_ble_eq_true rfl⟩) hS (fun q _ h => hFc q h) hFc (fun _ t H1 locs ht hvm hw hB hz1 hk1 hS => ?_)
          obtain ⟨hP1, hK1, hD1⟩ := hB
          rw [ht] at hP1
          obtain ⟨hP, hD⟩ := va_join (wr := []) (w1 := vM cy a r1.2) hP hD [0, 1, 2, 3, 4, 5, 6, 7, 8, 9, 10, 11, 12, 13, 14, 15, 16, 17, 18, 19, 20, 21, 22, 23, 24, 25, 26, 27, 28, 29, 30, 31, 32, 33, 34, 35, 36, 37, 38, 39, 40, 41, 42, 43, 44, 45, 46, 47, 48, 49, 50, 51, 52, 53, 54, 55, 56, 57] [] rfl rfl (by decide) (by decide) hk1 hFc hP1 hD1
          generalize H1 = H at hP hS ⊢
          have hP : va_P (dC, dI) nCl (vM cy a r1.2) H := hP
          have hD : va_D A (vM cy a r1.2) := hD
          refine lv_iconst (v := 0) hx hb dX12_wrongKind_5 (by decide) ?_
          cases h
          exact W.iret (v := 0) hx hb hr (fun t ht hW => ⟨⟨0, (), rfl, rfl, by rw [ht]; exact hP, va_K.moved hW.alike hK, hD⟩, hS.F ht⟩) hS.2.2 dX12_wrongKind_6
  exact (blk k0) L0 σ0 r0 h0 s.heap [] ls hP hD hS hl
/-! bindOne -/
def x_bindOne : Nat → Nat → (Nat → Int32) → MS → Option (Int32 × MS)
  | 0, _, _, _ => none
  | k + 1, 0, L, σ => if ¬ (((L 1)) < 0 ∨ 70000 ≤ ((L 1)).toNatClampNeg) then (if ((σ.2.2 5 ((L 1)).toNatClampNeg)) = 0 then (if ¬ (((L 1)) < 0 ∨ 70000 ≤ ((L 1)).toNatClampNeg) then (if ¬ (((4 + ((σ.2.2 6 ((L 1)).toNatClampNeg)))) < 0 ∨ 11514 ≤ ((4 + ((σ.2.2 6 ((L 1)).toNatClampNeg)))).toNatClampNeg) then (x_bindOne k 3 L (σ.1, σ.2.1, updG σ.2.2 30 (upd (σ.2.2 30) ((4 + ((σ.2.2 6 ((L 1)).toNatClampNeg)))).toNatClampNeg ((L 2))))) else none) else none) else (x_bindOne k 1 L σ)) else none
  | k + 1, 1, L, σ => if ((σ.1 69)) = 0 then (x_bindOne k 2 L σ) else (if ¬ (((L 1)) < 0 ∨ 70000 ≤ ((L 1)).toNatClampNeg) then (if ¬ (((((σ.1 68)) + ((σ.2.2 6 ((L 1)).toNatClampNeg)))) < 0 ∨ 1380 ≤ ((((σ.1 68)) + ((σ.2.2 6 ((L 1)).toNatClampNeg)))).toNatClampNeg) then (x_bindOne k 3 L (σ.1, σ.2.1, updG σ.2.2 33 (upd (σ.2.2 33) ((((σ.1 68)) + ((σ.2.2 6 ((L 1)).toNatClampNeg)))).toNatClampNeg ((L 2))))) else none) else none)
  | k + 1, 2, L, σ => if ¬ ((1 : Int32) < 0 ∨ 11514 ≤ (1 : Int32).toNatClampNeg) then (if ¬ (((L 1)) < 0 ∨ 70000 ≤ ((L 1)).toNatClampNeg) then (if ¬ (((((214 + ((60 * ((((σ.2.2 30 (1 : Int32).toNatClampNeg)) - 1)))))) + ((σ.2.2 6 ((L 1)).toNatClampNeg)))) < 0 ∨ 11514 ≤ ((((214 + ((60 * ((((σ.2.2 30 (1 : Int32).toNatClampNeg)) - 1)))))) + ((σ.2.2 6 ((L 1)).toNatClampNeg)))).toNatClampNeg) then (x_bindOne k 3 L (σ.1, σ.2.1, updG σ.2.2 30 (upd (σ.2.2 30) ((((214 + ((60 * ((((σ.2.2 30 (1 : Int32).toNatClampNeg)) - 1)))))) + ((σ.2.2 6 ((L 1)).toNatClampNeg)))).toNatClampNeg ((L 2))))) else none) else none) else none
  | k + 1, 3, L, σ => some (0, σ)
  | _ + 1, _ + 4, _, _ => none
def o_x_bindOne : List Cond := [.fieldLink RX12 86 "SetHouseModel" "x1" "[I", .fieldLink RX12 395 "SetHouseModel" "st" "[I", .fieldLink RX12 89 "SetHouseModel" "x2" "[I", .fieldLink RX12 557 "SetHouseModel" "inFrames" "Z", .fieldLink RX12 408 "SetHouseModel" "frames" "[I", .fieldLink RX12 560 "SetHouseModel" "localBase" "I"]
theorem o_x_bindOne_good : o_x_bindOne.all goodWord = true := by decide +kernel
def p_x_bindOne : List Cond := o_x_bindOne ++ []
theorem p_x_bindOne_good : p_x_bindOne.all goodWord = true := nb_all2 o_x_bindOne_good rfl
def w_x_bindOne : List Cond := .code yX12_bindOne cX12_bindOne 3 none :: (p_x_bindOne ++ fM)
theorem w_x_bindOne_good : w_x_bindOne.all goodWord = true := nb_allc (by decide +kernel) (nb_all2 p_x_bindOne_good fM_good)
theorem in_x_bindOne : ∀ w ∈ wsX120, w ∈ w_x_bindOne := fun _ h => List.mem_cons_of_mem _ (List.mem_append_right _ h)
set_option maxHeartbeats 40000000 in
set_option maxRecDepth 100000 in
theorem c_x_bindOne (l : Launch) (dC : Nat → ClassId) (dI : Nat → Nat → Nat) (cy : Nat → ClassId) (a : Nat → Nat) (k0 : Nat) (L0 : Nat → Int32) (σ0 : MS) (r0 : Int32 × MS) (h0 : x_bindOne k0 0 L0 σ0 = some r0) (sz : Nat) : Met l yX12_bindOne w_x_bindOne ({ frames := 0, cells := 0, slots := 0, locals := 0 }) (va_Pc [.ref (a 0), .int (L0 1), .int (L0 2)] (nIn (dC, dI) cy sz (vM cy a σ0))) (va_Qv (fun _ : Unit => True) (fun _ t => nOut (dC, dI) cy (va_A (vM cy a σ0) sz) (vM cy a r0.2) t) (va_A (vM cy a σ0) sz)) 0 0 (va_A (vM cy a σ0) sz) := by
  refine Met.ofW (cc := cX12_bindOne) (maxL := 3) (ret := none) (by decide) rfl ?_
  intro p e s m args below meth c s₁ B hml hv
  obtain ⟨rfl, hsz, hP, hK, hD0, hG⟩ := hv
  have hx := B.exec
  have hb := B.bytes
  have hr := B.returns
  have hts := atoms_spec (ws := w_x_bindOne) B.pre
  have hown : s.vm.findClass RX12 = some m.cls := findClass_of_methodNamed B.named
  have hlocks := B.notSynchronized
  subst hsz
  have hD := hD0.self (sz := s.heap.size)
  generalize hAe : va_A (vM cy a σ0) s.heap.size = A at hD ⊢
  have hA : ∀ q : Nat, s.heap.size ≤ q → A q := fun q h => by rw [← hAe]; exact Or.inr h
  have hS : va_S A s.heap s.heap [] := va_S.rf
  have hl := lv_entry ([.ref (a 0), .int (L0 1), .int (L0 2)]) (n := 3) (Nat.le_of_ble_eq_true rfl)
  rw [lg_entry_eq]
  generalize (lg_sl ([.ref (a 0), .int (L0 1), .int (L0 2)]) ++ List.replicate (3 - (lg_sl ([.ref (a 0), .int (L0 1), .int (L0 2)])).length) Slot.unset).toArray = ls at hl ⊢
  have hl : lv_has ls 3 [(0, .ref (a 0)), (1, .int (L0 1)), (2, .int (L0 2))] := hl
  have blk : ∀ k : Nat, (∀ (L : Nat → Int32) (σ : MS) (r : Int32 × MS), x_bindOne k 0 L σ = some r → ∀ (H : Heap) (locs : List Loc) (ls : Array Slot), va_P (dC, dI) nCl (vM cy a σ) H → va_D A (vM cy a σ) → va_S A s.heap H locs → lv_has ls 3 [(0, .ref (a 0)), (1, .int (L 1)), (2, .int (L 2))] → W p l e (headSpec w_x_bindOne ({ frames := 0, cells := 0, slots := 0, locals := 0 })).room s m #[.ref (a 0), .int (L0 1), .int (L0 2)] below meth c H locs 0 0 (MQ below (va_Qv (fun _ : Unit => True) (fun _ t => nOut (dC, dI) cy A (vM cy a r.2) t) A) #[.ref (a 0), .int (L0 1), .int (L0 2)] s 0 0 A) (F0 m 0 ls [])) ∧ (∀ (L : Nat → Int32) (σ : MS) (r : Int32 × MS), x_bindOne k 1 L σ = some r → ∀ (H : Heap) (locs : List Loc) (ls : Array Slot), va_P (dC, dI) nCl (vM cy a σ) H → va_D A (vM cy a σ) → va_S A s.heap H locs → lv_has ls 3 [(0, .ref (a 0)), (1, .int (L 1)), (2, .int (L 2))] → W p l e (headSpec w_x_bindOne ({ frames := 0, cells := 0, slots := 0, locals := 0 })).room s m #[.ref (a 0), .int (L0 1), .int (L0 2)] below meth c H locs 0 0 (MQ below (va_Qv (fun _ : Unit => True) (fun _ t => nOut (dC, dI) cy A (vM cy a r.2) t) A) #[.ref (a 0), .int (L0 1), .int (L0 2)] s 0 0 A) (F0 m 26 ls [])) ∧ (∀ (L : Nat → Int32) (σ : MS) (r : Int32 × MS), x_bindOne k 2 L σ = some r → ∀ (H : Heap) (locs : List Loc) (ls : Array Slot), va_P (dC, dI) nCl (vM cy a σ) H → va_D A (vM cy a σ) → va_S A s.heap H locs → lv_has ls 3 [(0, .ref (a 0)), (1, .int (L 1)), (2, .int (L 2))] → W p l e (headSpec w_x_bindOne ({ frames := 0, cells := 0, slots := 0, locals := 0 })).room s m #[.ref (a 0), .int (L0 1), .int (L0 2)] below meth c H locs 0 0 (MQ below (va_Qv (fun _ : Unit => True) (fun _ t => nOut (dC, dI) cy A (vM cy a r.2) t) A) #[.ref (a 0), .int (L0 1), .int (L0 2)] s 0 0 A) (F0 m 53 ls [])) ∧ (∀ (L : Nat → Int32) (σ : MS) (r : Int32 × MS), x_bindOne k 3 L σ = some r → ∀ (H : Heap) (locs : List Loc) (ls : Array Slot), va_P (dC, dI) nCl (vM cy a σ) H → va_D A (vM cy a σ) → va_S A s.heap H locs → lv_has ls 3 [(0, .ref (a 0)), (1, .int (L 1)), (2, .int (L 2))] → W p l e (headSpec w_x_bindOne ({ frames := 0, cells := 0, slots := 0, locals := 0 })).room s m #[.ref (a 0), .int (L0 1), .int (L0 2)] below meth c H locs 0 0 (MQ below (va_Qv (fun _ : Unit => True) (fun _ t => nOut (dC, dI) cy A (vM cy a r.2) t) A) #[.ref (a 0), .int (L0 1), .int (L0 2)] s 0 0 A) (F0 m 81 ls [])) := by
    intro k
    induction k with
    | zero => exact ⟨fun L σ r h => (by cases h), fun L σ r h => (by cases h), fun L σ r h => (by cases h), fun L σ r h => (by cases h)⟩
    | succ k ih =>
      refine ⟨?_, ?_, ?_, ?_⟩
      · intro L σ r h H locs ls hP hD hS hl
        rw [x_bindOne] at h
        refine lv_aload_n hx hb dX12_bindOne_0 rfl (lv_at hl 0 rfl) ?_
        refine va_get (D := (dC, dI)) (ci := 11) (v := .ref (a 5)) (C := RX12) (T := TX12) (N := 121) hx hb hts in_x_bindOne hown hK hP 0 rfl rfl 15 (by decide) (hts _ (List.mem_cons_of_mem _ (List.mem_append_left _ (List.mem_append_left _ (List.mem_of_getElem? (i := 0) rfl))))) (fun _ h9 => h9) rfl dX12_bindOne_1 ?_
        refine lv_iload_n hx hb dX12_bindOne_4 rfl (lv_at hl 1 rfl) ?_
        by_cases q1 : ¬ (((L 1)) < 0 ∨ 70000 ≤ ((L 1)).toNatClampNeg)
        · rw [if_pos q1] at h
          refine va_iald hx hb hK hP 5 1 rfl rfl (nb_inp q1) dX12_bindOne_5 ?_
          refine lv_if_ne (tgt := 26) hx hb dX12_bindOne_6 (by decide) (fun c2 => ?_) (fun c2 => ?_)
          · rw [if_neg c2] at h
            exact ih.2.1 L σ r h H locs ls hP hD hS (lv_sub hl [0, 1, 2] rfl)
          · rw [if_pos c2] at h
            refine lv_aload_n hx hb dX12_bindOne_9 rfl (lv_at hl 0 rfl) ?_
            refine va_get (D := (dC, dI)) (ci := 11) (v := .ref (a 30)) (C := RX12) (T := TX12) (N := 121) hx hb hts in_x_bindOne hown hK hP 0 rfl rfl 60 (by decide) (hts _ (List.mem_cons_of_mem _ (List.mem_append_left _ (List.mem_append_left _ (List.mem_of_getElem? (i := 1) rfl))))) (fun _ h9 => h9) rfl dX12_bindOne_10 ?_
            refine lv_iconst (v := 4) hx hb dX12_bindOne_13 (by decide) ?_
            refine lv_aload_n hx hb dX12_bindOne_14 rfl (lv_at hl 0 rfl) ?_
            refine va_get (D := (dC, dI)) (ci := 11) (v := .ref (a 6)) (C := RX12) (T := TX12) (N := 121) hx hb hts in_x_bindOne hown hK hP 0 rfl rfl 16 (by decide) (hts _ (List.mem_cons_of_mem _ (List.mem_append_left _ (List.mem_append_left _ (List.mem_of_getElem? (i := 2) rfl))))) (fun _ h9 => h9) rfl dX12_bindOne_15 ?_
            refine lv_iload_n hx hb dX12_bindOne_18 rfl (lv_at hl 1 rfl) ?_
            by_cases q3 : ¬ (((L 1)) < 0 ∨ 70000 ≤ ((L 1)).toNatClampNeg)
            · rw [if_pos q3] at h
              refine va_iald hx hb hK hP 6 1 rfl rfl (nb_inp q3) dX12_bindOne_19 ?_
              refine lv_iadd hx hb dX12_bindOne_20 ?_
              refine lv_iload_n hx hb dX12_bindOne_21 rfl (lv_at hl 2 rfl) ?_
              by_cases q4 : ¬ (((4 + ((σ.2.2 6 ((L 1)).toNatClampNeg)))) < 0 ∨ 11514 ≤ ((4 + ((σ.2.2 6 ((L 1)).toNatClampNeg)))).toNatClampNeg)
              · rw [if_pos q4] at h
                refine va_iast hx hb hK hP hD hS 30 1 rfl rfl (nb_inp q4) dX12_bindOne_22 (fun H locs hP hD hS => ?_)
                have hP : va_P (dC, dI) nCl (vM cy a (σ.1, σ.2.1, updG σ.2.2 30 (upd (σ.2.2 30) ((4 + ((σ.2.2 6 ((L 1)).toNatClampNeg)))).toNatClampNeg ((L 2))))) H := hP
                have hD : va_D A (vM cy a (σ.1, σ.2.1, updG σ.2.2 30 (upd (σ.2.2 30) ((4 + ((σ.2.2 6 ((L 1)).toNatClampNeg)))).toNatClampNeg ((L 2))))) := hD
                refine lv_goto (tgt := 81) hx hb dX12_bindOne_23 (by decide) ?_
                exact ih.2.2.2 L (σ.1, σ.2.1, updG σ.2.2 30 (upd (σ.2.2 30) ((4 + ((σ.2.2 6 ((L 1)).toNatClampNeg)))).toNatClampNeg ((L 2)))) r h H locs ls hP hD hS (lv_sub hl [0, 1, 2] rfl)
              · rw [if_neg q4] at h; cases h
            · rw [if_neg q3] at h; cases h
        · rw [if_neg q1] at h; cases h
      · intro L σ r h H locs ls hP hD hS hl
        rw [x_bindOne] at h
        refine lv_aload_n hx hb dX12_bindOne_26 rfl (lv_at hl 0 rfl) ?_
        refine va_get (D := (dC, dI)) (ci := 11) (v := .int (σ.1 69)) (C := RX12) (T := TX12) (N := 121) hx hb hts in_x_bindOne hown hK hP 0 rfl rfl 69 (by decide) (hts _ (List.mem_cons_of_mem _ (List.mem_append_left _ (List.mem_append_left _ (List.mem_of_getElem? (i := 3) rfl))))) (fun _ h9 => h9) rfl dX12_bindOne_27 ?_
        refine lv_if_eq (tgt := 53) hx hb dX12_bindOne_30 (by decide) (fun c1 => ?_) (fun c1 => ?_)
        · rw [if_pos c1] at h
          exact ih.2.2.1 L σ r h H locs ls hP hD hS (lv_sub hl [0, 1, 2] rfl)
        · rw [if_neg c1] at h
          refine lv_aload_n hx hb dX12_bindOne_33 rfl (lv_at hl 0 rfl) ?_
          refine va_get (D := (dC, dI)) (ci := 11) (v := .ref (a 33)) (C := RX12) (T := TX12) (N := 121) hx hb hts in_x_bindOne hown hK hP 0 rfl rfl 66 (by decide) (hts _ (List.mem_cons_of_mem _ (List.mem_append_left _ (List.mem_append_left _ (List.mem_of_getElem? (i := 4) rfl))))) (fun _ h9 => h9) rfl dX12_bindOne_34 ?_
          refine lv_aload_n hx hb dX12_bindOne_37 rfl (lv_at hl 0 rfl) ?_
          refine va_get (D := (dC, dI)) (ci := 11) (v := .int (σ.1 68)) (C := RX12) (T := TX12) (N := 121) hx hb hts in_x_bindOne hown hK hP 0 rfl rfl 68 (by decide) (hts _ (List.mem_cons_of_mem _ (List.mem_append_left _ (List.mem_append_left _ (List.mem_of_getElem? (i := 5) rfl))))) (fun _ h9 => h9) rfl dX12_bindOne_38 ?_
          refine lv_aload_n hx hb dX12_bindOne_41 rfl (lv_at hl 0 rfl) ?_
          refine va_get (D := (dC, dI)) (ci := 11) (v := .ref (a 6)) (C := RX12) (T := TX12) (N := 121) hx hb hts in_x_bindOne hown hK hP 0 rfl rfl 16 (by decide) (hts _ (List.mem_cons_of_mem _ (List.mem_append_left _ (List.mem_append_left _ (List.mem_of_getElem? (i := 2) rfl))))) (fun _ h9 => h9) rfl dX12_bindOne_42 ?_
          refine lv_iload_n hx hb dX12_bindOne_45 rfl (lv_at hl 1 rfl) ?_
          by_cases q2 : ¬ (((L 1)) < 0 ∨ 70000 ≤ ((L 1)).toNatClampNeg)
          · rw [if_pos q2] at h
            refine va_iald hx hb hK hP 6 1 rfl rfl (nb_inp q2) dX12_bindOne_46 ?_
            refine lv_iadd hx hb dX12_bindOne_47 ?_
            refine lv_iload_n hx hb dX12_bindOne_48 rfl (lv_at hl 2 rfl) ?_
            by_cases q3 : ¬ (((((σ.1 68)) + ((σ.2.2 6 ((L 1)).toNatClampNeg)))) < 0 ∨ 1380 ≤ ((((σ.1 68)) + ((σ.2.2 6 ((L 1)).toNatClampNeg)))).toNatClampNeg)
            · rw [if_pos q3] at h
              refine va_iast hx hb hK hP hD hS 33 1 rfl rfl (nb_inp q3) dX12_bindOne_49 (fun H locs hP hD hS => ?_)
              have hP : va_P (dC, dI) nCl (vM cy a (σ.1, σ.2.1, updG σ.2.2 33 (upd (σ.2.2 33) ((((σ.1 68)) + ((σ.2.2 6 ((L 1)).toNatClampNeg)))).toNatClampNeg ((L 2))))) H := hP
              have hD : va_D A (vM cy a (σ.1, σ.2.1, updG σ.2.2 33 (upd (σ.2.2 33) ((((σ.1 68)) + ((σ.2.2 6 ((L 1)).toNatClampNeg)))).toNatClampNeg ((L 2))))) := hD
              refine lv_goto (tgt := 81) hx hb dX12_bindOne_50 (by decide) ?_
              exact ih.2.2.2 L (σ.1, σ.2.1, updG σ.2.2 33 (upd (σ.2.2 33) ((((σ.1 68)) + ((σ.2.2 6 ((L 1)).toNatClampNeg)))).toNatClampNeg ((L 2)))) r h H locs ls hP hD hS (lv_sub hl [0, 1, 2] rfl)
            · rw [if_neg q3] at h; cases h
          · rw [if_neg q2] at h; cases h
      · intro L σ r h H locs ls hP hD hS hl
        rw [x_bindOne] at h
        refine lv_aload_n hx hb dX12_bindOne_53 rfl (lv_at hl 0 rfl) ?_
        refine va_get (D := (dC, dI)) (ci := 11) (v := .ref (a 30)) (C := RX12) (T := TX12) (N := 121) hx hb hts in_x_bindOne hown hK hP 0 rfl rfl 60 (by decide) (hts _ (List.mem_cons_of_mem _ (List.mem_append_left _ (List.mem_append_left _ (List.mem_of_getElem? (i := 1) rfl))))) (fun _ h9 => h9) rfl dX12_bindOne_54 ?_
        refine lv_sipush (v := 214) hx hb dX12_bindOne_57 (by decide) ?_
        refine lv_bipush (v := 60) hx hb dX12_bindOne_60 (by decide) ?_
        refine lv_aload_n hx hb dX12_bindOne_62 rfl (lv_at hl 0 rfl) ?_
        refine va_get (D := (dC, dI)) (ci := 11) (v := .ref (a 30)) (C := RX12) (T := TX12) (N := 121) hx hb hts in_x_bindOne hown hK hP 0 rfl rfl 60 (by decide) (hts _ (List.mem_cons_of_mem _ (List.mem_append_left _ (List.mem_append_left _ (List.mem_of_getElem? (i := 1) rfl))))) (fun _ h9 => h9) rfl dX12_bindOne_63 ?_
        refine lv_iconst (v := 1) hx hb dX12_bindOne_66 (by decide) ?_
        by_cases q1 : ¬ ((1 : Int32) < 0 ∨ 11514 ≤ (1 : Int32).toNatClampNeg)
        · rw [if_pos q1] at h
          refine va_iald hx hb hK hP 30 1 rfl rfl (nb_inp q1) dX12_bindOne_67 ?_
          refine lv_iconst (v := 1) hx hb dX12_bindOne_68 (by decide) ?_
          refine lv_isub hx hb dX12_bindOne_69 ?_
          refine lv_imul hx hb dX12_bindOne_70 ?_
          refine lv_iadd hx hb dX12_bindOne_71 ?_
          refine lv_aload_n hx hb dX12_bindOne_72 rfl (lv_at hl 0 rfl) ?_
          refine va_get (D := (dC, dI)) (ci := 11) (v := .ref (a 6)) (C := RX12) (T := TX12) (N := 121) hx hb hts in_x_bindOne hown hK hP 0 rfl rfl 16 (by decide) (hts _ (List.mem_cons_of_mem _ (List.mem_append_left _ (List.mem_append_left _ (List.mem_of_getElem? (i := 2) rfl))))) (fun _ h9 => h9) rfl dX12_bindOne_73 ?_
          refine lv_iload_n hx hb dX12_bindOne_76 rfl (lv_at hl 1 rfl) ?_
          by_cases q2 : ¬ (((L 1)) < 0 ∨ 70000 ≤ ((L 1)).toNatClampNeg)
          · rw [if_pos q2] at h
            refine va_iald hx hb hK hP 6 1 rfl rfl (nb_inp q2) dX12_bindOne_77 ?_
            refine lv_iadd hx hb dX12_bindOne_78 ?_
            refine lv_iload_n hx hb dX12_bindOne_79 rfl (lv_at hl 2 rfl) ?_
            by_cases q3 : ¬ (((((214 + ((60 * ((((σ.2.2 30 (1 : Int32).toNatClampNeg)) - 1)))))) + ((σ.2.2 6 ((L 1)).toNatClampNeg)))) < 0 ∨ 11514 ≤ ((((214 + ((60 * ((((σ.2.2 30 (1 : Int32).toNatClampNeg)) - 1)))))) + ((σ.2.2 6 ((L 1)).toNatClampNeg)))).toNatClampNeg)
            · rw [if_pos q3] at h
              refine va_iast hx hb hK hP hD hS 30 1 rfl rfl (nb_inp q3) dX12_bindOne_80 (fun H locs hP hD hS => ?_)
              have hP : va_P (dC, dI) nCl (vM cy a (σ.1, σ.2.1, updG σ.2.2 30 (upd (σ.2.2 30) ((((214 + ((60 * ((((σ.2.2 30 (1 : Int32).toNatClampNeg)) - 1)))))) + ((σ.2.2 6 ((L 1)).toNatClampNeg)))).toNatClampNeg ((L 2))))) H := hP
              have hD : va_D A (vM cy a (σ.1, σ.2.1, updG σ.2.2 30 (upd (σ.2.2 30) ((((214 + ((60 * ((((σ.2.2 30 (1 : Int32).toNatClampNeg)) - 1)))))) + ((σ.2.2 6 ((L 1)).toNatClampNeg)))).toNatClampNeg ((L 2))))) := hD
              exact ih.2.2.2 L (σ.1, σ.2.1, updG σ.2.2 30 (upd (σ.2.2 30) ((((214 + ((60 * ((((σ.2.2 30 (1 : Int32).toNatClampNeg)) - 1)))))) + ((σ.2.2 6 ((L 1)).toNatClampNeg)))).toNatClampNeg ((L 2)))) r h H locs ls hP hD hS (lv_sub hl [0, 1, 2] rfl)
            · rw [if_neg q3] at h; cases h
          · rw [if_neg q2] at h; cases h
        · rw [if_neg q1] at h; cases h
      · intro L σ r h H locs ls hP hD hS hl
        rw [x_bindOne] at h
        cases h
        exact W.vret hx hb hr (fun t ht hW => ⟨⟨(), rfl, trivial, by rw [ht]; exact hP, va_K.moved hW.alike hK, hD⟩, hS.F ht⟩) hS.2.2 dX12_bindOne_81
  exact (blk k0).1 L0 σ0 r0 h0 s.heap [] ls hP hD hS hl
/-! clear -/
def x_clear : Nat → Nat → (Nat → Int32) → MS → Option (Int32 × MS)
  | 0, _, _, _ => none
  | k + 1, 0, L, σ => x_clear k 1 (upd L 2 ((L 1))) σ
  | k + 1, 1, L, σ => if ((L 2)) = ((-1)) then (x_clear k 4 L σ) else (if ¬ (((L 2)) < 0 ∨ 70000 ≤ ((L 2)).toNatClampNeg) then (x_clear k 2 (upd L 3 ((σ.2.2 6 ((L 2)).toNatClampNeg))) σ) else none)
  | k + 1, 2, L, σ => if ((L 3)) = ((-1)) then (x_clear k 3 L σ) else (ob (x_bindOne k 0 (upd (upd (fun _ => 0) 1 ((L 3))) 2 0) σ) (fun r2 => if ¬ (((L 3)) < 0 ∨ 70000 ≤ ((L 3)).toNatClampNeg) then (x_clear k 2 (upd L 3 ((r2.2.2.2 9 ((L 3)).toNatClampNeg))) r2.2) else none))
  | k + 1, 3, L, σ => if ¬ (((L 2)) < 0 ∨ 70000 ≤ ((L 2)).toNatClampNeg) then (x_clear k 1 (upd L 2 ((σ.2.2 9 ((L 2)).toNatClampNeg))) σ) else none
  | k + 1, 4, L, σ => some (0, σ)
  | _ + 1, _ + 5, _, _ => none
def o_x_clear : List Cond := [.fieldLink RX12 89 "SetHouseModel" "x2" "[I", .methodLink RX12 694 yX12_bindOne, .instanceMethod yX12_bindOne, .selects RX12 yX12_bindOne yX12_bindOne, .initialized RX12, .fieldLink RX12 98 "SetHouseModel" "next" "[I"]
theorem o_x_clear_good : o_x_clear.all goodWord = true := by decide +kernel
def p_x_clear : List Cond := o_x_clear ++ ((.code yX12_bindOne cX12_bindOne 3 none :: p_x_bindOne) ++ [])
theorem p_x_clear_good : p_x_clear.all goodWord = true := nb_all2 o_x_clear_good (nb_all2 (nb_allc (by decide +kernel) p_x_bindOne_good) rfl)
def w_x_clear : List Cond := .code yX12_clear cX12_clear 4 none :: (p_x_clear ++ fM)
theorem w_x_clear_good : w_x_clear.all goodWord = true := nb_allc (by decide +kernel) (nb_all2 p_x_clear_good fM_good)
theorem in_x_clear : ∀ w ∈ wsX120, w ∈ w_x_clear := fun _ h => List.mem_cons_of_mem _ (List.mem_append_right _ h)
theorem gg_x_clear_bindOne : GoodIn w_x_clear w_x_bindOne := goodIn_sub (fun w h => (List.mem_cons.mp h).elim (fun e => (List.mem_cons_of_mem _ (List.mem_append_left _ (List.mem_append_right _ (List.mem_append_left _ (List.mem_cons.mpr (Or.inl e))))))) (fun h => (List.mem_append.mp h).elim (fun h => (List.mem_cons_of_mem _ (List.mem_append_left _ (List.mem_append_right _ (List.mem_append_left _ (List.mem_cons_of_mem _ h)))))) (fun h => List.mem_cons_of_mem _ (List.mem_append_right _ h)))) w_x_bindOne_good
theorem g_x_clear_bindOne_694 : GoodIn w_x_clear (wsV RX12 694 RX12 yX12_bindOne w_x_bindOne) := goodIn_app (nb_g4 (List.mem_cons_of_mem _ (List.mem_append_left _ (List.mem_append_left _ (List.mem_of_getElem? (i := 1) rfl)))) (List.mem_cons_of_mem _ (List.mem_append_left _ (List.mem_append_left _ (List.mem_of_getElem? (i := 2) rfl)))) (List.mem_cons_of_mem _ (List.mem_append_left _ (List.mem_append_left _ (List.mem_of_getElem? (i := 3) rfl)))) (List.mem_cons_of_mem _ (List.mem_append_left _ (List.mem_append_left _ (List.mem_of_getElem? (i := 4) rfl)))) (by decide +kernel)) gg_x_clear_bindOne
set_option maxHeartbeats 40000000 in
set_option maxRecDepth 100000 in
theorem c_x_clear (l : Launch) (dC : Nat → ClassId) (dI : Nat → Nat → Nat) (cy : Nat → ClassId) (a : Nat → Nat) (k0 : Nat) (L0 : Nat → Int32) (σ0 : MS) (r0 : Int32 × MS) (h0 : x_clear k0 0 L0 σ0 = some r0) (sz : Nat) : Met l yX12_clear w_x_clear ({ frames := 1, cells := 0, slots := 0, locals := 22 }) (va_Pc [.ref (a 0), .int (L0 1)] (nIn (dC, dI) cy sz (vM cy a σ0))) (va_Qv (fun _ : Unit => True) (fun _ t => nOut (dC, dI) cy (va_A (vM cy a σ0) sz) (vM cy a r0.2) t) (va_A (vM cy a σ0) sz)) 0 0 (va_A (vM cy a σ0) sz) := by
  refine Met.ofW (cc := cX12_clear) (maxL := 4) (ret := none) (by decide) rfl ?_
  intro p e s m args below meth c s₁ B hml hv
  obtain ⟨rfl, hsz, hP, hK, hD0, hG⟩ := hv
  have hx := B.exec
  have hb := B.bytes
  have hr := B.returns
  have hts := atoms_spec (ws := w_x_clear) B.pre
  have hown : s.vm.findClass RX12 = some m.cls := findClass_of_methodNamed B.named
  have hlocks := B.notSynchronized
  subst hsz
  have hD := hD0.self (sz := s.heap.size)
  generalize hAe : va_A (vM cy a σ0) s.heap.size = A at hD ⊢
  have hA : ∀ q : Nat, s.heap.size ≤ q → A q := fun q h => by rw [← hAe]; exact Or.inr h
  have hS : va_S A s.heap s.heap [] := va_S.rf
  have hl := lv_entry ([.ref (a 0), .int (L0 1)]) (n := 4) (Nat.le_of_ble_eq_true rfl)
  rw [lg_entry_eq]
  generalize (lg_sl ([.ref (a 0), .int (L0 1)]) ++ List.replicate (4 - (lg_sl ([.ref (a 0), .int (L0 1)])).length) Slot.unset).toArray = ls at hl ⊢
  have hl : lv_has ls 4 [(0, .ref (a 0)), (1, .int (L0 1))] := hl
  have blk : ∀ k : Nat, (∀ (L : Nat → Int32) (σ : MS) (r : Int32 × MS), x_clear k 0 L σ = some r → ∀ (H : Heap) (locs : List Loc) (ls : Array Slot), va_P (dC, dI) nCl (vM cy a σ) H → va_D A (vM cy a σ) → va_S A s.heap H locs → lv_has ls 4 [(0, .ref (a 0)), (1, .int (L 1))] → W p l e (headSpec w_x_clear ({ frames := 1, cells := 0, slots := 0, locals := 22 })).room s m #[.ref (a 0), .int (L0 1)] below meth c H locs 0 0 (MQ below (va_Qv (fun _ : Unit => True) (fun _ t => nOut (dC, dI) cy A (vM cy a r.2) t) A) #[.ref (a 0), .int (L0 1)] s 0 0 A) (F0 m 0 ls [])) ∧ (∀ (L : Nat → Int32) (σ : MS) (r : Int32 × MS), x_clear k 1 L σ = some r → ∀ (H : Heap) (locs : List Loc) (ls : Array Slot), va_P (dC, dI) nCl (vM cy a σ) H → va_D A (vM cy a σ) → va_S A s.heap H locs → lv_has ls 4 [(0, .ref (a 0)), (1, .int (L 1)), (2, .int (L 2))] → W p l e (headSpec w_x_clear ({ frames := 1, cells := 0, slots := 0, locals := 22 })).room s m #[.ref (a 0), .int (L0 1)] below meth c H locs 0 0 (MQ below (va_Qv (fun _ : Unit => True) (fun _ t => nOut (dC, dI) cy A (vM cy a r.2) t) A) #[.ref (a 0), .int (L0 1)] s 0 0 A) (F0 m 2 ls [])) ∧ (∀ (L : Nat → Int32) (σ : MS) (r : Int32 × MS), x_clear k 2 L σ = some r → ∀ (H : Heap) (locs : List Loc) (ls : Array Slot), va_P (dC, dI) nCl (vM cy a σ) H → va_D A (vM cy a σ) → va_S A s.heap H locs → lv_has ls 4 [(0, .ref (a 0)), (1, .int (L 1)), (2, .int (L 2)), (3, .int (L 3))] → W p l e (headSpec w_x_clear ({ frames := 1, cells := 0, slots := 0, locals := 22 })).room s m #[.ref (a 0), .int (L0 1)] below meth c H locs 0 0 (MQ below (va_Qv (fun _ : Unit => True) (fun _ t => nOut (dC, dI) cy A (vM cy a r.2) t) A) #[.ref (a 0), .int (L0 1)] s 0 0 A) (F0 m 14 ls [])) ∧ (∀ (L : Nat → Int32) (σ : MS) (r : Int32 × MS), x_clear k 3 L σ = some r → ∀ (H : Heap) (locs : List Loc) (ls : Array Slot), va_P (dC, dI) nCl (vM cy a σ) H → va_D A (vM cy a σ) → va_S A s.heap H locs → lv_has ls 4 [(0, .ref (a 0)), (1, .int (L 1)), (2, .int (L 2)), (3, .int (L 3))] → W p l e (headSpec w_x_clear ({ frames := 1, cells := 0, slots := 0, locals := 22 })).room s m #[.ref (a 0), .int (L0 1)] below meth c H locs 0 0 (MQ below (va_Qv (fun _ : Unit => True) (fun _ t => nOut (dC, dI) cy A (vM cy a r.2) t) A) #[.ref (a 0), .int (L0 1)] s 0 0 A) (F0 m 35 ls [])) ∧ (∀ (L : Nat → Int32) (σ : MS) (r : Int32 × MS), x_clear k 4 L σ = some r → ∀ (H : Heap) (locs : List Loc) (ls : Array Slot), va_P (dC, dI) nCl (vM cy a σ) H → va_D A (vM cy a σ) → va_S A s.heap H locs → lv_has ls 4 [(0, .ref (a 0)), (1, .int (L 1)), (2, .int (L 2))] → W p l e (headSpec w_x_clear ({ frames := 1, cells := 0, slots := 0, locals := 22 })).room s m #[.ref (a 0), .int (L0 1)] below meth c H locs 0 0 (MQ below (va_Qv (fun _ : Unit => True) (fun _ t => nOut (dC, dI) cy A (vM cy a r.2) t) A) #[.ref (a 0), .int (L0 1)] s 0 0 A) (F0 m 45 ls [])) := by
    intro k
    induction k with
    | zero => exact ⟨fun L σ r h => (by cases h), fun L σ r h => (by cases h), fun L σ r h => (by cases h), fun L σ r h => (by cases h), fun L σ r h => (by cases h)⟩
    | succ k ih =>
      refine ⟨?_, ?_, ?_, ?_, ?_⟩
      · intro L σ r h H locs ls hP hD hS hl
        rw [x_clear] at h
        refine lv_iload_n hx hb dX12_clear_0 rfl (lv_at hl 1 rfl) ?_
        refine lv_istore_n (lv' := [(2, .int (L 1)), (0, .ref (a 0)), (1, .int (L 1))]) hx hb dX12_clear_1 rfl hl (by decide) rfl (fun ls hl => ?_)
        exact ih.2.1 (upd L 2 ((L 1))) σ r h H locs ls hP hD hS (lv_sub hl [1, 2, 0] rfl)
      · intro L σ r h H locs ls hP hD hS hl
        rw [x_clear] at h
        refine lv_iload_n hx hb dX12_clear_2 rfl (lv_at hl 2 rfl) ?_
        refine lv_iconst (v := (-1)) hx hb dX12_clear_3 (by decide) ?_
        refine lv_icmp_eq (tgt := 45) hx hb dX12_clear_4 (by decide) (fun c1 => ?_) (fun c1 => ?_)
        · rw [if_pos c1] at h
          exact ih.2.2.2.2 L σ r h H locs ls hP hD hS (lv_sub hl [0, 1, 2] rfl)
        · rw [if_neg c1] at h
          refine lv_aload_n hx hb dX12_clear_7 rfl (lv_at hl 0 rfl) ?_
          refine va_get (D := (dC, dI)) (ci := 11) (v := .ref (a 6)) (C := RX12) (T := TX12) (N := 121) hx hb hts in_x_clear hown hK hP 0 rfl rfl 16 (by decide) (hts _ (List.mem_cons_of_mem _ (List.mem_append_left _ (List.mem_append_left _ (List.mem_of_getElem? (i := 0) rfl))))) (fun _ h9 => h9) rfl dX12_clear_8 ?_
          refine lv_iload_n hx hb dX12_clear_11 rfl (lv_at hl 2 rfl) ?_
          by_cases q2 : ¬ (((L 2)) < 0 ∨ 70000 ≤ ((L 2)).toNatClampNeg)
          · rw [if_pos q2] at h
            refine va_iald hx hb hK hP 6 1 rfl rfl (nb_inp q2) dX12_clear_12 ?_
            refine lv_istore_n (lv' := [(3, .int (σ.2.2 6 ((L 2)).toNatClampNeg)), (0, .ref (a 0)), (1, .int (L 1)), (2, .int (L 2))]) hx hb dX12_clear_13 rfl hl (by decide) rfl (fun ls hl => ?_)
            exact ih.2.2.1 (upd L 3 ((σ.2.2 6 ((L 2)).toNatClampNeg))) σ r h H locs ls hP hD hS (lv_sub hl [1, 2, 3, 0] rfl)
          · rw [if_neg q2] at h; cases h
      · intro L σ r h H locs ls hP hD hS hl
        rw [x_clear] at h
        refine lv_iload_n hx hb dX12_clear_14 rfl (lv_at hl 3 rfl) ?_
        refine lv_iconst (v := (-1)) hx hb dX12_clear_15 (by decide) ?_
        refine lv_icmp_eq (tgt := 35) hx hb dX12_clear_16 (by decide) (fun c1 => ?_) (fun c1 => ?_)
        · rw [if_pos c1] at h
          exact ih.2.2.2.1 L σ r h H locs ls hP hD hS (lv_sub hl [0, 1, 2, 3] rfl)
        · rw [if_neg c1] at h
          refine lv_aload_n hx hb dX12_clear_19 rfl (lv_at hl 0 rfl) ?_
          refine lv_iload_n hx hb dX12_clear_20 rfl (lv_at hl 3 rfl) ?_
          refine lv_iconst (v := 0) hx hb dX12_clear_21 (by decide) ?_
          cases hc2 : x_bindOne k 0 (upd (upd (fun _ => 0) 1 ((L 3))) 2 0) σ with
          | none => rw [hc2, ob_none] at h; cases h
          | some r2 =>
            rw [hc2, ob_some] at h
            have hFc := va_free (wc := vM cy a σ) hD hS hA [0, 1, 2, 3, 4, 5, 6, 7, 8, 9, 10, 11, 12, 13, 14, 15, 16, 17, 18, 19, 20, 21, 22, 23, 24, 25, 26, 27, 28, 29, 30, 31, 32, 33, 34, 35, 36, 37, 38, 39, 40, 41, 42, 43, 44, 45, 46, 47, 48, 49, 50, 51, 52, 53, 54, 55, 56, 57] rfl
            refine va_callv (va_runV (As := [.int (L 3), .int 0]) (rest := []) ⟨hx, hb, hml, hown, hts⟩ (c_x_bindOne l dC dI cy a k (upd (upd (fun _ => 0) 1 ((L 3))) 2 0) σ r2 hc2 H.size) (cwV 2 hts g_x_clear_bindOne_694 rfl rfl rfl (by decide +kernel) ⟨Nat.le_of_ble_eq_true rfl, Nat.le_of_ble_eq_true rfl⟩) ⟨nb_blind, va_recv hK hP (ci := 11) (q0 := 0) rfl rfl, fun U hU hW => ⟨rfl, by rw [hU], by rw [hU]; exact hP, va_K.moved hW.alike hK, hD.weaken (fun _ _ _ _ => trivial), hG.warm hW⟩⟩ rfl rfl hl.1 rfl (lv_room (Nat.le_of_ble_eq_true rfl)) dX12_clear_22 ⟨Nat.le_of_ble_eq_true rfl, Nat.le_of_ble_eq_true rfl⟩) hS (fun q _ h => hFc q h) hFc (fun _ t H1 locs ht hvm hw hB hz1 hk1 hS => ?_)
            obtain ⟨hP1, hK1, hD1⟩ := hB
            rw [ht] at hP1
            obtain ⟨hP, hD⟩ := va_join (wr := []) (w1 := vM cy a r2.2) hP hD [0, 1, 2, 3, 4, 5, 6, 7, 8, 9, 10, 11, 12, 13, 14, 15, 16, 17, 18, 19, 20, 21, 22, 23, 24, 25, 26, 27, 28, 29, 30, 31, 32, 33, 34, 35, 36, 37, 38, 39, 40, 41, 42, 43, 44, 45, 46, 47, 48, 49, 50, 51, 52, 53, 54, 55, 56, 57] [] rfl rfl (by decide) (by decide) hk1 hFc hP1 hD1
            generalize H1 = H at hP hS ⊢
            have hP : va_P (dC, dI) nCl (vM cy a r2.2) H := hP
            have hD : va_D A (vM cy a r2.2) := hD
            refine lv_aload_n hx hb dX12_clear_25 rfl (lv_at hl 0 rfl) ?_
            refine va_get (D := (dC, dI)) (ci := 11) (v := .ref (a 9)) (C := RX12) (T := TX12) (N := 121) hx hb hts in_x_clear hown hK hP 0 rfl rfl 19 (by decide) (hts _ (List.mem_cons_of_mem _ (List.mem_append_left _ (List.mem_append_left _ (List.mem_of_getElem? (i := 5) rfl))))) (fun _ h9 => h9) rfl dX12_clear_26 ?_
            refine lv_iload_n hx hb dX12_clear_29 rfl (lv_at hl 3 rfl) ?_
            by_cases q3 : ¬ (((L 3)) < 0 ∨ 70000 ≤ ((L 3)).toNatClampNeg)
            · rw [if_pos q3] at h
              refine va_iald hx hb hK hP 9 1 rfl rfl (nb_inp q3) dX12_clear_30 ?_
              refine lv_istore_n (lv' := [(3, .int (r2.2.2.2 9 ((L 3)).toNatClampNeg)), (0, .ref (a 0)), (1, .int (L 1)), (2, .int (L 2))]) hx hb dX12_clear_31 rfl hl (by decide) rfl (fun ls hl => ?_)
              refine lv_goto (tgt := 14) hx hb dX12_clear_32 (by decide) ?_
              exact ih.2.2.1 (upd L 3 ((r2.2.2.2 9 ((L 3)).toNatClampNeg))) r2.2 r h H locs ls hP hD hS (lv_sub hl [1, 2, 3, 0] rfl)
            · rw [if_neg q3] at h; cases h
      · intro L σ r h H locs ls hP hD hS hl
        rw [x_clear] at h
        refine lv_aload_n hx hb dX12_clear_35 rfl (lv_at hl 0 rfl) ?_
        refine va_get (D := (dC, dI)) (ci := 11) (v := .ref (a 9)) (C := RX12) (T := TX12) (N := 121) hx hb hts in_x_clear hown hK hP 0 rfl rfl 19 (by decide) (hts _ (List.mem_cons_of_mem _ (List.mem_append_left _ (List.mem_append_left _ (List.mem_of_getElem? (i := 5) rfl))))) (fun _ h9 => h9) rfl dX12_clear_36 ?_
        refine lv_iload_n hx hb dX12_clear_39 rfl (lv_at hl 2 rfl) ?_
        by_cases q1 : ¬ (((L 2)) < 0 ∨ 70000 ≤ ((L 2)).toNatClampNeg)
        · rw [if_pos q1] at h
          refine va_iald hx hb hK hP 9 1 rfl rfl (nb_inp q1) dX12_clear_40 ?_
          refine lv_istore_n (lv' := [(2, .int (σ.2.2 9 ((L 2)).toNatClampNeg)), (0, .ref (a 0)), (1, .int (L 1)), (3, .int (L 3))]) hx hb dX12_clear_41 rfl hl (by decide) rfl (fun ls hl => ?_)
          refine lv_goto (tgt := 2) hx hb dX12_clear_42 (by decide) ?_
          exact ih.2.1 (upd L 2 ((σ.2.2 9 ((L 2)).toNatClampNeg))) σ r h H locs ls hP hD hS (lv_sub hl [1, 2, 0] rfl)
        · rw [if_neg q1] at h; cases h
      · intro L σ r h H locs ls hP hD hS hl
        rw [x_clear] at h
        cases h
        exact W.vret hx hb hr (fun t ht hW => ⟨⟨(), rfl, trivial, by rw [ht]; exact hP, va_K.moved hW.alike hK, hD⟩, hS.F ht⟩) hS.2.2 dX12_clear_45
  exact (blk k0).1 L0 σ0 r0 h0 s.heap [] ls hP hD hS hl
/-! isRow -/
def x_isRow : Nat → Nat → (Nat → Int32) → MS → Option (Int32 × MS)
  | 0, _, _, _ => none
  | k + 1, 0, L, σ => ob (x_kind k 0 (upd (fun _ => 0) 1 ((L 1))) σ) (fun r1 => if r1.1 < 4 then (x_isRow k 1 L r1.2) else (x_isRow k 2 (upd L 100 1) r1.2))
  | k + 1, 1, L, σ => x_isRow k 2 (upd L 100 0) σ
  | k + 1, 2, L, σ => if ((L 100)) = 0 ∨ ((L 100)) = 1 then some ((L 100), σ) else none
  | _ + 1, _ + 3, _, _ => none
def o_x_isRow : List Cond := [.methodLink RX12 545 yX12_kind, .instanceMethod yX12_kind, .selects RX12 yX12_kind yX12_kind, .initialized RX12]
theorem o_x_isRow_good : o_x_isRow.all goodWord = true := by decide +kernel
def p_x_isRow : List Cond := o_x_isRow ++ ((.code yX12_kind cX12_kind 2 (some .int) :: p_x_kind) ++ [])
theorem p_x_isRow_good : p_x_isRow.all goodWord = true := nb_all2 o_x_isRow_good (nb_all2 (nb_allc (by decide +kernel) p_x_kind_good) rfl)
def w_x_isRow : List Cond := .code yX12_isRow cX12_isRow 2 (some .boolean) :: (p_x_isRow ++ fM)
theorem w_x_isRow_good : w_x_isRow.all goodWord = true := nb_allc (by decide +kernel) (nb_all2 p_x_isRow_good fM_good)
theorem in_x_isRow : ∀ w ∈ wsX120, w ∈ w_x_isRow := fun _ h => List.mem_cons_of_mem _ (List.mem_append_right _ h)
theorem gg_x_isRow_kind : GoodIn w_x_isRow w_x_kind := goodIn_sub (fun w h => (List.mem_cons.mp h).elim (fun e => (List.mem_cons_of_mem _ (List.mem_append_left _ (List.mem_append_right _ (List.mem_append_left _ (List.mem_cons.mpr (Or.inl e))))))) (fun h => (List.mem_append.mp h).elim (fun h => (List.mem_cons_of_mem _ (List.mem_append_left _ (List.mem_append_right _ (List.mem_append_left _ (List.mem_cons_of_mem _ h)))))) (fun h => List.mem_cons_of_mem _ (List.mem_append_right _ h)))) w_x_kind_good
theorem g_x_isRow_kind_545 : GoodIn w_x_isRow (wsV RX12 545 RX12 yX12_kind w_x_kind) := goodIn_app (nb_g4 (List.mem_cons_of_mem _ (List.mem_append_left _ (List.mem_append_left _ (List.mem_of_getElem? (i := 0) rfl)))) (List.mem_cons_of_mem _ (List.mem_append_left _ (List.mem_append_left _ (List.mem_of_getElem? (i := 1) rfl)))) (List.mem_cons_of_mem _ (List.mem_append_left _ (List.mem_append_left _ (List.mem_of_getElem? (i := 2) rfl)))) (List.mem_cons_of_mem _ (List.mem_append_left _ (List.mem_append_left _ (List.mem_of_getElem? (i := 3) rfl)))) (by decide +kernel)) gg_x_isRow_kind
set_option maxHeartbeats 40000000 in
set_option maxRecDepth 100000 in
theorem c_x_isRow (l : Launch) (dC : Nat → ClassId) (dI : Nat → Nat → Nat) (cy : Nat → ClassId) (a : Nat → Nat) (k0 : Nat) (L0 : Nat → Int32) (σ0 : MS) (r0 : Int32 × MS) (h0 : x_isRow k0 0 L0 σ0 = some r0) (sz : Nat) : Met l yX12_isRow w_x_isRow ({ frames := 1, cells := 0, slots := 0, locals := 21 }) (va_Pc [.ref (a 0), .int (L0 1)] (nIn (dC, dI) cy sz (vM cy a σ0))) (va_Qi (fun (z : Int32) (_ : Unit) => z = r0.1) (fun _ t => nOut (dC, dI) cy (va_A (vM cy a σ0) sz) (vM cy a r0.2) t) (va_A (vM cy a σ0) sz)) 0 0 (va_A (vM cy a σ0) sz) := by
  refine Met.ofW (cc := cX12_isRow) (maxL := 2) (ret := (some .boolean)) (by decide) rfl ?_
  intro p e s m args below meth c s₁ B hml hv
  obtain ⟨rfl, hsz, hP, hK, hD0, hG⟩ := hv
  have hx := B.exec
  have hb := B.bytes
  have hr := B.returns
  have hts := atoms_spec (ws := w_x_isRow) B.pre
  have hown : s.vm.findClass RX12 = some m.cls := findClass_of_methodNamed B.named
  have hlocks := B.notSynchronized
  subst hsz
  have hD := hD0.self (sz := s.heap.size)
  generalize hAe : va_A (vM cy a σ0) s.heap.size = A at hD ⊢
  have hA : ∀ q : Nat, s.heap.size ≤ q → A q := fun q h => by rw [← hAe]; exact Or.inr h
  have hS : va_S A s.heap s.heap [] := va_S.rf
  have hl := lv_entry ([.ref (a 0), .int (L0 1)]) (n := 2) (Nat.le_of_ble_eq_true rfl)
  rw [lg_entry_eq]
  generalize (lg_sl ([.ref (a 0), .int (L0 1)]) ++ List.replicate (2 - (lg_sl ([.ref (a 0), .int (L0 1)])).length) Slot.unset).toArray = ls at hl ⊢
  have hl : lv_has ls 2 [(0, .ref (a 0)), (1, .int (L0 1))] := hl
  have blk : ∀ k : Nat, (∀ (L : Nat → Int32) (σ : MS) (r : Int32 × MS), x_isRow k 0 L σ = some r → ∀ (H : Heap) (locs : List Loc) (ls : Array Slot), va_P (dC, dI) nCl (vM cy a σ) H → va_D A (vM cy a σ) → va_S A s.heap H locs → lv_has ls 2 [(0, .ref (a 0)), (1, .int (L 1))] → W p l e (headSpec w_x_isRow ({ frames := 1, cells := 0, slots := 0, locals := 21 })).room s m #[.ref (a 0), .int (L0 1)] below meth c H locs 0 0 (MQ below (va_Qi (fun (z : Int32) (_ : Unit) => z = r.1) (fun _ t => nOut (dC, dI) cy A (vM cy a r.2) t) A) #[.ref (a 0), .int (L0 1)] s 0 0 A) (F0 m 0 ls [])) ∧ (∀ (L : Nat → Int32) (σ : MS) (r : Int32 × MS), x_isRow k 1 L σ = some r → ∀ (H : Heap) (locs : List Loc) (ls : Array Slot), va_P (dC, dI) nCl (vM cy a σ) H → va_D A (vM cy a σ) → va_S A s.heap H locs → lv_has ls 2 [(0, .ref (a 0)), (1, .int (L 1))] → W p l e (headSpec w_x_isRow ({ frames := 1, cells := 0, slots := 0, locals := 21 })).room s m #[.ref (a 0), .int (L0 1)] below meth c H locs 0 0 (MQ below (va_Qi (fun (z : Int32) (_ : Unit) => z = r.1) (fun _ t => nOut (dC, dI) cy A (vM cy a r.2) t) A) #[.ref (a 0), .int (L0 1)] s 0 0 A) (F0 m 13 ls [])) ∧ (∀ (L : Nat → Int32) (σ : MS) (r : Int32 × MS), x_isRow k 2 L σ = some r → ∀ (H : Heap) (locs : List Loc) (ls : Array Slot), va_P (dC, dI) nCl (vM cy a σ) H → va_D A (vM cy a σ) → va_S A s.heap H locs → lv_has ls 2 [(0, .ref (a 0)), (1, .int (L 1))] → W p l e (headSpec w_x_isRow ({ frames := 1, cells := 0, slots := 0, locals := 21 })).room s m #[.ref (a 0), .int (L0 1)] below meth c H locs 0 0 (MQ below (va_Qi (fun (z : Int32) (_ : Unit) => z = r.1) (fun _ t => nOut (dC, dI) cy A (vM cy a r.2) t) A) #[.ref (a 0), .int (L0 1)] s 0 0 A) (F0 m 14 ls [.int (L 100)])) := by
    intro k
    induction k with
    | zero => exact ⟨fun L σ r h => (by cases h), fun L σ r h => (by cases h), fun L σ r h => (by cases h)⟩
    | succ k ih =>
      refine ⟨?_, ?_, ?_⟩
      · intro L σ r h H locs ls hP hD hS hl
        rw [x_isRow] at h
        refine lv_aload_n hx hb dX12_isRow_0 rfl (lv_at hl 0 rfl) ?_
        refine lv_iload_n hx hb dX12_isRow_1 rfl (lv_at hl 1 rfl) ?_
        cases hc1 : x_kind k 0 (upd (fun _ => 0) 1 ((L 1))) σ with
        | none => rw [hc1, ob_none] at h; cases h
        | some r1 =>
          rw [hc1, ob_some] at h
          have hFc := va_free (wc := vM cy a σ) hD hS hA [0, 1, 2, 3, 4, 5, 6, 7, 8, 9, 10, 11, 12, 13, 14, 15, 16, 17, 18, 19, 20, 21, 22, 23, 24, 25, 26, 27, 28, 29, 30, 31, 32, 33, 34, 35, 36, 37, 38, 39, 40, 41, 42, 43, 44, 45, 46, 47, 48, 49, 50, 51, 52, 53, 54, 55, 56, 57] rfl
          refine va_calli (va_runV (As := [.int (L 1)]) (rest := []) ⟨hx, hb, hml, hown, hts⟩ (c_x_kind l dC dI cy a k (upd (fun _ => 0) 1 ((L 1))) σ r1 hc1 H.size) (cwV 1 hts g_x_isRow_kind_545 rfl rfl rfl (by decide +kernel) ⟨Nat.le_of_ble_eq_true rfl, Nat.le_of_ble_eq_true rfl⟩) ⟨nb_blind, va_recv hK hP (ci := 11) (q0 := 0) rfl rfl, fun U hU hW => ⟨rfl, by rw [hU], by rw [hU]; exact hP, va_K.moved hW.alike hK, hD.weaken (fun _ _ _ _ => trivial), hG.warm hW⟩⟩ rfl rfl hl.1 rfl (lv_room (Nat.le_of_ble_eq_true rfl)) dX12_isRow_2 ⟨Nat.le_of_ble_eq_true rfl, Nat.le_of_ble_eq_true rfl⟩) hS (fun q _ h => hFc q h) hFc (fun z9 _ t H1 locs ht hvm hw hB hz1 hk1 hS => ?_)
          subst hw
          obtain ⟨hP1, hK1, hD1⟩ := hB
          rw [ht] at hP1
          obtain ⟨hP, hD⟩ := va_join (wr := []) (w1 := vM cy a r1.2) hP hD [0, 1, 2, 3, 4, 5, 6, 7, 8, 9, 10, 11, 12, 13, 14, 15, 16, 17, 18, 19, 20, 21, 22, 23, 24, 25, 26, 27, 28, 29, 30, 31, 32, 33, 34, 35, 36, 37, 38, 39, 40, 41, 42, 43, 44, 45, 46, 47, 48, 49, 50, 51, 52, 53, 54, 55, 56, 57] [] rfl rfl (by decide) (by decide) hk1 hFc hP1 hD1
          generalize H1 = H at hP hS ⊢
          have hP : va_P (dC, dI) nCl (vM cy a r1.2) H := hP
          have hD : va_D A (vM cy a r1.2) := hD
          refine lv_iconst (v := 4) hx hb dX12_isRow_5 (by decide) ?_
          refine lv_icmp_lt (tgt := 13) hx hb dX12_isRow_6 (by decide) (fun c2 => ?_) (fun c2 => ?_)
          · rw [if_pos c2] at h
            exact ih.2.1 L r1.2 r h H locs ls hP hD hS (lv_sub hl [0, 1] rfl)
          · rw [if_neg c2] at h
            refine lv_iconst (v := 1) hx hb dX12_isRow_9 (by decide) ?_
            refine lv_goto (tgt := 14) hx hb dX12_isRow_10 (by decide) ?_
            exact ih.2.2 (upd L 100 1) r1.2 r h H locs ls hP hD hS (lv_sub hl [0, 1] rfl)
      · intro L σ r h H locs ls hP hD hS hl
        rw [x_isRow] at h
        refine lv_iconst (v := 0) hx hb dX12_isRow_13 (by decide) ?_
        exact ih.2.2 (upd L 100 0) σ r h H locs ls hP hD hS (lv_sub hl [0, 1] rfl)
      · intro L σ r h H locs ls hP hD hS hl
        rw [x_isRow] at h
        by_cases q1 : ((L 100)) = 0 ∨ ((L 100)) = 1
        · rw [if_pos q1] at h
          cases h
          exact W.zret (v := (L 100)) hx hb hr (nb_bz q1) (fun t ht hW => ⟨⟨(L 100), (), rfl, rfl, by rw [ht]; exact hP, va_K.moved hW.alike hK, hD⟩, hS.F ht⟩) hS.2.2 dX12_isRow_14
        · rw [if_neg q1] at h; cases h
  exact (blk k0).1 L0 σ0 r0 h0 s.heap [] ls hP hD hS hl
/-! bind -/
def x_bind : Nat → Nat → (Nat → Int32) → MS → Option (Int32 × MS)
  | 0, _, _, _ => none
  | k + 1, 0, L, σ => if ¬ (((L 1)) < 0 ∨ 70000 ≤ ((L 1)).toNatClampNeg) then (if ((σ.2.2 5 ((L 1)).toNatClampNeg)) = 0 then (if ¬ (((L 1)) < 0 ∨ 70000 ≤ ((L 1)).toNatClampNeg) then (ob (x_bindOne k 0 (upd (upd (fun _ => 0) 1 ((σ.2.2 6 ((L 1)).toNatClampNeg))) 2 ((L 2))) σ) (fun r4 => some (0, r4.2))) else none) else (x_bind k 1 L σ)) else none
  | k + 1, 1, L, σ => if ¬ (((L 1)) < 0 ∨ 70000 ≤ ((L 1)).toNatClampNeg) then (x_bind k 2 (upd (upd L 3 0) 4 ((σ.2.2 6 ((L 1)).toNatClampNeg))) σ) else none
  | k + 1, 2, L, σ => if ((L 4)) = ((-1)) then (x_bind k 3 L σ) else (if ¬ (((L 4)) < 0 ∨ 70000 ≤ ((L 4)).toNatClampNeg) then (x_bind k 2 (upd (upd L 3 (((L 3)) + 1)) 4 ((σ.2.2 9 ((L 4)).toNatClampNeg))) σ) else none)
  | k + 1, 3, L, σ => ob (x_kind k 0 (upd (fun _ => 0) 1 ((L 2))) σ) (fun r1 => if r1.1 = 5 then (if ¬ (((((L 2)) + 1)) < 0 ∨ 1740000 ≤ ((((L 2)) + 1)).toNatClampNeg) then (if ((r1.2.2.2 28 ((((L 2)) + 1)).toNatClampNeg)) ≤ ((L 3)) then (x_bind k 5 L r1.2) else (x_bind k 4 L r1.2)) else none) else (x_bind k 4 L r1.2))
  | k + 1, 4, L, σ => ob (x_fail k 0 (upd (fun _ => 0) 1 1) σ) (fun r1 => some (0, r1.2))
  | k + 1, 5, L, σ => if ¬ (((L 1)) < 0 ∨ 70000 ≤ ((L 1)).toNatClampNeg) then (x_bind k 6 (upd (upd L 4 0) 5 ((σ.2.2 6 ((L 1)).toNatClampNeg))) σ) else none
  | k + 1, 6, L, σ => if ((L 5)) = ((-1)) then (x_bind k 9 L σ) else (if ¬ (((((L 2)) + 1)) < 0 ∨ 1740000 ≤ ((((L 2)) + 1)).toNatClampNeg) then (if ((σ.2.2 28 ((((L 2)) + 1)).toNatClampNeg)) ≤ ((L 4)) then (x_bind k 7 (upd L 100 ((L 5))) σ) else (if ¬ (((((((L 2)) + 4)) + ((L 4)))) < 0 ∨ 1740000 ≤ ((((((L 2)) + 4)) + ((L 4)))).toNatClampNeg) then (x_bind k 8 (upd (upd L 100 ((σ.2.2 28 ((((((L 2)) + 4)) + ((L 4)))).toNatClampNeg))) 101 ((L 5))) σ) else none)) else none)
  | k + 1, 7, L, σ => x_bind k 8 (upd (upd L 100 0) 101 ((L 100))) σ
  | k + 1, 8, L, σ => ob (x_bindOne k 0 (upd (upd (fun _ => 0) 1 ((L 101))) 2 ((L 100))) σ) (fun r1 => if ¬ (((L 5)) < 0 ∨ 70000 ≤ ((L 5)).toNatClampNeg) then (x_bind k 6 (upd (upd L 4 (((L 4)) + 1)) 5 ((r1.2.2.2 9 ((L 5)).toNatClampNeg))) r1.2) else none)
  | k + 1, 9, L, σ => some (0, σ)
  | _ + 1, _ + 10, _, _ => none
def o_x_bind : List Cond := [.fieldLink RX12 86 "SetHouseModel" "x1" "[I", .fieldLink RX12 89 "SetHouseModel" "x2" "[I", .methodLink RX12 694 yX12_bindOne, .instanceMethod yX12_bindOne, .selects RX12 yX12_bindOne yX12_bindOne, .initialized RX12, .fieldLink RX12 98 "SetHouseModel" "next" "[I", .methodLink RX12 545 yX12_kind, .instanceMethod yX12_kind, .selects RX12 yX12_kind yX12_kind, .fieldLink RX12 372 "SetHouseModel" "heap" "[I", .methodLink RX12 369 yX12_fail, .instanceMethod yX12_fail, .selects RX12 yX12_fail yX12_fail]
theorem o_x_bind_good : o_x_bind.all goodWord = true := by decide +kernel
def p_x_bind : List Cond := o_x_bind ++ ((.code yX12_bindOne cX12_bindOne 3 none :: p_x_bindOne) ++ ((.code yX12_kind cX12_kind 2 (some .int) :: p_x_kind) ++ ((.code yX12_fail cX12_fail 2 none :: p_x_fail) ++ [])))
theorem p_x_bind_good : p_x_bind.all goodWord = true := nb_all2 o_x_bind_good (nb_all2 (nb_allc (by decide +kernel) p_x_bindOne_good) (nb_all2 (nb_allc (by decide +kernel) p_x_kind_good) (nb_all2 (nb_allc (by decide +kernel) p_x_fail_good) rfl)))
def w_x_bind : List Cond := .code yX12_bind cX12_bind 6 none :: (p_x_bind ++ fM)
theorem w_x_bind_good : w_x_bind.all goodWord = true := nb_allc (by decide +kernel) (nb_all2 p_x_bind_good fM_good)
theorem in_x_bind : ∀ w ∈ wsX120, w ∈ w_x_bind := fun _ h => List.mem_cons_of_mem _ (List.mem_append_right _ h)
theorem gg_x_bind_bindOne : GoodIn w_x_bind w_x_bindOne := goodIn_sub (fun w h => (List.mem_cons.mp h).elim (fun e => (List.mem_cons_of_mem _ (List.mem_append_left _ (List.mem_append_right _ (List.mem_append_left _ (List.mem_cons.mpr (Or.inl e))))))) (fun h => (List.mem_append.mp h).elim (fun h => (List.mem_cons_of_mem _ (List.mem_append_left _ (List.mem_append_right _ (List.mem_append_left _ (List.mem_cons_of_mem _ h)))))) (fun h => List.mem_cons_of_mem _ (List.mem_append_right _ h)))) w_x_bindOne_good
theorem gg_x_bind_kind : GoodIn w_x_bind w_x_kind := goodIn_sub (fun w h => (List.mem_cons.mp h).elim (fun e => (List.mem_cons_of_mem _ (List.mem_append_left _ (List.mem_append_right _ (List.mem_append_right _ (List.mem_append_left _ (List.mem_cons.mpr (Or.inl e)))))))) (fun h => (List.mem_append.mp h).elim (fun h => (List.mem_cons_of_mem _ (List.mem_append_left _ (List.mem_append_right _ (List.mem_append_right _ (List.mem_append_left _ (List.mem_cons_of_mem _ h))))))) (fun h => List.mem_cons_of_mem _ (List.mem_append_right _ h)))) w_x_kind_good
theorem gg_x_bind_fail : GoodIn w_x_bind w_x_fail := goodIn_sub (fun w h => (List.mem_cons.mp h).elim (fun e => (List.mem_cons_of_mem _ (List.mem_append_left _ (List.mem_append_right _ (List.mem_append_right _ (List.mem_append_right _ (List.mem_append_left _ (List.mem_cons.mpr (Or.inl e))))))))) (fun h => (List.mem_append.mp h).elim (fun h => (List.mem_cons_of_mem _ (List.mem_append_left _ (List.mem_append_right _ (List.mem_append_right _ (List.mem_append_right _ (List.mem_append_left _ (List.mem_cons_of_mem _ h)))))))) (fun h => List.mem_cons_of_mem _ (List.mem_append_right _ h)))) w_x_fail_good
theorem g_x_bind_bindOne_694 : GoodIn w_x_bind (wsV RX12 694 RX12 yX12_bindOne w_x_bindOne) := goodIn_app (nb_g4 (List.mem_cons_of_mem _ (List.mem_append_left _ (List.mem_append_left _ (List.mem_of_getElem? (i := 2) rfl)))) (List.mem_cons_of_mem _ (List.mem_append_left _ (List.mem_append_left _ (List.mem_of_getElem? (i := 3) rfl)))) (List.mem_cons_of_mem _ (List.mem_append_left _ (List.mem_append_left _ (List.mem_of_getElem? (i := 4) rfl)))) (List.mem_cons_of_mem _ (List.mem_append_left _ (List.mem_append_left _ (List.mem_of_getElem? (i := 5) rfl)))) (by decide +kernel)) gg_x_bind_bindOne
theorem g_x_bind_fail_369 : GoodIn w_x_bind (wsV RX12 369 RX12 yX12_fail w_x_fail) := goodIn_app (nb_g4 (List.mem_cons_of_mem _ (List.mem_append_left _ (List.mem_append_left _ (List.mem_of_getElem? (i := 11) rfl)))) (List.mem_cons_of_mem _ (List.mem_append_left _ (List.mem_append_left _ (List.mem_of_getElem? (i := 12) rfl)))) (List.mem_cons_of_mem _ (List.mem_append_left _ (List.mem_append_left _ (List.mem_of_getElem? (i := 13) rfl)))) (List.mem_cons_of_mem _ (List.mem_append_left _ (List.mem_append_left _ (List.mem_of_getElem? (i := 5) rfl)))) (by decide +kernel)) gg_x_bind_fail
theorem g_x_bind_kind_545 : GoodIn w_x_bind (wsV RX12 545 RX12 yX12_kind w_x_kind) := goodIn_app (nb_g4 (List.mem_cons_of_mem _ (List.mem_append_left _ (List.mem_append_left _ (List.mem_of_getElem? (i := 7) rfl)))) (List.mem_cons_of_mem _ (List.mem_append_left _ (List.mem_append_left _ (List.mem_of_getElem? (i := 8) rfl)))) (List.mem_cons_of_mem _ (List.mem_append_left _ (List.mem_append_left _ (List.mem_of_getElem? (i := 9) rfl)))) (List.mem_cons_of_mem _ (List.mem_append_left _ (List.mem_append_left _ (List.mem_of_getElem? (i := 5) rfl)))) (by decide +kernel)) gg_x_bind_kind
set_option maxHeartbeats 40000000 in
set_option maxRecDepth 100000 in
theorem c_x_bind (l : Launch) (dC : Nat → ClassId) (dI : Nat → Nat → Nat) (cy : Nat → ClassId) (a : Nat → Nat) (k0 : Nat) (L0 : Nat → Int32) (σ0 : MS) (r0 : Int32 × MS) (h0 : x_bind k0 0 L0 σ0 = some r0) (sz : Nat) : Met l yX12_bind w_x_bind ({ frames := 1, cells := 0, slots := 0, locals := 22 }) (va_Pc [.ref (a 0), .int (L0 1), .int (L0 2)] (nIn (dC, dI) cy sz (vM cy a σ0))) (va_Qv (fun _ : Unit => True) (fun _ t => nOut (dC, dI) cy (va_A (vM cy a σ0) sz) (vM cy a r0.2) t) (va_A (vM cy a σ0) sz)) 0 0 (va_A (vM cy a σ0) sz) := by
  refine Met.ofW (cc := cX12_bind) (maxL := 6) (ret := none) (by decide) rfl ?_
  intro p e s m args below meth c s₁ B hml hv
  obtain ⟨rfl, hsz, hP, hK, hD0, hG⟩ := hv
  have hx := B.exec
  have hb := B.bytes
  have hr := B.returns
  have hts := atoms_spec (ws := w_x_bind) B.pre
  have hown : s.vm.findClass RX12 = some m.cls := findClass_of_methodNamed B.named
  have hlocks := B.notSynchronized
  subst hsz
  have hD := hD0.self (sz := s.heap.size)
  generalize hAe : va_A (vM cy a σ0) s.heap.size = A at hD ⊢
  have hA : ∀ q : Nat, s.heap.size ≤ q → A q := fun q h => by rw [← hAe]; exact Or.inr h
  have hS : va_S A s.heap s.heap [] := va_S.rf
  have hl := lv_entry ([.ref (a 0), .int (L0 1), .int (L0 2)]) (n := 6) (Nat.le_of_ble_eq_true rfl)
  rw [lg_entry_eq]
  generalize (lg_sl ([.ref (a 0), .int (L0 1), .int (L0 2)]) ++ List.replicate (6 - (lg_sl ([.ref (a 0), .int (L0 1), .int (L0 2)])).length) Slot.unset).toArray = ls at hl ⊢
  have hl : lv_has ls 6 [(0, .ref (a 0)), (1, .int (L0 1)), (2, .int (L0 2))] := hl
  have blk : ∀ k : Nat, (∀ (L : Nat → Int32) (σ : MS) (r : Int32 × MS), x_bind k 0 L σ = some r → ∀ (H : Heap) (locs : List Loc) (ls : Array Slot), va_P (dC, dI) nCl (vM cy a σ) H → va_D A (vM cy a σ) → va_S A s.heap H locs → lv_has ls 6 [(0, .ref (a 0)), (1, .int (L 1)), (2, .int (L 2))] → W p l e (headSpec w_x_bind ({ frames := 1, cells := 0, slots := 0, locals := 22 })).room s m #[.ref (a 0), .int (L0 1), .int (L0 2)] below meth c H locs 0 0 (MQ below (va_Qv (fun _ : Unit => True) (fun _ t => nOut (dC, dI) cy A (vM cy a r.2) t) A) #[.ref (a 0), .int (L0 1), .int (L0 2)] s 0 0 A) (F0 m 0 ls [])) ∧ (∀ (L : Nat → Int32) (σ : MS) (r : Int32 × MS), x_bind k 1 L σ = some r → ∀ (H : Heap) (locs : List Loc) (ls : Array Slot), va_P (dC, dI) nCl (vM cy a σ) H → va_D A (vM cy a σ) → va_S A s.heap H locs → lv_has ls 6 [(0, .ref (a 0)), (1, .int (L 1)), (2, .int (L 2))] → W p l e (headSpec w_x_bind ({ frames := 1, cells := 0, slots := 0, locals := 22 })).room s m #[.ref (a 0), .int (L0 1), .int (L0 2)] below meth c H locs 0 0 (MQ below (va_Qv (fun _ : Unit => True) (fun _ t => nOut (dC, dI) cy A (vM cy a r.2) t) A) #[.ref (a 0), .int (L0 1), .int (L0 2)] s 0 0 A) (F0 m 21 ls [])) ∧ (∀ (L : Nat → Int32) (σ : MS) (r : Int32 × MS), x_bind k 2 L σ = some r → ∀ (H : Heap) (locs : List Loc) (ls : Array Slot), va_P (dC, dI) nCl (vM cy a σ) H → va_D A (vM cy a σ) → va_S A s.heap H locs → lv_has ls 6 [(0, .ref (a 0)), (1, .int (L 1)), (2, .int (L 2)), (3, .int (L 3)), (4, .int (L 4))] → W p l e (headSpec w_x_bind ({ frames := 1, cells := 0, slots := 0, locals := 22 })).room s m #[.ref (a 0), .int (L0 1), .int (L0 2)] below meth c H locs 0 0 (MQ below (va_Qv (fun _ : Unit => True) (fun _ t => nOut (dC, dI) cy A (vM cy a r.2) t) A) #[.ref (a 0), .int (L0 1), .int (L0 2)] s 0 0 A) (F0 m 31 ls [])) ∧ (∀ (L : Nat → Int32) (σ : MS) (r : Int32 × MS), x_bind k 3 L σ = some r → ∀ (H : Heap) (locs : List Loc) (ls : Array Slot), va_P (dC, dI) nCl (vM cy a σ) H → va_D A (vM cy a σ) → va_S A s.heap H locs → lv_has ls 6 [(0, .ref (a 0)), (1, .int (L 1)), (2, .int (L 2)), (3, .int (L 3)), (4, .int (L 4))] → W p l e (headSpec w_x_bind ({ frames := 1, cells := 0, slots := 0, locals := 22 })).room s m #[.ref (a 0), .int (L0 1), .int (L0 2)] below meth c H locs 0 0 (MQ below (va_Qv (fun _ : Unit => True) (fun _ t => nOut (dC, dI) cy A (vM cy a r.2) t) A) #[.ref (a 0), .int (L0 1), .int (L0 2)] s 0 0 A) (F0 m 52 ls [])) ∧ (∀ (L : Nat → Int32) (σ : MS) (r : Int32 × MS), x_bind k 4 L σ = some r → ∀ (H : Heap) (locs : List Loc) (ls : Array Slot), va_P (dC, dI) nCl (vM cy a σ) H → va_D A (vM cy a σ) → va_S A s.heap H locs → lv_has ls 6 [(0, .ref (a 0)), (1, .int (L 1)), (2, .int (L 2)), (3, .int (L 3)), (4, .int (L 4))] → W p l e (headSpec w_x_bind ({ frames := 1, cells := 0, slots := 0, locals := 22 })).room s m #[.ref (a 0), .int (L0 1), .int (L0 2)] below meth c H locs 0 0 (MQ below (va_Qv (fun _ : Unit => True) (fun _ t => nOut (dC, dI) cy A (vM cy a r.2) t) A) #[.ref (a 0), .int (L0 1), .int (L0 2)] s 0 0 A) (F0 m 73 ls [])) ∧ (∀ (L : Nat → Int32) (σ : MS) (r : Int32 × MS), x_bind k 5 L σ = some r → ∀ (H : Heap) (locs : List Loc) (ls : Array Slot), va_P (dC, dI) nCl (vM cy a σ) H → va_D A (vM cy a σ) → va_S A s.heap H locs → lv_has ls 6 [(0, .ref (a 0)), (1, .int (L 1)), (2, .int (L 2)), (3, .int (L 3)), (4, .int (L 4))] → W p l e (headSpec w_x_bind ({ frames := 1, cells := 0, slots := 0, locals := 22 })).room s m #[.ref (a 0), .int (L0 1), .int (L0 2)] below meth c H locs 0 0 (MQ below (va_Qv (fun _ : Unit => True) (fun _ t => nOut (dC, dI) cy A (vM cy a r.2) t) A) #[.ref (a 0), .int (L0 1), .int (L0 2)] s 0 0 A) (F0 m 79 ls [])) ∧ (∀ (L : Nat → Int32) (σ : MS) (r : Int32 × MS), x_bind k 6 L σ = some r → ∀ (H : Heap) (locs : List Loc) (ls : Array Slot), va_P (dC, dI) nCl (vM cy a σ) H → va_D A (vM cy a σ) → va_S A s.heap H locs → lv_has ls 6 [(0, .ref (a 0)), (1, .int (L 1)), (2, .int (L 2)), (3, .int (L 3)), (4, .int (L 4)), (5, .int (L 5))] → W p l e (headSpec w_x_bind ({ frames := 1, cells := 0, slots := 0, locals := 22 })).room s m #[.ref (a 0), .int (L0 1), .int (L0 2)] below meth c H locs 0 0 (MQ below (va_Qv (fun _ : Unit => True) (fun _ t => nOut (dC, dI) cy A (vM cy a r.2) t) A) #[.ref (a 0), .int (L0 1), .int (L0 2)] s 0 0 A) (F0 m 90 ls [])) ∧ (∀ (L : Nat → Int32) (σ : MS) (r : Int32 × MS), x_bind k 7 L σ = some r → ∀ (H : Heap) (locs : List Loc) (ls : Array Slot), va_P (dC, dI) nCl (vM cy a σ) H → va_D A (vM cy a σ) → va_S A s.heap H locs → lv_has ls 6 [(0, .ref (a 0)), (1, .int (L 1)), (2, .int (L 2)), (3, .int (L 3)), (4, .int (L 4)), (5, .int (L 5))] → W p l e (headSpec w_x_bind ({ frames := 1, cells := 0, slots := 0, locals := 22 })).room s m #[.ref (a 0), .int (L0 1), .int (L0 2)] below meth c H locs 0 0 (MQ below (va_Qv (fun _ : Unit => True) (fun _ t => nOut (dC, dI) cy A (vM cy a r.2) t) A) #[.ref (a 0), .int (L0 1), .int (L0 2)] s 0 0 A) (F0 m 126 ls [.int (L 100), .ref (a 0)])) ∧ (∀ (L : Nat → Int32) (σ : MS) (r : Int32 × MS), x_bind k 8 L σ = some r → ∀ (H : Heap) (locs : List Loc) (ls : Array Slot), va_P (dC, dI) nCl (vM cy a σ) H → va_D A (vM cy a σ) → va_S A s.heap H locs → lv_has ls 6 [(0, .ref (a 0)), (1, .int (L 1)), (2, .int (L 2)), (3, .int (L 3)), (4, .int (L 4)), (5, .int (L 5))] → W p l e (headSpec w_x_bind ({ frames := 1, cells := 0, slots := 0, locals := 22 })).room s m #[.ref (a 0), .int (L0 1), .int (L0 2)] below meth c H locs 0 0 (MQ below (va_Qv (fun _ : Unit => True) (fun _ t => nOut (dC, dI) cy A (vM cy a r.2) t) A) #[.ref (a 0), .int (L0 1), .int (L0 2)] s 0 0 A) (F0 m 127 ls [.int (L 100), .int (L 101), .ref (a 0)])) ∧ (∀ (L : Nat → Int32) (σ : MS) (r : Int32 × MS), x_bind k 9 L σ = some r → ∀ (H : Heap) (locs : List Loc) (ls : Array Slot), va_P (dC, dI) nCl (vM cy a σ) H → va_D A (vM cy a σ) → va_S A s.heap H locs → lv_has ls 6 [(0, .ref (a 0)), (1, .int (L 1)), (2, .int (L 2)), (3, .int (L 3)), (4, .int (L 4)), (5, .int (L 5))] → W p l e (headSpec w_x_bind ({ frames := 1, cells := 0, slots := 0, locals := 22 })).room s m #[.ref (a 0), .int (L0 1), .int (L0 2)] below meth c H locs 0 0 (MQ below (va_Qv (fun _ : Unit => True) (fun _ t => nOut (dC, dI) cy A (vM cy a r.2) t) A) #[.ref (a 0), .int (L0 1), .int (L0 2)] s 0 0 A) (F0 m 145 ls [])) := by
    intro k
    induction k with
    | zero => exact ⟨fun L σ r h => (by cases h), fun L σ r h => (by cases h), fun L σ r h => (by cases h), fun L σ r h => (by cases h), fun L σ r h => (by cases h), fun L σ r h => (by cases h), fun L σ r h => (by cases h), fun L σ r h => (by cases h), fun L σ r h => (by cases h), fun L σ r h => (by cases h)⟩
    | succ k ih =>
      refine ⟨?_, ?_, ?_, ?_, ?_, ?_, ?_, ?_, ?_, ?_⟩
      · intro L σ r h H locs ls hP hD hS hl
        rw [x_bind] at h
        refine lv_aload_n hx hb dX12_bind_0 rfl (lv_at hl 0 rfl) ?_
        refine va_get (D := (dC, dI)) (ci := 11) (v := .ref (a 5)) (C := RX12) (T := TX12) (N := 121) hx hb hts in_x_bind hown hK hP 0 rfl rfl 15 (by decide) (hts _ (List.mem_cons_of_mem _ (List.mem_append_left _ (List.mem_append_left _ (List.mem_of_getElem? (i := 0) rfl))))) (fun _ h9 => h9) rfl dX12_bind_1 ?_
        refine lv_iload_n hx hb dX12_bind_4 rfl (lv_at hl 1 rfl) ?_
        by_cases q1 : ¬ (((L 1)) < 0 ∨ 70000 ≤ ((L 1)).toNatClampNeg)
        · rw [if_pos q1] at h
          refine va_iald hx hb hK hP 5 1 rfl rfl (nb_inp q1) dX12_bind_5 ?_
          refine lv_if_ne (tgt := 21) hx hb dX12_bind_6 (by decide) (fun c2 => ?_) (fun c2 => ?_)
          · rw [if_neg c2] at h
            exact ih.2.1 L σ r h H locs ls hP hD hS (lv_sub hl [0, 1, 2] rfl)
          · rw [if_pos c2] at h
            refine lv_aload_n hx hb dX12_bind_9 rfl (lv_at hl 0 rfl) ?_
            refine lv_aload_n hx hb dX12_bind_10 rfl (lv_at hl 0 rfl) ?_
            refine va_get (D := (dC, dI)) (ci := 11) (v := .ref (a 6)) (C := RX12) (T := TX12) (N := 121) hx hb hts in_x_bind hown hK hP 0 rfl rfl 16 (by decide) (hts _ (List.mem_cons_of_mem _ (List.mem_append_left _ (List.mem_append_left _ (List.mem_of_getElem? (i := 1) rfl))))) (fun _ h9 => h9) rfl dX12_bind_11 ?_
            refine lv_iload_n hx hb dX12_bind_14 rfl (lv_at hl 1 rfl) ?_
            by_cases q3 : ¬ (((L 1)) < 0 ∨ 70000 ≤ ((L 1)).toNatClampNeg)
            · rw [if_pos q3] at h
              refine va_iald hx hb hK hP 6 1 rfl rfl (nb_inp q3) dX12_bind_15 ?_
              refine lv_iload_n hx hb dX12_bind_16 rfl (lv_at hl 2 rfl) ?_
              cases hc4 : x_bindOne k 0 (upd (upd (fun _ => 0) 1 ((σ.2.2 6 ((L 1)).toNatClampNeg))) 2 ((L 2))) σ with
              | none => rw [hc4, ob_none] at h; cases h
              | some r4 =>
                rw [hc4, ob_some] at h
                have hFc := va_free (wc := vM cy a σ) hD hS hA [0, 1, 2, 3, 4, 5, 6, 7, 8, 9, 10, 11, 12, 13, 14, 15, 16, 17, 18, 19, 20, 21, 22, 23, 24, 25, 26, 27, 28, 29, 30, 31, 32, 33, 34, 35, 36, 37, 38, 39, 40, 41, 42, 43, 44, 45, 46, 47, 48, 49, 50, 51, 52, 53, 54, 55, 56, 57] rfl
                refine va_callv (va_runV (As := [.int (σ.2.2 6 ((L 1)).toNatClampNeg), .int (L 2)]) (rest := []) ⟨hx, hb, hml, hown, hts⟩ (c_x_bindOne l dC dI cy a k (upd (upd (fun _ => 0) 1 ((σ.2.2 6 ((L 1)).toNatClampNeg))) 2 ((L 2))) σ r4 hc4 H.size) (cwV 2 hts g_x_bind_bindOne_694 rfl rfl rfl (by decide +kernel) ⟨Nat.le_of_ble_eq_true rfl, Nat.le_of_ble_eq_true rfl⟩) ⟨nb_blind, va_recv hK hP (ci := 11) (q0 := 0) rfl rfl, fun U hU hW => ⟨rfl, by rw [hU], by rw [hU]; exact hP, va_K.moved hW.alike hK, hD.weaken (fun _ _ _ _ => trivial), hG.warm hW⟩⟩ rfl rfl hl.1 rfl (lv_room (Nat.le_of_ble_eq_true rfl)) dX12_bind_17 ⟨Nat.le_of_ble_eq_true rfl, Nat.le_of_ble_eq_true rfl⟩) hS (fun q _ h => hFc q h) hFc (fun _ t H1 locs ht hvm hw hB hz1 hk1 hS => ?_)
                obtain ⟨hP1, hK1, hD1⟩ := hB
                rw [ht] at hP1
                obtain ⟨hP, hD⟩ := va_join (wr := []) (w1 := vM cy a r4.2) hP hD [0, 1, 2, 3, 4, 5, 6, 7, 8, 9, 10, 11, 12, 13, 14, 15, 16, 17, 18, 19, 20, 21, 22, 23, 24, 25, 26, 27, 28, 29, 30, 31, 32, 33, 34, 35, 36, 37, 38, 39, 40, 41, 42, 43, 44, 45, 46, 47, 48, 49, 50, 51, 52, 53, 54, 55, 56, 57] [] rfl rfl (by decide) (by decide) hk1 hFc hP1 hD1
                generalize H1 = H at hP hS ⊢
                have hP : va_P (dC, dI) nCl (vM cy a r4.2) H := hP
                have hD : va_D A (vM cy a r4.2) := hD
                cases h
                exact W.vret hx hb hr (fun t ht hW => ⟨⟨(), rfl, trivial, by rw [ht]; exact hP, va_K.moved hW.alike hK, hD⟩, hS.F ht⟩) hS.2.2 dX12_bind_20
            · rw [if_neg q3] at h; cases h
        · rw [if_neg q1] at h; cases h
      · intro L σ r h H locs ls hP hD hS hl
        rw [x_bind] at h
        refine lv_iconst (v := 0) hx hb dX12_bind_21 (by decide) ?_
        refine lv_istore_n (lv' := [(3, .int 0), (0, .ref (a 0)), (1, .int (L 1)), (2, .int (L 2))]) hx hb dX12_bind_22 rfl hl (by decide) rfl (fun ls hl => ?_)
        refine lv_aload_n hx hb dX12_bind_23 rfl (lv_at hl 1 rfl) ?_
        refine va_get (D := (dC, dI)) (ci := 11) (v := .ref (a 6)) (C := RX12) (T := TX12) (N := 121) hx hb hts in_x_bind hown hK hP 0 rfl rfl 16 (by decide) (hts _ (List.mem_cons_of_mem _ (List.mem_append_left _ (List.mem_append_left _ (List.mem_of_getElem? (i := 1) rfl))))) (fun _ h9 => h9) rfl dX12_bind_24 ?_
        refine lv_iload_n hx hb dX12_bind_27 rfl (lv_at hl 2 rfl) ?_
        by_cases q1 : ¬ (((L 1)) < 0 ∨ 70000 ≤ ((L 1)).toNatClampNeg)
        · rw [if_pos q1] at h
          refine va_iald hx hb hK hP 6 1 rfl rfl (nb_inp q1) dX12_bind_28 ?_
          refine lv_istore (lv' := [(4, .int (σ.2.2 6 ((L 1)).toNatClampNeg)), (3, .int 0), (0, .ref (a 0)), (1, .int (L 1)), (2, .int (L 2))]) hx hb dX12_bind_29 hl (by decide) rfl (fun ls hl => ?_)
          exact ih.2.2.1 (upd (upd L 3 0) 4 ((σ.2.2 6 ((L 1)).toNatClampNeg))) σ r h H locs ls hP hD hS (lv_sub hl [2, 3, 4, 1, 0] rfl)
        · rw [if_neg q1] at h; cases h
      · intro L σ r h H locs ls hP hD hS hl
        rw [x_bind] at h
        refine lv_iload hx hb dX12_bind_31 (lv_at hl 4 rfl) ?_
        refine lv_iconst (v := (-1)) hx hb dX12_bind_33 (by decide) ?_
        refine lv_icmp_eq (tgt := 52) hx hb dX12_bind_34 (by decide) (fun c1 => ?_) (fun c1 => ?_)
        · rw [if_pos c1] at h
          exact ih.2.2.2.1 L σ r h H locs ls hP hD hS (lv_sub hl [0, 1, 2, 3, 4] rfl)
        · rw [if_neg c1] at h
          refine lv_iinc (v := ((L 3)) + 1) (lv' := [(3, .int (((L 3)) + 1)), (0, .ref (a 0)), (1, .int (L 1)), (2, .int (L 2)), (4, .int (L 4))]) hx hb dX12_bind_37 hl (k := 3) rfl rfl (by decide) rfl (fun ls hl => ?_)
          refine lv_aload_n hx hb dX12_bind_40 rfl (lv_at hl 1 rfl) ?_
          refine va_get (D := (dC, dI)) (ci := 11) (v := .ref (a 9)) (C := RX12) (T := TX12) (N := 121) hx hb hts in_x_bind hown hK hP 0 rfl rfl 19 (by decide) (hts _ (List.mem_cons_of_mem _ (List.mem_append_left _ (List.mem_append_left _ (List.mem_of_getElem? (i := 6) rfl))))) (fun _ h9 => h9) rfl dX12_bind_41 ?_
          refine lv_iload hx hb dX12_bind_44 (lv_at hl 4 rfl) ?_
          by_cases q2 : ¬ (((L 4)) < 0 ∨ 70000 ≤ ((L 4)).toNatClampNeg)
          · rw [if_pos q2] at h
            refine va_iald hx hb hK hP 9 1 rfl rfl (nb_inp q2) dX12_bind_46 ?_
            refine lv_istore (lv' := [(4, .int (σ.2.2 9 ((L 4)).toNatClampNeg)), (3, .int (((L 3)) + 1)), (0, .ref (a 0)), (1, .int (L 1)), (2, .int (L 2))]) hx hb dX12_bind_47 hl (by decide) rfl (fun ls hl => ?_)
            refine lv_goto (tgt := 31) hx hb dX12_bind_49 (by decide) ?_
            exact ih.2.2.1 (upd (upd L 3 (((L 3)) + 1)) 4 ((σ.2.2 9 ((L 4)).toNatClampNeg))) σ r h H locs ls hP hD hS (lv_sub hl [2, 3, 4, 1, 0] rfl)
          · rw [if_neg q2] at h; cases h
      · intro L σ r h H locs ls hP hD hS hl
        rw [x_bind] at h
        refine lv_aload_n hx hb dX12_bind_52 rfl (lv_at hl 0 rfl) ?_
        refine lv_iload_n hx hb dX12_bind_53 rfl (lv_at hl 2 rfl) ?_
        cases hc1 : x_kind k 0 (upd (fun _ => 0) 1 ((L 2))) σ with
        | none => rw [hc1, ob_none] at h; cases h
        | some r1 =>
          rw [hc1, ob_some] at h
          have hFc := va_free (wc := vM cy a σ) hD hS hA [0, 1, 2, 3, 4, 5, 6, 7, 8, 9, 10, 11, 12, 13, 14, 15, 16, 17, 18, 19, 20, 21, 22, 23, 24, 25, 26, 27, 28, 29, 30, 31, 32, 33, 34, 35, 36, 37, 38, 39, 40, 41, 42, 43, 44, 45, 46, 47, 48, 49, 50, 51, 52, 53, 54, 55, 56, 57] rfl
          refine va_calli (va_runV (As := [.int (L 2)]) (rest := []) ⟨hx, hb, hml, hown, hts⟩ (c_x_kind l dC dI cy a k (upd (fun _ => 0) 1 ((L 2))) σ r1 hc1 H.size) (cwV 1 hts g_x_bind_kind_545 rfl rfl rfl (by decide +kernel) ⟨Nat.le_of_ble_eq_true rfl, Nat.le_of_ble_eq_true rfl⟩) ⟨nb_blind, va_recv hK hP (ci := 11) (q0 := 0) rfl rfl, fun U hU hW => ⟨rfl, by rw [hU], by rw [hU]; exact hP, va_K.moved hW.alike hK, hD.weaken (fun _ _ _ _ => trivial), hG.warm hW⟩⟩ rfl rfl hl.1 rfl (lv_room (Nat.le_of_ble_eq_true rfl)) dX12_bind_54 ⟨Nat.le_of_ble_eq_true rfl, Nat.le_of_ble_eq_true rfl⟩) hS (fun q _ h => hFc q h) hFc (fun z9 _ t H1 locs ht hvm hw hB hz1 hk1 hS => ?_)
          subst hw
          obtain ⟨hP1, hK1, hD1⟩ := hB
          rw [ht] at hP1
          obtain ⟨hP, hD⟩ := va_join (wr := []) (w1 := vM cy a r1.2) hP hD [0, 1, 2, 3, 4, 5, 6, 7, 8, 9, 10, 11, 12, 13, 14, 15, 16, 17, 18, 19, 20, 21, 22, 23, 24, 25, 26, 27, 28, 29, 30, 31, 32, 33, 34, 35, 36, 37, 38, 39, 40, 41, 42, 43, 44, 45, 46, 47, 48, 49, 50, 51, 52, 53, 54, 55, 56, 57] [] rfl rfl (by decide) (by decide) hk1 hFc hP1 hD1
          generalize H1 = H at hP hS ⊢
          have hP : va_P (dC, dI) nCl (vM cy a r1.2) H := hP
          have hD : va_D A (vM cy a r1.2) := hD
          refine lv_iconst (v := 5) hx hb dX12_bind_57 (by decide) ?_
          refine lv_icmp_ne (tgt := 73) hx hb dX12_bind_58 (by decide) (fun c2 => ?_) (fun c2 => ?_)
          · rw [if_neg c2] at h
            exact ih.2.2.2.2.1 L r1.2 r h H locs ls hP hD hS (lv_sub hl [0, 1, 2, 3, 4] rfl)
          · rw [if_pos c2] at h
            refine lv_aload_n hx hb dX12_bind_61 rfl (lv_at hl 0 rfl) ?_
            refine va_get (D := (dC, dI)) (ci := 11) (v := .ref (a 28)) (C := RX12) (T := TX12) (N := 121) hx hb hts in_x_bind hown hK hP 0 rfl rfl 53 (by decide) (hts _ (List.mem_cons_of_mem _ (List.mem_append_left _ (List.mem_append_left _ (List.mem_of_getElem? (i := 10) rfl))))) (fun _ h9 => h9) rfl dX12_bind_62 ?_
            refine lv_iload_n hx hb dX12_bind_65 rfl (lv_at hl 2 rfl) ?_
            refine lv_iconst (v := 1) hx hb dX12_bind_66 (by decide) ?_
            refine lv_iadd hx hb dX12_bind_67 ?_
            by_cases q3 : ¬ (((((L 2)) + 1)) < 0 ∨ 1740000 ≤ ((((L 2)) + 1)).toNatClampNeg)
            · rw [if_pos q3] at h
              refine va_iald hx hb hK hP 28 1 rfl rfl (nb_inp q3) dX12_bind_68 ?_
              refine lv_iload_n hx hb dX12_bind_69 rfl (lv_at hl 3 rfl) ?_
              refine lv_icmp_le (tgt := 79) hx hb dX12_bind_70 (by decide) (fun c4 => ?_) (fun c4 => ?_)
              · rw [if_pos c4] at h
                exact ih.2.2.2.2.2.1 L r1.2 r h H locs ls hP hD hS (lv_sub hl [0, 1, 2, 3, 4] rfl)
              · rw [if_neg c4] at h
                exact ih.2.2.2.2.1 L r1.2 r h H locs ls hP hD hS (lv_sub hl [0, 1, 2, 3, 4] rfl)
            · rw [if_neg q3] at h; cases h
      · intro L σ r h H locs ls hP hD hS hl
        rw [x_bind] at h
        refine lv_aload_n hx hb dX12_bind_73 rfl (lv_at hl 0 rfl) ?_
        refine lv_iconst (v := 1) hx hb dX12_bind_74 (by decide) ?_
        cases hc1 : x_fail k 0 (upd (fun _ => 0) 1 1) σ with
        | none => rw [hc1, ob_none] at h; cases h
        | some r1 =>
          rw [hc1, ob_some] at h
          have hFc := va_free (wc := vM cy a σ) hD hS hA [0, 1, 2, 3, 4, 5, 6, 7, 8, 9, 10, 11, 12, 13, 14, 15, 16, 17, 18, 19, 20, 21, 22, 23, 24, 25, 26, 27, 28, 29, 30, 31, 32, 33, 34, 35, 36, 37, 38, 39, 40, 41, 42, 43, 44, 45, 46, 47, 48, 49, 50, 51, 52, 53, 54, 55, 56, 57] rfl
          refine va_callv (va_runV (As := [.int 1]) (rest := []) ⟨hx, hb, hml, hown, hts⟩ (c_x_fail l dC dI cy a k (upd (fun _ => 0) 1 1) σ r1 hc1 H.size) (cwV 1 hts g_x_bind_fail_369 rfl rfl rfl (by decide +kernel) ⟨Nat.le_of_ble_eq_true rfl, Nat.le_of_ble_eq_true rfl⟩) ⟨nb_blind, va_recv hK hP (ci := 11) (q0 := 0) rfl rfl, fun U hU hW => ⟨rfl, by rw [hU], by rw [hU]; exact hP, va_K.moved hW.alike hK, hD.weaken (fun _ _ _ _ => trivial), hG.warm hW⟩⟩ rfl rfl hl.1 rfl (lv_room (Nat.le_of_ble_eq_true rfl)) dX12_bind_75 ⟨Nat.le_of_ble_eq_true rfl, Nat.le_of_ble_eq_true rfl⟩) hS (fun q _ h => hFc q h) hFc (fun _ t H1 locs ht hvm hw hB hz1 hk1 hS => ?_)
          obtain ⟨hP1, hK1, hD1⟩ := hB
          rw [ht] at hP1
          obtain ⟨hP, hD⟩ := va_join (wr := []) (w1 := vM cy a r1.2) hP hD [0, 1, 2, 3, 4, 5, 6, 7, 8, 9, 10, 11, 12, 13, 14, 15, 16, 17, 18, 19, 20, 21, 22, 23, 24, 25, 26, 27, 28, 29, 30, 31, 32, 33, 34, 35, 36, 37, 38, 39, 40, 41, 42, 43, 44, 45, 46, 47, 48, 49, 50, 51, 52, 53, 54, 55, 56, 57] [] rfl rfl (by decide) (by decide) hk1 hFc hP1 hD1
          generalize H1 = H at hP hS ⊢
          have hP : va_P (dC, dI) nCl (vM cy a r1.2) H := hP
          have hD : va_D A (vM cy a r1.2) := hD
          cases h
          exact W.vret hx hb hr (fun t ht hW => ⟨⟨(), rfl, trivial, by rw [ht]; exact hP, va_K.moved hW.alike hK, hD⟩, hS.F ht⟩) hS.2.2 dX12_bind_78
      · intro L σ r h H locs ls hP hD hS hl
        rw [x_bind] at h
        refine lv_iconst (v := 0) hx hb dX12_bind_79 (by decide) ?_
        refine lv_istore (lv' := [(4, .int 0), (0, .ref (a 0)), (1, .int (L 1)), (2, .int (L 2)), (3, .int (L 3))]) hx hb dX12_bind_80 hl (by decide) rfl (fun ls hl => ?_)
        refine lv_aload_n hx hb dX12_bind_82 rfl (lv_at hl 1 rfl) ?_
        refine va_get (D := (dC, dI)) (ci := 11) (v := .ref (a 6)) (C := RX12) (T := TX12) (N := 121) hx hb hts in_x_bind hown hK hP 0 rfl rfl 16 (by decide) (hts _ (List.mem_cons_of_mem _ (List.mem_append_left _ (List.mem_append_left _ (List.mem_of_getElem? (i := 1) rfl))))) (fun _ h9 => h9) rfl dX12_bind_83 ?_
        refine lv_iload_n hx hb dX12_bind_86 rfl (lv_at hl 2 rfl) ?_
        by_cases q1 : ¬ (((L 1)) < 0 ∨ 70000 ≤ ((L 1)).toNatClampNeg)
        · rw [if_pos q1] at h
          refine va_iald hx hb hK hP 6 1 rfl rfl (nb_inp q1) dX12_bind_87 ?_
          refine lv_istore (lv' := [(5, .int (σ.2.2 6 ((L 1)).toNatClampNeg)), (4, .int 0), (0, .ref (a 0)), (1, .int (L 1)), (2, .int (L 2)), (3, .int (L 3))]) hx hb dX12_bind_88 hl (by decide) rfl (fun ls hl => ?_)
          exact ih.2.2.2.2.2.2.1 (upd (upd L 4 0) 5 ((σ.2.2 6 ((L 1)).toNatClampNeg))) σ r h H locs ls hP hD hS (lv_sub hl [2, 3, 4, 5, 1, 0] rfl)
        · rw [if_neg q1] at h; cases h
      · intro L σ r h H locs ls hP hD hS hl
        rw [x_bind] at h
        refine lv_iload hx hb dX12_bind_90 (lv_at hl 5 rfl) ?_
        refine lv_iconst (v := (-1)) hx hb dX12_bind_92 (by decide) ?_
        refine lv_icmp_eq (tgt := 145) hx hb dX12_bind_93 (by decide) (fun c1 => ?_) (fun c1 => ?_)
        · rw [if_pos c1] at h
          exact ih.2.2.2.2.2.2.2.2.2 L σ r h H locs ls hP hD hS (lv_sub hl [0, 1, 2, 3, 4, 5] rfl)
        · rw [if_neg c1] at h
          refine lv_aload_n hx hb dX12_bind_96 rfl (lv_at hl 0 rfl) ?_
          refine lv_iload hx hb dX12_bind_97 (lv_at hl 5 rfl) ?_
          refine lv_iload hx hb dX12_bind_99 (lv_at hl 4 rfl) ?_
          refine lv_aload_n hx hb dX12_bind_101 rfl (lv_at hl 0 rfl) ?_
          refine va_get (D := (dC, dI)) (ci := 11) (v := .ref (a 28)) (C := RX12) (T := TX12) (N := 121) hx hb hts in_x_bind hown hK hP 0 rfl rfl 53 (by decide) (hts _ (List.mem_cons_of_mem _ (List.mem_append_left _ (List.mem_append_left _ (List.mem_of_getElem? (i := 10) rfl))))) (fun _ h9 => h9) rfl dX12_bind_102 ?_
          refine lv_iload_n hx hb dX12_bind_105 rfl (lv_at hl 2 rfl) ?_
          refine lv_iconst (v := 1) hx hb dX12_bind_106 (by decide) ?_
          refine lv_iadd hx hb dX12_bind_107 ?_
          by_cases q2 : ¬ (((((L 2)) + 1)) < 0 ∨ 1740000 ≤ ((((L 2)) + 1)).toNatClampNeg)
          · rw [if_pos q2] at h
            refine va_iald hx hb hK hP 28 1 rfl rfl (nb_inp q2) dX12_bind_108 ?_
            refine lv_icmp_ge (tgt := 126) hx hb dX12_bind_109 (by decide) (fun c3 => ?_) (fun c3 => ?_)
            · rw [if_pos c3] at h
              exact ih.2.2.2.2.2.2.2.1 (upd L 100 ((L 5))) σ r h H locs ls hP hD hS (lv_sub hl [0, 1, 2, 3, 4, 5] rfl)
            · rw [if_neg c3] at h
              refine lv_aload_n hx hb dX12_bind_112 rfl (lv_at hl 0 rfl) ?_
              refine va_get (D := (dC, dI)) (ci := 11) (v := .ref (a 28)) (C := RX12) (T := TX12) (N := 121) hx hb hts in_x_bind hown hK hP 0 rfl rfl 53 (by decide) (hts _ (List.mem_cons_of_mem _ (List.mem_append_left _ (List.mem_append_left _ (List.mem_of_getElem? (i := 10) rfl))))) (fun _ h9 => h9) rfl dX12_bind_113 ?_
              refine lv_iload_n hx hb dX12_bind_116 rfl (lv_at hl 2 rfl) ?_
              refine lv_iconst (v := 4) hx hb dX12_bind_117 (by decide) ?_
              refine lv_iadd hx hb dX12_bind_118 ?_
              refine lv_iload hx hb dX12_bind_119 (lv_at hl 4 rfl) ?_
              refine lv_iadd hx hb dX12_bind_121 ?_
              by_cases q4 : ¬ (((((((L 2)) + 4)) + ((L 4)))) < 0 ∨ 1740000 ≤ ((((((L 2)) + 4)) + ((L 4)))).toNatClampNeg)
              · rw [if_pos q4] at h
                refine va_iald hx hb hK hP 28 1 rfl rfl (nb_inp q4) dX12_bind_122 ?_
                refine lv_goto (tgt := 127) hx hb dX12_bind_123 (by decide) ?_
                exact ih.2.2.2.2.2.2.2.2.1 (upd (upd L 100 ((σ.2.2 28 ((((((L 2)) + 4)) + ((L 4)))).toNatClampNeg))) 101 ((L 5))) σ r h H locs ls hP hD hS (lv_sub hl [0, 1, 2, 3, 4, 5] rfl)
              · rw [if_neg q4] at h; cases h
          · rw [if_neg q2] at h; cases h
      · intro L σ r h H locs ls hP hD hS hl
        rw [x_bind] at h
        refine lv_iconst (v := 0) hx hb dX12_bind_126 (by decide) ?_
        exact ih.2.2.2.2.2.2.2.2.1 (upd (upd L 100 0) 101 ((L 100))) σ r h H locs ls hP hD hS (lv_sub hl [0, 1, 2, 3, 4, 5] rfl)
      · intro L σ r h H locs ls hP hD hS hl
        rw [x_bind] at h
        cases hc1 : x_bindOne k 0 (upd (upd (fun _ => 0) 1 ((L 101))) 2 ((L 100))) σ with
        | none => rw [hc1, ob_none] at h; cases h
        | some r1 =>
          rw [hc1, ob_some] at h
          have hFc := va_free (wc := vM cy a σ) hD hS hA [0, 1, 2, 3, 4, 5, 6, 7, 8, 9, 10, 11, 12, 13, 14, 15, 16, 17, 18, 19, 20, 21, 22, 23, 24, 25, 26, 27, 28, 29, 30, 31, 32, 33, 34, 35, 36, 37, 38, 39, 40, 41, 42, 43, 44, 45, 46, 47, 48, 49, 50, 51, 52, 53, 54, 55, 56, 57] rfl
          refine va_callv (va_runV (As := [.int (L 101), .int (L 100)]) (rest := []) ⟨hx, hb, hml, hown, hts⟩ (c_x_bindOne l dC dI cy a k (upd (upd (fun _ => 0) 1 ((L 101))) 2 ((L 100))) σ r1 hc1 H.size) (cwV 2 hts g_x_bind_bindOne_694 rfl rfl rfl (by decide +kernel) ⟨Nat.le_of_ble_eq_true rfl, Nat.le_of_ble_eq_true rfl⟩) ⟨nb_blind, va_recv hK hP (ci := 11) (q0 := 0) rfl rfl, fun U hU hW => ⟨rfl, by rw [hU], by rw [hU]; exact hP, va_K.moved hW.alike hK, hD.weaken (fun _ _ _ _ => trivial), hG.warm hW⟩⟩ rfl rfl hl.1 rfl (lv_room (Nat.le_of_ble_eq_true rfl)) dX12_bind_127 ⟨Nat.le_of_ble_eq_true rfl, Nat.le_of_ble_eq_true rfl⟩) hS (fun q _ h => hFc q h) hFc (fun _ t H1 locs ht hvm hw hB hz1 hk1 hS => ?_)
          obtain ⟨hP1, hK1, hD1⟩ := hB
          rw [ht] at hP1
          obtain ⟨hP, hD⟩ := va_join (wr := []) (w1 := vM cy a r1.2) hP hD [0, 1, 2, 3, 4, 5, 6, 7, 8, 9, 10, 11, 12, 13, 14, 15, 16, 17, 18, 19, 20, 21, 22, 23, 24, 25, 26, 27, 28, 29, 30, 31, 32, 33, 34, 35, 36, 37, 38, 39, 40, 41, 42, 43, 44, 45, 46, 47, 48, 49, 50, 51, 52, 53, 54, 55, 56, 57] [] rfl rfl (by decide) (by decide) hk1 hFc hP1 hD1
          generalize H1 = H at hP hS ⊢
          have hP : va_P (dC, dI) nCl (vM cy a r1.2) H := hP
          have hD : va_D A (vM cy a r1.2) := hD
          refine lv_iinc (v := ((L 4)) + 1) (lv' := [(4, .int (((L 4)) + 1)), (0, .ref (a 0)), (1, .int (L 1)), (2, .int (L 2)), (3, .int (L 3)), (5, .int (L 5))]) hx hb dX12_bind_130 hl (k := 4) rfl rfl (by decide) rfl (fun ls hl => ?_)
          refine lv_aload_n hx hb dX12_bind_133 rfl (lv_at hl 1 rfl) ?_
          refine va_get (D := (dC, dI)) (ci := 11) (v := .ref (a 9)) (C := RX12) (T := TX12) (N := 121) hx hb hts in_x_bind hown hK hP 0 rfl rfl 19 (by decide) (hts _ (List.mem_cons_of_mem _ (List.mem_append_left _ (List.mem_append_left _ (List.mem_of_getElem? (i := 6) rfl))))) (fun _ h9 => h9) rfl dX12_bind_134 ?_
          refine lv_iload hx hb dX12_bind_137 (lv_at hl 5 rfl) ?_
          by_cases q2 : ¬ (((L 5)) < 0 ∨ 70000 ≤ ((L 5)).toNatClampNeg)
          · rw [if_pos q2] at h
            refine va_iald hx hb hK hP 9 1 rfl rfl (nb_inp q2) dX12_bind_139 ?_
            refine lv_istore (lv' := [(5, .int (r1.2.2.2 9 ((L 5)).toNatClampNeg)), (4, .int (((L 4)) + 1)), (0, .ref (a 0)), (1, .int (L 1)), (2, .int (L 2)), (3, .int (L 3))]) hx hb dX12_bind_140 hl (by decide) rfl (fun ls hl => ?_)
            refine lv_goto (tgt := 90) hx hb dX12_bind_142 (by decide) ?_
            exact ih.2.2.2.2.2.2.1 (upd (upd L 4 (((L 4)) + 1)) 5 ((r1.2.2.2 9 ((L 5)).toNatClampNeg))) r1.2 r h H locs ls hP hD hS (lv_sub hl [2, 3, 4, 5, 1, 0] rfl)
          · rw [if_neg q2] at h; cases h
      · intro L σ r h H locs ls hP hD hS hl
        rw [x_bind] at h
        cases h
        exact W.vret hx hb hr (fun t ht hW => ⟨⟨(), rfl, trivial, by rw [ht]; exact hP, va_K.moved hW.alike hK, hD⟩, hS.F ht⟩) hS.2.2 dX12_bind_145
  exact (blk k0).1 L0 σ0 r0 h0 s.heap [] ls hP hD hS hl
/-! memberAt -/
def x_memberAt : Nat → Nat → (Nat → Int32) → MS → Option (Int32 × MS)
  | 0, _, _, _ => none
  | k + 1, 0, L, σ => if ¬ (((L 1)) < 0 ∨ 1740000 ≤ ((L 1)).toNatClampNeg) then (if ((σ.2.2 28 ((L 1)).toNatClampNeg)) = 4 then (if ¬ (((((((L 1)) + 4)) + ((L 2)))) < 0 ∨ 1740000 ≤ ((((((L 1)) + 4)) + ((L 2)))).toNatClampNeg) then (ob (x_byteString k 0 (upd (fun _ => 0) 1 ((σ.2.2 28 ((((((L 1)) + 4)) + ((L 2)))).toNatClampNeg))) σ) (fun r4 => x_memberAt k 2 (upd L 100 r4.1) r4.2)) else none) else (x_memberAt k 1 L σ)) else none
  | k + 1, 1, L, σ => if ¬ (((((((L 1)) + 4)) + ((L 2)))) < 0 ∨ 1740000 ≤ ((((((L 1)) + 4)) + ((L 2)))).toNatClampNeg) then (x_memberAt k 2 (upd L 100 ((σ.2.2 28 ((((((L 1)) + 4)) + ((L 2)))).toNatClampNeg))) σ) else none
  | k + 1, 2, L, σ => some ((L 100), σ)
  | _ + 1, _ + 3, _, _ => none
def o_x_memberAt : List Cond := [.fieldLink RX12 372 "SetHouseModel" "heap" "[I", .methodLink RX12 691 yX12_byteString, .instanceMethod yX12_byteString, .selects RX12 yX12_byteString yX12_byteString, .initialized RX12]
theorem o_x_memberAt_good : o_x_memberAt.all goodWord = true := by decide +kernel
def p_x_memberAt : List Cond := o_x_memberAt ++ ((.code yX12_byteString cX12_byteString 3 (some .int) :: p_x_byteString) ++ [])
theorem p_x_memberAt_good : p_x_memberAt.all goodWord = true := nb_all2 o_x_memberAt_good (nb_all2 (nb_allc (by decide +kernel) p_x_byteString_good) rfl)
def w_x_memberAt : List Cond := .code yX12_memberAt cX12_memberAt 3 (some .int) :: (p_x_memberAt ++ fM)
theorem w_x_memberAt_good : w_x_memberAt.all goodWord = true := nb_allc (by decide +kernel) (nb_all2 p_x_memberAt_good fM_good)
theorem in_x_memberAt : ∀ w ∈ wsX120, w ∈ w_x_memberAt := fun _ h => List.mem_cons_of_mem _ (List.mem_append_right _ h)
theorem gg_x_memberAt_byteString : GoodIn w_x_memberAt w_x_byteString := goodIn_sub (fun w h => (List.mem_cons.mp h).elim (fun e => (List.mem_cons_of_mem _ (List.mem_append_left _ (List.mem_append_right _ (List.mem_append_left _ (List.mem_cons.mpr (Or.inl e))))))) (fun h => (List.mem_append.mp h).elim (fun h => (List.mem_cons_of_mem _ (List.mem_append_left _ (List.mem_append_right _ (List.mem_append_left _ (List.mem_cons_of_mem _ h)))))) (fun h => List.mem_cons_of_mem _ (List.mem_append_right _ h)))) w_x_byteString_good
theorem g_x_memberAt_byteString_691 : GoodIn w_x_memberAt (wsV RX12 691 RX12 yX12_byteString w_x_byteString) := goodIn_app (nb_g4 (List.mem_cons_of_mem _ (List.mem_append_left _ (List.mem_append_left _ (List.mem_of_getElem? (i := 1) rfl)))) (List.mem_cons_of_mem _ (List.mem_append_left _ (List.mem_append_left _ (List.mem_of_getElem? (i := 2) rfl)))) (List.mem_cons_of_mem _ (List.mem_append_left _ (List.mem_append_left _ (List.mem_of_getElem? (i := 3) rfl)))) (List.mem_cons_of_mem _ (List.mem_append_left _ (List.mem_append_left _ (List.mem_of_getElem? (i := 4) rfl)))) (by decide +kernel)) gg_x_memberAt_byteString
set_option maxHeartbeats 40000000 in
set_option maxRecDepth 100000 in
theorem c_x_memberAt (l : Launch) (dC : Nat → ClassId) (dI : Nat → Nat → Nat) (cy : Nat → ClassId) (a : Nat → Nat) (k0 : Nat) (L0 : Nat → Int32) (σ0 : MS) (r0 : Int32 × MS) (h0 : x_memberAt k0 0 L0 σ0 = some r0) (sz : Nat) : Met l yX12_memberAt w_x_memberAt ({ frames := 3, cells := 0, slots := 0, locals := 66 }) (va_Pc [.ref (a 0), .int (L0 1), .int (L0 2)] (nIn (dC, dI) cy sz (vM cy a σ0))) (va_Qi (fun (z : Int32) (_ : Unit) => z = r0.1) (fun _ t => nOut (dC, dI) cy (va_A (vM cy a σ0) sz) (vM cy a r0.2) t) (va_A (vM cy a σ0) sz)) 0 0 (va_A (vM cy a σ0) sz) := by
  refine Met.ofW (cc := cX12_memberAt) (maxL := 3) (ret := (some .int)) (by decide) rfl ?_
  intro p e s m args below meth c s₁ B hml hv
  obtain ⟨rfl, hsz, hP, hK, hD0, hG⟩ := hv
  have hx := B.exec
  have hb := B.bytes
  have hr := B.returns
  have hts := atoms_spec (ws := w_x_memberAt) B.pre
  have hown : s.vm.findClass RX12 = some m.cls := findClass_of_methodNamed B.named
  have hlocks := B.notSynchronized
  subst hsz
  have hD := hD0.self (sz := s.heap.size)
  generalize hAe : va_A (vM cy a σ0) s.heap.size = A at hD ⊢
  have hA : ∀ q : Nat, s.heap.size ≤ q → A q := fun q h => by rw [← hAe]; exact Or.inr h
  have hS : va_S A s.heap s.heap [] := va_S.rf
  have hl := lv_entry ([.ref (a 0), .int (L0 1), .int (L0 2)]) (n := 3) (Nat.le_of_ble_eq_true rfl)
  rw [lg_entry_eq]
  generalize (lg_sl ([.ref (a 0), .int (L0 1), .int (L0 2)]) ++ List.replicate (3 - (lg_sl ([.ref (a 0), .int (L0 1), .int (L0 2)])).length) Slot.unset).toArray = ls at hl ⊢
  have hl : lv_has ls 3 [(0, .ref (a 0)), (1, .int (L0 1)), (2, .int (L0 2))] := hl
  have blk : ∀ k : Nat, (∀ (L : Nat → Int32) (σ : MS) (r : Int32 × MS), x_memberAt k 0 L σ = some r → ∀ (H : Heap) (locs : List Loc) (ls : Array Slot), va_P (dC, dI) nCl (vM cy a σ) H → va_D A (vM cy a σ) → va_S A s.heap H locs → lv_has ls 3 [(0, .ref (a 0)), (1, .int (L 1)), (2, .int (L 2))] → W p l e (headSpec w_x_memberAt ({ frames := 3, cells := 0, slots := 0, locals := 66 })).room s m #[.ref (a 0), .int (L0 1), .int (L0 2)] below meth c H locs 0 0 (MQ below (va_Qi (fun (z : Int32) (_ : Unit) => z = r.1) (fun _ t => nOut (dC, dI) cy A (vM cy a r.2) t) A) #[.ref (a 0), .int (L0 1), .int (L0 2)] s 0 0 A) (F0 m 0 ls [])) ∧ (∀ (L : Nat → Int32) (σ : MS) (r : Int32 × MS), x_memberAt k 1 L σ = some r → ∀ (H : Heap) (locs : List Loc) (ls : Array Slot), va_P (dC, dI) nCl (vM cy a σ) H → va_D A (vM cy a σ) → va_S A s.heap H locs → lv_has ls 3 [(0, .ref (a 0)), (1, .int (L 1)), (2, .int (L 2))] → W p l e (headSpec w_x_memberAt ({ frames := 3, cells := 0, slots := 0, locals := 66 })).room s m #[.ref (a 0), .int (L0 1), .int (L0 2)] below meth c H locs 0 0 (MQ below (va_Qi (fun (z : Int32) (_ : Unit) => z = r.1) (fun _ t => nOut (dC, dI) cy A (vM cy a r.2) t) A) #[.ref (a 0), .int (L0 1), .int (L0 2)] s 0 0 A) (F0 m 27 ls [])) ∧ (∀ (L : Nat → Int32) (σ : MS) (r : Int32 × MS), x_memberAt k 2 L σ = some r → ∀ (H : Heap) (locs : List Loc) (ls : Array Slot), va_P (dC, dI) nCl (vM cy a σ) H → va_D A (vM cy a σ) → va_S A s.heap H locs → lv_has ls 3 [(0, .ref (a 0)), (1, .int (L 1)), (2, .int (L 2))] → W p l e (headSpec w_x_memberAt ({ frames := 3, cells := 0, slots := 0, locals := 66 })).room s m #[.ref (a 0), .int (L0 1), .int (L0 2)] below meth c H locs 0 0 (MQ below (va_Qi (fun (z : Int32) (_ : Unit) => z = r.1) (fun _ t => nOut (dC, dI) cy A (vM cy a r.2) t) A) #[.ref (a 0), .int (L0 1), .int (L0 2)] s 0 0 A) (F0 m 37 ls [.int (L 100)])) := by
    intro k
    induction k with
    | zero => exact ⟨fun L σ r h => (by cases h), fun L σ r h => (by cases h), fun L σ r h => (by cases h)⟩
    | succ k ih =>
      refine ⟨?_, ?_, ?_⟩
      · intro L σ r h H locs ls hP hD hS hl
        rw [x_memberAt] at h
        refine lv_aload_n hx hb dX12_memberAt_0 rfl (lv_at hl 0 rfl) ?_
        refine va_get (D := (dC, dI)) (ci := 11) (v := .ref (a 28)) (C := RX12) (T := TX12) (N := 121) hx hb hts in_x_memberAt hown hK hP 0 rfl rfl 53 (by decide) (hts _ (List.mem_cons_of_mem _ (List.mem_append_left _ (List.mem_append_left _ (List.mem_of_getElem? (i := 0) rfl))))) (fun _ h9 => h9) rfl dX12_memberAt_1 ?_
        refine lv_iload_n hx hb dX12_memberAt_4 rfl (lv_at hl 1 rfl) ?_
        by_cases q1 : ¬ (((L 1)) < 0 ∨ 1740000 ≤ ((L 1)).toNatClampNeg)
        · rw [if_pos q1] at h
          refine va_iald hx hb hK hP 28 1 rfl rfl (nb_inp q1) dX12_memberAt_5 ?_
          refine lv_iconst (v := 4) hx hb dX12_memberAt_6 (by decide) ?_
          refine lv_icmp_ne (tgt := 27) hx hb dX12_memberAt_7 (by decide) (fun c2 => ?_) (fun c2 => ?_)
          · rw [if_neg c2] at h
            exact ih.2.1 L σ r h H locs ls hP hD hS (lv_sub hl [0, 1, 2] rfl)
          · rw [if_pos c2] at h
            refine lv_aload_n hx hb dX12_memberAt_10 rfl (lv_at hl 0 rfl) ?_
            refine lv_aload_n hx hb dX12_memberAt_11 rfl (lv_at hl 0 rfl) ?_
            refine va_get (D := (dC, dI)) (ci := 11) (v := .ref (a 28)) (C := RX12) (T := TX12) (N := 121) hx hb hts in_x_memberAt hown hK hP 0 rfl rfl 53 (by decide) (hts _ (List.mem_cons_of_mem _ (List.mem_append_left _ (List.mem_append_left _ (List.mem_of_getElem? (i := 0) rfl))))) (fun _ h9 => h9) rfl dX12_memberAt_12 ?_
            refine lv_iload_n hx hb dX12_memberAt_15 rfl (lv_at hl 1 rfl) ?_
            refine lv_iconst (v := 4) hx hb dX12_memberAt_16 (by decide) ?_
            refine lv_iadd hx hb dX12_memberAt_17 ?_
            refine lv_iload_n hx hb dX12_memberAt_18 rfl (lv_at hl 2 rfl) ?_
            refine lv_iadd hx hb dX12_memberAt_19 ?_
            by_cases q3 : ¬ (((((((L 1)) + 4)) + ((L 2)))) < 0 ∨ 1740000 ≤ ((((((L 1)) + 4)) + ((L 2)))).toNatClampNeg)
            · rw [if_pos q3] at h
              refine va_iald hx hb hK hP 28 1 rfl rfl (nb_inp q3) dX12_memberAt_20 ?_
              cases hc4 : x_byteString k 0 (upd (fun _ => 0) 1 ((σ.2.2 28 ((((((L 1)) + 4)) + ((L 2)))).toNatClampNeg))) σ with
              | none => rw [hc4, ob_none] at h; cases h
              | some r4 =>
                rw [hc4, ob_some] at h
                have hFc := va_free (wc := vM cy a σ) hD hS hA [0, 1, 2, 3, 4, 5, 6, 7, 8, 9, 10, 11, 12, 13, 14, 15, 16, 17, 18, 19, 20, 21, 22, 23, 24, 25, 26, 27, 28, 29, 30, 31, 32, 33, 34, 35, 36, 37, 38, 39, 40, 41, 42, 43, 44, 45, 46, 47, 48, 49, 50, 51, 52, 53, 54, 55, 56, 57] rfl
                refine va_calli (va_runV (As := [.int (σ.2.2 28 ((((((L 1)) + 4)) + ((L 2)))).toNatClampNeg)]) (rest := []) ⟨hx, hb, hml, hown, hts⟩ (c_x_byteString l dC dI cy a k (upd (fun _ => 0) 1 ((σ.2.2 28 ((((((L 1)) + 4)) + ((L 2)))).toNatClampNeg))) σ r4 hc4 H.size) (cwV 1 hts g_x_memberAt_byteString_691 rfl rfl rfl (by decide +kernel) ⟨Nat.le_of_ble_eq_true rfl, Nat.le_of_ble_eq_true rfl⟩) ⟨nb_blind, va_recv hK hP (ci := 11) (q0 := 0) rfl rfl, fun U hU hW => ⟨rfl, by rw [hU], by rw [hU]; exact hP, va_K.moved hW.alike hK, hD.weaken (fun _ _ _ _ => trivial), hG.warm hW⟩⟩ rfl rfl hl.1 rfl (lv_room (Nat.le_of_ble_eq_true rfl)) dX12_memberAt_21 ⟨Nat.le_of_ble_eq_true rfl, Nat.le_of_ble_eq_true rfl⟩) hS (fun q _ h => hFc q h) hFc (fun z9 _ t H1 locs ht hvm hw hB hz1 hk1 hS => ?_)
                subst hw
                obtain ⟨hP1, hK1, hD1⟩ := hB
                rw [ht] at hP1
                obtain ⟨hP, hD⟩ := va_join (wr := []) (w1 := vM cy a r4.2) hP hD [0, 1, 2, 3, 4, 5, 6, 7, 8, 9, 10, 11, 12, 13, 14, 15, 16, 17, 18, 19, 20, 21, 22, 23, 24, 25, 26, 27, 28, 29, 30, 31, 32, 33, 34, 35, 36, 37, 38, 39, 40, 41, 42, 43, 44, 45, 46, 47, 48, 49, 50, 51, 52, 53, 54, 55, 56, 57] [] rfl rfl (by decide) (by decide) hk1 hFc hP1 hD1
                generalize H1 = H at hP hS ⊢
                have hP : va_P (dC, dI) nCl (vM cy a r4.2) H := hP
                have hD : va_D A (vM cy a r4.2) := hD
                refine lv_goto (tgt := 37) hx hb dX12_memberAt_24 (by decide) ?_
                exact ih.2.2 (upd L 100 r4.1) r4.2 r h H locs ls hP hD hS (lv_sub hl [0, 1, 2] rfl)
            · rw [if_neg q3] at h; cases h
        · rw [if_neg q1] at h; cases h
      · intro L σ r h H locs ls hP hD hS hl
        rw [x_memberAt] at h
        refine lv_aload_n hx hb dX12_memberAt_27 rfl (lv_at hl 0 rfl) ?_
        refine va_get (D := (dC, dI)) (ci := 11) (v := .ref (a 28)) (C := RX12) (T := TX12) (N := 121) hx hb hts in_x_memberAt hown hK hP 0 rfl rfl 53 (by decide) (hts _ (List.mem_cons_of_mem _ (List.mem_append_left _ (List.mem_append_left _ (List.mem_of_getElem? (i := 0) rfl))))) (fun _ h9 => h9) rfl dX12_memberAt_28 ?_
        refine lv_iload_n hx hb dX12_memberAt_31 rfl (lv_at hl 1 rfl) ?_
        refine lv_iconst (v := 4) hx hb dX12_memberAt_32 (by decide) ?_
        refine lv_iadd hx hb dX12_memberAt_33 ?_
        refine lv_iload_n hx hb dX12_memberAt_34 rfl (lv_at hl 2 rfl) ?_
        refine lv_iadd hx hb dX12_memberAt_35 ?_
        by_cases q1 : ¬ (((((((L 1)) + 4)) + ((L 2)))) < 0 ∨ 1740000 ≤ ((((((L 1)) + 4)) + ((L 2)))).toNatClampNeg)
        · rw [if_pos q1] at h
          refine va_iald hx hb hK hP 28 1 rfl rfl (nb_inp q1) dX12_memberAt_36 ?_
          exact ih.2.2 (upd L 100 ((σ.2.2 28 ((((((L 1)) + 4)) + ((L 2)))).toNatClampNeg))) σ r h H locs ls hP hD hS (lv_sub hl [0, 1, 2] rfl)
        · rw [if_neg q1] at h; cases h
      · intro L σ r h H locs ls hP hD hS hl
        rw [x_memberAt] at h
        cases h
        exact W.iret (v := (L 100)) hx hb hr (fun t ht hW => ⟨⟨(L 100), (), rfl, rfl, by rw [ht]; exact hP, va_K.moved hW.alike hK, hD⟩, hS.F ht⟩) hS.2.2 dX12_memberAt_37
  exact (blk k0).1 L0 σ0 r0 h0 s.heap [] ls hP hD hS hl
/-! stepIter -/
def x_stepIter : Nat → Nat → (Nat → Int32) → MS → Option (Int32 × MS)
  | 0, _, _, _ => none
  | k + 1, 0, L, σ => if ¬ (((((σ.1 72)) - 1)) < 0 ∨ 4000 ≤ ((((σ.1 72)) - 1)).toNatClampNeg) then (if ¬ (((((σ.1 72)) - 1)) < 0 ∨ 4000 ≤ ((((σ.1 72)) - 1)).toNatClampNeg) then (if ¬ (((((σ.2.2 34 ((((σ.1 72)) - 1)).toNatClampNeg)) + 1)) < 0 ∨ 1740000 ≤ ((((σ.2.2 34 ((((σ.1 72)) - 1)).toNatClampNeg)) + 1)).toNatClampNeg) then (if ((σ.2.2 35 ((((σ.1 72)) - 1)).toNatClampNeg)) = ((σ.2.2 28 ((((σ.2.2 34 ((((σ.1 72)) - 1)).toNatClampNeg)) + 1)).toNatClampNeg)) then (some (0, σ)) else (x_stepIter k 1 (upd (upd L 2 ((σ.2.2 34 ((((σ.1 72)) - 1)).toNatClampNeg))) 3 ((σ.2.2 35 ((((σ.1 72)) - 1)).toNatClampNeg))) σ)) else none) else none) else none
  | k + 1, 1, L, σ => if ¬ (((((σ.1 72)) - 1)) < 0 ∨ 4000 ≤ ((((σ.1 72)) - 1)).toNatClampNeg) then (x_stepIter k 2 L (σ.1, σ.2.1, updG σ.2.2 35 (upd (σ.2.2 35) ((((σ.1 72)) - 1)).toNatClampNeg ((((L 3)) + 1))))) else none
  | k + 1, 2, L, σ => ob (x_worked k 0 (upd (fun _ => 0) 1 1) σ) (fun r1 => if ((r1.2.1 56)) = 0 then (ob (x_memberAt k 0 (upd (upd (fun _ => 0) 1 ((L 2))) 2 ((L 3))) r1.2) (fun r3 => ob (x_bind k 0 (upd (upd (fun _ => 0) 1 ((L 1))) 2 r3.1) r3.2) (fun r4 => x_stepIter k 3 L r4.2))) else (x_stepIter k 3 L r1.2))
  | k + 1, 3, L, σ => if ((σ.1 56)) = 0 then (x_stepIter k 5 (upd L 100 1) σ) else (x_stepIter k 4 L σ)
  | k + 1, 4, L, σ => x_stepIter k 5 (upd L 100 0) σ
  | k + 1, 5, L, σ => if ((L 100)) = 0 ∨ ((L 100)) = 1 then some ((L 100), σ) else none
  | _ + 1, _ + 6, _, _ => none
def o_x_stepIter : List Cond := [.fieldLink RX12 411 "SetHouseModel" "evValue" "[I", .fieldLink RX12 414 "SetHouseModel" "evTop" "I", .fieldLink RX12 700 "SetHouseModel" "evAt" "[I", .fieldLink RX12 372 "SetHouseModel" "heap" "[I", .methodLink RX12 563 yX12_worked, .instanceMethod yX12_worked, .selects RX12 yX12_worked yX12_worked, .initialized RX12, .fieldLink RX12 362 "SetHouseModel" "err" "I", .methodLink RX12 703 yX12_memberAt, .instanceMethod yX12_memberAt, .selects RX12 yX12_memberAt yX12_memberAt, .methodLink RX12 706 yX12_bind, .instanceMethod yX12_bind, .selects RX12 yX12_bind yX12_bind]
theorem o_x_stepIter_good : o_x_stepIter.all goodWord = true := by decide +kernel
def p_x_stepIter : List Cond := o_x_stepIter ++ ((.code yX12_worked cX12_worked 2 none :: p_x_worked) ++ ((.code yX12_memberAt cX12_memberAt 3 (some .int) :: p_x_memberAt) ++ ((.code yX12_bind cX12_bind 6 none :: p_x_bind) ++ [])))
theorem p_x_stepIter_good : p_x_stepIter.all goodWord = true := nb_all2 o_x_stepIter_good (nb_all2 (nb_allc (by decide +kernel) p_x_worked_good) (nb_all2 (nb_allc (by decide +kernel) p_x_memberAt_good) (nb_all2 (nb_allc (by decide +kernel) p_x_bind_good) rfl)))
def w_x_stepIter : List Cond := .code yX12_stepIter cX12_stepIter 4 (some .boolean) :: (p_x_stepIter ++ fM)
theorem w_x_stepIter_good : w_x_stepIter.all goodWord = true := nb_allc (by decide +kernel) (nb_all2 p_x_stepIter_good fM_good)
theorem in_x_stepIter : ∀ w ∈ wsX120, w ∈ w_x_stepIter := fun _ h => List.mem_cons_of_mem _ (List.mem_append_right _ h)
theorem gg_x_stepIter_worked : GoodIn w_x_stepIter w_x_worked := goodIn_sub (fun w h => (List.mem_cons.mp h).elim (fun e => (List.mem_cons_of_mem _ (List.mem_append_left _ (List.mem_append_right _ (List.mem_append_left _ (List.mem_cons.mpr (Or.inl e))))))) (fun h => (List.mem_append.mp h).elim (fun h => (List.mem_cons_of_mem _ (List.mem_append_left _ (List.mem_append_right _ (List.mem_append_left _ (List.mem_cons_of_mem _ h)))))) (fun h => List.mem_cons_of_mem _ (List.mem_append_right _ h)))) w_x_worked_good
theorem gg_x_stepIter_memberAt : GoodIn w_x_stepIter w_x_memberAt := goodIn_sub (fun w h => (List.mem_cons.mp h).elim (fun e => (List.mem_cons_of_mem _ (List.mem_append_left _ (List.mem_append_right _ (List.mem_append_right _ (List.mem_append_left _ (List.mem_cons.mpr (Or.inl e)))))))) (fun h => (List.mem_append.mp h).elim (fun h => (List.mem_cons_of_mem _ (List.mem_append_left _ (List.mem_append_right _ (List.mem_append_right _ (List.mem_append_left _ (List.mem_cons_of_mem _ h))))))) (fun h => List.mem_cons_of_mem _ (List.mem_append_right _ h)))) w_x_memberAt_good
theorem gg_x_stepIter_bind : GoodIn w_x_stepIter w_x_bind := goodIn_sub (fun w h => (List.mem_cons.mp h).elim (fun e => (List.mem_cons_of_mem _ (List.mem_append_left _ (List.mem_append_right _ (List.mem_append_right _ (List.mem_append_right _ (List.mem_append_left _ (List.mem_cons.mpr (Or.inl e))))))))) (fun h => (List.mem_append.mp h).elim (fun h => (List.mem_cons_of_mem _ (List.mem_append_left _ (List.mem_append_right _ (List.mem_append_right _ (List.mem_append_right _ (List.mem_append_left _ (List.mem_cons_of_mem _ h)))))))) (fun h => List.mem_cons_of_mem _ (List.mem_append_right _ h)))) w_x_bind_good
theorem g_x_stepIter_bind_706 : GoodIn w_x_stepIter (wsV RX12 706 RX12 yX12_bind w_x_bind) := goodIn_app (nb_g4 (List.mem_cons_of_mem _ (List.mem_append_left _ (List.mem_append_left _ (List.mem_of_getElem? (i := 12) rfl)))) (List.mem_cons_of_mem _ (List.mem_append_left _ (List.mem_append_left _ (List.mem_of_getElem? (i := 13) rfl)))) (List.mem_cons_of_mem _ (List.mem_append_left _ (List.mem_append_left _ (List.mem_of_getElem? (i := 14) rfl)))) (List.mem_cons_of_mem _ (List.mem_append_left _ (List.mem_append_left _ (List.mem_of_getElem? (i := 7) rfl)))) (by decide +kernel)) gg_x_stepIter_bind
theorem g_x_stepIter_memberAt_703 : GoodIn w_x_stepIter (wsV RX12 703 RX12 yX12_memberAt w_x_memberAt) := goodIn_app (nb_g4 (List.mem_cons_of_mem _ (List.mem_append_left _ (List.mem_append_left _ (List.mem_of_getElem? (i := 9) rfl)))) (List.mem_cons_of_mem _ (List.mem_append_left _ (List.mem_append_left _ (List.mem_of_getElem? (i := 10) rfl)))) (List.mem_cons_of_mem _ (List.mem_append_left _ (List.mem_append_left _ (List.mem_of_getElem? (i := 11) rfl)))) (List.mem_cons_of_mem _ (List.mem_append_left _ (List.mem_append_left _ (List.mem_of_getElem? (i := 7) rfl)))) (by decide +kernel)) gg_x_stepIter_memberAt
theorem g_x_stepIter_worked_563 : GoodIn w_x_stepIter (wsV RX12 563 RX12 yX12_worked w_x_worked) := goodIn_app (nb_g4 (List.mem_cons_of_mem _ (List.mem_append_left _ (List.mem_append_left _ (List.mem_of_getElem? (i := 4) rfl)))) (List.mem_cons_of_mem _ (List.mem_append_left _ (List.mem_append_left _ (List.mem_of_getElem? (i := 5) rfl)))) (List.mem_cons_of_mem _ (List.mem_append_left _ (List.mem_append_left _ (List.mem_of_getElem? (i := 6) rfl)))) (List.mem_cons_of_mem _ (List.mem_append_left _ (List.mem_append_left _ (List.mem_of_getElem? (i := 7) rfl)))) (by decide +kernel)) gg_x_stepIter_worked
set_option maxHeartbeats 40000000 in
set_option maxRecDepth 100000 in
theorem c_x_stepIter (l : Launch) (dC : Nat → ClassId) (dI : Nat → Nat → Nat) (cy : Nat → ClassId) (a : Nat → Nat) (k0 : Nat) (L0 : Nat → Int32) (σ0 : MS) (r0 : Int32 × MS) (h0 : x_stepIter k0 0 L0 σ0 = some r0) (sz : Nat) : Met l yX12_stepIter w_x_stepIter ({ frames := 4, cells := 0, slots := 0, locals := 88 }) (va_Pc [.ref (a 0), .int (L0 1)] (nIn (dC, dI) cy sz (vM cy a σ0))) (va_Qi (fun (z : Int32) (_ : Unit) => z = r0.1) (fun _ t => nOut (dC, dI) cy (va_A (vM cy a σ0) sz) (vM cy a r0.2) t) (va_A (vM cy a σ0) sz)) 0 0 (va_A (vM cy a σ0) sz) := by
  refine Met.ofW (cc := cX12_stepIter) (maxL := 4) (ret := (some .boolean)) (by decide) rfl ?_
  intro p e s m args below meth c s₁ B hml hv
  obtain ⟨rfl, hsz, hP, hK, hD0, hG⟩ := hv
  have hx := B.exec
  have hb := B.bytes
  have hr := B.returns
  have hts := atoms_spec (ws := w_x_stepIter) B.pre
  have hown : s.vm.findClass RX12 = some m.cls := findClass_of_methodNamed B.named
  have hlocks := B.notSynchronized
  subst hsz
  have hD := hD0.self (sz := s.heap.size)
  generalize hAe : va_A (vM cy a σ0) s.heap.size = A at hD ⊢
  have hA : ∀ q : Nat, s.heap.size ≤ q → A q := fun q h => by rw [← hAe]; exact Or.inr h
  have hS : va_S A s.heap s.heap [] := va_S.rf
  have hl := lv_entry ([.ref (a 0), .int (L0 1)]) (n := 4) (Nat.le_of_ble_eq_true rfl)
  rw [lg_entry_eq]
  generalize (lg_sl ([.ref (a 0), .int (L0 1)]) ++ List.replicate (4 - (lg_sl ([.ref (a 0), .int (L0 1)])).length) Slot.unset).toArray = ls at hl ⊢
  have hl : lv_has ls 4 [(0, .ref (a 0)), (1, .int (L0 1))] := hl
  have blk : ∀ k : Nat, (∀ (L : Nat → Int32) (σ : MS) (r : Int32 × MS), x_stepIter k 0 L σ = some r → ∀ (H : Heap) (locs : List Loc) (ls : Array Slot), va_P (dC, dI) nCl (vM cy a σ) H → va_D A (vM cy a σ) → va_S A s.heap H locs → lv_has ls 4 [(0, .ref (a 0)), (1, .int (L 1))] → W p l e (headSpec w_x_stepIter ({ frames := 4, cells := 0, slots := 0, locals := 88 })).room s m #[.ref (a 0), .int (L0 1)] below meth c H locs 0 0 (MQ below (va_Qi (fun (z : Int32) (_ : Unit) => z = r.1) (fun _ t => nOut (dC, dI) cy A (vM cy a r.2) t) A) #[.ref (a 0), .int (L0 1)] s 0 0 A) (F0 m 0 ls [])) ∧ (∀ (L : Nat → Int32) (σ : MS) (r : Int32 × MS), x_stepIter k 1 L σ = some r → ∀ (H : Heap) (locs : List Loc) (ls : Array Slot), va_P (dC, dI) nCl (vM cy a σ) H → va_D A (vM cy a σ) → va_S A s.heap H locs → lv_has ls 4 [(0, .ref (a 0)), (1, .int (L 1)), (2, .int (L 2)), (3, .int (L 3))] → W p l e (headSpec w_x_stepIter ({ frames := 4, cells := 0, slots := 0, locals := 88 })).room s m #[.ref (a 0), .int (L0 1)] below meth c H locs 0 0 (MQ below (va_Qi (fun (z : Int32) (_ : Unit) => z = r.1) (fun _ t => nOut (dC, dI) cy A (vM cy a r.2) t) A) #[.ref (a 0), .int (L0 1)] s 0 0 A) (F0 m 38 ls [])) ∧ (∀ (L : Nat → Int32) (σ : MS) (r : Int32 × MS), x_stepIter k 2 L σ = some r → ∀ (H : Heap) (locs : List Loc) (ls : Array Slot), va_P (dC, dI) nCl (vM cy a σ) H → va_D A (vM cy a σ) → va_S A s.heap H locs → lv_has ls 4 [(0, .ref (a 0)), (1, .int (L 1)), (2, .int (L 2)), (3, .int (L 3))] → W p l e (headSpec w_x_stepIter ({ frames := 4, cells := 0, slots := 0, locals := 88 })).room s m #[.ref (a 0), .int (L0 1)] below meth c H locs 0 0 (MQ below (va_Qi (fun (z : Int32) (_ : Unit) => z = r.1) (fun _ t => nOut (dC, dI) cy A (vM cy a r.2) t) A) #[.ref (a 0), .int (L0 1)] s 0 0 A) (F0 m 52 ls [])) ∧ (∀ (L : Nat → Int32) (σ : MS) (r : Int32 × MS), x_stepIter k 3 L σ = some r → ∀ (H : Heap) (locs : List Loc) (ls : Array Slot), va_P (dC, dI) nCl (vM cy a σ) H → va_D A (vM cy a σ) → va_S A s.heap H locs → lv_has ls 4 [(0, .ref (a 0)), (1, .int (L 1)), (2, .int (L 2)), (3, .int (L 3))] → W p l e (headSpec w_x_stepIter ({ frames := 4, cells := 0, slots := 0, locals := 88 })).room s m #[.ref (a 0), .int (L0 1)] below meth c H locs 0 0 (MQ below (va_Qi (fun (z : Int32) (_ : Unit) => z = r.1) (fun _ t => nOut (dC, dI) cy A (vM cy a r.2) t) A) #[.ref (a 0), .int (L0 1)] s 0 0 A) (F0 m 75 ls [])) ∧ (∀ (L : Nat → Int32) (σ : MS) (r : Int32 × MS), x_stepIter k 4 L σ = some r → ∀ (H : Heap) (locs : List Loc) (ls : Array Slot), va_P (dC, dI) nCl (vM cy a σ) H → va_D A (vM cy a σ) → va_S A s.heap H locs → lv_has ls 4 [(0, .ref (a 0)), (1, .int (L 1)), (2, .int (L 2)), (3, .int (L 3))] → W p l e (headSpec w_x_stepIter ({ frames := 4, cells := 0, slots := 0, locals := 88 })).room s m #[.ref (a 0), .int (L0 1)] below meth c H locs 0 0 (MQ below (va_Qi (fun (z : Int32) (_ : Unit) => z = r.1) (fun _ t => nOut (dC, dI) cy A (vM cy a r.2) t) A) #[.ref (a 0), .int (L0 1)] s 0 0 A) (F0 m 86 ls [])) ∧ (∀ (L : Nat → Int32) (σ : MS) (r : Int32 × MS), x_stepIter k 5 L σ = some r → ∀ (H : Heap) (locs : List Loc) (ls : Array Slot), va_P (dC, dI) nCl (vM cy a σ) H → va_D A (vM cy a σ) → va_S A s.heap H locs → lv_has ls 4 [(0, .ref (a 0)), (1, .int (L 1)), (2, .int (L 2)), (3, .int (L 3))] → W p l e (headSpec w_x_stepIter ({ frames := 4, cells := 0, slots := 0, locals := 88 })).room s m #[.ref (a 0), .int (L0 1)] below meth c H locs 0 0 (MQ below (va_Qi (fun (z : Int32) (_ : Unit) => z = r.1) (fun _ t => nOut (dC, dI) cy A (vM cy a r.2) t) A) #[.ref (a 0), .int (L0 1)] s 0 0 A) (F0 m 87 ls [.int (L 100)])) := by
    intro k
    induction k with
    | zero => exact ⟨fun L σ r h => (by cases h), fun L σ r h => (by cases h), fun L σ r h => (by cases h), fun L σ r h => (by cases h), fun L σ r h => (by cases h), fun L σ r h => (by cases h)⟩
    | succ k ih =>
      refine ⟨?_, ?_, ?_, ?_, ?_, ?_⟩
      · intro L σ r h H locs ls hP hD hS hl
        rw [x_stepIter] at h
        refine lv_aload_n hx hb dX12_stepIter_0 rfl (lv_at hl 0 rfl) ?_
        refine va_get (D := (dC, dI)) (ci := 11) (v := .ref (a 34)) (C := RX12) (T := TX12) (N := 121) hx hb hts in_x_stepIter hown hK hP 0 rfl rfl 70 (by decide) (hts _ (List.mem_cons_of_mem _ (List.mem_append_left _ (List.mem_append_left _ (List.mem_of_getElem? (i := 0) rfl))))) (fun _ h9 => h9) rfl dX12_stepIter_1 ?_
        refine lv_aload_n hx hb dX12_stepIter_4 rfl (lv_at hl 0 rfl) ?_
        refine va_get (D := (dC, dI)) (ci := 11) (v := .int (σ.1 72)) (C := RX12) (T := TX12) (N := 121) hx hb hts in_x_stepIter hown hK hP 0 rfl rfl 72 (by decide) (hts _ (List.mem_cons_of_mem _ (List.mem_append_left _ (List.mem_append_left _ (List.mem_of_getElem? (i := 1) rfl))))) (fun _ h9 => h9) rfl dX12_stepIter_5 ?_
        refine lv_iconst (v := 1) hx hb dX12_stepIter_8 (by decide) ?_
        refine lv_isub hx hb dX12_stepIter_9 ?_
        by_cases q1 : ¬ (((((σ.1 72)) - 1)) < 0 ∨ 4000 ≤ ((((σ.1 72)) - 1)).toNatClampNeg)
        · rw [if_pos q1] at h
          refine va_iald hx hb hK hP 34 1 rfl rfl (nb_inp q1) dX12_stepIter_10 ?_
          refine lv_istore_n (lv' := [(2, .int (σ.2.2 34 ((((σ.1 72)) - 1)).toNatClampNeg)), (0, .ref (a 0)), (1, .int (L 1))]) hx hb dX12_stepIter_11 rfl hl (by decide) rfl (fun ls hl => ?_)
          refine lv_aload_n hx hb dX12_stepIter_12 rfl (lv_at hl 1 rfl) ?_
          refine va_get (D := (dC, dI)) (ci := 11) (v := .ref (a 35)) (C := RX12) (T := TX12) (N := 121) hx hb hts in_x_stepIter hown hK hP 0 rfl rfl 71 (by decide) (hts _ (List.mem_cons_of_mem _ (List.mem_append_left _ (List.mem_append_left _ (List.mem_of_getElem? (i := 2) rfl))))) (fun _ h9 => h9) rfl dX12_stepIter_13 ?_
          refine lv_aload_n hx hb dX12_stepIter_16 rfl (lv_at hl 1 rfl) ?_
          refine va_get (D := (dC, dI)) (ci := 11) (v := .int (σ.1 72)) (C := RX12) (T := TX12) (N := 121) hx hb hts in_x_stepIter hown hK hP 0 rfl rfl 72 (by decide) (hts _ (List.mem_cons_of_mem _ (List.mem_append_left _ (List.mem_append_left _ (List.mem_of_getElem? (i := 1) rfl))))) (fun _ h9 => h9) rfl dX12_stepIter_17 ?_
          refine lv_iconst (v := 1) hx hb dX12_stepIter_20 (by decide) ?_
          refine lv_isub hx hb dX12_stepIter_21 ?_
          by_cases q2 : ¬ (((((σ.1 72)) - 1)) < 0 ∨ 4000 ≤ ((((σ.1 72)) - 1)).toNatClampNeg)
          · rw [if_pos q2] at h
            refine va_iald hx hb hK hP 35 1 rfl rfl (nb_inp q2) dX12_stepIter_22 ?_
            refine lv_istore_n (lv' := [(3, .int (σ.2.2 35 ((((σ.1 72)) - 1)).toNatClampNeg)), (2, .int (σ.2.2 34 ((((σ.1 72)) - 1)).toNatClampNeg)), (0, .ref (a 0)), (1, .int (L 1))]) hx hb dX12_stepIter_23 rfl hl (by decide) rfl (fun ls hl => ?_)
            refine lv_iload_n hx hb dX12_stepIter_24 rfl (lv_at hl 0 rfl) ?_
            refine lv_aload_n hx hb dX12_stepIter_25 rfl (lv_at hl 2 rfl) ?_
            refine va_get (D := (dC, dI)) (ci := 11) (v := .ref (a 28)) (C := RX12) (T := TX12) (N := 121) hx hb hts in_x_stepIter hown hK hP 0 rfl rfl 53 (by decide) (hts _ (List.mem_cons_of_mem _ (List.mem_append_left _ (List.mem_append_left _ (List.mem_of_getElem? (i := 3) rfl))))) (fun _ h9 => h9) rfl dX12_stepIter_26 ?_
            refine lv_iload_n hx hb dX12_stepIter_29 rfl (lv_at hl 1 rfl) ?_
            refine lv_iconst (v := 1) hx hb dX12_stepIter_30 (by decide) ?_
            refine lv_iadd hx hb dX12_stepIter_31 ?_
            by_cases q3 : ¬ (((((σ.2.2 34 ((((σ.1 72)) - 1)).toNatClampNeg)) + 1)) < 0 ∨ 1740000 ≤ ((((σ.2.2 34 ((((σ.1 72)) - 1)).toNatClampNeg)) + 1)).toNatClampNeg)
            · rw [if_pos q3] at h
              refine va_iald hx hb hK hP 28 1 rfl rfl (nb_inp q3) dX12_stepIter_32 ?_
              refine lv_icmp_ne (tgt := 38) hx hb dX12_stepIter_33 (by decide) (fun c4 => ?_) (fun c4 => ?_)
              · rw [if_neg c4] at h
                exact ih.2.1 (upd (upd L 2 ((σ.2.2 34 ((((σ.1 72)) - 1)).toNatClampNeg))) 3 ((σ.2.2 35 ((((σ.1 72)) - 1)).toNatClampNeg))) σ r h H locs ls hP hD hS (lv_sub hl [2, 3, 1, 0] rfl)
              · rw [if_pos c4] at h
                refine lv_iconst (v := 0) hx hb dX12_stepIter_36 (by decide) ?_
                cases h
                exact W.zret (v := 0) hx hb hr rfl (fun t ht hW => ⟨⟨0, (), rfl, rfl, by rw [ht]; exact hP, va_K.moved hW.alike hK, hD⟩, hS.F ht⟩) hS.2.2 dX12_stepIter_37
            · rw [if_neg q3] at h; cases h
          · rw [if_neg q2] at h; cases h
        · rw [if_neg q1] at h; cases h
      · intro L σ r h H locs ls hP hD hS hl
        rw [x_stepIter] at h
        refine lv_aload_n hx hb dX12_stepIter_38 rfl (lv_at hl 0 rfl) ?_
        refine va_get (D := (dC, dI)) (ci := 11) (v := .ref (a 35)) (C := RX12) (T := TX12) (N := 121) hx hb hts in_x_stepIter hown hK hP 0 rfl rfl 71 (by decide) (hts _ (List.mem_cons_of_mem _ (List.mem_append_left _ (List.mem_append_left _ (List.mem_of_getElem? (i := 2) rfl))))) (fun _ h9 => h9) rfl dX12_stepIter_39 ?_
        refine lv_aload_n hx hb dX12_stepIter_42 rfl (lv_at hl 0 rfl) ?_
        refine va_get (D := (dC, dI)) (ci := 11) (v := .int (σ.1 72)) (C := RX12) (T := TX12) (N := 121) hx hb hts in_x_stepIter hown hK hP 0 rfl rfl 72 (by decide) (hts _ (List.mem_cons_of_mem _ (List.mem_append_left _ (List.mem_append_left _ (List.mem_of_getElem? (i := 1) rfl))))) (fun _ h9 => h9) rfl dX12_stepIter_43 ?_
        refine lv_iconst (v := 1) hx hb dX12_stepIter_46 (by decide) ?_
        refine lv_isub hx hb dX12_stepIter_47 ?_
        refine lv_iload_n hx hb dX12_stepIter_48 rfl (lv_at hl 3 rfl) ?_
        refine lv_iconst (v := 1) hx hb dX12_stepIter_49 (by decide) ?_
        refine lv_iadd hx hb dX12_stepIter_50 ?_
        by_cases q1 : ¬ (((((σ.1 72)) - 1)) < 0 ∨ 4000 ≤ ((((σ.1 72)) - 1)).toNatClampNeg)
        · rw [if_pos q1] at h
          refine va_iast hx hb hK hP hD hS 35 1 rfl rfl (nb_inp q1) dX12_stepIter_51 (fun H locs hP hD hS => ?_)
          have hP : va_P (dC, dI) nCl (vM cy a (σ.1, σ.2.1, updG σ.2.2 35 (upd (σ.2.2 35) ((((σ.1 72)) - 1)).toNatClampNeg ((((L 3)) + 1))))) H := hP
          have hD : va_D A (vM cy a (σ.1, σ.2.1, updG σ.2.2 35 (upd (σ.2.2 35) ((((σ.1 72)) - 1)).toNatClampNeg ((((L 3)) + 1))))) := hD
          exact ih.2.2.1 L (σ.1, σ.2.1, updG σ.2.2 35 (upd (σ.2.2 35) ((((σ.1 72)) - 1)).toNatClampNeg ((((L 3)) + 1)))) r h H locs ls hP hD hS (lv_sub hl [0, 1, 2, 3] rfl)
        · rw [if_neg q1] at h; cases h
      · intro L σ r h H locs ls hP hD hS hl
        rw [x_stepIter] at h
        refine lv_aload_n hx hb dX12_stepIter_52 rfl (lv_at hl 0 rfl) ?_
        refine lv_iconst (v := 1) hx hb dX12_stepIter_53 (by decide) ?_
        cases hc1 : x_worked k 0 (upd (fun _ => 0) 1 1) σ with
        | none => rw [hc1, ob_none] at h; cases h
        | some r1 =>
          rw [hc1, ob_some] at h
          have hFc := va_free (wc := vM cy a σ) hD hS hA [0, 1, 2, 3, 4, 5, 6, 7, 8, 9, 10, 11, 12, 13, 14, 15, 16, 17, 18, 19, 20, 21, 22, 23, 24, 25, 26, 27, 28, 29, 30, 31, 32, 33, 34, 35, 36, 37, 38, 39, 40, 41, 42, 43, 44, 45, 46, 47, 48, 49, 50, 51, 52, 53, 54, 55, 56, 57] rfl
          refine va_callv (va_runV (As := [.int 1]) (rest := []) ⟨hx, hb, hml, hown, hts⟩ (c_x_worked l dC dI cy a k (upd (fun _ => 0) 1 1) σ r1 hc1 H.size) (cwV 1 hts g_x_stepIter_worked_563 rfl rfl rfl (by decide +kernel) ⟨Nat.le_of_ble_eq_true rfl, Nat.le_of_ble_eq_true rfl⟩) ⟨nb_blind, va_recv hK hP (ci := 11) (q0 := 0) rfl rfl, fun U hU hW => ⟨rfl, by rw [hU], by rw [hU]; exact hP, va_K.moved hW.alike hK, hD.weaken (fun _ _ _ _ => trivial), hG.warm hW⟩⟩ rfl rfl hl.1 rfl (lv_room (Nat.le_of_ble_eq_true rfl)) dX12_stepIter_54 ⟨Nat.le_of_ble_eq_true rfl, Nat.le_of_ble_eq_true rfl⟩) hS (fun q _ h => hFc q h) hFc (fun _ t H1 locs ht hvm hw hB hz1 hk1 hS => ?_)
          obtain ⟨hP1, hK1, hD1⟩ := hB
          rw [ht] at hP1
          obtain ⟨hP, hD⟩ := va_join (wr := []) (w1 := vM cy a r1.2) hP hD [0, 1, 2, 3, 4, 5, 6, 7, 8, 9, 10, 11, 12, 13, 14, 15, 16, 17, 18, 19, 20, 21, 22, 23, 24, 25, 26, 27, 28, 29, 30, 31, 32, 33, 34, 35, 36, 37, 38, 39, 40, 41, 42, 43, 44, 45, 46, 47, 48, 49, 50, 51, 52, 53, 54, 55, 56, 57] [] rfl rfl (by decide) (by decide) hk1 hFc hP1 hD1
          generalize H1 = H at hP hS ⊢
          have hP : va_P (dC, dI) nCl (vM cy a r1.2) H := hP
          have hD : va_D A (vM cy a r1.2) := hD
          refine lv_aload_n hx hb dX12_stepIter_57 rfl (lv_at hl 0 rfl) ?_
          refine va_get (D := (dC, dI)) (ci := 11) (v := .int (r1.2.1 56)) (C := RX12) (T := TX12) (N := 121) hx hb hts in_x_stepIter hown hK hP 0 rfl rfl 56 (by decide) (hts _ (List.mem_cons_of_mem _ (List.mem_append_left _ (List.mem_append_left _ (List.mem_of_getElem? (i := 8) rfl))))) (fun _ h9 => h9) rfl dX12_stepIter_58 ?_
          refine lv_if_ne (tgt := 75) hx hb dX12_stepIter_61 (by decide) (fun c2 => ?_) (fun c2 => ?_)
          · rw [if_neg c2] at h
            exact ih.2.2.2.1 L r1.2 r h H locs ls hP hD hS (lv_sub hl [0, 1, 2, 3] rfl)
          · rw [if_pos c2] at h
            refine lv_aload_n hx hb dX12_stepIter_64 rfl (lv_at hl 0 rfl) ?_
            refine lv_iload_n hx hb dX12_stepIter_65 rfl (lv_at hl 1 rfl) ?_
            refine lv_aload_n hx hb dX12_stepIter_66 rfl (lv_at hl 0 rfl) ?_
            refine lv_iload_n hx hb dX12_stepIter_67 rfl (lv_at hl 2 rfl) ?_
            refine lv_iload_n hx hb dX12_stepIter_68 rfl (lv_at hl 3 rfl) ?_
            cases hc3 : x_memberAt k 0 (upd (upd (fun _ => 0) 1 ((L 2))) 2 ((L 3))) r1.2 with
            | none => rw [hc3, ob_none] at h; cases h
            | some r3 =>
              rw [hc3, ob_some] at h
              have hFc := va_free (wc := vM cy a r1.2) hD hS hA [0, 1, 2, 3, 4, 5, 6, 7, 8, 9, 10, 11, 12, 13, 14, 15, 16, 17, 18, 19, 20, 21, 22, 23, 24, 25, 26, 27, 28, 29, 30, 31, 32, 33, 34, 35, 36, 37, 38, 39, 40, 41, 42, 43, 44, 45, 46, 47, 48, 49, 50, 51, 52, 53, 54, 55, 56, 57] rfl
              refine va_calli (va_runV (As := [.int (L 2), .int (L 3)]) (rest := [.int (L 1), .ref (a 0)]) ⟨hx, hb, hml, hown, hts⟩ (c_x_memberAt l dC dI cy a k (upd (upd (fun _ => 0) 1 ((L 2))) 2 ((L 3))) r1.2 r3 hc3 H.size) (cwV 2 hts g_x_stepIter_memberAt_703 rfl rfl rfl (by decide +kernel) ⟨Nat.le_of_ble_eq_true rfl, Nat.le_of_ble_eq_true rfl⟩) ⟨nb_blind, va_recv hK hP (ci := 11) (q0 := 0) rfl rfl, fun U hU hW => ⟨rfl, by rw [hU], by rw [hU]; exact hP, va_K.moved hW.alike hK, hD.weaken (fun _ _ _ _ => trivial), hG.warm hW⟩⟩ rfl rfl hl.1 rfl (lv_room (Nat.le_of_ble_eq_true rfl)) dX12_stepIter_69 ⟨Nat.le_of_ble_eq_true rfl, Nat.le_of_ble_eq_true rfl⟩) hS (fun q _ h => hFc q h) hFc (fun z9 _ t H1 locs ht hvm hw hB hz1 hk1 hS => ?_)
              subst hw
              obtain ⟨hP1, hK1, hD1⟩ := hB
              rw [ht] at hP1
              obtain ⟨hP, hD⟩ := va_join (wr := []) (w1 := vM cy a r3.2) hP hD [0, 1, 2, 3, 4, 5, 6, 7, 8, 9, 10, 11, 12, 13, 14, 15, 16, 17, 18, 19, 20, 21, 22, 23, 24, 25, 26, 27, 28, 29, 30, 31, 32, 33, 34, 35, 36, 37, 38, 39, 40, 41, 42, 43, 44, 45, 46, 47, 48, 49, 50, 51, 52, 53, 54, 55, 56, 57] [] rfl rfl (by decide) (by decide) hk1 hFc hP1 hD1
              generalize H1 = H at hP hS ⊢
              have hP : va_P (dC, dI) nCl (vM cy a r3.2) H := hP
              have hD : va_D A (vM cy a r3.2) := hD
              cases hc4 : x_bind k 0 (upd (upd (fun _ => 0) 1 ((L 1))) 2 r3.1) r3.2 with
              | none => rw [hc4, ob_none] at h; cases h
              | some r4 =>
                rw [hc4, ob_some] at h
                have hFc := va_free (wc := vM cy a r3.2) hD hS hA [0, 1, 2, 3, 4, 5, 6, 7, 8, 9, 10, 11, 12, 13, 14, 15, 16, 17, 18, 19, 20, 21, 22, 23, 24, 25, 26, 27, 28, 29, 30, 31, 32, 33, 34, 35, 36, 37, 38, 39, 40, 41, 42, 43, 44, 45, 46, 47, 48, 49, 50, 51, 52, 53, 54, 55, 56, 57] rfl
                refine va_callv (va_runV (As := [.int (L 1), .int r3.1]) (rest := []) ⟨hx, hb, hml, hown, hts⟩ (c_x_bind l dC dI cy a k (upd (upd (fun _ => 0) 1 ((L 1))) 2 r3.1) r3.2 r4 hc4 H.size) (cwV 2 hts g_x_stepIter_bind_706 rfl rfl rfl (by decide +kernel) ⟨Nat.le_of_ble_eq_true rfl, Nat.le_of_ble_eq_true rfl⟩) ⟨nb_blind, va_recv hK hP (ci := 11) (q0 := 0) rfl rfl, fun U hU hW => ⟨rfl, by rw [hU], by rw [hU]; exact hP, va_K.moved hW.alike hK, hD.weaken (fun _ _ _ _ => trivial), hG.warm hW⟩⟩ rfl rfl hl.1 rfl (lv_room (Nat.le_of_ble_eq_true rfl)) dX12_stepIter_72 ⟨Nat.le_of_ble_eq_true rfl, Nat.le_of_ble_eq_true rfl⟩) hS (fun q _ h => hFc q h) hFc (fun _ t H1 locs ht hvm hw hB hz1 hk1 hS => ?_)
                obtain ⟨hP1, hK1, hD1⟩ := hB
                rw [ht] at hP1
                obtain ⟨hP, hD⟩ := va_join (wr := []) (w1 := vM cy a r4.2) hP hD [0, 1, 2, 3, 4, 5, 6, 7, 8, 9, 10, 11, 12, 13, 14, 15, 16, 17, 18, 19, 20, 21, 22, 23, 24, 25, 26, 27, 28, 29, 30, 31, 32, 33, 34, 35, 36, 37, 38, 39, 40, 41, 42, 43, 44, 45, 46, 47, 48, 49, 50, 51, 52, 53, 54, 55, 56, 57] [] rfl rfl (by decide) (by decide) hk1 hFc hP1 hD1
                generalize H1 = H at hP hS ⊢
                have hP : va_P (dC, dI) nCl (vM cy a r4.2) H := hP
                have hD : va_D A (vM cy a r4.2) := hD
                exact ih.2.2.2.1 L r4.2 r h H locs ls hP hD hS (lv_sub hl [0, 1, 2, 3] rfl)
      · intro L σ r h H locs ls hP hD hS hl
        rw [x_stepIter] at h
        refine lv_aload_n hx hb dX12_stepIter_75 rfl (lv_at hl 0 rfl) ?_
        refine va_get (D := (dC, dI)) (ci := 11) (v := .int (σ.1 56)) (C := RX12) (T := TX12) (N := 121) hx hb hts in_x_stepIter hown hK hP 0 rfl rfl 56 (by decide) (hts _ (List.mem_cons_of_mem _ (List.mem_append_left _ (List.mem_append_left _ (List.mem_of_getElem? (i := 8) rfl))))) (fun _ h9 => h9) rfl dX12_stepIter_76 ?_
        refine lv_if_ne (tgt := 86) hx hb dX12_stepIter_79 (by decide) (fun c1 => ?_) (fun c1 => ?_)
        · rw [if_neg c1] at h
          exact ih.2.2.2.2.1 L σ r h H locs ls hP hD hS (lv_sub hl [0, 1, 2, 3] rfl)
        · rw [if_pos c1] at h
          refine lv_iconst (v := 1) hx hb dX12_stepIter_82 (by decide) ?_
          refine lv_goto (tgt := 87) hx hb dX12_stepIter_83 (by decide) ?_
          exact ih.2.2.2.2.2 (upd L 100 1) σ r h H locs ls hP hD hS (lv_sub hl [0, 1, 2, 3] rfl)
      · intro L σ r h H locs ls hP hD hS hl
        rw [x_stepIter] at h
        refine lv_iconst (v := 0) hx hb dX12_stepIter_86 (by decide) ?_
        exact ih.2.2.2.2.2 (upd L 100 0) σ r h H locs ls hP hD hS (lv_sub hl [0, 1, 2, 3] rfl)
      · intro L σ r h H locs ls hP hD hS hl
        rw [x_stepIter] at h
        by_cases q1 : ((L 100)) = 0 ∨ ((L 100)) = 1
        · rw [if_pos q1] at h
          cases h
          exact W.zret (v := (L 100)) hx hb hr (nb_bz q1) (fun t ht hW => ⟨⟨(L 100), (), rfl, rfl, by rw [ht]; exact hP, va_K.moved hW.alike hK, hD⟩, hS.F ht⟩) hS.2.2 dX12_stepIter_87
        · rw [if_neg q1] at h; cases h
  exact (blk k0).1 L0 σ0 r0 h0 s.heap [] ls hP hD hS hl

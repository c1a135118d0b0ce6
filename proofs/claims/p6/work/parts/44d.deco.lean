/-! tupleOf -/
def x_tupleOf : Nat → Nat → (Nat → Int32) → MS → Option (Int32 × MS)
  | 0, _, _, _ => none
  | k + 1, 0, L, σ => x_tupleOf k 1 (upd L 2 ((((σ.1 59)) - ((L 1))))) σ
  | k + 1, 1, L, σ => if ((L 2)) ≤ 0 then (x_tupleOf k 2 L σ) else (if ¬ (((((((L 1)) + ((L 2)))) - 1)) < 0 ∨ 185000 ≤ ((((((L 1)) + ((L 2)))) - 1)).toNatClampNeg) then (if ((σ.2.2 29 ((((((L 1)) + ((L 2)))) - 1)).toNatClampNeg)) = 0 then (x_tupleOf k 1 (upd L 2 (((L 2)) + (-1))) σ) else (x_tupleOf k 2 L σ)) else none)
  | k + 1, 2, L, σ => x_tupleOf k 3 L (upd σ.1 59 ((L 1)), σ.2.1, σ.2.2)
  | k + 1, 3, L, σ => ob (x_make k 0 (upd (upd (fun _ => 0) 1 5) 2 ((L 2))) σ) (fun r1 => if ((r1.2.1 56)) ≤ 0 then (x_tupleOf k 4 (upd L 3 r1.1) r1.2) else (some (0, r1.2)))
  | k + 1, 4, L, σ => x_tupleOf k 5 (upd L 4 0) σ
  | k + 1, 5, L, σ => if ((L 2)) ≤ ((L 4)) then (x_tupleOf k 7 L σ) else (if ¬ (((((L 1)) + ((L 4)))) < 0 ∨ 185000 ≤ ((((L 1)) + ((L 4)))).toNatClampNeg) then (if ¬ (((((((L 3)) + 4)) + ((L 4)))) < 0 ∨ 1740000 ≤ ((((((L 3)) + 4)) + ((L 4)))).toNatClampNeg) then (x_tupleOf k 6 L (σ.1, σ.2.1, updG σ.2.2 28 (upd (σ.2.2 28) ((((((L 3)) + 4)) + ((L 4)))).toNatClampNeg ((σ.2.2 29 ((((L 1)) + ((L 4)))).toNatClampNeg))))) else none) else none)
  | k + 1, 6, L, σ => x_tupleOf k 5 (upd L 4 (((L 4)) + 1)) σ
  | k + 1, 7, L, σ => ob (x_measured k 0 (upd (fun _ => 0) 1 ((L 3))) σ) (fun r1 => some (r1.1, r1.2))
  | _ + 1, _ + 8, _, _ => none
def o_x_tupleOf : List Cond := [.fieldLink RX12 385 "SetHouseModel" "top" "I", .fieldLink RX12 382 "SetHouseModel" "pile" "[I", .methodLink RX12 429 yX12_make, .instanceMethod yX12_make, .selects RX12 yX12_make yX12_make, .initialized RX12, .fieldLink RX12 362 "SetHouseModel" "err" "I", .fieldLink RX12 372 "SetHouseModel" "heap" "[I", .methodLink RX12 441 yX12_measured, .instanceMethod yX12_measured, .selects RX12 yX12_measured yX12_measured]
theorem o_x_tupleOf_good : o_x_tupleOf.all goodWord = true := by decide +kernel
def p_x_tupleOf : List Cond := o_x_tupleOf ++ ((.code yX12_make cX12_make 4 (some .int) :: p_x_make) ++ ((.code yX12_measured cX12_measured 7 (some .int) :: p_x_measured) ++ []))
theorem p_x_tupleOf_good : p_x_tupleOf.all goodWord = true := nb_all2 o_x_tupleOf_good (nb_all2 (nb_allc (by decide +kernel) p_x_make_good) (nb_all2 (nb_allc (by decide +kernel) p_x_measured_good) rfl))
def w_x_tupleOf : List Cond := .code yX12_tupleOf cX12_tupleOf 5 (some .int) :: (p_x_tupleOf ++ fM)
theorem w_x_tupleOf_good : w_x_tupleOf.all goodWord = true := nb_allc (by decide +kernel) (nb_all2 p_x_tupleOf_good fM_good)
theorem in_x_tupleOf : ∀ w ∈ wsX120, w ∈ w_x_tupleOf := fun _ h => List.mem_cons_of_mem _ (List.mem_append_right _ h)
theorem gg_x_tupleOf_make : GoodIn w_x_tupleOf w_x_make := goodIn_sub (fun w h => (List.mem_cons.mp h).elim (fun e => (List.mem_cons_of_mem _ (List.mem_append_left _ (List.mem_append_right _ (List.mem_append_left _ (List.mem_cons.mpr (Or.inl e))))))) (fun h => (List.mem_append.mp h).elim (fun h => (List.mem_cons_of_mem _ (List.mem_append_left _ (List.mem_append_right _ (List.mem_append_left _ (List.mem_cons_of_mem _ h)))))) (fun h => List.mem_cons_of_mem _ (List.mem_append_right _ h)))) w_x_make_good
theorem gg_x_tupleOf_measured : GoodIn w_x_tupleOf w_x_measured := goodIn_sub (fun w h => (List.mem_cons.mp h).elim (fun e => (List.mem_cons_of_mem _ (List.mem_append_left _ (List.mem_append_right _ (List.mem_append_right _ (List.mem_append_left _ (List.mem_cons.mpr (Or.inl e)))))))) (fun h => (List.mem_append.mp h).elim (fun h => (List.mem_cons_of_mem _ (List.mem_append_left _ (List.mem_append_right _ (List.mem_append_right _ (List.mem_append_left _ (List.mem_cons_of_mem _ h))))))) (fun h => List.mem_cons_of_mem _ (List.mem_append_right _ h)))) w_x_measured_good
theorem g_x_tupleOf_make_429 : GoodIn w_x_tupleOf (wsV RX12 429 RX12 yX12_make w_x_make) := goodIn_app (nb_g4 (List.mem_cons_of_mem _ (List.mem_append_left _ (List.mem_append_left _ (List.mem_of_getElem? (i := 2) rfl)))) (List.mem_cons_of_mem _ (List.mem_append_left _ (List.mem_append_left _ (List.mem_of_getElem? (i := 3) rfl)))) (List.mem_cons_of_mem _ (List.mem_append_left _ (List.mem_append_left _ (List.mem_of_getElem? (i := 4) rfl)))) (List.mem_cons_of_mem _ (List.mem_append_left _ (List.mem_append_left _ (List.mem_of_getElem? (i := 5) rfl)))) (by decide +kernel)) gg_x_tupleOf_make
theorem g_x_tupleOf_measured_441 : GoodIn w_x_tupleOf (wsV RX12 441 RX12 yX12_measured w_x_measured) := goodIn_app (nb_g4 (List.mem_cons_of_mem _ (List.mem_append_left _ (List.mem_append_left _ (List.mem_of_getElem? (i := 8) rfl)))) (List.mem_cons_of_mem _ (List.mem_append_left _ (List.mem_append_left _ (List.mem_of_getElem? (i := 9) rfl)))) (List.mem_cons_of_mem _ (List.mem_append_left _ (List.mem_append_left _ (List.mem_of_getElem? (i := 10) rfl)))) (List.mem_cons_of_mem _ (List.mem_append_left _ (List.mem_append_left _ (List.mem_of_getElem? (i := 5) rfl)))) (by decide +kernel)) gg_x_tupleOf_measured
set_option maxHeartbeats 40000000 in
set_option maxRecDepth 100000 in
theorem c_x_tupleOf (l : Launch) (dC : Nat → ClassId) (dI : Nat → Nat → Nat) (cy : Nat → ClassId) (a : Nat → Nat) (k0 : Nat) (L0 : Nat → Int32) (σ0 : MS) (r0 : Int32 × MS) (h0 : x_tupleOf k0 0 L0 σ0 = some r0) (sz : Nat) : Met l yX12_tupleOf w_x_tupleOf ({ frames := 3, cells := 0, slots := 0, locals := 68 }) (va_Pc [.ref (a 0), .int (L0 1)] (nIn (dC, dI) cy sz (vM cy a σ0))) (va_Qi (fun (z : Int32) (_ : Unit) => z = r0.1) (fun _ t => nOut (dC, dI) cy (va_A (vM cy a σ0) sz) (vM cy a r0.2) t) (va_A (vM cy a σ0) sz)) 0 0 (va_A (vM cy a σ0) sz) := by
  refine Met.ofW (cc := cX12_tupleOf) (maxL := 5) (ret := (some .int)) (by decide) rfl ?_
  intro p e s m args below meth c s₁ B hml hv
  obtain ⟨rfl, hsz, hP, hK, hD0, hG⟩ := hv
  have hx := B.exec
  have hb := B.bytes
  have hr := B.returns
  have hts := atoms_spec (ws := w_x_tupleOf) B.pre
  have hown : s.vm.findClass RX12 = some m.cls := findClass_of_methodNamed B.named
  have hlocks := B.notSynchronized
  subst hsz
  have hD := hD0.self (sz := s.heap.size)
  generalize hAe : va_A (vM cy a σ0) s.heap.size = A at hD ⊢
  have hA : ∀ q : Nat, s.heap.size ≤ q → A q := fun q h => by rw [← hAe]; exact Or.inr h
  have hS : va_S A s.heap s.heap [] := va_S.rf
  have hl := lv_entry ([.ref (a 0), .int (L0 1)]) (n := 5) (Nat.le_of_ble_eq_true rfl)
  rw [lg_entry_eq]
  generalize (lg_sl ([.ref (a 0), .int (L0 1)]) ++ List.replicate (5 - (lg_sl ([.ref (a 0), .int (L0 1)])).length) Slot.unset).toArray = ls at hl ⊢
  have hl : lv_has ls 5 [(0, .ref (a 0)), (1, .int (L0 1))] := hl
  have blk : ∀ k : Nat, (∀ (L : Nat → Int32) (σ : MS) (r : Int32 × MS), x_tupleOf k 0 L σ = some r → ∀ (H : Heap) (locs : List Loc) (ls : Array Slot), va_P (dC, dI) nCl (vM cy a σ) H → va_D A (vM cy a σ) → va_S A s.heap H locs → lv_has ls 5 [(0, .ref (a 0)), (1, .int (L 1))] → W p l e (headSpec w_x_tupleOf ({ frames := 3, cells := 0, slots := 0, locals := 68 })).room s m #[.ref (a 0), .int (L0 1)] below meth c H locs 0 0 (MQ below (va_Qi (fun (z : Int32) (_ : Unit) => z = r.1) (fun _ t => nOut (dC, dI) cy A (vM cy a r.2) t) A) #[.ref (a 0), .int (L0 1)] s 0 0 A) (F0 m 0 ls [])) ∧ (∀ (L : Nat → Int32) (σ : MS) (r : Int32 × MS), x_tupleOf k 1 L σ = some r → ∀ (H : Heap) (locs : List Loc) (ls : Array Slot), va_P (dC, dI) nCl (vM cy a σ) H → va_D A (vM cy a σ) → va_S A s.heap H locs → lv_has ls 5 [(0, .ref (a 0)), (1, .int (L 1)), (2, .int (L 2))] → W p l e (headSpec w_x_tupleOf ({ frames := 3, cells := 0, slots := 0, locals := 68 })).room s m #[.ref (a 0), .int (L0 1)] below meth c H locs 0 0 (MQ below (va_Qi (fun (z : Int32) (_ : Unit) => z = r.1) (fun _ t => nOut (dC, dI) cy A (vM cy a r.2) t) A) #[.ref (a 0), .int (L0 1)] s 0 0 A) (F0 m 7 ls [])) ∧ (∀ (L : Nat → Int32) (σ : MS) (r : Int32 × MS), x_tupleOf k 2 L σ = some r → ∀ (H : Heap) (locs : List Loc) (ls : Array Slot), va_P (dC, dI) nCl (vM cy a σ) H → va_D A (vM cy a σ) → va_S A s.heap H locs → lv_has ls 5 [(0, .ref (a 0)), (1, .int (L 1)), (2, .int (L 2))] → W p l e (headSpec w_x_tupleOf ({ frames := 3, cells := 0, slots := 0, locals := 68 })).room s m #[.ref (a 0), .int (L0 1)] below meth c H locs 0 0 (MQ below (va_Qi (fun (z : Int32) (_ : Unit) => z = r.1) (fun _ t => nOut (dC, dI) cy A (vM cy a r.2) t) A) #[.ref (a 0), .int (L0 1)] s 0 0 A) (F0 m 30 ls [])) ∧ (∀ (L : Nat → Int32) (σ : MS) (r : Int32 × MS), x_tupleOf k 3 L σ = some r → ∀ (H : Heap) (locs : List Loc) (ls : Array Slot), va_P (dC, dI) nCl (vM cy a σ) H → va_D A (vM cy a σ) → va_S A s.heap H locs → lv_has ls 5 [(0, .ref (a 0)), (1, .int (L 1)), (2, .int (L 2))] → W p l e (headSpec w_x_tupleOf ({ frames := 3, cells := 0, slots := 0, locals := 68 })).room s m #[.ref (a 0), .int (L0 1)] below meth c H locs 0 0 (MQ below (va_Qi (fun (z : Int32) (_ : Unit) => z = r.1) (fun _ t => nOut (dC, dI) cy A (vM cy a r.2) t) A) #[.ref (a 0), .int (L0 1)] s 0 0 A) (F0 m 35 ls [])) ∧ (∀ (L : Nat → Int32) (σ : MS) (r : Int32 × MS), x_tupleOf k 4 L σ = some r → ∀ (H : Heap) (locs : List Loc) (ls : Array Slot), va_P (dC, dI) nCl (vM cy a σ) H → va_D A (vM cy a σ) → va_S A s.heap H locs → lv_has ls 5 [(0, .ref (a 0)), (1, .int (L 1)), (2, .int (L 2)), (3, .int (L 3))] → W p l e (headSpec w_x_tupleOf ({ frames := 3, cells := 0, slots := 0, locals := 68 })).room s m #[.ref (a 0), .int (L0 1)] below meth c H locs 0 0 (MQ below (va_Qi (fun (z : Int32) (_ : Unit) => z = r.1) (fun _ t => nOut (dC, dI) cy A (vM cy a r.2) t) A) #[.ref (a 0), .int (L0 1)] s 0 0 A) (F0 m 51 ls [])) ∧ (∀ (L : Nat → Int32) (σ : MS) (r : Int32 × MS), x_tupleOf k 5 L σ = some r → ∀ (H : Heap) (locs : List Loc) (ls : Array Slot), va_P (dC, dI) nCl (vM cy a σ) H → va_D A (vM cy a σ) → va_S A s.heap H locs → lv_has ls 5 [(0, .ref (a 0)), (1, .int (L 1)), (2, .int (L 2)), (3, .int (L 3)), (4, .int (L 4))] → W p l e (headSpec w_x_tupleOf ({ frames := 3, cells := 0, slots := 0, locals := 68 })).room s m #[.ref (a 0), .int (L0 1)] below meth c H locs 0 0 (MQ below (va_Qi (fun (z : Int32) (_ : Unit) => z = r.1) (fun _ t => nOut (dC, dI) cy A (vM cy a r.2) t) A) #[.ref (a 0), .int (L0 1)] s 0 0 A) (F0 m 54 ls [])) ∧ (∀ (L : Nat → Int32) (σ : MS) (r : Int32 × MS), x_tupleOf k 6 L σ = some r → ∀ (H : Heap) (locs : List Loc) (ls : Array Slot), va_P (dC, dI) nCl (vM cy a σ) H → va_D A (vM cy a σ) → va_S A s.heap H locs → lv_has ls 5 [(0, .ref (a 0)), (1, .int (L 1)), (2, .int (L 2)), (3, .int (L 3)), (4, .int (L 4))] → W p l e (headSpec w_x_tupleOf ({ frames := 3, cells := 0, slots := 0, locals := 68 })).room s m #[.ref (a 0), .int (L0 1)] below meth c H locs 0 0 (MQ below (va_Qi (fun (z : Int32) (_ : Unit) => z = r.1) (fun _ t => nOut (dC, dI) cy A (vM cy a r.2) t) A) #[.ref (a 0), .int (L0 1)] s 0 0 A) (F0 m 80 ls [])) ∧ (∀ (L : Nat → Int32) (σ : MS) (r : Int32 × MS), x_tupleOf k 7 L σ = some r → ∀ (H : Heap) (locs : List Loc) (ls : Array Slot), va_P (dC, dI) nCl (vM cy a σ) H → va_D A (vM cy a σ) → va_S A s.heap H locs → lv_has ls 5 [(0, .ref (a 0)), (1, .int (L 1)), (2, .int (L 2)), (3, .int (L 3)), (4, .int (L 4))] → W p l e (headSpec w_x_tupleOf ({ frames := 3, cells := 0, slots := 0, locals := 68 })).room s m #[.ref (a 0), .int (L0 1)] below meth c H locs 0 0 (MQ below (va_Qi (fun (z : Int32) (_ : Unit) => z = r.1) (fun _ t => nOut (dC, dI) cy A (vM cy a r.2) t) A) #[.ref (a 0), .int (L0 1)] s 0 0 A) (F0 m 86 ls [])) := by
    intro k
    induction k with
    | zero => exact ⟨fun L σ r h => (by cases h), fun L σ r h => (by cases h), fun L σ r h => (by cases h), fun L σ r h => (by cases h), fun L σ r h => (by cases h), fun L σ r h => (by cases h), fun L σ r h => (by cases h), fun L σ r h => (by cases h)⟩
    | succ k ih =>
      refine ⟨?_, ?_, ?_, ?_, ?_, ?_, ?_, ?_⟩
      · intro L σ r h H locs ls hP hD hS hl
        rw [x_tupleOf] at h
        refine lv_aload_n hx hb dX12_tupleOf_0 rfl (lv_at hl 0 rfl) ?_
        refine va_get (D := (dC, dI)) (ci := 11) (v := .int (σ.1 59)) (C := RX12) (T := TX12) (N := 121) hx hb hts in_x_tupleOf hown hK hP 0 rfl rfl 59 (by decide) (hts _ (List.mem_cons_of_mem _ (List.mem_append_left _ (List.mem_append_left _ (List.mem_of_getElem? (i := 0) rfl))))) (fun _ h9 => h9) rfl dX12_tupleOf_1 ?_
        refine lv_iload_n hx hb dX12_tupleOf_4 rfl (lv_at hl 1 rfl) ?_
        refine lv_isub hx hb dX12_tupleOf_5 ?_
        refine lv_istore_n (lv' := [(2, .int (((σ.1 59)) - ((L 1)))), (0, .ref (a 0)), (1, .int (L 1))]) hx hb dX12_tupleOf_6 rfl hl (by decide) rfl (fun ls hl => ?_)
        exact ih.2.1 (upd L 2 ((((σ.1 59)) - ((L 1))))) σ r h H locs ls hP hD hS (lv_sub hl [1, 2, 0] rfl)
      · intro L σ r h H locs ls hP hD hS hl
        rw [x_tupleOf] at h
        refine lv_iload_n hx hb dX12_tupleOf_7 rfl (lv_at hl 2 rfl) ?_
        refine lv_if_le (tgt := 30) hx hb dX12_tupleOf_8 (by decide) (fun c1 => ?_) (fun c1 => ?_)
        · rw [if_pos c1] at h
          exact ih.2.2.1 L σ r h H locs ls hP hD hS (lv_sub hl [0, 1, 2] rfl)
        · rw [if_neg c1] at h
          refine lv_aload_n hx hb dX12_tupleOf_11 rfl (lv_at hl 0 rfl) ?_
          refine va_get (D := (dC, dI)) (ci := 11) (v := .ref (a 29)) (C := RX12) (T := TX12) (N := 121) hx hb hts in_x_tupleOf hown hK hP 0 rfl rfl 58 (by decide) (hts _ (List.mem_cons_of_mem _ (List.mem_append_left _ (List.mem_append_left _ (List.mem_of_getElem? (i := 1) rfl))))) (fun _ h9 => h9) rfl dX12_tupleOf_12 ?_
          refine lv_iload_n hx hb dX12_tupleOf_15 rfl (lv_at hl 1 rfl) ?_
          refine lv_iload_n hx hb dX12_tupleOf_16 rfl (lv_at hl 2 rfl) ?_
          refine lv_iadd hx hb dX12_tupleOf_17 ?_
          refine lv_iconst (v := 1) hx hb dX12_tupleOf_18 (by decide) ?_
          refine lv_isub hx hb dX12_tupleOf_19 ?_
          by_cases q2 : ¬ (((((((L 1)) + ((L 2)))) - 1)) < 0 ∨ 185000 ≤ ((((((L 1)) + ((L 2)))) - 1)).toNatClampNeg)
          · rw [if_pos q2] at h
            refine va_iald hx hb hK hP 29 1 rfl rfl (nb_inp q2) dX12_tupleOf_20 ?_
            refine lv_if_ne (tgt := 30) hx hb dX12_tupleOf_21 (by decide) (fun c3 => ?_) (fun c3 => ?_)
            · rw [if_neg c3] at h
              exact ih.2.2.1 L σ r h H locs ls hP hD hS (lv_sub hl [0, 1, 2] rfl)
            · rw [if_pos c3] at h
              refine lv_iinc (v := ((L 2)) + (-1)) (lv' := [(2, .int (((L 2)) + (-1))), (0, .ref (a 0)), (1, .int (L 1))]) hx hb dX12_tupleOf_24 hl (k := 2) rfl rfl (by decide) rfl (fun ls hl => ?_)
              refine lv_goto (tgt := 7) hx hb dX12_tupleOf_27 (by decide) ?_
              exact ih.2.1 (upd L 2 (((L 2)) + (-1))) σ r h H locs ls hP hD hS (lv_sub hl [1, 2, 0] rfl)
          · rw [if_neg q2] at h; cases h
      · intro L σ r h H locs ls hP hD hS hl
        rw [x_tupleOf] at h
        refine lv_aload_n hx hb dX12_tupleOf_30 rfl (lv_at hl 0 rfl) ?_
        refine lv_iload_n hx hb dX12_tupleOf_31 rfl (lv_at hl 1 rfl) ?_
        refine va_put (D := (dC, dI)) (ci := 11) (v := .int (L 1)) (ty := .int) (C := RX12) (T := TX12) (N := 121) hx hb hts in_x_tupleOf tyX12 tyX12_ok nmX12 hown hK hP hD hS 0 rfl rfl 59 (by decide) (hts _ (List.mem_cons_of_mem _ (List.mem_append_left _ (List.mem_append_left _ (List.mem_of_getElem? (i := 0) rfl))))) (fun _ h9 => h9) rfl (by decide +kernel) rfl rfl (Nat.le_of_ble_eq_true rfl) dX12_tupleOf_32 (fun H locs hP hD hS => ?_)
        have hP : va_P (dC, dI) nCl (vM cy a (upd σ.1 59 ((L 1)), σ.2.1, σ.2.2)) H := hP
        have hD : va_D A (vM cy a (upd σ.1 59 ((L 1)), σ.2.1, σ.2.2)) := hD
        exact ih.2.2.2.1 L (upd σ.1 59 ((L 1)), σ.2.1, σ.2.2) r h H locs ls hP hD hS (lv_sub hl [0, 1, 2] rfl)
      · intro L σ r h H locs ls hP hD hS hl
        rw [x_tupleOf] at h
        refine lv_aload_n hx hb dX12_tupleOf_35 rfl (lv_at hl 0 rfl) ?_
        refine lv_iconst (v := 5) hx hb dX12_tupleOf_36 (by decide) ?_
        refine lv_iload_n hx hb dX12_tupleOf_37 rfl (lv_at hl 2 rfl) ?_
        cases hc1 : x_make k 0 (upd (upd (fun _ => 0) 1 5) 2 ((L 2))) σ with
        | none => rw [hc1, ob_none] at h; cases h
        | some r1 =>
          rw [hc1, ob_some] at h
          have hFc := va_free (wc := vM cy a σ) hD hS hA [0, 1, 2, 3, 4, 5, 6, 7, 8, 9, 10, 11, 12, 13, 14, 15, 16, 17, 18, 19, 20, 21, 22, 23, 24, 25, 26, 27, 28, 29, 30, 31, 32, 33, 34, 35, 36, 37, 38, 39, 40, 41, 42, 43, 44, 45, 46, 47, 48, 49, 50, 51, 52, 53, 54, 55, 56, 57] rfl
          refine va_calli (va_runV (As := [.int 5, .int (L 2)]) (rest := []) ⟨hx, hb, hml, hown, hts⟩ (c_x_make l dC dI cy a k (upd (upd (fun _ => 0) 1 5) 2 ((L 2))) σ r1 hc1 H.size) (cwV 2 hts g_x_tupleOf_make_429 rfl rfl rfl (by decide +kernel) ⟨Nat.le_of_ble_eq_true rfl, Nat.le_of_ble_eq_true rfl⟩) ⟨nb_blind, va_recv hK hP (ci := 11) (q0 := 0) rfl rfl, fun U hU hW => ⟨rfl, by rw [hU], by rw [hU]; exact hP, va_K.moved hW.alike hK, hD.weaken (fun _ _ _ _ => trivial), hG.warm hW⟩⟩ rfl rfl hl.1 rfl (lv_room (Nat.le_of_ble_eq_true rfl)) dX12_tupleOf_38 ⟨Nat.le_of_ble_eq_true rfl, Nat.le_of_ble_eq_true rfl⟩) hS (fun q _ h => hFc q h) hFc (fun z9 _ t H1 locs ht hvm hw hB hz1 hk1 hS => ?_)
          subst hw
          obtain ⟨hP1, hK1, hD1⟩ := hB
          rw [ht] at hP1
          obtain ⟨hP, hD⟩ := va_join (wr := []) (w1 := vM cy a r1.2) hP hD [0, 1, 2, 3, 4, 5, 6, 7, 8, 9, 10, 11, 12, 13, 14, 15, 16, 17, 18, 19, 20, 21, 22, 23, 24, 25, 26, 27, 28, 29, 30, 31, 32, 33, 34, 35, 36, 37, 38, 39, 40, 41, 42, 43, 44, 45, 46, 47, 48, 49, 50, 51, 52, 53, 54, 55, 56, 57] [] rfl rfl (by decide) (by decide) hk1 hFc hP1 hD1
          generalize H1 = H at hP hS ⊢
          have hP : va_P (dC, dI) nCl (vM cy a r1.2) H := hP
          have hD : va_D A (vM cy a r1.2) := hD
          refine lv_istore_n (lv' := [(3, .int r1.1), (0, .ref (a 0)), (1, .int (L 1)), (2, .int (L 2))]) hx hb dX12_tupleOf_41 rfl hl (by decide) rfl (fun ls hl => ?_)
          refine lv_aload_n hx hb dX12_tupleOf_42 rfl (lv_at hl 1 rfl) ?_
          refine va_get (D := (dC, dI)) (ci := 11) (v := .int (r1.2.1 56)) (C := RX12) (T := TX12) (N := 121) hx hb hts in_x_tupleOf hown hK hP 0 rfl rfl 56 (by decide) (hts _ (List.mem_cons_of_mem _ (List.mem_append_left _ (List.mem_append_left _ (List.mem_of_getElem? (i := 6) rfl))))) (fun _ h9 => h9) rfl dX12_tupleOf_43 ?_
          refine lv_if_le (tgt := 51) hx hb dX12_tupleOf_46 (by decide) (fun c2 => ?_) (fun c2 => ?_)
          · rw [if_pos c2] at h
            exact ih.2.2.2.2.1 (upd L 3 r1.1) r1.2 r h H locs ls hP hD hS (lv_sub hl [1, 2, 3, 0] rfl)
          · rw [if_neg c2] at h
            refine lv_iconst (v := 0) hx hb dX12_tupleOf_49 (by decide) ?_
            cases h
            exact W.iret (v := 0) hx hb hr (fun t ht hW => ⟨⟨0, (), rfl, rfl, by rw [ht]; exact hP, va_K.moved hW.alike hK, hD⟩, hS.F ht⟩) hS.2.2 dX12_tupleOf_50
      · intro L σ r h H locs ls hP hD hS hl
        rw [x_tupleOf] at h
        refine lv_iconst (v := 0) hx hb dX12_tupleOf_51 (by decide) ?_
        refine lv_istore (lv' := [(4, .int 0), (0, .ref (a 0)), (1, .int (L 1)), (2, .int (L 2)), (3, .int (L 3))]) hx hb dX12_tupleOf_52 hl (by decide) rfl (fun ls hl => ?_)
        exact ih.2.2.2.2.2.1 (upd L 4 0) σ r h H locs ls hP hD hS (lv_sub hl [1, 2, 3, 4, 0] rfl)
      · intro L σ r h H locs ls hP hD hS hl
        rw [x_tupleOf] at h
        refine lv_iload hx hb dX12_tupleOf_54 (lv_at hl 4 rfl) ?_
        refine lv_iload_n hx hb dX12_tupleOf_56 rfl (lv_at hl 2 rfl) ?_
        refine lv_icmp_ge (tgt := 86) hx hb dX12_tupleOf_57 (by decide) (fun c1 => ?_) (fun c1 => ?_)
        · rw [if_pos c1] at h
          exact ih.2.2.2.2.2.2.2 L σ r h H locs ls hP hD hS (lv_sub hl [0, 1, 2, 3, 4] rfl)
        · rw [if_neg c1] at h
          refine lv_aload_n hx hb dX12_tupleOf_60 rfl (lv_at hl 0 rfl) ?_
          refine va_get (D := (dC, dI)) (ci := 11) (v := .ref (a 28)) (C := RX12) (T := TX12) (N := 121) hx hb hts in_x_tupleOf hown hK hP 0 rfl rfl 53 (by decide) (hts _ (List.mem_cons_of_mem _ (List.mem_append_left _ (List.mem_append_left _ (List.mem_of_getElem? (i := 7) rfl))))) (fun _ h9 => h9) rfl dX12_tupleOf_61 ?_
          refine lv_iload_n hx hb dX12_tupleOf_64 rfl (lv_at hl 3 rfl) ?_
          refine lv_iconst (v := 4) hx hb dX12_tupleOf_65 (by decide) ?_
          refine lv_iadd hx hb dX12_tupleOf_66 ?_
          refine lv_iload hx hb dX12_tupleOf_67 (lv_at hl 4 rfl) ?_
          refine lv_iadd hx hb dX12_tupleOf_69 ?_
          refine lv_aload_n hx hb dX12_tupleOf_70 rfl (lv_at hl 0 rfl) ?_
          refine va_get (D := (dC, dI)) (ci := 11) (v := .ref (a 29)) (C := RX12) (T := TX12) (N := 121) hx hb hts in_x_tupleOf hown hK hP 0 rfl rfl 58 (by decide) (hts _ (List.mem_cons_of_mem _ (List.mem_append_left _ (List.mem_append_left _ (List.mem_of_getElem? (i := 1) rfl))))) (fun _ h9 => h9) rfl dX12_tupleOf_71 ?_
          refine lv_iload_n hx hb dX12_tupleOf_74 rfl (lv_at hl 1 rfl) ?_
          refine lv_iload hx hb dX12_tupleOf_75 (lv_at hl 4 rfl) ?_
          refine lv_iadd hx hb dX12_tupleOf_77 ?_
          by_cases q2 : ¬ (((((L 1)) + ((L 4)))) < 0 ∨ 185000 ≤ ((((L 1)) + ((L 4)))).toNatClampNeg)
          · rw [if_pos q2] at h
            refine va_iald hx hb hK hP 29 1 rfl rfl (nb_inp q2) dX12_tupleOf_78 ?_
            by_cases q3 : ¬ (((((((L 3)) + 4)) + ((L 4)))) < 0 ∨ 1740000 ≤ ((((((L 3)) + 4)) + ((L 4)))).toNatClampNeg)
            · rw [if_pos q3] at h
              refine va_iast hx hb hK hP hD hS 28 1 rfl rfl (nb_inp q3) dX12_tupleOf_79 (fun H locs hP hD hS => ?_)
              have hP : va_P (dC, dI) nCl (vM cy a (σ.1, σ.2.1, updG σ.2.2 28 (upd (σ.2.2 28) ((((((L 3)) + 4)) + ((L 4)))).toNatClampNeg ((σ.2.2 29 ((((L 1)) + ((L 4)))).toNatClampNeg))))) H := hP
              have hD : va_D A (vM cy a (σ.1, σ.2.1, updG σ.2.2 28 (upd (σ.2.2 28) ((((((L 3)) + 4)) + ((L 4)))).toNatClampNeg ((σ.2.2 29 ((((L 1)) + ((L 4)))).toNatClampNeg))))) := hD
              exact ih.2.2.2.2.2.2.1 L (σ.1, σ.2.1, updG σ.2.2 28 (upd (σ.2.2 28) ((((((L 3)) + 4)) + ((L 4)))).toNatClampNeg ((σ.2.2 29 ((((L 1)) + ((L 4)))).toNatClampNeg)))) r h H locs ls hP hD hS (lv_sub hl [0, 1, 2, 3, 4] rfl)
            · rw [if_neg q3] at h; cases h
          · rw [if_neg q2] at h; cases h
      · intro L σ r h H locs ls hP hD hS hl
        rw [x_tupleOf] at h
        refine lv_iinc (v := ((L 4)) + 1) (lv' := [(4, .int (((L 4)) + 1)), (0, .ref (a 0)), (1, .int (L 1)), (2, .int (L 2)), (3, .int (L 3))]) hx hb dX12_tupleOf_80 hl (k := 4) rfl rfl (by decide) rfl (fun ls hl => ?_)
        refine lv_goto (tgt := 54) hx hb dX12_tupleOf_83 (by decide) ?_
        exact ih.2.2.2.2.2.1 (upd L 4 (((L 4)) + 1)) σ r h H locs ls hP hD hS (lv_sub hl [1, 2, 3, 4, 0] rfl)
      · intro L σ r h H locs ls hP hD hS hl
        rw [x_tupleOf] at h
        refine lv_aload_n hx hb dX12_tupleOf_86 rfl (lv_at hl 0 rfl) ?_
        refine lv_iload_n hx hb dX12_tupleOf_87 rfl (lv_at hl 3 rfl) ?_
        cases hc1 : x_measured k 0 (upd (fun _ => 0) 1 ((L 3))) σ with
        | none => rw [hc1, ob_none] at h; cases h
        | some r1 =>
          rw [hc1, ob_some] at h
          have hFc := va_free (wc := vM cy a σ) hD hS hA [0, 1, 2, 3, 4, 5, 6, 7, 8, 9, 10, 11, 12, 13, 14, 15, 16, 17, 18, 19, 20, 21, 22, 23, 24, 25, 26, 27, 28, 29, 30, 31, 32, 33, 34, 35, 36, 37, 38, 39, 40, 41, 42, 43, 44, 45, 46, 47, 48, 49, 50, 51, 52, 53, 54, 55, 56, 57] rfl
          refine va_calli (va_runV (As := [.int (L 3)]) (rest := []) ⟨hx, hb, hml, hown, hts⟩ (c_x_measured l dC dI cy a k (upd (fun _ => 0) 1 ((L 3))) σ r1 hc1 H.size) (cwV 1 hts g_x_tupleOf_measured_441 rfl rfl rfl (by decide +kernel) ⟨Nat.le_of_ble_eq_true rfl, Nat.le_of_ble_eq_true rfl⟩) ⟨nb_blind, va_recv hK hP (ci := 11) (q0 := 0) rfl rfl, fun U hU hW => ⟨rfl, by rw [hU], by rw [hU]; exact hP, va_K.moved hW.alike hK, hD.weaken (fun _ _ _ _ => trivial), hG.warm hW⟩⟩ rfl rfl hl.1 rfl (lv_room (Nat.le_of_ble_eq_true rfl)) dX12_tupleOf_88 ⟨Nat.le_of_ble_eq_true rfl, Nat.le_of_ble_eq_true rfl⟩) hS (fun q _ h => hFc q h) hFc (fun z9 _ t H1 locs ht hvm hw hB hz1 hk1 hS => ?_)
          subst hw
          obtain ⟨hP1, hK1, hD1⟩ := hB
          rw [ht] at hP1
          obtain ⟨hP, hD⟩ := va_join (wr := []) (w1 := vM cy a r1.2) hP hD [0, 1, 2, 3, 4, 5, 6, 7, 8, 9, 10, 11, 12, 13, 14, 15, 16, 17, 18, 19, 20, 21, 22, 23, 24, 25, 26, 27, 28, 29, 30, 31, 32, 33, 34, 35, 36, 37, 38, 39, 40, 41, 42, 43, 44, 45, 46, 47, 48, 49, 50, 51, 52, 53, 54, 55, 56, 57] [] rfl rfl (by decide) (by decide) hk1 hFc hP1 hD1
          generalize H1 = H at hP hS ⊢
          have hP : va_P (dC, dI) nCl (vM cy a r1.2) H := hP
          have hD : va_D A (vM cy a r1.2) := hD
          cases h
          exact W.iret (v := r1.1) hx hb hr (fun t ht hW => ⟨⟨r1.1, (), rfl, rfl, by rw [ht]; exact hP, va_K.moved hW.alike hK, hD⟩, hS.F ht⟩) hS.2.2 dX12_tupleOf_91
  exact (blk k0).1 L0 σ0 r0 h0 s.heap [] ls hP hD hS hl
/-! signOf -/
def x_signOf : Nat → Nat → (Nat → Int32) → MS → Option (Int32 × MS)
  | 0, _, _, _ => none
  | k + 1, 0, L, σ => if ¬ (((((L 1)) + 4)) < 0 ∨ 1740000 ≤ ((((L 1)) + 4)).toNatClampNeg) then (some ((σ.2.2 28 ((((L 1)) + 4)).toNatClampNeg), σ)) else none
  | _ + 1, _ + 1, _, _ => none
def o_x_signOf : List Cond := [.fieldLink RX12 372 "SetHouseModel" "heap" "[I"]
theorem o_x_signOf_good : o_x_signOf.all goodWord = true := by decide +kernel
def p_x_signOf : List Cond := o_x_signOf ++ []
theorem p_x_signOf_good : p_x_signOf.all goodWord = true := nb_all2 o_x_signOf_good rfl
def w_x_signOf : List Cond := .code yX12_signOf cX12_signOf 2 (some .int) :: (p_x_signOf ++ fM)
theorem w_x_signOf_good : w_x_signOf.all goodWord = true := nb_allc (by decide +kernel) (nb_all2 p_x_signOf_good fM_good)
theorem in_x_signOf : ∀ w ∈ wsX120, w ∈ w_x_signOf := fun _ h => List.mem_cons_of_mem _ (List.mem_append_right _ h)
set_option maxHeartbeats 40000000 in
set_option maxRecDepth 100000 in
theorem c_x_signOf (l : Launch) (dC : Nat → ClassId) (dI : Nat → Nat → Nat) (cy : Nat → ClassId) (a : Nat → Nat) (k0 : Nat) (L0 : Nat → Int32) (σ0 : MS) (r0 : Int32 × MS) (h0 : x_signOf k0 0 L0 σ0 = some r0) (sz : Nat) : Met l yX12_signOf w_x_signOf ({ frames := 0, cells := 0, slots := 0, locals := 0 }) (va_Pc [.ref (a 0), .int (L0 1)] (nIn (dC, dI) cy sz (vM cy a σ0))) (va_Qi (fun (z : Int32) (_ : Unit) => z = r0.1) (fun _ t => nOut (dC, dI) cy (va_A (vM cy a σ0) sz) (vM cy a r0.2) t) (va_A (vM cy a σ0) sz)) 0 0 (va_A (vM cy a σ0) sz) := by
  refine Met.ofW (cc := cX12_signOf) (maxL := 2) (ret := (some .int)) (by decide) rfl ?_
  intro p e s m args below meth c s₁ B hml hv
  obtain ⟨rfl, hsz, hP, hK, hD0, hG⟩ := hv
  have hx := B.exec
  have hb := B.bytes
  have hr := B.returns
  have hts := atoms_spec (ws := w_x_signOf) B.pre
  have hown : s.vm.findClass RX12 = some m.cls := findClass_of_methodNamed B.named
  have hlocks := B.notSynchronized
  subst hsz
  have hD := hD0.self (sz := s.heap.size)
  generalize hAe : va_A (vM cy a σ0) s.heap.size = A at hD ⊢
  have hA : ∀ q : Nat, s.heap.size ≤ q → A q := fun q h => by rw [← hAe]; exact Or.inr h
  have hS : va_S A s.heap s.heap [] := va_S.rf
  have hl := lv_entry ([.ref (a 0), .int (L0 1)]) (n := 2) (Nat.le_of_ble_eq_true rfl)
  rw [lg_entry_eq]
  generalize (lg_sl ([.ref (a 0), .int (L0 1)]) ++ List.replicate (2 - (lg_sl ([.ref (a 0), .int (L0 1)])).length) Slot.unset).toArray = ls at hl ⊢
  have hl : lv_has ls 2 [(0, .ref (a 0)), (1, .int (L0 1))] := hl
  have blk : ∀ k : Nat, (∀ (L : Nat → Int32) (σ : MS) (r : Int32 × MS), x_signOf k 0 L σ = some r → ∀ (H : Heap) (locs : List Loc) (ls : Array Slot), va_P (dC, dI) nCl (vM cy a σ) H → va_D A (vM cy a σ) → va_S A s.heap H locs → lv_has ls 2 [(0, .ref (a 0)), (1, .int (L 1))] → W p l e (headSpec w_x_signOf ({ frames := 0, cells := 0, slots := 0, locals := 0 })).room s m #[.ref (a 0), .int (L0 1)] below meth c H locs 0 0 (MQ below (va_Qi (fun (z : Int32) (_ : Unit) => z = r.1) (fun _ t => nOut (dC, dI) cy A (vM cy a r.2) t) A) #[.ref (a 0), .int (L0 1)] s 0 0 A) (F0 m 0 ls [])) := by
    intro k
    induction k with
    | zero => exact fun L σ r h => (by cases h)
    | succ k ih =>
      skip
      · intro L σ r h H locs ls hP hD hS hl
        rw [x_signOf] at h
        refine lv_aload_n hx hb dX12_signOf_0 rfl (lv_at hl 0 rfl) ?_
        refine va_get (D := (dC, dI)) (ci := 11) (v := .ref (a 28)) (C := RX12) (T := TX12) (N := 121) hx hb hts in_x_signOf hown hK hP 0 rfl rfl 53 (by decide) (hts _ (List.mem_cons_of_mem _ (List.mem_append_left _ (List.mem_append_left _ (List.mem_of_getElem? (i := 0) rfl))))) (fun _ h9 => h9) rfl dX12_signOf_1 ?_
        refine lv_iload_n hx hb dX12_signOf_4 rfl (lv_at hl 1 rfl) ?_
        refine lv_iconst (v := 4) hx hb dX12_signOf_5 (by decide) ?_
        refine lv_iadd hx hb dX12_signOf_6 ?_
        by_cases q1 : ¬ (((((L 1)) + 4)) < 0 ∨ 1740000 ≤ ((((L 1)) + 4)).toNatClampNeg)
        · rw [if_pos q1] at h
          refine va_iald hx hb hK hP 28 1 rfl rfl (nb_inp q1) dX12_signOf_7 ?_
          cases h
          exact W.iret (v := (σ.2.2 28 ((((L 1)) + 4)).toNatClampNeg)) hx hb hr (fun t ht hW => ⟨⟨(σ.2.2 28 ((((L 1)) + 4)).toNatClampNeg), (), rfl, rfl, by rw [ht]; exact hP, va_K.moved hW.alike hK, hD⟩, hS.F ht⟩) hS.2.2 dX12_signOf_8
        · rw [if_neg q1] at h; cases h
  exact (blk k0) L0 σ0 r0 h0 s.heap [] ls hP hD hS hl
/-! compareWholes -/
def x_compareWholes : Nat → Nat → (Nat → Int32) → MS → Option (Int32 × MS)
  | 0, _, _, _ => none
  | k + 1, 0, L, σ => ob (x_signOf k 0 (upd (fun _ => 0) 1 ((L 1))) σ) (fun r1 => ob (x_signOf k 0 (upd (fun _ => 0) 1 ((L 2))) r1.2) (fun r2 => if r1.1 = r2.1 then (x_compareWholes k 1 L r2.2) else (ob (x_signOf k 0 (upd (fun _ => 0) 1 ((L 1))) r2.2) (fun r4 => ob (x_signOf k 0 (upd (fun _ => 0) 1 ((L 2))) r4.2) (fun r5 => some ((r4.1 - r5.1), r5.2))))))
  | k + 1, 1, L, σ => if ¬ (((((L 1)) + 1)) < 0 ∨ 1740000 ≤ ((((L 1)) + 1)).toNatClampNeg) then (if ¬ (((((L 2)) + 1)) < 0 ∨ 1740000 ≤ ((((L 2)) + 1)).toNatClampNeg) then (x_compareWholes k 2 (upd (upd (upd (upd L 3 ((σ.2.2 28 ((((L 1)) + 1)).toNatClampNeg))) 4 ((σ.2.2 28 ((((L 2)) + 1)).toNatClampNeg))) 5 ((((σ.2.2 28 ((((L 1)) + 1)).toNatClampNeg)) - ((σ.2.2 28 ((((L 2)) + 1)).toNatClampNeg))))) 6 ((((σ.2.2 28 ((((L 1)) + 1)).toNatClampNeg)) - 1))) σ) else none) else none
  | k + 1, 2, L, σ => if ((L 6)) ≤ 0 then (x_compareWholes k 3 L σ) else (if ((L 5)) = 0 then (if ¬ (((((((L 1)) + 4)) + ((L 6)))) < 0 ∨ 1740000 ≤ ((((((L 1)) + 4)) + ((L 6)))).toNatClampNeg) then (if ¬ (((((((L 2)) + 4)) + ((L 6)))) < 0 ∨ 1740000 ≤ ((((((L 2)) + 4)) + ((L 6)))).toNatClampNeg) then (x_compareWholes k 2 (upd (upd L 5 ((((σ.2.2 28 ((((((L 1)) + 4)) + ((L 6)))).toNatClampNeg)) - ((σ.2.2 28 ((((((L 2)) + 4)) + ((L 6)))).toNatClampNeg))))) 6 (((L 6)) + (-1))) σ) else none) else none) else (x_compareWholes k 3 L σ))
  | k + 1, 3, L, σ => ob (x_signOf k 0 (upd (fun _ => 0) 1 ((L 1))) σ) (fun r1 => if 0 ≤ r1.1 then (x_compareWholes k 4 L r1.2) else (x_compareWholes k 5 (upd L 100 ((- ((L 5))))) r1.2))
  | k + 1, 4, L, σ => x_compareWholes k 5 (upd L 100 ((L 5))) σ
  | k + 1, 5, L, σ => some ((L 100), σ)
  | _ + 1, _ + 6, _, _ => none
def o_x_compareWholes : List Cond := [.methodLink RX12 463 yX12_signOf, .instanceMethod yX12_signOf, .selects RX12 yX12_signOf yX12_signOf, .initialized RX12, .fieldLink RX12 372 "SetHouseModel" "heap" "[I"]
theorem o_x_compareWholes_good : o_x_compareWholes.all goodWord = true := by decide +kernel
def p_x_compareWholes : List Cond := o_x_compareWholes ++ ((.code yX12_signOf cX12_signOf 2 (some .int) :: p_x_signOf) ++ [])
theorem p_x_compareWholes_good : p_x_compareWholes.all goodWord = true := nb_all2 o_x_compareWholes_good (nb_all2 (nb_allc (by decide +kernel) p_x_signOf_good) rfl)
def w_x_compareWholes : List Cond := .code yX12_compareWholes cX12_compareWholes 7 (some .int) :: (p_x_compareWholes ++ fM)
theorem w_x_compareWholes_good : w_x_compareWholes.all goodWord = true := nb_allc (by decide +kernel) (nb_all2 p_x_compareWholes_good fM_good)
theorem in_x_compareWholes : ∀ w ∈ wsX120, w ∈ w_x_compareWholes := fun _ h => List.mem_cons_of_mem _ (List.mem_append_right _ h)
theorem gg_x_compareWholes_signOf : GoodIn w_x_compareWholes w_x_signOf := goodIn_sub (fun w h => (List.mem_cons.mp h).elim (fun e => (List.mem_cons_of_mem _ (List.mem_append_left _ (List.mem_append_right _ (List.mem_append_left _ (List.mem_cons.mpr (Or.inl e))))))) (fun h => (List.mem_append.mp h).elim (fun h => (List.mem_cons_of_mem _ (List.mem_append_left _ (List.mem_append_right _ (List.mem_append_left _ (List.mem_cons_of_mem _ h)))))) (fun h => List.mem_cons_of_mem _ (List.mem_append_right _ h)))) w_x_signOf_good
theorem g_x_compareWholes_signOf_463 : GoodIn w_x_compareWholes (wsV RX12 463 RX12 yX12_signOf w_x_signOf) := goodIn_app (nb_g4 (List.mem_cons_of_mem _ (List.mem_append_left _ (List.mem_append_left _ (List.mem_of_getElem? (i := 0) rfl)))) (List.mem_cons_of_mem _ (List.mem_append_left _ (List.mem_append_left _ (List.mem_of_getElem? (i := 1) rfl)))) (List.mem_cons_of_mem _ (List.mem_append_left _ (List.mem_append_left _ (List.mem_of_getElem? (i := 2) rfl)))) (List.mem_cons_of_mem _ (List.mem_append_left _ (List.mem_append_left _ (List.mem_of_getElem? (i := 3) rfl)))) (by decide +kernel)) gg_x_compareWholes_signOf
set_option maxHeartbeats 40000000 in
set_option maxRecDepth 100000 in
theorem c_x_compareWholes (l : Launch) (dC : Nat → ClassId) (dI : Nat → Nat → Nat) (cy : Nat → ClassId) (a : Nat → Nat) (k0 : Nat) (L0 : Nat → Int32) (σ0 : MS) (r0 : Int32 × MS) (h0 : x_compareWholes k0 0 L0 σ0 = some r0) (sz : Nat) : Met l yX12_compareWholes w_x_compareWholes ({ frames := 1, cells := 0, slots := 0, locals := 21 }) (va_Pc [.ref (a 0), .int (L0 1), .int (L0 2)] (nIn (dC, dI) cy sz (vM cy a σ0))) (va_Qi (fun (z : Int32) (_ : Unit) => z = r0.1) (fun _ t => nOut (dC, dI) cy (va_A (vM cy a σ0) sz) (vM cy a r0.2) t) (va_A (vM cy a σ0) sz)) 0 0 (va_A (vM cy a σ0) sz) := by
  refine Met.ofW (cc := cX12_compareWholes) (maxL := 7) (ret := (some .int)) (by decide) rfl ?_
  intro p e s m args below meth c s₁ B hml hv
  obtain ⟨rfl, hsz, hP, hK, hD0, hG⟩ := hv
  have hx := B.exec
  have hb := B.bytes
  have hr := B.returns
  have hts := atoms_spec (ws := w_x_compareWholes) B.pre
  have hown : s.vm.findClass RX12 = some m.cls := findClass_of_methodNamed B.named
  have hlocks := B.notSynchronized
  subst hsz
  have hD := hD0.self (sz := s.heap.size)
  generalize hAe : va_A (vM cy a σ0) s.heap.size = A at hD ⊢
  have hA : ∀ q : Nat, s.heap.size ≤ q → A q := fun q h => by rw [← hAe]; exact Or.inr h
  have hS : va_S A s.heap s.heap [] := va_S.rf
  have hl := lv_entry ([.ref (a 0), .int (L0 1), .int (L0 2)]) (n := 7) (Nat.le_of_ble_eq_true rfl)
  rw [lg_entry_eq]
  generalize (lg_sl ([.ref (a 0), .int (L0 1), .int (L0 2)]) ++ List.replicate (7 - (lg_sl ([.ref (a 0), .int (L0 1), .int (L0 2)])).length) Slot.unset).toArray = ls at hl ⊢
  have hl : lv_has ls 7 [(0, .ref (a 0)), (1, .int (L0 1)), (2, .int (L0 2))] := hl
  have blk : ∀ k : Nat, (∀ (L : Nat → Int32) (σ : MS) (r : Int32 × MS), x_compareWholes k 0 L σ = some r → ∀ (H : Heap) (locs : List Loc) (ls : Array Slot), va_P (dC, dI) nCl (vM cy a σ) H → va_D A (vM cy a σ) → va_S A s.heap H locs → lv_has ls 7 [(0, .ref (a 0)), (1, .int (L 1)), (2, .int (L 2))] → W p l e (headSpec w_x_compareWholes ({ frames := 1, cells := 0, slots := 0, locals := 21 })).room s m #[.ref (a 0), .int (L0 1), .int (L0 2)] below meth c H locs 0 0 (MQ below (va_Qi (fun (z : Int32) (_ : Unit) => z = r.1) (fun _ t => nOut (dC, dI) cy A (vM cy a r.2) t) A) #[.ref (a 0), .int (L0 1), .int (L0 2)] s 0 0 A) (F0 m 0 ls [])) ∧ (∀ (L : Nat → Int32) (σ : MS) (r : Int32 × MS), x_compareWholes k 1 L σ = some r → ∀ (H : Heap) (locs : List Loc) (ls : Array Slot), va_P (dC, dI) nCl (vM cy a σ) H → va_D A (vM cy a σ) → va_S A s.heap H locs → lv_has ls 7 [(0, .ref (a 0)), (1, .int (L 1)), (2, .int (L 2))] → W p l e (headSpec w_x_compareWholes ({ frames := 1, cells := 0, slots := 0, locals := 21 })).room s m #[.ref (a 0), .int (L0 1), .int (L0 2)] below meth c H locs 0 0 (MQ below (va_Qi (fun (z : Int32) (_ : Unit) => z = r.1) (fun _ t => nOut (dC, dI) cy A (vM cy a r.2) t) A) #[.ref (a 0), .int (L0 1), .int (L0 2)] s 0 0 A) (F0 m 25 ls [])) ∧ (∀ (L : Nat → Int32) (σ : MS) (r : Int32 × MS), x_compareWholes k 2 L σ = some r → ∀ (H : Heap) (locs : List Loc) (ls : Array Slot), va_P (dC, dI) nCl (vM cy a σ) H → va_D A (vM cy a σ) → va_S A s.heap H locs → lv_has ls 7 [(0, .ref (a 0)), (1, .int (L 1)), (2, .int (L 2)), (3, .int (L 3)), (4, .int (L 4)), (5, .int (L 5)), (6, .int (L 6))] → W p l e (headSpec w_x_compareWholes ({ frames := 1, cells := 0, slots := 0, locals := 21 })).room s m #[.ref (a 0), .int (L0 1), .int (L0 2)] below meth c H locs 0 0 (MQ below (va_Qi (fun (z : Int32) (_ : Unit) => z = r.1) (fun _ t => nOut (dC, dI) cy A (vM cy a r.2) t) A) #[.ref (a 0), .int (L0 1), .int (L0 2)] s 0 0 A) (F0 m 55 ls [])) ∧ (∀ (L : Nat → Int32) (σ : MS) (r : Int32 × MS), x_compareWholes k 3 L σ = some r → ∀ (H : Heap) (locs : List Loc) (ls : Array Slot), va_P (dC, dI) nCl (vM cy a σ) H → va_D A (vM cy a σ) → va_S A s.heap H locs → lv_has ls 7 [(0, .ref (a 0)), (1, .int (L 1)), (2, .int (L 2)), (3, .int (L 3)), (4, .int (L 4)), (5, .int (L 5)), (6, .int (L 6))] → W p l e (headSpec w_x_compareWholes ({ frames := 1, cells := 0, slots := 0, locals := 21 })).room s m #[.ref (a 0), .int (L0 1), .int (L0 2)] below meth c H locs 0 0 (MQ below (va_Qi (fun (z : Int32) (_ : Unit) => z = r.1) (fun _ t => nOut (dC, dI) cy A (vM cy a r.2) t) A) #[.ref (a 0), .int (L0 1), .int (L0 2)] s 0 0 A) (F0 m 96 ls [])) ∧ (∀ (L : Nat → Int32) (σ : MS) (r : Int32 × MS), x_compareWholes k 4 L σ = some r → ∀ (H : Heap) (locs : List Loc) (ls : Array Slot), va_P (dC, dI) nCl (vM cy a σ) H → va_D A (vM cy a σ) → va_S A s.heap H locs → lv_has ls 7 [(0, .ref (a 0)), (1, .int (L 1)), (2, .int (L 2)), (3, .int (L 3)), (4, .int (L 4)), (5, .int (L 5)), (6, .int (L 6))] → W p l e (headSpec w_x_compareWholes ({ frames := 1, cells := 0, slots := 0, locals := 21 })).room s m #[.ref (a 0), .int (L0 1), .int (L0 2)] below meth c H locs 0 0 (MQ below (va_Qi (fun (z : Int32) (_ : Unit) => z = r.1) (fun _ t => nOut (dC, dI) cy A (vM cy a r.2) t) A) #[.ref (a 0), .int (L0 1), .int (L0 2)] s 0 0 A) (F0 m 110 ls [])) ∧ (∀ (L : Nat → Int32) (σ : MS) (r : Int32 × MS), x_compareWholes k 5 L σ = some r → ∀ (H : Heap) (locs : List Loc) (ls : Array Slot), va_P (dC, dI) nCl (vM cy a σ) H → va_D A (vM cy a σ) → va_S A s.heap H locs → lv_has ls 7 [(0, .ref (a 0)), (1, .int (L 1)), (2, .int (L 2)), (3, .int (L 3)), (4, .int (L 4)), (5, .int (L 5)), (6, .int (L 6))] → W p l e (headSpec w_x_compareWholes ({ frames := 1, cells := 0, slots := 0, locals := 21 })).room s m #[.ref (a 0), .int (L0 1), .int (L0 2)] below meth c H locs 0 0 (MQ below (va_Qi (fun (z : Int32) (_ : Unit) => z = r.1) (fun _ t => nOut (dC, dI) cy A (vM cy a r.2) t) A) #[.ref (a 0), .int (L0 1), .int (L0 2)] s 0 0 A) (F0 m 112 ls [.int (L 100)])) := by
    intro k
    induction k with
    | zero => exact ⟨fun L σ r h => (by cases h), fun L σ r h => (by cases h), fun L σ r h => (by cases h), fun L σ r h => (by cases h), fun L σ r h => (by cases h), fun L σ r h => (by cases h)⟩
    | succ k ih =>
      refine ⟨?_, ?_, ?_, ?_, ?_, ?_⟩
      · intro L σ r h H locs ls hP hD hS hl
        rw [x_compareWholes] at h
        refine lv_aload_n hx hb dX12_compareWholes_0 rfl (lv_at hl 0 rfl) ?_
        refine lv_iload_n hx hb dX12_compareWholes_1 rfl (lv_at hl 1 rfl) ?_
        cases hc1 : x_signOf k 0 (upd (fun _ => 0) 1 ((L 1))) σ with
        | none => rw [hc1, ob_none] at h; cases h
        | some r1 =>
          rw [hc1, ob_some] at h
          have hFc := va_free (wc := vM cy a σ) hD hS hA [0, 1, 2, 3, 4, 5, 6, 7, 8, 9, 10, 11, 12, 13, 14, 15, 16, 17, 18, 19, 20, 21, 22, 23, 24, 25, 26, 27, 28, 29, 30, 31, 32, 33, 34, 35, 36, 37, 38, 39, 40, 41, 42, 43, 44, 45, 46, 47, 48, 49, 50, 51, 52, 53, 54, 55, 56, 57] rfl
          refine va_calli (va_runV (As := [.int (L 1)]) (rest := []) ⟨hx, hb, hml, hown, hts⟩ (c_x_signOf l dC dI cy a k (upd (fun _ => 0) 1 ((L 1))) σ r1 hc1 H.size) (cwV 1 hts g_x_compareWholes_signOf_463 rfl rfl rfl (by decide +kernel) ⟨Nat.le_of_ble_eq_true rfl, Nat.le_of_ble_eq_true rfl⟩) ⟨nb_blind, va_recv hK hP (ci := 11) (q0 := 0) rfl rfl, fun U hU hW => ⟨rfl, by rw [hU], by rw [hU]; exact hP, va_K.moved hW.alike hK, hD.weaken (fun _ _ _ _ => trivial), hG.warm hW⟩⟩ rfl rfl hl.1 rfl (lv_room (Nat.le_of_ble_eq_true rfl)) dX12_compareWholes_2 ⟨Nat.le_of_ble_eq_true rfl, Nat.le_of_ble_eq_true rfl⟩) hS (fun q _ h => hFc q h) hFc (fun z9 _ t H1 locs ht hvm hw hB hz1 hk1 hS => ?_)
          subst hw
          obtain ⟨hP1, hK1, hD1⟩ := hB
          rw [ht] at hP1
          obtain ⟨hP, hD⟩ := va_join (wr := []) (w1 := vM cy a r1.2) hP hD [0, 1, 2, 3, 4, 5, 6, 7, 8, 9, 10, 11, 12, 13, 14, 15, 16, 17, 18, 19, 20, 21, 22, 23, 24, 25, 26, 27, 28, 29, 30, 31, 32, 33, 34, 35, 36, 37, 38, 39, 40, 41, 42, 43, 44, 45, 46, 47, 48, 49, 50, 51, 52, 53, 54, 55, 56, 57] [] rfl rfl (by decide) (by decide) hk1 hFc hP1 hD1
          generalize H1 = H at hP hS ⊢
          have hP : va_P (dC, dI) nCl (vM cy a r1.2) H := hP
          have hD : va_D A (vM cy a r1.2) := hD
          refine lv_aload_n hx hb dX12_compareWholes_5 rfl (lv_at hl 0 rfl) ?_
          refine lv_iload_n hx hb dX12_compareWholes_6 rfl (lv_at hl 2 rfl) ?_
          cases hc2 : x_signOf k 0 (upd (fun _ => 0) 1 ((L 2))) r1.2 with
          | none => rw [hc2, ob_none] at h; cases h
          | some r2 =>
            rw [hc2, ob_some] at h
            have hFc := va_free (wc := vM cy a r1.2) hD hS hA [0, 1, 2, 3, 4, 5, 6, 7, 8, 9, 10, 11, 12, 13, 14, 15, 16, 17, 18, 19, 20, 21, 22, 23, 24, 25, 26, 27, 28, 29, 30, 31, 32, 33, 34, 35, 36, 37, 38, 39, 40, 41, 42, 43, 44, 45, 46, 47, 48, 49, 50, 51, 52, 53, 54, 55, 56, 57] rfl
            refine va_calli (va_runV (As := [.int (L 2)]) (rest := [.int r1.1]) ⟨hx, hb, hml, hown, hts⟩ (c_x_signOf l dC dI cy a k (upd (fun _ => 0) 1 ((L 2))) r1.2 r2 hc2 H.size) (cwV 1 hts g_x_compareWholes_signOf_463 rfl rfl rfl (by decide +kernel) ⟨Nat.le_of_ble_eq_true rfl, Nat.le_of_ble_eq_true rfl⟩) ⟨nb_blind, va_recv hK hP (ci := 11) (q0 := 0) rfl rfl, fun U hU hW => ⟨rfl, by rw [hU], by rw [hU]; exact hP, va_K.moved hW.alike hK, hD.weaken (fun _ _ _ _ => trivial), hG.warm hW⟩⟩ rfl rfl hl.1 rfl (lv_room (Nat.le_of_ble_eq_true rfl)) dX12_compareWholes_7 ⟨Nat.le_of_ble_eq_true rfl, Nat.le_of_ble_eq_true rfl⟩) hS (fun q _ h => hFc q h) hFc (fun z9 _ t H1 locs ht hvm hw hB hz1 hk1 hS => ?_)
            subst hw
            obtain ⟨hP1, hK1, hD1⟩ := hB
            rw [ht] at hP1
            obtain ⟨hP, hD⟩ := va_join (wr := []) (w1 := vM cy a r2.2) hP hD [0, 1, 2, 3, 4, 5, 6, 7, 8, 9, 10, 11, 12, 13, 14, 15, 16, 17, 18, 19, 20, 21, 22, 23, 24, 25, 26, 27, 28, 29, 30, 31, 32, 33, 34, 35, 36, 37, 38, 39, 40, 41, 42, 43, 44, 45, 46, 47, 48, 49, 50, 51, 52, 53, 54, 55, 56, 57] [] rfl rfl (by decide) (by decide) hk1 hFc hP1 hD1
            generalize H1 = H at hP hS ⊢
            have hP : va_P (dC, dI) nCl (vM cy a r2.2) H := hP
            have hD : va_D A (vM cy a r2.2) := hD
            refine lv_icmp_eq (tgt := 25) hx hb dX12_compareWholes_10 (by decide) (fun c3 => ?_) (fun c3 => ?_)
            · rw [if_pos c3] at h
              exact ih.2.1 L r2.2 r h H locs ls hP hD hS (lv_sub hl [0, 1, 2] rfl)
            · rw [if_neg c3] at h
              refine lv_aload_n hx hb dX12_compareWholes_13 rfl (lv_at hl 0 rfl) ?_
              refine lv_iload_n hx hb dX12_compareWholes_14 rfl (lv_at hl 1 rfl) ?_
              cases hc4 : x_signOf k 0 (upd (fun _ => 0) 1 ((L 1))) r2.2 with
              | none => rw [hc4, ob_none] at h; cases h
              | some r4 =>
                rw [hc4, ob_some] at h
                have hFc := va_free (wc := vM cy a r2.2) hD hS hA [0, 1, 2, 3, 4, 5, 6, 7, 8, 9, 10, 11, 12, 13, 14, 15, 16, 17, 18, 19, 20, 21, 22, 23, 24, 25, 26, 27, 28, 29, 30, 31, 32, 33, 34, 35, 36, 37, 38, 39, 40, 41, 42, 43, 44, 45, 46, 47, 48, 49, 50, 51, 52, 53, 54, 55, 56, 57] rfl
                refine va_calli (va_runV (As := [.int (L 1)]) (rest := []) ⟨hx, hb, hml, hown, hts⟩ (c_x_signOf l dC dI cy a k (upd (fun _ => 0) 1 ((L 1))) r2.2 r4 hc4 H.size) (cwV 1 hts g_x_compareWholes_signOf_463 rfl rfl rfl (by decide +kernel) ⟨Nat.le_of_ble_eq_true rfl, Nat.le_of_ble_eq_true rfl⟩) ⟨nb_blind, va_recv hK hP (ci := 11) (q0 := 0) rfl rfl, fun U hU hW => ⟨rfl, by rw [hU], by rw [hU]; exact hP, va_K.moved hW.alike hK, hD.weaken (fun _ _ _ _ => trivial), hG.warm hW⟩⟩ rfl rfl hl.1 rfl (lv_room (Nat.le_of_ble_eq_true rfl)) dX12_compareWholes_15 ⟨Nat.le_of_ble_eq_true rfl, Nat.le_of_ble_eq_true rfl⟩) hS (fun q _ h => hFc q h) hFc (fun z9 _ t H1 locs ht hvm hw hB hz1 hk1 hS => ?_)
                subst hw
                obtain ⟨hP1, hK1, hD1⟩ := hB
                rw [ht] at hP1
                obtain ⟨hP, hD⟩ := va_join (wr := []) (w1 := vM cy a r4.2) hP hD [0, 1, 2, 3, 4, 5, 6, 7, 8, 9, 10, 11, 12, 13, 14, 15, 16, 17, 18, 19, 20, 21, 22, 23, 24, 25, 26, 27, 28, 29, 30, 31, 32, 33, 34, 35, 36, 37, 38, 39, 40, 41, 42, 43, 44, 45, 46, 47, 48, 49, 50, 51, 52, 53, 54, 55, 56, 57] [] rfl rfl (by decide) (by decide) hk1 hFc hP1 hD1
                generalize H1 = H at hP hS ⊢
                have hP : va_P (dC, dI) nCl (vM cy a r4.2) H := hP
                have hD : va_D A (vM cy a r4.2) := hD
                refine lv_aload_n hx hb dX12_compareWholes_18 rfl (lv_at hl 0 rfl) ?_
                refine lv_iload_n hx hb dX12_compareWholes_19 rfl (lv_at hl 2 rfl) ?_
                cases hc5 : x_signOf k 0 (upd (fun _ => 0) 1 ((L 2))) r4.2 with
                | none => rw [hc5, ob_none] at h; cases h
                | some r5 =>
                  rw [hc5, ob_some] at h
                  have hFc := va_free (wc := vM cy a r4.2) hD hS hA [0, 1, 2, 3, 4, 5, 6, 7, 8, 9, 10, 11, 12, 13, 14, 15, 16, 17, 18, 19, 20, 21, 22, 23, 24, 25, 26, 27, 28, 29, 30, 31, 32, 33, 34, 35, 36, 37, 38, 39, 40, 41, 42, 43, 44, 45, 46, 47, 48, 49, 50, 51, 52, 53, 54, 55, 56, 57] rfl
                  refine va_calli (va_runV (As := [.int (L 2)]) (rest := [.int r4.1]) ⟨hx, hb, hml, hown, hts⟩ (c_x_signOf l dC dI cy a k (upd (fun _ => 0) 1 ((L 2))) r4.2 r5 hc5 H.size) (cwV 1 hts g_x_compareWholes_signOf_463 rfl rfl rfl (by decide +kernel) ⟨Nat.le_of_ble_eq_true rfl, Nat.le_of_ble_eq_true rfl⟩) ⟨nb_blind, va_recv hK hP (ci := 11) (q0 := 0) rfl rfl, fun U hU hW => ⟨rfl, by rw [hU], by rw [hU]; exact hP, va_K.moved hW.alike hK, hD.weaken (fun _ _ _ _ => trivial), hG.warm hW⟩⟩ rfl rfl hl.1 rfl (lv_room (Nat.le_of_ble_eq_true rfl)) dX12_compareWholes_20 ⟨Nat.le_of_ble_eq_true rfl, Nat.le_of_ble_eq_true rfl⟩) hS (fun q _ h => hFc q h) hFc (fun z9 _ t H1 locs ht hvm hw hB hz1 hk1 hS => ?_)
                  subst hw
                  obtain ⟨hP1, hK1, hD1⟩ := hB
                  rw [ht] at hP1
                  obtain ⟨hP, hD⟩ := va_join (wr := []) (w1 := vM cy a r5.2) hP hD [0, 1, 2, 3, 4, 5, 6, 7, 8, 9, 10, 11, 12, 13, 14, 15, 16, 17, 18, 19, 20, 21, 22, 23, 24, 25, 26, 27, 28, 29, 30, 31, 32, 33, 34, 35, 36, 37, 38, 39, 40, 41, 42, 43, 44, 45, 46, 47, 48, 49, 50, 51, 52, 53, 54, 55, 56, 57] [] rfl rfl (by decide) (by decide) hk1 hFc hP1 hD1
                  generalize H1 = H at hP hS ⊢
                  have hP : va_P (dC, dI) nCl (vM cy a r5.2) H := hP
                  have hD : va_D A (vM cy a r5.2) := hD
                  refine lv_isub hx hb dX12_compareWholes_23 ?_
                  cases h
                  exact W.iret (v := (r4.1 - r5.1)) hx hb hr (fun t ht hW => ⟨⟨(r4.1 - r5.1), (), rfl, rfl, by rw [ht]; exact hP, va_K.moved hW.alike hK, hD⟩, hS.F ht⟩) hS.2.2 dX12_compareWholes_24
      · intro L σ r h H locs ls hP hD hS hl
        rw [x_compareWholes] at h
        refine lv_aload_n hx hb dX12_compareWholes_25 rfl (lv_at hl 0 rfl) ?_
        refine va_get (D := (dC, dI)) (ci := 11) (v := .ref (a 28)) (C := RX12) (T := TX12) (N := 121) hx hb hts in_x_compareWholes hown hK hP 0 rfl rfl 53 (by decide) (hts _ (List.mem_cons_of_mem _ (List.mem_append_left _ (List.mem_append_left _ (List.mem_of_getElem? (i := 4) rfl))))) (fun _ h9 => h9) rfl dX12_compareWholes_26 ?_
        refine lv_iload_n hx hb dX12_compareWholes_29 rfl (lv_at hl 1 rfl) ?_
        refine lv_iconst (v := 1) hx hb dX12_compareWholes_30 (by decide) ?_
        refine lv_iadd hx hb dX12_compareWholes_31 ?_
        by_cases q1 : ¬ (((((L 1)) + 1)) < 0 ∨ 1740000 ≤ ((((L 1)) + 1)).toNatClampNeg)
        · rw [if_pos q1] at h
          refine va_iald hx hb hK hP 28 1 rfl rfl (nb_inp q1) dX12_compareWholes_32 ?_
          refine lv_istore_n (lv' := [(3, .int (σ.2.2 28 ((((L 1)) + 1)).toNatClampNeg)), (0, .ref (a 0)), (1, .int (L 1)), (2, .int (L 2))]) hx hb dX12_compareWholes_33 rfl hl (by decide) rfl (fun ls hl => ?_)
          refine lv_aload_n hx hb dX12_compareWholes_34 rfl (lv_at hl 1 rfl) ?_
          refine va_get (D := (dC, dI)) (ci := 11) (v := .ref (a 28)) (C := RX12) (T := TX12) (N := 121) hx hb hts in_x_compareWholes hown hK hP 0 rfl rfl 53 (by decide) (hts _ (List.mem_cons_of_mem _ (List.mem_append_left _ (List.mem_append_left _ (List.mem_of_getElem? (i := 4) rfl))))) (fun _ h9 => h9) rfl dX12_compareWholes_35 ?_
          refine lv_iload_n hx hb dX12_compareWholes_38 rfl (lv_at hl 3 rfl) ?_
          refine lv_iconst (v := 1) hx hb dX12_compareWholes_39 (by decide) ?_
          refine lv_iadd hx hb dX12_compareWholes_40 ?_
          by_cases q2 : ¬ (((((L 2)) + 1)) < 0 ∨ 1740000 ≤ ((((L 2)) + 1)).toNatClampNeg)
          · rw [if_pos q2] at h
            refine va_iald hx hb hK hP 28 1 rfl rfl (nb_inp q2) dX12_compareWholes_41 ?_
            refine lv_istore (lv' := [(4, .int (σ.2.2 28 ((((L 2)) + 1)).toNatClampNeg)), (3, .int (σ.2.2 28 ((((L 1)) + 1)).toNatClampNeg)), (0, .ref (a 0)), (1, .int (L 1)), (2, .int (L 2))]) hx hb dX12_compareWholes_42 hl (by decide) rfl (fun ls hl => ?_)
            refine lv_iload_n hx hb dX12_compareWholes_44 rfl (lv_at hl 1 rfl) ?_
            refine lv_iload hx hb dX12_compareWholes_45 (lv_at hl 0 rfl) ?_
            refine lv_isub hx hb dX12_compareWholes_47 ?_
            refine lv_istore (lv' := [(5, .int (((σ.2.2 28 ((((L 1)) + 1)).toNatClampNeg)) - ((σ.2.2 28 ((((L 2)) + 1)).toNatClampNeg)))), (4, .int (σ.2.2 28 ((((L 2)) + 1)).toNatClampNeg)), (3, .int (σ.2.2 28 ((((L 1)) + 1)).toNatClampNeg)), (0, .ref (a 0)), (1, .int (L 1)), (2, .int (L 2))]) hx hb dX12_compareWholes_48 hl (by decide) rfl (fun ls hl => ?_)
            refine lv_iload_n hx hb dX12_compareWholes_50 rfl (lv_at hl 2 rfl) ?_
            refine lv_iconst (v := 1) hx hb dX12_compareWholes_51 (by decide) ?_
            refine lv_isub hx hb dX12_compareWholes_52 ?_
            refine lv_istore (lv' := [(6, .int (((σ.2.2 28 ((((L 1)) + 1)).toNatClampNeg)) - 1)), (5, .int (((σ.2.2 28 ((((L 1)) + 1)).toNatClampNeg)) - ((σ.2.2 28 ((((L 2)) + 1)).toNatClampNeg)))), (4, .int (σ.2.2 28 ((((L 2)) + 1)).toNatClampNeg)), (3, .int (σ.2.2 28 ((((L 1)) + 1)).toNatClampNeg)), (0, .ref (a 0)), (1, .int (L 1)), (2, .int (L 2))]) hx hb dX12_compareWholes_53 hl (by decide) rfl (fun ls hl => ?_)
            exact ih.2.2.1 (upd (upd (upd (upd L 3 ((σ.2.2 28 ((((L 1)) + 1)).toNatClampNeg))) 4 ((σ.2.2 28 ((((L 2)) + 1)).toNatClampNeg))) 5 ((((σ.2.2 28 ((((L 1)) + 1)).toNatClampNeg)) - ((σ.2.2 28 ((((L 2)) + 1)).toNatClampNeg))))) 6 ((((σ.2.2 28 ((((L 1)) + 1)).toNatClampNeg)) - 1))) σ r h H locs ls hP hD hS (lv_sub hl [4, 5, 6, 3, 2, 1, 0] rfl)
          · rw [if_neg q2] at h; cases h
        · rw [if_neg q1] at h; cases h
      · intro L σ r h H locs ls hP hD hS hl
        rw [x_compareWholes] at h
        refine lv_iload hx hb dX12_compareWholes_55 (lv_at hl 6 rfl) ?_
        refine lv_if_le (tgt := 96) hx hb dX12_compareWholes_57 (by decide) (fun c1 => ?_) (fun c1 => ?_)
        · rw [if_pos c1] at h
          exact ih.2.2.2.1 L σ r h H locs ls hP hD hS (lv_sub hl [0, 1, 2, 3, 4, 5, 6] rfl)
        · rw [if_neg c1] at h
          refine lv_iload hx hb dX12_compareWholes_60 (lv_at hl 5 rfl) ?_
          refine lv_if_ne (tgt := 96) hx hb dX12_compareWholes_62 (by decide) (fun c2 => ?_) (fun c2 => ?_)
          · rw [if_neg c2] at h
            exact ih.2.2.2.1 L σ r h H locs ls hP hD hS (lv_sub hl [0, 1, 2, 3, 4, 5, 6] rfl)
          · rw [if_pos c2] at h
            refine lv_aload_n hx hb dX12_compareWholes_65 rfl (lv_at hl 0 rfl) ?_
            refine va_get (D := (dC, dI)) (ci := 11) (v := .ref (a 28)) (C := RX12) (T := TX12) (N := 121) hx hb hts in_x_compareWholes hown hK hP 0 rfl rfl 53 (by decide) (hts _ (List.mem_cons_of_mem _ (List.mem_append_left _ (List.mem_append_left _ (List.mem_of_getElem? (i := 4) rfl))))) (fun _ h9 => h9) rfl dX12_compareWholes_66 ?_
            refine lv_iload_n hx hb dX12_compareWholes_69 rfl (lv_at hl 1 rfl) ?_
            refine lv_iconst (v := 4) hx hb dX12_compareWholes_70 (by decide) ?_
            refine lv_iadd hx hb dX12_compareWholes_71 ?_
            refine lv_iload hx hb dX12_compareWholes_72 (lv_at hl 6 rfl) ?_
            refine lv_iadd hx hb dX12_compareWholes_74 ?_
            by_cases q3 : ¬ (((((((L 1)) + 4)) + ((L 6)))) < 0 ∨ 1740000 ≤ ((((((L 1)) + 4)) + ((L 6)))).toNatClampNeg)
            · rw [if_pos q3] at h
              refine va_iald hx hb hK hP 28 1 rfl rfl (nb_inp q3) dX12_compareWholes_75 ?_
              refine lv_aload_n hx hb dX12_compareWholes_76 rfl (lv_at hl 0 rfl) ?_
              refine va_get (D := (dC, dI)) (ci := 11) (v := .ref (a 28)) (C := RX12) (T := TX12) (N := 121) hx hb hts in_x_compareWholes hown hK hP 0 rfl rfl 53 (by decide) (hts _ (List.mem_cons_of_mem _ (List.mem_append_left _ (List.mem_append_left _ (List.mem_of_getElem? (i := 4) rfl))))) (fun _ h9 => h9) rfl dX12_compareWholes_77 ?_
              refine lv_iload_n hx hb dX12_compareWholes_80 rfl (lv_at hl 2 rfl) ?_
              refine lv_iconst (v := 4) hx hb dX12_compareWholes_81 (by decide) ?_
              refine lv_iadd hx hb dX12_compareWholes_82 ?_
              refine lv_iload hx hb dX12_compareWholes_83 (lv_at hl 6 rfl) ?_
              refine lv_iadd hx hb dX12_compareWholes_85 ?_
              by_cases q4 : ¬ (((((((L 2)) + 4)) + ((L 6)))) < 0 ∨ 1740000 ≤ ((((((L 2)) + 4)) + ((L 6)))).toNatClampNeg)
              · rw [if_pos q4] at h
                refine va_iald hx hb hK hP 28 1 rfl rfl (nb_inp q4) dX12_compareWholes_86 ?_
                refine lv_isub hx hb dX12_compareWholes_87 ?_
                refine lv_istore (lv' := [(5, .int (((σ.2.2 28 ((((((L 1)) + 4)) + ((L 6)))).toNatClampNeg)) - ((σ.2.2 28 ((((((L 2)) + 4)) + ((L 6)))).toNatClampNeg)))), (0, .ref (a 0)), (1, .int (L 1)), (2, .int (L 2)), (3, .int (L 3)), (4, .int (L 4)), (6, .int (L 6))]) hx hb dX12_compareWholes_88 hl (by decide) rfl (fun ls hl => ?_)
                refine lv_iinc (v := ((L 6)) + (-1)) (lv' := [(6, .int (((L 6)) + (-1))), (5, .int (((σ.2.2 28 ((((((L 1)) + 4)) + ((L 6)))).toNatClampNeg)) - ((σ.2.2 28 ((((((L 2)) + 4)) + ((L 6)))).toNatClampNeg)))), (0, .ref (a 0)), (1, .int (L 1)), (2, .int (L 2)), (3, .int (L 3)), (4, .int (L 4))]) hx hb dX12_compareWholes_90 hl (k := 6) rfl rfl (by decide) rfl (fun ls hl => ?_)
                refine lv_goto (tgt := 55) hx hb dX12_compareWholes_93 (by decide) ?_
                exact ih.2.2.1 (upd (upd L 5 ((((σ.2.2 28 ((((((L 1)) + 4)) + ((L 6)))).toNatClampNeg)) - ((σ.2.2 28 ((((((L 2)) + 4)) + ((L 6)))).toNatClampNeg))))) 6 (((L 6)) + (-1))) σ r h H locs ls hP hD hS (lv_sub hl [2, 3, 4, 5, 6, 1, 0] rfl)
              · rw [if_neg q4] at h; cases h
            · rw [if_neg q3] at h; cases h
      · intro L σ r h H locs ls hP hD hS hl
        rw [x_compareWholes] at h
        refine lv_aload_n hx hb dX12_compareWholes_96 rfl (lv_at hl 0 rfl) ?_
        refine lv_iload_n hx hb dX12_compareWholes_97 rfl (lv_at hl 1 rfl) ?_
        cases hc1 : x_signOf k 0 (upd (fun _ => 0) 1 ((L 1))) σ with
        | none => rw [hc1, ob_none] at h; cases h
        | some r1 =>
          rw [hc1, ob_some] at h
          have hFc := va_free (wc := vM cy a σ) hD hS hA [0, 1, 2, 3, 4, 5, 6, 7, 8, 9, 10, 11, 12, 13, 14, 15, 16, 17, 18, 19, 20, 21, 22, 23, 24, 25, 26, 27, 28, 29, 30, 31, 32, 33, 34, 35, 36, 37, 38, 39, 40, 41, 42, 43, 44, 45, 46, 47, 48, 49, 50, 51, 52, 53, 54, 55, 56, 57] rfl
          refine va_calli (va_runV (As := [.int (L 1)]) (rest := []) ⟨hx, hb, hml, hown, hts⟩ (c_x_signOf l dC dI cy a k (upd (fun _ => 0) 1 ((L 1))) σ r1 hc1 H.size) (cwV 1 hts g_x_compareWholes_signOf_463 rfl rfl rfl (by decide +kernel) ⟨Nat.le_of_ble_eq_true rfl, Nat.le_of_ble_eq_true rfl⟩) ⟨nb_blind, va_recv hK hP (ci := 11) (q0 := 0) rfl rfl, fun U hU hW => ⟨rfl, by rw [hU], by rw [hU]; exact hP, va_K.moved hW.alike hK, hD.weaken (fun _ _ _ _ => trivial), hG.warm hW⟩⟩ rfl rfl hl.1 rfl (lv_room (Nat.le_of_ble_eq_true rfl)) dX12_compareWholes_98 ⟨Nat.le_of_ble_eq_true rfl, Nat.le_of_ble_eq_true rfl⟩) hS (fun q _ h => hFc q h) hFc (fun z9 _ t H1 locs ht hvm hw hB hz1 hk1 hS => ?_)
          subst hw
          obtain ⟨hP1, hK1, hD1⟩ := hB
          rw [ht] at hP1
          obtain ⟨hP, hD⟩ := va_join (wr := []) (w1 := vM cy a r1.2) hP hD [0, 1, 2, 3, 4, 5, 6, 7, 8, 9, 10, 11, 12, 13, 14, 15, 16, 17, 18, 19, 20, 21, 22, 23, 24, 25, 26, 27, 28, 29, 30, 31, 32, 33, 34, 35, 36, 37, 38, 39, 40, 41, 42, 43, 44, 45, 46, 47, 48, 49, 50, 51, 52, 53, 54, 55, 56, 57] [] rfl rfl (by decide) (by decide) hk1 hFc hP1 hD1
          generalize H1 = H at hP hS ⊢
          have hP : va_P (dC, dI) nCl (vM cy a r1.2) H := hP
          have hD : va_D A (vM cy a r1.2) := hD
          refine lv_if_ge (tgt := 110) hx hb dX12_compareWholes_101 (by decide) (fun c2 => ?_) (fun c2 => ?_)
          · rw [if_pos c2] at h
            exact ih.2.2.2.2.1 L r1.2 r h H locs ls hP hD hS (lv_sub hl [0, 1, 2, 3, 4, 5, 6] rfl)
          · rw [if_neg c2] at h
            refine lv_iload hx hb dX12_compareWholes_104 (lv_at hl 5 rfl) ?_
            refine lv_ineg hx hb dX12_compareWholes_106 ?_
            refine lv_goto (tgt := 112) hx hb dX12_compareWholes_107 (by decide) ?_
            exact ih.2.2.2.2.2 (upd L 100 ((- ((L 5))))) r1.2 r h H locs ls hP hD hS (lv_sub hl [0, 1, 2, 3, 4, 5, 6] rfl)
      · intro L σ r h H locs ls hP hD hS hl
        rw [x_compareWholes] at h
        refine lv_iload hx hb dX12_compareWholes_110 (lv_at hl 5 rfl) ?_
        exact ih.2.2.2.2.2 (upd L 100 ((L 5))) σ r h H locs ls hP hD hS (lv_sub hl [0, 1, 2, 3, 4, 5, 6] rfl)
      · intro L σ r h H locs ls hP hD hS hl
        rw [x_compareWholes] at h
        cases h
        exact W.iret (v := (L 100)) hx hb hr (fun t ht hW => ⟨⟨(L 100), (), rfl, rfl, by rw [ht]; exact hP, va_K.moved hW.alike hK, hD⟩, hS.F ht⟩) hS.2.2 dX12_compareWholes_112
  exact (blk k0).1 L0 σ0 r0 h0 s.heap [] ls hP hD hS hl
/-! rank -/
def x_rank : Nat → Nat → (Nat → Int32) → MS → Option (Int32 × MS)
  | 0, _, _, _ => none
  | k + 1, 0, L, σ => if 3 ≤ ((L 1)) then (x_rank k 1 L σ) else (x_rank k 2 (upd L 100 ((L 1))) σ)
  | k + 1, 1, L, σ => if ¬ (((L 1)) < 0 ∨ 1740000 ≤ ((L 1)).toNatClampNeg) then (x_rank k 2 (upd L 100 ((((σ.2.2 28 ((L 1)).toNatClampNeg)) + 1))) σ) else none
  | k + 1, 2, L, σ => some ((L 100), σ)
  | _ + 1, _ + 3, _, _ => none
def o_x_rank : List Cond := [.fieldLink RX12 372 "SetHouseModel" "heap" "[I"]
theorem o_x_rank_good : o_x_rank.all goodWord = true := by decide +kernel
def p_x_rank : List Cond := o_x_rank ++ []
theorem p_x_rank_good : p_x_rank.all goodWord = true := nb_all2 o_x_rank_good rfl
def w_x_rank : List Cond := .code yX12_rank cX12_rank 2 (some .int) :: (p_x_rank ++ fM)
theorem w_x_rank_good : w_x_rank.all goodWord = true := nb_allc (by decide +kernel) (nb_all2 p_x_rank_good fM_good)
theorem in_x_rank : ∀ w ∈ wsX120, w ∈ w_x_rank := fun _ h => List.mem_cons_of_mem _ (List.mem_append_right _ h)
set_option maxHeartbeats 40000000 in
set_option maxRecDepth 100000 in
theorem c_x_rank (l : Launch) (dC : Nat → ClassId) (dI : Nat → Nat → Nat) (cy : Nat → ClassId) (a : Nat → Nat) (k0 : Nat) (L0 : Nat → Int32) (σ0 : MS) (r0 : Int32 × MS) (h0 : x_rank k0 0 L0 σ0 = some r0) (sz : Nat) : Met l yX12_rank w_x_rank ({ frames := 0, cells := 0, slots := 0, locals := 0 }) (va_Pc [.ref (a 0), .int (L0 1)] (nIn (dC, dI) cy sz (vM cy a σ0))) (va_Qi (fun (z : Int32) (_ : Unit) => z = r0.1) (fun _ t => nOut (dC, dI) cy (va_A (vM cy a σ0) sz) (vM cy a r0.2) t) (va_A (vM cy a σ0) sz)) 0 0 (va_A (vM cy a σ0) sz) := by
  refine Met.ofW (cc := cX12_rank) (maxL := 2) (ret := (some .int)) (by decide) rfl ?_
  intro p e s m args below meth c s₁ B hml hv
  obtain ⟨rfl, hsz, hP, hK, hD0, hG⟩ := hv
  have hx := B.exec
  have hb := B.bytes
  have hr := B.returns
  have hts := atoms_spec (ws := w_x_rank) B.pre
  have hown : s.vm.findClass RX12 = some m.cls := findClass_of_methodNamed B.named
  have hlocks := B.notSynchronized
  subst hsz
  have hD := hD0.self (sz := s.heap.size)
  generalize hAe : va_A (vM cy a σ0) s.heap.size = A at hD ⊢
  have hA : ∀ q : Nat, s.heap.size ≤ q → A q := fun q h => by rw [← hAe]; exact Or.inr h
  have hS : va_S A s.heap s.heap [] := va_S.rf
  have hl := lv_entry ([.ref (a 0), .int (L0 1)]) (n := 2) (Nat.le_of_ble_eq_true rfl)
  rw [lg_entry_eq]
  generalize (lg_sl ([.ref (a 0), .int (L0 1)]) ++ List.replicate (2 - (lg_sl ([.ref (a 0), .int (L0 1)])).length) Slot.unset).toArray = ls at hl ⊢
  have hl : lv_has ls 2 [(0, .ref (a 0)), (1, .int (L0 1))] := hl
  have blk : ∀ k : Nat, (∀ (L : Nat → Int32) (σ : MS) (r : Int32 × MS), x_rank k 0 L σ = some r → ∀ (H : Heap) (locs : List Loc) (ls : Array Slot), va_P (dC, dI) nCl (vM cy a σ) H → va_D A (vM cy a σ) → va_S A s.heap H locs → lv_has ls 2 [(0, .ref (a 0)), (1, .int (L 1))] → W p l e (headSpec w_x_rank ({ frames := 0, cells := 0, slots := 0, locals := 0 })).room s m #[.ref (a 0), .int (L0 1)] below meth c H locs 0 0 (MQ below (va_Qi (fun (z : Int32) (_ : Unit) => z = r.1) (fun _ t => nOut (dC, dI) cy A (vM cy a r.2) t) A) #[.ref (a 0), .int (L0 1)] s 0 0 A) (F0 m 0 ls [])) ∧ (∀ (L : Nat → Int32) (σ : MS) (r : Int32 × MS), x_rank k 1 L σ = some r → ∀ (H : Heap) (locs : List Loc) (ls : Array Slot), va_P (dC, dI) nCl (vM cy a σ) H → va_D A (vM cy a σ) → va_S A s.heap H locs → lv_has ls 2 [(0, .ref (a 0)), (1, .int (L 1))] → W p l e (headSpec w_x_rank ({ frames := 0, cells := 0, slots := 0, locals := 0 })).room s m #[.ref (a 0), .int (L0 1)] below meth c H locs 0 0 (MQ below (va_Qi (fun (z : Int32) (_ : Unit) => z = r.1) (fun _ t => nOut (dC, dI) cy A (vM cy a r.2) t) A) #[.ref (a 0), .int (L0 1)] s 0 0 A) (F0 m 9 ls [])) ∧ (∀ (L : Nat → Int32) (σ : MS) (r : Int32 × MS), x_rank k 2 L σ = some r → ∀ (H : Heap) (locs : List Loc) (ls : Array Slot), va_P (dC, dI) nCl (vM cy a σ) H → va_D A (vM cy a σ) → va_S A s.heap H locs → lv_has ls 2 [(0, .ref (a 0)), (1, .int (L 1))] → W p l e (headSpec w_x_rank ({ frames := 0, cells := 0, slots := 0, locals := 0 })).room s m #[.ref (a 0), .int (L0 1)] below meth c H locs 0 0 (MQ below (va_Qi (fun (z : Int32) (_ : Unit) => z = r.1) (fun _ t => nOut (dC, dI) cy A (vM cy a r.2) t) A) #[.ref (a 0), .int (L0 1)] s 0 0 A) (F0 m 17 ls [.int (L 100)])) := by
    intro k
    induction k with
    | zero => exact ⟨fun L σ r h => (by cases h), fun L σ r h => (by cases h), fun L σ r h => (by cases h)⟩
    | succ k ih =>
      refine ⟨?_, ?_, ?_⟩
      · intro L σ r h H locs ls hP hD hS hl
        rw [x_rank] at h
        refine lv_iload_n hx hb dX12_rank_0 rfl (lv_at hl 1 rfl) ?_
        refine lv_iconst (v := 3) hx hb dX12_rank_1 (by decide) ?_
        refine lv_icmp_ge (tgt := 9) hx hb dX12_rank_2 (by decide) (fun c1 => ?_) (fun c1 => ?_)
        · rw [if_pos c1] at h
          exact ih.2.1 L σ r h H locs ls hP hD hS (lv_sub hl [0, 1] rfl)
        · rw [if_neg c1] at h
          refine lv_iload_n hx hb dX12_rank_5 rfl (lv_at hl 1 rfl) ?_
          refine lv_goto (tgt := 17) hx hb dX12_rank_6 (by decide) ?_
          exact ih.2.2 (upd L 100 ((L 1))) σ r h H locs ls hP hD hS (lv_sub hl [0, 1] rfl)
      · intro L σ r h H locs ls hP hD hS hl
        rw [x_rank] at h
        refine lv_aload_n hx hb dX12_rank_9 rfl (lv_at hl 0 rfl) ?_
        refine va_get (D := (dC, dI)) (ci := 11) (v := .ref (a 28)) (C := RX12) (T := TX12) (N := 121) hx hb hts in_x_rank hown hK hP 0 rfl rfl 53 (by decide) (hts _ (List.mem_cons_of_mem _ (List.mem_append_left _ (List.mem_append_left _ (List.mem_of_getElem? (i := 0) rfl))))) (fun _ h9 => h9) rfl dX12_rank_10 ?_
        refine lv_iload_n hx hb dX12_rank_13 rfl (lv_at hl 1 rfl) ?_
        by_cases q1 : ¬ (((L 1)) < 0 ∨ 1740000 ≤ ((L 1)).toNatClampNeg)
        · rw [if_pos q1] at h
          refine va_iald hx hb hK hP 28 1 rfl rfl (nb_inp q1) dX12_rank_14 ?_
          refine lv_iconst (v := 1) hx hb dX12_rank_15 (by decide) ?_
          refine lv_iadd hx hb dX12_rank_16 ?_
          exact ih.2.2 (upd L 100 ((((σ.2.2 28 ((L 1)).toNatClampNeg)) + 1))) σ r h H locs ls hP hD hS (lv_sub hl [0, 1] rfl)
        · rw [if_neg q1] at h; cases h
      · intro L σ r h H locs ls hP hD hS hl
        rw [x_rank] at h
        cases h
        exact W.iret (v := (L 100)) hx hb hr (fun t ht hW => ⟨⟨(L 100), (), rfl, rfl, by rw [ht]; exact hP, va_K.moved hW.alike hK, hD⟩, hS.F ht⟩) hS.2.2 dX12_rank_17
  exact (blk k0).1 L0 σ0 r0 h0 s.heap [] ls hP hD hS hl
/-! loadA -/
def x_loadA : Nat → Nat → (Nat → Int32) → MS → Option (Int32 × MS)
  | 0, _, _, _ => none
  | k + 1, 0, L, σ => if ¬ (((((L 1)) + 1)) < 0 ∨ 1740000 ≤ ((((L 1)) + 1)).toNatClampNeg) then (x_loadA k 1 L (upd σ.1 84 ((((σ.2.2 28 ((((L 1)) + 1)).toNatClampNeg)) - 1)), σ.2.1, σ.2.2)) else none
  | k + 1, 1, L, σ => x_loadA k 2 (upd L 2 0) σ
  | k + 1, 2, L, σ => if ((σ.1 84)) ≤ ((L 2)) then (x_loadA k 4 L σ) else (if ¬ (((((((L 1)) + 5)) + ((L 2)))) < 0 ∨ 1740000 ≤ ((((((L 1)) + 5)) + ((L 2)))).toNatClampNeg) then (if ¬ (((L 2)) < 0 ∨ 140 ≤ ((L 2)).toNatClampNeg) then (x_loadA k 3 L (σ.1, σ.2.1, updG σ.2.2 42 (upd (σ.2.2 42) ((L 2)).toNatClampNeg ((σ.2.2 28 ((((((L 1)) + 5)) + ((L 2)))).toNatClampNeg))))) else none) else none)
  | k + 1, 3, L, σ => x_loadA k 2 (upd L 2 (((L 2)) + 1)) σ
  | k + 1, 4, L, σ => some (0, σ)
  | _ + 1, _ + 5, _, _ => none
def o_x_loadA : List Cond := [.fieldLink RX12 372 "SetHouseModel" "heap" "[I", .fieldLink RX12 466 "SetHouseModel" "na" "I", .fieldLink RX12 469 "SetHouseModel" "ra" "[I"]
theorem o_x_loadA_good : o_x_loadA.all goodWord = true := by decide +kernel
def p_x_loadA : List Cond := o_x_loadA ++ []
theorem p_x_loadA_good : p_x_loadA.all goodWord = true := nb_all2 o_x_loadA_good rfl
def w_x_loadA : List Cond := .code yX12_loadA cX12_loadA 3 none :: (p_x_loadA ++ fM)
theorem w_x_loadA_good : w_x_loadA.all goodWord = true := nb_allc (by decide +kernel) (nb_all2 p_x_loadA_good fM_good)
theorem in_x_loadA : ∀ w ∈ wsX120, w ∈ w_x_loadA := fun _ h => List.mem_cons_of_mem _ (List.mem_append_right _ h)
set_option maxHeartbeats 40000000 in
set_option maxRecDepth 100000 in
theorem c_x_loadA (l : Launch) (dC : Nat → ClassId) (dI : Nat → Nat → Nat) (cy : Nat → ClassId) (a : Nat → Nat) (k0 : Nat) (L0 : Nat → Int32) (σ0 : MS) (r0 : Int32 × MS) (h0 : x_loadA k0 0 L0 σ0 = some r0) (sz : Nat) : Met l yX12_loadA w_x_loadA ({ frames := 0, cells := 0, slots := 0, locals := 0 }) (va_Pc [.ref (a 0), .int (L0 1)] (nIn (dC, dI) cy sz (vM cy a σ0))) (va_Qv (fun _ : Unit => True) (fun _ t => nOut (dC, dI) cy (va_A (vM cy a σ0) sz) (vM cy a r0.2) t) (va_A (vM cy a σ0) sz)) 0 0 (va_A (vM cy a σ0) sz) := by
  refine Met.ofW (cc := cX12_loadA) (maxL := 3) (ret := none) (by decide) rfl ?_
  intro p e s m args below meth c s₁ B hml hv
  obtain ⟨rfl, hsz, hP, hK, hD0, hG⟩ := hv
  have hx := B.exec
  have hb := B.bytes
  have hr := B.returns
  have hts := atoms_spec (ws := w_x_loadA) B.pre
  have hown : s.vm.findClass RX12 = some m.cls := findClass_of_methodNamed B.named
  have hlocks := B.notSynchronized
  subst hsz
  have hD := hD0.self (sz := s.heap.size)
  generalize hAe : va_A (vM cy a σ0) s.heap.size = A at hD ⊢
  have hA : ∀ q : Nat, s.heap.size ≤ q → A q := fun q h => by rw [← hAe]; exact Or.inr h
  have hS : va_S A s.heap s.heap [] := va_S.rf
  have hl := lv_entry ([.ref (a 0), .int (L0 1)]) (n := 3) (Nat.le_of_ble_eq_true rfl)
  rw [lg_entry_eq]
  generalize (lg_sl ([.ref (a 0), .int (L0 1)]) ++ List.replicate (3 - (lg_sl ([.ref (a 0), .int (L0 1)])).length) Slot.unset).toArray = ls at hl ⊢
  have hl : lv_has ls 3 [(0, .ref (a 0)), (1, .int (L0 1))] := hl
  have blk : ∀ k : Nat, (∀ (L : Nat → Int32) (σ : MS) (r : Int32 × MS), x_loadA k 0 L σ = some r → ∀ (H : Heap) (locs : List Loc) (ls : Array Slot), va_P (dC, dI) nCl (vM cy a σ) H → va_D A (vM cy a σ) → va_S A s.heap H locs → lv_has ls 3 [(0, .ref (a 0)), (1, .int (L 1))] → W p l e (headSpec w_x_loadA ({ frames := 0, cells := 0, slots := 0, locals := 0 })).room s m #[.ref (a 0), .int (L0 1)] below meth c H locs 0 0 (MQ below (va_Qv (fun _ : Unit => True) (fun _ t => nOut (dC, dI) cy A (vM cy a r.2) t) A) #[.ref (a 0), .int (L0 1)] s 0 0 A) (F0 m 0 ls [])) ∧ (∀ (L : Nat → Int32) (σ : MS) (r : Int32 × MS), x_loadA k 1 L σ = some r → ∀ (H : Heap) (locs : List Loc) (ls : Array Slot), va_P (dC, dI) nCl (vM cy a σ) H → va_D A (vM cy a σ) → va_S A s.heap H locs → lv_has ls 3 [(0, .ref (a 0)), (1, .int (L 1))] → W p l e (headSpec w_x_loadA ({ frames := 0, cells := 0, slots := 0, locals := 0 })).room s m #[.ref (a 0), .int (L0 1)] below meth c H locs 0 0 (MQ below (va_Qv (fun _ : Unit => True) (fun _ t => nOut (dC, dI) cy A (vM cy a r.2) t) A) #[.ref (a 0), .int (L0 1)] s 0 0 A) (F0 m 14 ls [])) ∧ (∀ (L : Nat → Int32) (σ : MS) (r : Int32 × MS), x_loadA k 2 L σ = some r → ∀ (H : Heap) (locs : List Loc) (ls : Array Slot), va_P (dC, dI) nCl (vM cy a σ) H → va_D A (vM cy a σ) → va_S A s.heap H locs → lv_has ls 3 [(0, .ref (a 0)), (1, .int (L 1)), (2, .int (L 2))] → W p l e (headSpec w_x_loadA ({ frames := 0, cells := 0, slots := 0, locals := 0 })).room s m #[.ref (a 0), .int (L0 1)] below meth c H locs 0 0 (MQ below (va_Qv (fun _ : Unit => True) (fun _ t => nOut (dC, dI) cy A (vM cy a r.2) t) A) #[.ref (a 0), .int (L0 1)] s 0 0 A) (F0 m 16 ls [])) ∧ (∀ (L : Nat → Int32) (σ : MS) (r : Int32 × MS), x_loadA k 3 L σ = some r → ∀ (H : Heap) (locs : List Loc) (ls : Array Slot), va_P (dC, dI) nCl (vM cy a σ) H → va_D A (vM cy a σ) → va_S A s.heap H locs → lv_has ls 3 [(0, .ref (a 0)), (1, .int (L 1)), (2, .int (L 2))] → W p l e (headSpec w_x_loadA ({ frames := 0, cells := 0, slots := 0, locals := 0 })).room s m #[.ref (a 0), .int (L0 1)] below meth c H locs 0 0 (MQ below (va_Qv (fun _ : Unit => True) (fun _ t => nOut (dC, dI) cy A (vM cy a r.2) t) A) #[.ref (a 0), .int (L0 1)] s 0 0 A) (F0 m 40 ls [])) ∧ (∀ (L : Nat → Int32) (σ : MS) (r : Int32 × MS), x_loadA k 4 L σ = some r → ∀ (H : Heap) (locs : List Loc) (ls : Array Slot), va_P (dC, dI) nCl (vM cy a σ) H → va_D A (vM cy a σ) → va_S A s.heap H locs → lv_has ls 3 [(0, .ref (a 0)), (1, .int (L 1)), (2, .int (L 2))] → W p l e (headSpec w_x_loadA ({ frames := 0, cells := 0, slots := 0, locals := 0 })).room s m #[.ref (a 0), .int (L0 1)] below meth c H locs 0 0 (MQ below (va_Qv (fun _ : Unit => True) (fun _ t => nOut (dC, dI) cy A (vM cy a r.2) t) A) #[.ref (a 0), .int (L0 1)] s 0 0 A) (F0 m 46 ls [])) := by
    intro k
    induction k with
    | zero => exact ⟨fun L σ r h => (by cases h), fun L σ r h => (by cases h), fun L σ r h => (by cases h), fun L σ r h => (by cases h), fun L σ r h => (by cases h)⟩
    | succ k ih =>
      refine ⟨?_, ?_, ?_, ?_, ?_⟩
      · intro L σ r h H locs ls hP hD hS hl
        rw [x_loadA] at h
        refine lv_aload_n hx hb dX12_loadA_0 rfl (lv_at hl 0 rfl) ?_
        refine lv_aload_n hx hb dX12_loadA_1 rfl (lv_at hl 0 rfl) ?_
        refine va_get (D := (dC, dI)) (ci := 11) (v := .ref (a 28)) (C := RX12) (T := TX12) (N := 121) hx hb hts in_x_loadA hown hK hP 0 rfl rfl 53 (by decide) (hts _ (List.mem_cons_of_mem _ (List.mem_append_left _ (List.mem_append_left _ (List.mem_of_getElem? (i := 0) rfl))))) (fun _ h9 => h9) rfl dX12_loadA_2 ?_
        refine lv_iload_n hx hb dX12_loadA_5 rfl (lv_at hl 1 rfl) ?_
        refine lv_iconst (v := 1) hx hb dX12_loadA_6 (by decide) ?_
        refine lv_iadd hx hb dX12_loadA_7 ?_
        by_cases q1 : ¬ (((((L 1)) + 1)) < 0 ∨ 1740000 ≤ ((((L 1)) + 1)).toNatClampNeg)
        · rw [if_pos q1] at h
          refine va_iald hx hb hK hP 28 1 rfl rfl (nb_inp q1) dX12_loadA_8 ?_
          refine lv_iconst (v := 1) hx hb dX12_loadA_9 (by decide) ?_
          refine lv_isub hx hb dX12_loadA_10 ?_
          refine va_put (D := (dC, dI)) (ci := 11) (v := .int (((σ.2.2 28 ((((L 1)) + 1)).toNatClampNeg)) - 1)) (ty := .int) (C := RX12) (T := TX12) (N := 121) hx hb hts in_x_loadA tyX12 tyX12_ok nmX12 hown hK hP hD hS 0 rfl rfl 84 (by decide) (hts _ (List.mem_cons_of_mem _ (List.mem_append_left _ (List.mem_append_left _ (List.mem_of_getElem? (i := 1) rfl))))) (fun _ h9 => h9) rfl (by decide +kernel) rfl rfl (Nat.le_of_ble_eq_true rfl) dX12_loadA_11 (fun H locs hP hD hS => ?_)
          have hP : va_P (dC, dI) nCl (vM cy a (upd σ.1 84 ((((σ.2.2 28 ((((L 1)) + 1)).toNatClampNeg)) - 1)), σ.2.1, σ.2.2)) H := hP
          have hD : va_D A (vM cy a (upd σ.1 84 ((((σ.2.2 28 ((((L 1)) + 1)).toNatClampNeg)) - 1)), σ.2.1, σ.2.2)) := hD
          exact ih.2.1 L (upd σ.1 84 ((((σ.2.2 28 ((((L 1)) + 1)).toNatClampNeg)) - 1)), σ.2.1, σ.2.2) r h H locs ls hP hD hS (lv_sub hl [0, 1] rfl)
        · rw [if_neg q1] at h; cases h
      · intro L σ r h H locs ls hP hD hS hl
        rw [x_loadA] at h
        refine lv_iconst (v := 0) hx hb dX12_loadA_14 (by decide) ?_
        refine lv_istore_n (lv' := [(2, .int 0), (0, .ref (a 0)), (1, .int (L 1))]) hx hb dX12_loadA_15 rfl hl (by decide) rfl (fun ls hl => ?_)
        exact ih.2.2.1 (upd L 2 0) σ r h H locs ls hP hD hS (lv_sub hl [1, 2, 0] rfl)
      · intro L σ r h H locs ls hP hD hS hl
        rw [x_loadA] at h
        refine lv_iload_n hx hb dX12_loadA_16 rfl (lv_at hl 2 rfl) ?_
        refine lv_aload_n hx hb dX12_loadA_17 rfl (lv_at hl 0 rfl) ?_
        refine va_get (D := (dC, dI)) (ci := 11) (v := .int (σ.1 84)) (C := RX12) (T := TX12) (N := 121) hx hb hts in_x_loadA hown hK hP 0 rfl rfl 84 (by decide) (hts _ (List.mem_cons_of_mem _ (List.mem_append_left _ (List.mem_append_left _ (List.mem_of_getElem? (i := 1) rfl))))) (fun _ h9 => h9) rfl dX12_loadA_18 ?_
        refine lv_icmp_ge (tgt := 46) hx hb dX12_loadA_21 (by decide) (fun c1 => ?_) (fun c1 => ?_)
        · rw [if_pos c1] at h
          exact ih.2.2.2.2 L σ r h H locs ls hP hD hS (lv_sub hl [0, 1, 2] rfl)
        · rw [if_neg c1] at h
          refine lv_aload_n hx hb dX12_loadA_24 rfl (lv_at hl 0 rfl) ?_
          refine va_get (D := (dC, dI)) (ci := 11) (v := .ref (a 42)) (C := RX12) (T := TX12) (N := 121) hx hb hts in_x_loadA hown hK hP 0 rfl rfl 81 (by decide) (hts _ (List.mem_cons_of_mem _ (List.mem_append_left _ (List.mem_append_left _ (List.mem_of_getElem? (i := 2) rfl))))) (fun _ h9 => h9) rfl dX12_loadA_25 ?_
          refine lv_iload_n hx hb dX12_loadA_28 rfl (lv_at hl 2 rfl) ?_
          refine lv_aload_n hx hb dX12_loadA_29 rfl (lv_at hl 0 rfl) ?_
          refine va_get (D := (dC, dI)) (ci := 11) (v := .ref (a 28)) (C := RX12) (T := TX12) (N := 121) hx hb hts in_x_loadA hown hK hP 0 rfl rfl 53 (by decide) (hts _ (List.mem_cons_of_mem _ (List.mem_append_left _ (List.mem_append_left _ (List.mem_of_getElem? (i := 0) rfl))))) (fun _ h9 => h9) rfl dX12_loadA_30 ?_
          refine lv_iload_n hx hb dX12_loadA_33 rfl (lv_at hl 1 rfl) ?_
          refine lv_iconst (v := 5) hx hb dX12_loadA_34 (by decide) ?_
          refine lv_iadd hx hb dX12_loadA_35 ?_
          refine lv_iload_n hx hb dX12_loadA_36 rfl (lv_at hl 2 rfl) ?_
          refine lv_iadd hx hb dX12_loadA_37 ?_
          by_cases q2 : ¬ (((((((L 1)) + 5)) + ((L 2)))) < 0 ∨ 1740000 ≤ ((((((L 1)) + 5)) + ((L 2)))).toNatClampNeg)
          · rw [if_pos q2] at h
            refine va_iald hx hb hK hP 28 1 rfl rfl (nb_inp q2) dX12_loadA_38 ?_
            by_cases q3 : ¬ (((L 2)) < 0 ∨ 140 ≤ ((L 2)).toNatClampNeg)
            · rw [if_pos q3] at h
              refine va_iast hx hb hK hP hD hS 42 1 rfl rfl (nb_inp q3) dX12_loadA_39 (fun H locs hP hD hS => ?_)
              have hP : va_P (dC, dI) nCl (vM cy a (σ.1, σ.2.1, updG σ.2.2 42 (upd (σ.2.2 42) ((L 2)).toNatClampNeg ((σ.2.2 28 ((((((L 1)) + 5)) + ((L 2)))).toNatClampNeg))))) H := hP
              have hD : va_D A (vM cy a (σ.1, σ.2.1, updG σ.2.2 42 (upd (σ.2.2 42) ((L 2)).toNatClampNeg ((σ.2.2 28 ((((((L 1)) + 5)) + ((L 2)))).toNatClampNeg))))) := hD
              exact ih.2.2.2.1 L (σ.1, σ.2.1, updG σ.2.2 42 (upd (σ.2.2 42) ((L 2)).toNatClampNeg ((σ.2.2 28 ((((((L 1)) + 5)) + ((L 2)))).toNatClampNeg)))) r h H locs ls hP hD hS (lv_sub hl [0, 1, 2] rfl)
            · rw [if_neg q3] at h; cases h
          · rw [if_neg q2] at h; cases h
      · intro L σ r h H locs ls hP hD hS hl
        rw [x_loadA] at h
        refine lv_iinc (v := ((L 2)) + 1) (lv' := [(2, .int (((L 2)) + 1)), (0, .ref (a 0)), (1, .int (L 1))]) hx hb dX12_loadA_40 hl (k := 2) rfl rfl (by decide) rfl (fun ls hl => ?_)
        refine lv_goto (tgt := 16) hx hb dX12_loadA_43 (by decide) ?_
        exact ih.2.2.1 (upd L 2 (((L 2)) + 1)) σ r h H locs ls hP hD hS (lv_sub hl [1, 2, 0] rfl)
      · intro L σ r h H locs ls hP hD hS hl
        rw [x_loadA] at h
        cases h
        exact W.vret hx hb hr (fun t ht hW => ⟨⟨(), rfl, trivial, by rw [ht]; exact hP, va_K.moved hW.alike hK, hD⟩, hS.F ht⟩) hS.2.2 dX12_loadA_46
  exact (blk k0).1 L0 σ0 r0 h0 s.heap [] ls hP hD hS hl
/-! loadB -/
def x_loadB : Nat → Nat → (Nat → Int32) → MS → Option (Int32 × MS)
  | 0, _, _, _ => none
  | k + 1, 0, L, σ => if ¬ (((((L 1)) + 1)) < 0 ∨ 1740000 ≤ ((((L 1)) + 1)).toNatClampNeg) then (x_loadB k 1 L (upd σ.1 85 ((((σ.2.2 28 ((((L 1)) + 1)).toNatClampNeg)) - 1)), σ.2.1, σ.2.2)) else none
  | k + 1, 1, L, σ => x_loadB k 2 (upd L 2 0) σ
  | k + 1, 2, L, σ => if ((σ.1 85)) ≤ ((L 2)) then (x_loadB k 4 L σ) else (if ¬ (((((((L 1)) + 5)) + ((L 2)))) < 0 ∨ 1740000 ≤ ((((((L 1)) + 5)) + ((L 2)))).toNatClampNeg) then (if ¬ (((L 2)) < 0 ∨ 140 ≤ ((L 2)).toNatClampNeg) then (x_loadB k 3 L (σ.1, σ.2.1, updG σ.2.2 43 (upd (σ.2.2 43) ((L 2)).toNatClampNeg ((σ.2.2 28 ((((((L 1)) + 5)) + ((L 2)))).toNatClampNeg))))) else none) else none)
  | k + 1, 3, L, σ => x_loadB k 2 (upd L 2 (((L 2)) + 1)) σ
  | k + 1, 4, L, σ => some (0, σ)
  | _ + 1, _ + 5, _, _ => none
def o_x_loadB : List Cond := [.fieldLink RX12 372 "SetHouseModel" "heap" "[I", .fieldLink RX12 472 "SetHouseModel" "nb" "I", .fieldLink RX12 475 "SetHouseModel" "rb" "[I"]
theorem o_x_loadB_good : o_x_loadB.all goodWord = true := by decide +kernel
def p_x_loadB : List Cond := o_x_loadB ++ []
theorem p_x_loadB_good : p_x_loadB.all goodWord = true := nb_all2 o_x_loadB_good rfl
def w_x_loadB : List Cond := .code yX12_loadB cX12_loadB 3 none :: (p_x_loadB ++ fM)
theorem w_x_loadB_good : w_x_loadB.all goodWord = true := nb_allc (by decide +kernel) (nb_all2 p_x_loadB_good fM_good)
theorem in_x_loadB : ∀ w ∈ wsX120, w ∈ w_x_loadB := fun _ h => List.mem_cons_of_mem _ (List.mem_append_right _ h)
set_option maxHeartbeats 40000000 in
set_option maxRecDepth 100000 in
theorem c_x_loadB (l : Launch) (dC : Nat → ClassId) (dI : Nat → Nat → Nat) (cy : Nat → ClassId) (a : Nat → Nat) (k0 : Nat) (L0 : Nat → Int32) (σ0 : MS) (r0 : Int32 × MS) (h0 : x_loadB k0 0 L0 σ0 = some r0) (sz : Nat) : Met l yX12_loadB w_x_loadB ({ frames := 0, cells := 0, slots := 0, locals := 0 }) (va_Pc [.ref (a 0), .int (L0 1)] (nIn (dC, dI) cy sz (vM cy a σ0))) (va_Qv (fun _ : Unit => True) (fun _ t => nOut (dC, dI) cy (va_A (vM cy a σ0) sz) (vM cy a r0.2) t) (va_A (vM cy a σ0) sz)) 0 0 (va_A (vM cy a σ0) sz) := by
  refine Met.ofW (cc := cX12_loadB) (maxL := 3) (ret := none) (by decide) rfl ?_
  intro p e s m args below meth c s₁ B hml hv
  obtain ⟨rfl, hsz, hP, hK, hD0, hG⟩ := hv
  have hx := B.exec
  have hb := B.bytes
  have hr := B.returns
  have hts := atoms_spec (ws := w_x_loadB) B.pre
  have hown : s.vm.findClass RX12 = some m.cls := findClass_of_methodNamed B.named
  have hlocks := B.notSynchronized
  subst hsz
  have hD := hD0.self (sz := s.heap.size)
  generalize hAe : va_A (vM cy a σ0) s.heap.size = A at hD ⊢
  have hA : ∀ q : Nat, s.heap.size ≤ q → A q := fun q h => by rw [← hAe]; exact Or.inr h
  have hS : va_S A s.heap s.heap [] := va_S.rf
  have hl := lv_entry ([.ref (a 0), .int (L0 1)]) (n := 3) (Nat.le_of_ble_eq_true rfl)
  rw [lg_entry_eq]
  generalize (lg_sl ([.ref (a 0), .int (L0 1)]) ++ List.replicate (3 - (lg_sl ([.ref (a 0), .int (L0 1)])).length) Slot.unset).toArray = ls at hl ⊢
  have hl : lv_has ls 3 [(0, .ref (a 0)), (1, .int (L0 1))] := hl
  have blk : ∀ k : Nat, (∀ (L : Nat → Int32) (σ : MS) (r : Int32 × MS), x_loadB k 0 L σ = some r → ∀ (H : Heap) (locs : List Loc) (ls : Array Slot), va_P (dC, dI) nCl (vM cy a σ) H → va_D A (vM cy a σ) → va_S A s.heap H locs → lv_has ls 3 [(0, .ref (a 0)), (1, .int (L 1))] → W p l e (headSpec w_x_loadB ({ frames := 0, cells := 0, slots := 0, locals := 0 })).room s m #[.ref (a 0), .int (L0 1)] below meth c H locs 0 0 (MQ below (va_Qv (fun _ : Unit => True) (fun _ t => nOut (dC, dI) cy A (vM cy a r.2) t) A) #[.ref (a 0), .int (L0 1)] s 0 0 A) (F0 m 0 ls [])) ∧ (∀ (L : Nat → Int32) (σ : MS) (r : Int32 × MS), x_loadB k 1 L σ = some r → ∀ (H : Heap) (locs : List Loc) (ls : Array Slot), va_P (dC, dI) nCl (vM cy a σ) H → va_D A (vM cy a σ) → va_S A s.heap H locs → lv_has ls 3 [(0, .ref (a 0)), (1, .int (L 1))] → W p l e (headSpec w_x_loadB ({ frames := 0, cells := 0, slots := 0, locals := 0 })).room s m #[.ref (a 0), .int (L0 1)] below meth c H locs 0 0 (MQ below (va_Qv (fun _ : Unit => True) (fun _ t => nOut (dC, dI) cy A (vM cy a r.2) t) A) #[.ref (a 0), .int (L0 1)] s 0 0 A) (F0 m 14 ls [])) ∧ (∀ (L : Nat → Int32) (σ : MS) (r : Int32 × MS), x_loadB k 2 L σ = some r → ∀ (H : Heap) (locs : List Loc) (ls : Array Slot), va_P (dC, dI) nCl (vM cy a σ) H → va_D A (vM cy a σ) → va_S A s.heap H locs → lv_has ls 3 [(0, .ref (a 0)), (1, .int (L 1)), (2, .int (L 2))] → W p l e (headSpec w_x_loadB ({ frames := 0, cells := 0, slots := 0, locals := 0 })).room s m #[.ref (a 0), .int (L0 1)] below meth c H locs 0 0 (MQ below (va_Qv (fun _ : Unit => True) (fun _ t => nOut (dC, dI) cy A (vM cy a r.2) t) A) #[.ref (a 0), .int (L0 1)] s 0 0 A) (F0 m 16 ls [])) ∧ (∀ (L : Nat → Int32) (σ : MS) (r : Int32 × MS), x_loadB k 3 L σ = some r → ∀ (H : Heap) (locs : List Loc) (ls : Array Slot), va_P (dC, dI) nCl (vM cy a σ) H → va_D A (vM cy a σ) → va_S A s.heap H locs → lv_has ls 3 [(0, .ref (a 0)), (1, .int (L 1)), (2, .int (L 2))] → W p l e (headSpec w_x_loadB ({ frames := 0, cells := 0, slots := 0, locals := 0 })).room s m #[.ref (a 0), .int (L0 1)] below meth c H locs 0 0 (MQ below (va_Qv (fun _ : Unit => True) (fun _ t => nOut (dC, dI) cy A (vM cy a r.2) t) A) #[.ref (a 0), .int (L0 1)] s 0 0 A) (F0 m 40 ls [])) ∧ (∀ (L : Nat → Int32) (σ : MS) (r : Int32 × MS), x_loadB k 4 L σ = some r → ∀ (H : Heap) (locs : List Loc) (ls : Array Slot), va_P (dC, dI) nCl (vM cy a σ) H → va_D A (vM cy a σ) → va_S A s.heap H locs → lv_has ls 3 [(0, .ref (a 0)), (1, .int (L 1)), (2, .int (L 2))] → W p l e (headSpec w_x_loadB ({ frames := 0, cells := 0, slots := 0, locals := 0 })).room s m #[.ref (a 0), .int (L0 1)] below meth c H locs 0 0 (MQ below (va_Qv (fun _ : Unit => True) (fun _ t => nOut (dC, dI) cy A (vM cy a r.2) t) A) #[.ref (a 0), .int (L0 1)] s 0 0 A) (F0 m 46 ls [])) := by
    intro k
    induction k with
    | zero => exact ⟨fun L σ r h => (by cases h), fun L σ r h => (by cases h), fun L σ r h => (by cases h), fun L σ r h => (by cases h), fun L σ r h => (by cases h)⟩
    | succ k ih =>
      refine ⟨?_, ?_, ?_, ?_, ?_⟩
      · intro L σ r h H locs ls hP hD hS hl
        rw [x_loadB] at h
        refine lv_aload_n hx hb dX12_loadB_0 rfl (lv_at hl 0 rfl) ?_
        refine lv_aload_n hx hb dX12_loadB_1 rfl (lv_at hl 0 rfl) ?_
        refine va_get (D := (dC, dI)) (ci := 11) (v := .ref (a 28)) (C := RX12) (T := TX12) (N := 121) hx hb hts in_x_loadB hown hK hP 0 rfl rfl 53 (by decide) (hts _ (List.mem_cons_of_mem _ (List.mem_append_left _ (List.mem_append_left _ (List.mem_of_getElem? (i := 0) rfl))))) (fun _ h9 => h9) rfl dX12_loadB_2 ?_
        refine lv_iload_n hx hb dX12_loadB_5 rfl (lv_at hl 1 rfl) ?_
        refine lv_iconst (v := 1) hx hb dX12_loadB_6 (by decide) ?_
        refine lv_iadd hx hb dX12_loadB_7 ?_
        by_cases q1 : ¬ (((((L 1)) + 1)) < 0 ∨ 1740000 ≤ ((((L 1)) + 1)).toNatClampNeg)
        · rw [if_pos q1] at h
          refine va_iald hx hb hK hP 28 1 rfl rfl (nb_inp q1) dX12_loadB_8 ?_
          refine lv_iconst (v := 1) hx hb dX12_loadB_9 (by decide) ?_
          refine lv_isub hx hb dX12_loadB_10 ?_
          refine va_put (D := (dC, dI)) (ci := 11) (v := .int (((σ.2.2 28 ((((L 1)) + 1)).toNatClampNeg)) - 1)) (ty := .int) (C := RX12) (T := TX12) (N := 121) hx hb hts in_x_loadB tyX12 tyX12_ok nmX12 hown hK hP hD hS 0 rfl rfl 85 (by decide) (hts _ (List.mem_cons_of_mem _ (List.mem_append_left _ (List.mem_append_left _ (List.mem_of_getElem? (i := 1) rfl))))) (fun _ h9 => h9) rfl (by decide +kernel) rfl rfl (Nat.le_of_ble_eq_true rfl) dX12_loadB_11 (fun H locs hP hD hS => ?_)
          have hP : va_P (dC, dI) nCl (vM cy a (upd σ.1 85 ((((σ.2.2 28 ((((L 1)) + 1)).toNatClampNeg)) - 1)), σ.2.1, σ.2.2)) H := hP
          have hD : va_D A (vM cy a (upd σ.1 85 ((((σ.2.2 28 ((((L 1)) + 1)).toNatClampNeg)) - 1)), σ.2.1, σ.2.2)) := hD
          exact ih.2.1 L (upd σ.1 85 ((((σ.2.2 28 ((((L 1)) + 1)).toNatClampNeg)) - 1)), σ.2.1, σ.2.2) r h H locs ls hP hD hS (lv_sub hl [0, 1] rfl)
        · rw [if_neg q1] at h; cases h
      · intro L σ r h H locs ls hP hD hS hl
        rw [x_loadB] at h
        refine lv_iconst (v := 0) hx hb dX12_loadB_14 (by decide) ?_
        refine lv_istore_n (lv' := [(2, .int 0), (0, .ref (a 0)), (1, .int (L 1))]) hx hb dX12_loadB_15 rfl hl (by decide) rfl (fun ls hl => ?_)
        exact ih.2.2.1 (upd L 2 0) σ r h H locs ls hP hD hS (lv_sub hl [1, 2, 0] rfl)
      · intro L σ r h H locs ls hP hD hS hl
        rw [x_loadB] at h
        refine lv_iload_n hx hb dX12_loadB_16 rfl (lv_at hl 2 rfl) ?_
        refine lv_aload_n hx hb dX12_loadB_17 rfl (lv_at hl 0 rfl) ?_
        refine va_get (D := (dC, dI)) (ci := 11) (v := .int (σ.1 85)) (C := RX12) (T := TX12) (N := 121) hx hb hts in_x_loadB hown hK hP 0 rfl rfl 85 (by decide) (hts _ (List.mem_cons_of_mem _ (List.mem_append_left _ (List.mem_append_left _ (List.mem_of_getElem? (i := 1) rfl))))) (fun _ h9 => h9) rfl dX12_loadB_18 ?_
        refine lv_icmp_ge (tgt := 46) hx hb dX12_loadB_21 (by decide) (fun c1 => ?_) (fun c1 => ?_)
        · rw [if_pos c1] at h
          exact ih.2.2.2.2 L σ r h H locs ls hP hD hS (lv_sub hl [0, 1, 2] rfl)
        · rw [if_neg c1] at h
          refine lv_aload_n hx hb dX12_loadB_24 rfl (lv_at hl 0 rfl) ?_
          refine va_get (D := (dC, dI)) (ci := 11) (v := .ref (a 43)) (C := RX12) (T := TX12) (N := 121) hx hb hts in_x_loadB hown hK hP 0 rfl rfl 82 (by decide) (hts _ (List.mem_cons_of_mem _ (List.mem_append_left _ (List.mem_append_left _ (List.mem_of_getElem? (i := 2) rfl))))) (fun _ h9 => h9) rfl dX12_loadB_25 ?_
          refine lv_iload_n hx hb dX12_loadB_28 rfl (lv_at hl 2 rfl) ?_
          refine lv_aload_n hx hb dX12_loadB_29 rfl (lv_at hl 0 rfl) ?_
          refine va_get (D := (dC, dI)) (ci := 11) (v := .ref (a 28)) (C := RX12) (T := TX12) (N := 121) hx hb hts in_x_loadB hown hK hP 0 rfl rfl 53 (by decide) (hts _ (List.mem_cons_of_mem _ (List.mem_append_left _ (List.mem_append_left _ (List.mem_of_getElem? (i := 0) rfl))))) (fun _ h9 => h9) rfl dX12_loadB_30 ?_
          refine lv_iload_n hx hb dX12_loadB_33 rfl (lv_at hl 1 rfl) ?_
          refine lv_iconst (v := 5) hx hb dX12_loadB_34 (by decide) ?_
          refine lv_iadd hx hb dX12_loadB_35 ?_
          refine lv_iload_n hx hb dX12_loadB_36 rfl (lv_at hl 2 rfl) ?_
          refine lv_iadd hx hb dX12_loadB_37 ?_
          by_cases q2 : ¬ (((((((L 1)) + 5)) + ((L 2)))) < 0 ∨ 1740000 ≤ ((((((L 1)) + 5)) + ((L 2)))).toNatClampNeg)
          · rw [if_pos q2] at h
            refine va_iald hx hb hK hP 28 1 rfl rfl (nb_inp q2) dX12_loadB_38 ?_
            by_cases q3 : ¬ (((L 2)) < 0 ∨ 140 ≤ ((L 2)).toNatClampNeg)
            · rw [if_pos q3] at h
              refine va_iast hx hb hK hP hD hS 43 1 rfl rfl (nb_inp q3) dX12_loadB_39 (fun H locs hP hD hS => ?_)
              have hP : va_P (dC, dI) nCl (vM cy a (σ.1, σ.2.1, updG σ.2.2 43 (upd (σ.2.2 43) ((L 2)).toNatClampNeg ((σ.2.2 28 ((((((L 1)) + 5)) + ((L 2)))).toNatClampNeg))))) H := hP
              have hD : va_D A (vM cy a (σ.1, σ.2.1, updG σ.2.2 43 (upd (σ.2.2 43) ((L 2)).toNatClampNeg ((σ.2.2 28 ((((((L 1)) + 5)) + ((L 2)))).toNatClampNeg))))) := hD
              exact ih.2.2.2.1 L (σ.1, σ.2.1, updG σ.2.2 43 (upd (σ.2.2 43) ((L 2)).toNatClampNeg ((σ.2.2 28 ((((((L 1)) + 5)) + ((L 2)))).toNatClampNeg)))) r h H locs ls hP hD hS (lv_sub hl [0, 1, 2] rfl)
            · rw [if_neg q3] at h; cases h
          · rw [if_neg q2] at h; cases h
      · intro L σ r h H locs ls hP hD hS hl
        rw [x_loadB] at h
        refine lv_iinc (v := ((L 2)) + 1) (lv' := [(2, .int (((L 2)) + 1)), (0, .ref (a 0)), (1, .int (L 1))]) hx hb dX12_loadB_40 hl (k := 2) rfl rfl (by decide) rfl (fun ls hl => ?_)
        refine lv_goto (tgt := 16) hx hb dX12_loadB_43 (by decide) ?_
        exact ih.2.2.1 (upd L 2 (((L 2)) + 1)) σ r h H locs ls hP hD hS (lv_sub hl [1, 2, 0] rfl)
      · intro L σ r h H locs ls hP hD hS hl
        rw [x_loadB] at h
        cases h
        exact W.vret hx hb hr (fun t ht hW => ⟨⟨(), rfl, trivial, by rw [ht]; exact hP, va_K.moved hW.alike hK, hD⟩, hS.F ht⟩) hS.2.2 dX12_loadB_46
  exact (blk k0).1 L0 σ0 r0 h0 s.heap [] ls hP hD hS hl
/-! wholeOf -/
def x_wholeOf : Nat → Nat → (Nat → Int32) → MS → Option (Int32 × MS)
  | 0, _, _, _ => none
  | k + 1, 0, L, σ => if ((σ.1 86)) ≤ 0 then (x_wholeOf k 1 L σ) else (if ¬ (((((σ.1 86)) - 1)) < 0 ∨ 300 ≤ ((((σ.1 86)) - 1)).toNatClampNeg) then (if ((σ.2.2 44 ((((σ.1 86)) - 1)).toNatClampNeg)) = 0 then (x_wholeOf k 0 L (upd σ.1 86 ((((σ.1 86)) - 1)), σ.2.1, σ.2.2)) else (x_wholeOf k 1 L σ)) else none)
  | k + 1, 1, L, σ => if ((σ.1 86)) ≤ 64 then (x_wholeOf k 2 L σ) else (ob (x_fail k 0 (upd (fun _ => 0) 1 5) σ) (fun r2 => some (0, r2.2)))
  | k + 1, 2, L, σ => ob (x_make k 0 (upd (upd (fun _ => 0) 1 2) 2 ((((σ.1 86)) + 1))) σ) (fun r1 => if ((r1.2.1 56)) ≤ 0 then (x_wholeOf k 3 (upd L 2 r1.1) r1.2) else (some (0, r1.2)))
  | k + 1, 3, L, σ => if ((σ.1 86)) = 0 then (x_wholeOf k 5 (upd (upd L 100 0) 101 ((((L 2)) + 4))) σ) else (x_wholeOf k 4 (upd L 100 ((((L 2)) + 4))) σ)
  | k + 1, 4, L, σ => x_wholeOf k 5 (upd (upd L 100 ((L 1))) 101 ((L 100))) σ
  | k + 1, 5, L, σ => if ¬ (((L 101)) < 0 ∨ 1740000 ≤ ((L 101)).toNatClampNeg) then (x_wholeOf k 6 L (σ.1, σ.2.1, updG σ.2.2 28 (upd (σ.2.2 28) ((L 101)).toNatClampNeg ((L 100))))) else none
  | k + 1, 6, L, σ => x_wholeOf k 7 (upd L 3 0) σ
  | k + 1, 7, L, σ => if ((σ.1 86)) ≤ ((L 3)) then (x_wholeOf k 9 L σ) else (if ¬ (((L 3)) < 0 ∨ 300 ≤ ((L 3)).toNatClampNeg) then (if ¬ (((((((L 2)) + 5)) + ((L 3)))) < 0 ∨ 1740000 ≤ ((((((L 2)) + 5)) + ((L 3)))).toNatClampNeg) then (x_wholeOf k 8 L (σ.1, σ.2.1, updG σ.2.2 28 (upd (σ.2.2 28) ((((((L 2)) + 5)) + ((L 3)))).toNatClampNeg ((σ.2.2 44 ((L 3)).toNatClampNeg))))) else none) else none)
  | k + 1, 8, L, σ => x_wholeOf k 7 (upd L 3 (((L 3)) + 1)) σ
  | k + 1, 9, L, σ => if (2 : Int32) = 0 then none else (if ¬ (((((L 2)) + 2)) < 0 ∨ 1740000 ≤ ((((L 2)) + 2)).toNatClampNeg) then (x_wholeOf k 10 L (σ.1, σ.2.1, updG σ.2.2 28 (upd (σ.2.2 28) ((((L 2)) + 2)).toNatClampNeg ((1 + ((((((σ.1 86)) + 1)) / 2))))))) else none)
  | k + 1, 10, L, σ => some ((L 2), σ)
  | _ + 1, _ + 11, _, _ => none
def o_x_wholeOf : List Cond := [.fieldLink RX12 478 "SetHouseModel" "nc" "I", .fieldLink RX12 481 "SetHouseModel" "rc" "[I", .methodLink RX12 369 yX12_fail, .instanceMethod yX12_fail, .selects RX12 yX12_fail yX12_fail, .initialized RX12, .methodLink RX12 429 yX12_make, .instanceMethod yX12_make, .selects RX12 yX12_make yX12_make, .fieldLink RX12 362 "SetHouseModel" "err" "I", .fieldLink RX12 372 "SetHouseModel" "heap" "[I"]
theorem o_x_wholeOf_good : o_x_wholeOf.all goodWord = true := by decide +kernel
def p_x_wholeOf : List Cond := o_x_wholeOf ++ ((.code yX12_fail cX12_fail 2 none :: p_x_fail) ++ ((.code yX12_make cX12_make 4 (some .int) :: p_x_make) ++ []))
theorem p_x_wholeOf_good : p_x_wholeOf.all goodWord = true := nb_all2 o_x_wholeOf_good (nb_all2 (nb_allc (by decide +kernel) p_x_fail_good) (nb_all2 (nb_allc (by decide +kernel) p_x_make_good) rfl))
def w_x_wholeOf : List Cond := .code yX12_wholeOf cX12_wholeOf 4 (some .int) :: (p_x_wholeOf ++ fM)
theorem w_x_wholeOf_good : w_x_wholeOf.all goodWord = true := nb_allc (by decide +kernel) (nb_all2 p_x_wholeOf_good fM_good)
theorem in_x_wholeOf : ∀ w ∈ wsX120, w ∈ w_x_wholeOf := fun _ h => List.mem_cons_of_mem _ (List.mem_append_right _ h)
theorem gg_x_wholeOf_fail : GoodIn w_x_wholeOf w_x_fail := goodIn_sub (fun w h => (List.mem_cons.mp h).elim (fun e => (List.mem_cons_of_mem _ (List.mem_append_left _ (List.mem_append_right _ (List.mem_append_left _ (List.mem_cons.mpr (Or.inl e))))))) (fun h => (List.mem_append.mp h).elim (fun h => (List.mem_cons_of_mem _ (List.mem_append_left _ (List.mem_append_right _ (List.mem_append_left _ (List.mem_cons_of_mem _ h)))))) (fun h => List.mem_cons_of_mem _ (List.mem_append_right _ h)))) w_x_fail_good
theorem gg_x_wholeOf_make : GoodIn w_x_wholeOf w_x_make := goodIn_sub (fun w h => (List.mem_cons.mp h).elim (fun e => (List.mem_cons_of_mem _ (List.mem_append_left _ (List.mem_append_right _ (List.mem_append_right _ (List.mem_append_left _ (List.mem_cons.mpr (Or.inl e)))))))) (fun h => (List.mem_append.mp h).elim (fun h => (List.mem_cons_of_mem _ (List.mem_append_left _ (List.mem_append_right _ (List.mem_append_right _ (List.mem_append_left _ (List.mem_cons_of_mem _ h))))))) (fun h => List.mem_cons_of_mem _ (List.mem_append_right _ h)))) w_x_make_good
theorem g_x_wholeOf_fail_369 : GoodIn w_x_wholeOf (wsV RX12 369 RX12 yX12_fail w_x_fail) := goodIn_app (nb_g4 (List.mem_cons_of_mem _ (List.mem_append_left _ (List.mem_append_left _ (List.mem_of_getElem? (i := 2) rfl)))) (List.mem_cons_of_mem _ (List.mem_append_left _ (List.mem_append_left _ (List.mem_of_getElem? (i := 3) rfl)))) (List.mem_cons_of_mem _ (List.mem_append_left _ (List.mem_append_left _ (List.mem_of_getElem? (i := 4) rfl)))) (List.mem_cons_of_mem _ (List.mem_append_left _ (List.mem_append_left _ (List.mem_of_getElem? (i := 5) rfl)))) (by decide +kernel)) gg_x_wholeOf_fail
theorem g_x_wholeOf_make_429 : GoodIn w_x_wholeOf (wsV RX12 429 RX12 yX12_make w_x_make) := goodIn_app (nb_g4 (List.mem_cons_of_mem _ (List.mem_append_left _ (List.mem_append_left _ (List.mem_of_getElem? (i := 6) rfl)))) (List.mem_cons_of_mem _ (List.mem_append_left _ (List.mem_append_left _ (List.mem_of_getElem? (i := 7) rfl)))) (List.mem_cons_of_mem _ (List.mem_append_left _ (List.mem_append_left _ (List.mem_of_getElem? (i := 8) rfl)))) (List.mem_cons_of_mem _ (List.mem_append_left _ (List.mem_append_left _ (List.mem_of_getElem? (i := 5) rfl)))) (by decide +kernel)) gg_x_wholeOf_make
set_option maxHeartbeats 40000000 in
set_option maxRecDepth 100000 in
theorem c_x_wholeOf (l : Launch) (dC : Nat → ClassId) (dI : Nat → Nat → Nat) (cy : Nat → ClassId) (a : Nat → Nat) (k0 : Nat) (L0 : Nat → Int32) (σ0 : MS) (r0 : Int32 × MS) (h0 : x_wholeOf k0 0 L0 σ0 = some r0) (sz : Nat) : Met l yX12_wholeOf w_x_wholeOf ({ frames := 2, cells := 0, slots := 0, locals := 44 }) (va_Pc [.ref (a 0), .int (L0 1)] (nIn (dC, dI) cy sz (vM cy a σ0))) (va_Qi (fun (z : Int32) (_ : Unit) => z = r0.1) (fun _ t => nOut (dC, dI) cy (va_A (vM cy a σ0) sz) (vM cy a r0.2) t) (va_A (vM cy a σ0) sz)) 0 0 (va_A (vM cy a σ0) sz) := by
  refine Met.ofW (cc := cX12_wholeOf) (maxL := 4) (ret := (some .int)) (by decide) rfl ?_
  intro p e s m args below meth c s₁ B hml hv
  obtain ⟨rfl, hsz, hP, hK, hD0, hG⟩ := hv
  have hx := B.exec
  have hb := B.bytes
  have hr := B.returns
  have hts := atoms_spec (ws := w_x_wholeOf) B.pre
  have hown : s.vm.findClass RX12 = some m.cls := findClass_of_methodNamed B.named
  have hlocks := B.notSynchronized
  subst hsz
  have hD := hD0.self (sz := s.heap.size)
  generalize hAe : va_A (vM cy a σ0) s.heap.size = A at hD ⊢
  have hA : ∀ q : Nat, s.heap.size ≤ q → A q := fun q h => by rw [← hAe]; exact Or.inr h
  have hS : va_S A s.heap s.heap [] := va_S.rf
  have hl := lv_entry ([.ref (a 0), .int (L0 1)]) (n := 4) (Nat.le_of_ble_eq_true rfl)
  rw [lg_entry_eq]
  generalize (lg_sl ([.ref (a 0), .int (L0 1)]) ++ List.replicate (4 - (lg_sl ([.ref (a 0), .int (L0 1)])).length) Slot.unset).toArray = ls at hl ⊢
  have hl : lv_has ls 4 [(0, .ref (a 0)), (1, .int (L0 1))] := hl
  have blk : ∀ k : Nat, (∀ (L : Nat → Int32) (σ : MS) (r : Int32 × MS), x_wholeOf k 0 L σ = some r → ∀ (H : Heap) (locs : List Loc) (ls : Array Slot), va_P (dC, dI) nCl (vM cy a σ) H → va_D A (vM cy a σ) → va_S A s.heap H locs → lv_has ls 4 [(0, .ref (a 0)), (1, .int (L 1))] → W p l e (headSpec w_x_wholeOf ({ frames := 2, cells := 0, slots := 0, locals := 44 })).room s m #[.ref (a 0), .int (L0 1)] below meth c H locs 0 0 (MQ below (va_Qi (fun (z : Int32) (_ : Unit) => z = r.1) (fun _ t => nOut (dC, dI) cy A (vM cy a r.2) t) A) #[.ref (a 0), .int (L0 1)] s 0 0 A) (F0 m 0 ls [])) ∧ (∀ (L : Nat → Int32) (σ : MS) (r : Int32 × MS), x_wholeOf k 1 L σ = some r → ∀ (H : Heap) (locs : List Loc) (ls : Array Slot), va_P (dC, dI) nCl (vM cy a σ) H → va_D A (vM cy a σ) → va_S A s.heap H locs → lv_has ls 4 [(0, .ref (a 0)), (1, .int (L 1))] → W p l e (headSpec w_x_wholeOf ({ frames := 2, cells := 0, slots := 0, locals := 44 })).room s m #[.ref (a 0), .int (L0 1)] below meth c H locs 0 0 (MQ below (va_Qi (fun (z : Int32) (_ : Unit) => z = r.1) (fun _ t => nOut (dC, dI) cy A (vM cy a r.2) t) A) #[.ref (a 0), .int (L0 1)] s 0 0 A) (F0 m 34 ls [])) ∧ (∀ (L : Nat → Int32) (σ : MS) (r : Int32 × MS), x_wholeOf k 2 L σ = some r → ∀ (H : Heap) (locs : List Loc) (ls : Array Slot), va_P (dC, dI) nCl (vM cy a σ) H → va_D A (vM cy a σ) → va_S A s.heap H locs → lv_has ls 4 [(0, .ref (a 0)), (1, .int (L 1))] → W p l e (headSpec w_x_wholeOf ({ frames := 2, cells := 0, slots := 0, locals := 44 })).room s m #[.ref (a 0), .int (L0 1)] below meth c H locs 0 0 (MQ below (va_Qi (fun (z : Int32) (_ : Unit) => z = r.1) (fun _ t => nOut (dC, dI) cy A (vM cy a r.2) t) A) #[.ref (a 0), .int (L0 1)] s 0 0 A) (F0 m 50 ls [])) ∧ (∀ (L : Nat → Int32) (σ : MS) (r : Int32 × MS), x_wholeOf k 3 L σ = some r → ∀ (H : Heap) (locs : List Loc) (ls : Array Slot), va_P (dC, dI) nCl (vM cy a σ) H → va_D A (vM cy a σ) → va_S A s.heap H locs → lv_has ls 4 [(0, .ref (a 0)), (1, .int (L 1)), (2, .int (L 2))] → W p l e (headSpec w_x_wholeOf ({ frames := 2, cells := 0, slots := 0, locals := 44 })).room s m #[.ref (a 0), .int (L0 1)] below meth c H locs 0 0 (MQ below (va_Qi (fun (z : Int32) (_ : Unit) => z = r.1) (fun _ t => nOut (dC, dI) cy A (vM cy a r.2) t) A) #[.ref (a 0), .int (L0 1)] s 0 0 A) (F0 m 71 ls [])) ∧ (∀ (L : Nat → Int32) (σ : MS) (r : Int32 × MS), x_wholeOf k 4 L σ = some r → ∀ (H : Heap) (locs : List Loc) (ls : Array Slot), va_P (dC, dI) nCl (vM cy a σ) H → va_D A (vM cy a σ) → va_S A s.heap H locs → lv_has ls 4 [(0, .ref (a 0)), (1, .int (L 1)), (2, .int (L 2))] → W p l e (headSpec w_x_wholeOf ({ frames := 2, cells := 0, slots := 0, locals := 44 })).room s m #[.ref (a 0), .int (L0 1)] below meth c H locs 0 0 (MQ below (va_Qi (fun (z : Int32) (_ : Unit) => z = r.1) (fun _ t => nOut (dC, dI) cy A (vM cy a r.2) t) A) #[.ref (a 0), .int (L0 1)] s 0 0 A) (F0 m 89 ls [.int (L 100), .ref (a 28)])) ∧ (∀ (L : Nat → Int32) (σ : MS) (r : Int32 × MS), x_wholeOf k 5 L σ = some r → ∀ (H : Heap) (locs : List Loc) (ls : Array Slot), va_P (dC, dI) nCl (vM cy a σ) H → va_D A (vM cy a σ) → va_S A s.heap H locs → lv_has ls 4 [(0, .ref (a 0)), (1, .int (L 1)), (2, .int (L 2))] → W p l e (headSpec w_x_wholeOf ({ frames := 2, cells := 0, slots := 0, locals := 44 })).room s m #[.ref (a 0), .int (L0 1)] below meth c H locs 0 0 (MQ below (va_Qi (fun (z : Int32) (_ : Unit) => z = r.1) (fun _ t => nOut (dC, dI) cy A (vM cy a r.2) t) A) #[.ref (a 0), .int (L0 1)] s 0 0 A) (F0 m 90 ls [.int (L 100), .int (L 101), .ref (a 28)])) ∧ (∀ (L : Nat → Int32) (σ : MS) (r : Int32 × MS), x_wholeOf k 6 L σ = some r → ∀ (H : Heap) (locs : List Loc) (ls : Array Slot), va_P (dC, dI) nCl (vM cy a σ) H → va_D A (vM cy a σ) → va_S A s.heap H locs → lv_has ls 4 [(0, .ref (a 0)), (1, .int (L 1)), (2, .int (L 2))] → W p l e (headSpec w_x_wholeOf ({ frames := 2, cells := 0, slots := 0, locals := 44 })).room s m #[.ref (a 0), .int (L0 1)] below meth c H locs 0 0 (MQ below (va_Qi (fun (z : Int32) (_ : Unit) => z = r.1) (fun _ t => nOut (dC, dI) cy A (vM cy a r.2) t) A) #[.ref (a 0), .int (L0 1)] s 0 0 A) (F0 m 91 ls [])) ∧ (∀ (L : Nat → Int32) (σ : MS) (r : Int32 × MS), x_wholeOf k 7 L σ = some r → ∀ (H : Heap) (locs : List Loc) (ls : Array Slot), va_P (dC, dI) nCl (vM cy a σ) H → va_D A (vM cy a σ) → va_S A s.heap H locs → lv_has ls 4 [(0, .ref (a 0)), (1, .int (L 1)), (2, .int (L 2)), (3, .int (L 3))] → W p l e (headSpec w_x_wholeOf ({ frames := 2, cells := 0, slots := 0, locals := 44 })).room s m #[.ref (a 0), .int (L0 1)] below meth c H locs 0 0 (MQ below (va_Qi (fun (z : Int32) (_ : Unit) => z = r.1) (fun _ t => nOut (dC, dI) cy A (vM cy a r.2) t) A) #[.ref (a 0), .int (L0 1)] s 0 0 A) (F0 m 93 ls [])) ∧ (∀ (L : Nat → Int32) (σ : MS) (r : Int32 × MS), x_wholeOf k 8 L σ = some r → ∀ (H : Heap) (locs : List Loc) (ls : Array Slot), va_P (dC, dI) nCl (vM cy a σ) H → va_D A (vM cy a σ) → va_S A s.heap H locs → lv_has ls 4 [(0, .ref (a 0)), (1, .int (L 1)), (2, .int (L 2)), (3, .int (L 3))] → W p l e (headSpec w_x_wholeOf ({ frames := 2, cells := 0, slots := 0, locals := 44 })).room s m #[.ref (a 0), .int (L0 1)] below meth c H locs 0 0 (MQ below (va_Qi (fun (z : Int32) (_ : Unit) => z = r.1) (fun _ t => nOut (dC, dI) cy A (vM cy a r.2) t) A) #[.ref (a 0), .int (L0 1)] s 0 0 A) (F0 m 117 ls [])) ∧ (∀ (L : Nat → Int32) (σ : MS) (r : Int32 × MS), x_wholeOf k 9 L σ = some r → ∀ (H : Heap) (locs : List Loc) (ls : Array Slot), va_P (dC, dI) nCl (vM cy a σ) H → va_D A (vM cy a σ) → va_S A s.heap H locs → lv_has ls 4 [(0, .ref (a 0)), (1, .int (L 1)), (2, .int (L 2)), (3, .int (L 3))] → W p l e (headSpec w_x_wholeOf ({ frames := 2, cells := 0, slots := 0, locals := 44 })).room s m #[.ref (a 0), .int (L0 1)] below meth c H locs 0 0 (MQ below (va_Qi (fun (z : Int32) (_ : Unit) => z = r.1) (fun _ t => nOut (dC, dI) cy A (vM cy a r.2) t) A) #[.ref (a 0), .int (L0 1)] s 0 0 A) (F0 m 123 ls [])) ∧ (∀ (L : Nat → Int32) (σ : MS) (r : Int32 × MS), x_wholeOf k 10 L σ = some r → ∀ (H : Heap) (locs : List Loc) (ls : Array Slot), va_P (dC, dI) nCl (vM cy a σ) H → va_D A (vM cy a σ) → va_S A s.heap H locs → lv_has ls 4 [(0, .ref (a 0)), (1, .int (L 1)), (2, .int (L 2)), (3, .int (L 3))] → W p l e (headSpec w_x_wholeOf ({ frames := 2, cells := 0, slots := 0, locals := 44 })).room s m #[.ref (a 0), .int (L0 1)] below meth c H locs 0 0 (MQ below (va_Qi (fun (z : Int32) (_ : Unit) => z = r.1) (fun _ t => nOut (dC, dI) cy A (vM cy a r.2) t) A) #[.ref (a 0), .int (L0 1)] s 0 0 A) (F0 m 141 ls [])) := by
    intro k
    induction k with
    | zero => exact ⟨fun L σ r h => (by cases h), fun L σ r h => (by cases h), fun L σ r h => (by cases h), fun L σ r h => (by cases h), fun L σ r h => (by cases h), fun L σ r h => (by cases h), fun L σ r h => (by cases h), fun L σ r h => (by cases h), fun L σ r h => (by cases h), fun L σ r h => (by cases h), fun L σ r h => (by cases h)⟩
    | succ k ih =>
      refine ⟨?_, ?_, ?_, ?_, ?_, ?_, ?_, ?_, ?_, ?_, ?_⟩
      · intro L σ r h H locs ls hP hD hS hl
        rw [x_wholeOf] at h
        refine lv_aload_n hx hb dX12_wholeOf_0 rfl (lv_at hl 0 rfl) ?_
        refine va_get (D := (dC, dI)) (ci := 11) (v := .int (σ.1 86)) (C := RX12) (T := TX12) (N := 121) hx hb hts in_x_wholeOf hown hK hP 0 rfl rfl 86 (by decide) (hts _ (List.mem_cons_of_mem _ (List.mem_append_left _ (List.mem_append_left _ (List.mem_of_getElem? (i := 0) rfl))))) (fun _ h9 => h9) rfl dX12_wholeOf_1 ?_
        refine lv_if_le (tgt := 34) hx hb dX12_wholeOf_4 (by decide) (fun c1 => ?_) (fun c1 => ?_)
        · rw [if_pos c1] at h
          exact ih.2.1 L σ r h H locs ls hP hD hS (lv_sub hl [0, 1] rfl)
        · rw [if_neg c1] at h
          refine lv_aload_n hx hb dX12_wholeOf_7 rfl (lv_at hl 0 rfl) ?_
          refine va_get (D := (dC, dI)) (ci := 11) (v := .ref (a 44)) (C := RX12) (T := TX12) (N := 121) hx hb hts in_x_wholeOf hown hK hP 0 rfl rfl 83 (by decide) (hts _ (List.mem_cons_of_mem _ (List.mem_append_left _ (List.mem_append_left _ (List.mem_of_getElem? (i := 1) rfl))))) (fun _ h9 => h9) rfl dX12_wholeOf_8 ?_
          refine lv_aload_n hx hb dX12_wholeOf_11 rfl (lv_at hl 0 rfl) ?_
          refine va_get (D := (dC, dI)) (ci := 11) (v := .int (σ.1 86)) (C := RX12) (T := TX12) (N := 121) hx hb hts in_x_wholeOf hown hK hP 0 rfl rfl 86 (by decide) (hts _ (List.mem_cons_of_mem _ (List.mem_append_left _ (List.mem_append_left _ (List.mem_of_getElem? (i := 0) rfl))))) (fun _ h9 => h9) rfl dX12_wholeOf_12 ?_
          refine lv_iconst (v := 1) hx hb dX12_wholeOf_15 (by decide) ?_
          refine lv_isub hx hb dX12_wholeOf_16 ?_
          by_cases q2 : ¬ (((((σ.1 86)) - 1)) < 0 ∨ 300 ≤ ((((σ.1 86)) - 1)).toNatClampNeg)
          · rw [if_pos q2] at h
            refine va_iald hx hb hK hP 44 1 rfl rfl (nb_inp q2) dX12_wholeOf_17 ?_
            refine lv_if_ne (tgt := 34) hx hb dX12_wholeOf_18 (by decide) (fun c3 => ?_) (fun c3 => ?_)
            · rw [if_neg c3] at h
              exact ih.2.1 L σ r h H locs ls hP hD hS (lv_sub hl [0, 1] rfl)
            · rw [if_pos c3] at h
              refine lv_aload_n hx hb dX12_wholeOf_21 rfl (lv_at hl 0 rfl) ?_
              refine lv_dup hx hb dX12_wholeOf_22 rfl ?_
              refine va_get (D := (dC, dI)) (ci := 11) (v := .int (σ.1 86)) (C := RX12) (T := TX12) (N := 121) hx hb hts in_x_wholeOf hown hK hP 0 rfl rfl 86 (by decide) (hts _ (List.mem_cons_of_mem _ (List.mem_append_left _ (List.mem_append_left _ (List.mem_of_getElem? (i := 0) rfl))))) (fun _ h9 => h9) rfl dX12_wholeOf_23 ?_
              refine lv_iconst (v := 1) hx hb dX12_wholeOf_26 (by decide) ?_
              refine lv_isub hx hb dX12_wholeOf_27 ?_
              refine va_put (D := (dC, dI)) (ci := 11) (v := .int (((σ.1 86)) - 1)) (ty := .int) (C := RX12) (T := TX12) (N := 121) hx hb hts in_x_wholeOf tyX12 tyX12_ok nmX12 hown hK hP hD hS 0 rfl rfl 86 (by decide) (hts _ (List.mem_cons_of_mem _ (List.mem_append_left _ (List.mem_append_left _ (List.mem_of_getElem? (i := 0) rfl))))) (fun _ h9 => h9) rfl (by decide +kernel) rfl rfl (Nat.le_of_ble_eq_true rfl) dX12_wholeOf_28 (fun H locs hP hD hS => ?_)
              have hP : va_P (dC, dI) nCl (vM cy a (upd σ.1 86 ((((σ.1 86)) - 1)), σ.2.1, σ.2.2)) H := hP
              have hD : va_D A (vM cy a (upd σ.1 86 ((((σ.1 86)) - 1)), σ.2.1, σ.2.2)) := hD
              refine lv_goto (tgt := 0) hx hb dX12_wholeOf_31 (by decide) ?_
              exact ih.1 L (upd σ.1 86 ((((σ.1 86)) - 1)), σ.2.1, σ.2.2) r h H locs ls hP hD hS (lv_sub hl [0, 1] rfl)
          · rw [if_neg q2] at h; cases h
      · intro L σ r h H locs ls hP hD hS hl
        rw [x_wholeOf] at h
        refine lv_aload_n hx hb dX12_wholeOf_34 rfl (lv_at hl 0 rfl) ?_
        refine va_get (D := (dC, dI)) (ci := 11) (v := .int (σ.1 86)) (C := RX12) (T := TX12) (N := 121) hx hb hts in_x_wholeOf hown hK hP 0 rfl rfl 86 (by decide) (hts _ (List.mem_cons_of_mem _ (List.mem_append_left _ (List.mem_append_left _ (List.mem_of_getElem? (i := 0) rfl))))) (fun _ h9 => h9) rfl dX12_wholeOf_35 ?_
        refine lv_bipush (v := 64) hx hb dX12_wholeOf_38 (by decide) ?_
        refine lv_icmp_le (tgt := 50) hx hb dX12_wholeOf_40 (by decide) (fun c1 => ?_) (fun c1 => ?_)
        · rw [if_pos c1] at h
          exact ih.2.2.1 L σ r h H locs ls hP hD hS (lv_sub hl [0, 1] rfl)
        · rw [if_neg c1] at h
          refine lv_aload_n hx hb dX12_wholeOf_43 rfl (lv_at hl 0 rfl) ?_
          refine lv_iconst (v := 5) hx hb dX12_wholeOf_44 (by decide) ?_
          cases hc2 : x_fail k 0 (upd (fun _ => 0) 1 5) σ with
          | none => rw [hc2, ob_none] at h; cases h
          | some r2 =>
            rw [hc2, ob_some] at h
            have hFc := va_free (wc := vM cy a σ) hD hS hA [0, 1, 2, 3, 4, 5, 6, 7, 8, 9, 10, 11, 12, 13, 14, 15, 16, 17, 18, 19, 20, 21, 22, 23, 24, 25, 26, 27, 28, 29, 30, 31, 32, 33, 34, 35, 36, 37, 38, 39, 40, 41, 42, 43, 44, 45, 46, 47, 48, 49, 50, 51, 52, 53, 54, 55, 56, 57] rfl
            refine va_callv (va_runV (As := [.int 5]) (rest := []) ⟨hx, hb, hml, hown, hts⟩ (c_x_fail l dC dI cy a k (upd (fun _ => 0) 1 5) σ r2 hc2 H.size) (cwV 1 hts g_x_wholeOf_fail_369 rfl rfl rfl (by decide +kernel) ⟨Nat.le_of_ble_eq_true rfl, Nat.le_of_ble_eq_true rfl⟩) ⟨nb_blind, va_recv hK hP (ci := 11) (q0 := 0) rfl rfl, fun U hU hW => ⟨rfl, by rw [hU], by rw [hU]; exact hP, va_K.moved hW.alike hK, hD.weaken (fun _ _ _ _ => trivial), hG.warm hW⟩⟩ rfl rfl hl.1 rfl (lv_room (Nat.le_of_ble_eq_true rfl)) dX12_wholeOf_45 ⟨Nat.le_of_ble_eq_true rfl, Nat.le_of_ble_eq_true rfl⟩) hS (fun q _ h => hFc q h) hFc (fun _ t H1 locs ht hvm hw hB hz1 hk1 hS => ?_)
            obtain ⟨hP1, hK1, hD1⟩ := hB
            rw [ht] at hP1
            obtain ⟨hP, hD⟩ := va_join (wr := []) (w1 := vM cy a r2.2) hP hD [0, 1, 2, 3, 4, 5, 6, 7, 8, 9, 10, 11, 12, 13, 14, 15, 16, 17, 18, 19, 20, 21, 22, 23, 24, 25, 26, 27, 28, 29, 30, 31, 32, 33, 34, 35, 36, 37, 38, 39, 40, 41, 42, 43, 44, 45, 46, 47, 48, 49, 50, 51, 52, 53, 54, 55, 56, 57] [] rfl rfl (by decide) (by decide) hk1 hFc hP1 hD1
            generalize H1 = H at hP hS ⊢
            have hP : va_P (dC, dI) nCl (vM cy a r2.2) H := hP
            have hD : va_D A (vM cy a r2.2) := hD
            refine lv_iconst (v := 0) hx hb dX12_wholeOf_48 (by decide) ?_
            cases h
            exact W.iret (v := 0) hx hb hr (fun t ht hW => ⟨⟨0, (), rfl, rfl, by rw [ht]; exact hP, va_K.moved hW.alike hK, hD⟩, hS.F ht⟩) hS.2.2 dX12_wholeOf_49
      · intro L σ r h H locs ls hP hD hS hl
        rw [x_wholeOf] at h
        refine lv_aload_n hx hb dX12_wholeOf_50 rfl (lv_at hl 0 rfl) ?_
        refine lv_iconst (v := 2) hx hb dX12_wholeOf_51 (by decide) ?_
        refine lv_aload_n hx hb dX12_wholeOf_52 rfl (lv_at hl 0 rfl) ?_
        refine va_get (D := (dC, dI)) (ci := 11) (v := .int (σ.1 86)) (C := RX12) (T := TX12) (N := 121) hx hb hts in_x_wholeOf hown hK hP 0 rfl rfl 86 (by decide) (hts _ (List.mem_cons_of_mem _ (List.mem_append_left _ (List.mem_append_left _ (List.mem_of_getElem? (i := 0) rfl))))) (fun _ h9 => h9) rfl dX12_wholeOf_53 ?_
        refine lv_iconst (v := 1) hx hb dX12_wholeOf_56 (by decide) ?_
        refine lv_iadd hx hb dX12_wholeOf_57 ?_
        cases hc1 : x_make k 0 (upd (upd (fun _ => 0) 1 2) 2 ((((σ.1 86)) + 1))) σ with
        | none => rw [hc1, ob_none] at h; cases h
        | some r1 =>
          rw [hc1, ob_some] at h
          have hFc := va_free (wc := vM cy a σ) hD hS hA [0, 1, 2, 3, 4, 5, 6, 7, 8, 9, 10, 11, 12, 13, 14, 15, 16, 17, 18, 19, 20, 21, 22, 23, 24, 25, 26, 27, 28, 29, 30, 31, 32, 33, 34, 35, 36, 37, 38, 39, 40, 41, 42, 43, 44, 45, 46, 47, 48, 49, 50, 51, 52, 53, 54, 55, 56, 57] rfl
          refine va_calli (va_runV (As := [.int 2, .int (((σ.1 86)) + 1)]) (rest := []) ⟨hx, hb, hml, hown, hts⟩ (c_x_make l dC dI cy a k (upd (upd (fun _ => 0) 1 2) 2 ((((σ.1 86)) + 1))) σ r1 hc1 H.size) (cwV 2 hts g_x_wholeOf_make_429 rfl rfl rfl (by decide +kernel) ⟨Nat.le_of_ble_eq_true rfl, Nat.le_of_ble_eq_true rfl⟩) ⟨nb_blind, va_recv hK hP (ci := 11) (q0 := 0) rfl rfl, fun U hU hW => ⟨rfl, by rw [hU], by rw [hU]; exact hP, va_K.moved hW.alike hK, hD.weaken (fun _ _ _ _ => trivial), hG.warm hW⟩⟩ rfl rfl hl.1 rfl (lv_room (Nat.le_of_ble_eq_true rfl)) dX12_wholeOf_58 ⟨Nat.le_of_ble_eq_true rfl, Nat.le_of_ble_eq_true rfl⟩) hS (fun q _ h => hFc q h) hFc (fun z9 _ t H1 locs ht hvm hw hB hz1 hk1 hS => ?_)
          subst hw
          obtain ⟨hP1, hK1, hD1⟩ := hB
          rw [ht] at hP1
          obtain ⟨hP, hD⟩ := va_join (wr := []) (w1 := vM cy a r1.2) hP hD [0, 1, 2, 3, 4, 5, 6, 7, 8, 9, 10, 11, 12, 13, 14, 15, 16, 17, 18, 19, 20, 21, 22, 23, 24, 25, 26, 27, 28, 29, 30, 31, 32, 33, 34, 35, 36, 37, 38, 39, 40, 41, 42, 43, 44, 45, 46, 47, 48, 49, 50, 51, 52, 53, 54, 55, 56, 57] [] rfl rfl (by decide) (by decide) hk1 hFc hP1 hD1
          generalize H1 = H at hP hS ⊢
          have hP : va_P (dC, dI) nCl (vM cy a r1.2) H := hP
          have hD : va_D A (vM cy a r1.2) := hD
          refine lv_istore_n (lv' := [(2, .int r1.1), (0, .ref (a 0)), (1, .int (L 1))]) hx hb dX12_wholeOf_61 rfl hl (by decide) rfl (fun ls hl => ?_)
          refine lv_aload_n hx hb dX12_wholeOf_62 rfl (lv_at hl 1 rfl) ?_
          refine va_get (D := (dC, dI)) (ci := 11) (v := .int (r1.2.1 56)) (C := RX12) (T := TX12) (N := 121) hx hb hts in_x_wholeOf hown hK hP 0 rfl rfl 56 (by decide) (hts _ (List.mem_cons_of_mem _ (List.mem_append_left _ (List.mem_append_left _ (List.mem_of_getElem? (i := 9) rfl))))) (fun _ h9 => h9) rfl dX12_wholeOf_63 ?_
          refine lv_if_le (tgt := 71) hx hb dX12_wholeOf_66 (by decide) (fun c2 => ?_) (fun c2 => ?_)
          · rw [if_pos c2] at h
            exact ih.2.2.2.1 (upd L 2 r1.1) r1.2 r h H locs ls hP hD hS (lv_sub hl [1, 2, 0] rfl)
          · rw [if_neg c2] at h
            refine lv_iconst (v := 0) hx hb dX12_wholeOf_69 (by decide) ?_
            cases h
            exact W.iret (v := 0) hx hb hr (fun t ht hW => ⟨⟨0, (), rfl, rfl, by rw [ht]; exact hP, va_K.moved hW.alike hK, hD⟩, hS.F ht⟩) hS.2.2 dX12_wholeOf_70
      · intro L σ r h H locs ls hP hD hS hl
        rw [x_wholeOf] at h
        refine lv_aload_n hx hb dX12_wholeOf_71 rfl (lv_at hl 0 rfl) ?_
        refine va_get (D := (dC, dI)) (ci := 11) (v := .ref (a 28)) (C := RX12) (T := TX12) (N := 121) hx hb hts in_x_wholeOf hown hK hP 0 rfl rfl 53 (by decide) (hts _ (List.mem_cons_of_mem _ (List.mem_append_left _ (List.mem_append_left _ (List.mem_of_getElem? (i := 10) rfl))))) (fun _ h9 => h9) rfl dX12_wholeOf_72 ?_
        refine lv_iload_n hx hb dX12_wholeOf_75 rfl (lv_at hl 2 rfl) ?_
        refine lv_iconst (v := 4) hx hb dX12_wholeOf_76 (by decide) ?_
        refine lv_iadd hx hb dX12_wholeOf_77 ?_
        refine lv_aload_n hx hb dX12_wholeOf_78 rfl (lv_at hl 0 rfl) ?_
        refine va_get (D := (dC, dI)) (ci := 11) (v := .int (σ.1 86)) (C := RX12) (T := TX12) (N := 121) hx hb hts in_x_wholeOf hown hK hP 0 rfl rfl 86 (by decide) (hts _ (List.mem_cons_of_mem _ (List.mem_append_left _ (List.mem_append_left _ (List.mem_of_getElem? (i := 0) rfl))))) (fun _ h9 => h9) rfl dX12_wholeOf_79 ?_
        refine lv_if_ne (tgt := 89) hx hb dX12_wholeOf_82 (by decide) (fun c1 => ?_) (fun c1 => ?_)
        · rw [if_neg c1] at h
          exact ih.2.2.2.2.1 (upd L 100 ((((L 2)) + 4))) σ r h H locs ls hP hD hS (lv_sub hl [0, 1, 2] rfl)
        · rw [if_pos c1] at h
          refine lv_iconst (v := 0) hx hb dX12_wholeOf_85 (by decide) ?_
          refine lv_goto (tgt := 90) hx hb dX12_wholeOf_86 (by decide) ?_
          exact ih.2.2.2.2.2.1 (upd (upd L 100 0) 101 ((((L 2)) + 4))) σ r h H locs ls hP hD hS (lv_sub hl [0, 1, 2] rfl)
      · intro L σ r h H locs ls hP hD hS hl
        rw [x_wholeOf] at h
        refine lv_iload_n hx hb dX12_wholeOf_89 rfl (lv_at hl 1 rfl) ?_
        exact ih.2.2.2.2.2.1 (upd (upd L 100 ((L 1))) 101 ((L 100))) σ r h H locs ls hP hD hS (lv_sub hl [0, 1, 2] rfl)
      · intro L σ r h H locs ls hP hD hS hl
        rw [x_wholeOf] at h
        by_cases q1 : ¬ (((L 101)) < 0 ∨ 1740000 ≤ ((L 101)).toNatClampNeg)
        · rw [if_pos q1] at h
          refine va_iast hx hb hK hP hD hS 28 1 rfl rfl (nb_inp q1) dX12_wholeOf_90 (fun H locs hP hD hS => ?_)
          have hP : va_P (dC, dI) nCl (vM cy a (σ.1, σ.2.1, updG σ.2.2 28 (upd (σ.2.2 28) ((L 101)).toNatClampNeg ((L 100))))) H := hP
          have hD : va_D A (vM cy a (σ.1, σ.2.1, updG σ.2.2 28 (upd (σ.2.2 28) ((L 101)).toNatClampNeg ((L 100))))) := hD
          exact ih.2.2.2.2.2.2.1 L (σ.1, σ.2.1, updG σ.2.2 28 (upd (σ.2.2 28) ((L 101)).toNatClampNeg ((L 100)))) r h H locs ls hP hD hS (lv_sub hl [0, 1, 2] rfl)
        · rw [if_neg q1] at h; cases h
      · intro L σ r h H locs ls hP hD hS hl
        rw [x_wholeOf] at h
        refine lv_iconst (v := 0) hx hb dX12_wholeOf_91 (by decide) ?_
        refine lv_istore_n (lv' := [(3, .int 0), (0, .ref (a 0)), (1, .int (L 1)), (2, .int (L 2))]) hx hb dX12_wholeOf_92 rfl hl (by decide) rfl (fun ls hl => ?_)
        exact ih.2.2.2.2.2.2.2.1 (upd L 3 0) σ r h H locs ls hP hD hS (lv_sub hl [1, 2, 3, 0] rfl)
      · intro L σ r h H locs ls hP hD hS hl
        rw [x_wholeOf] at h
        refine lv_iload_n hx hb dX12_wholeOf_93 rfl (lv_at hl 3 rfl) ?_
        refine lv_aload_n hx hb dX12_wholeOf_94 rfl (lv_at hl 0 rfl) ?_
        refine va_get (D := (dC, dI)) (ci := 11) (v := .int (σ.1 86)) (C := RX12) (T := TX12) (N := 121) hx hb hts in_x_wholeOf hown hK hP 0 rfl rfl 86 (by decide) (hts _ (List.mem_cons_of_mem _ (List.mem_append_left _ (List.mem_append_left _ (List.mem_of_getElem? (i := 0) rfl))))) (fun _ h9 => h9) rfl dX12_wholeOf_95 ?_
        refine lv_icmp_ge (tgt := 123) hx hb dX12_wholeOf_98 (by decide) (fun c1 => ?_) (fun c1 => ?_)
        · rw [if_pos c1] at h
          exact ih.2.2.2.2.2.2.2.2.2.1 L σ r h H locs ls hP hD hS (lv_sub hl [0, 1, 2, 3] rfl)
        · rw [if_neg c1] at h
          refine lv_aload_n hx hb dX12_wholeOf_101 rfl (lv_at hl 0 rfl) ?_
          refine va_get (D := (dC, dI)) (ci := 11) (v := .ref (a 28)) (C := RX12) (T := TX12) (N := 121) hx hb hts in_x_wholeOf hown hK hP 0 rfl rfl 53 (by decide) (hts _ (List.mem_cons_of_mem _ (List.mem_append_left _ (List.mem_append_left _ (List.mem_of_getElem? (i := 10) rfl))))) (fun _ h9 => h9) rfl dX12_wholeOf_102 ?_
          refine lv_iload_n hx hb dX12_wholeOf_105 rfl (lv_at hl 2 rfl) ?_
          refine lv_iconst (v := 5) hx hb dX12_wholeOf_106 (by decide) ?_
          refine lv_iadd hx hb dX12_wholeOf_107 ?_
          refine lv_iload_n hx hb dX12_wholeOf_108 rfl (lv_at hl 3 rfl) ?_
          refine lv_iadd hx hb dX12_wholeOf_109 ?_
          refine lv_aload_n hx hb dX12_wholeOf_110 rfl (lv_at hl 0 rfl) ?_
          refine va_get (D := (dC, dI)) (ci := 11) (v := .ref (a 44)) (C := RX12) (T := TX12) (N := 121) hx hb hts in_x_wholeOf hown hK hP 0 rfl rfl 83 (by decide) (hts _ (List.mem_cons_of_mem _ (List.mem_append_left _ (List.mem_append_left _ (List.mem_of_getElem? (i := 1) rfl))))) (fun _ h9 => h9) rfl dX12_wholeOf_111 ?_
          refine lv_iload_n hx hb dX12_wholeOf_114 rfl (lv_at hl 3 rfl) ?_
          by_cases q2 : ¬ (((L 3)) < 0 ∨ 300 ≤ ((L 3)).toNatClampNeg)
          · rw [if_pos q2] at h
            refine va_iald hx hb hK hP 44 1 rfl rfl (nb_inp q2) dX12_wholeOf_115 ?_
            by_cases q3 : ¬ (((((((L 2)) + 5)) + ((L 3)))) < 0 ∨ 1740000 ≤ ((((((L 2)) + 5)) + ((L 3)))).toNatClampNeg)
            · rw [if_pos q3] at h
              refine va_iast hx hb hK hP hD hS 28 1 rfl rfl (nb_inp q3) dX12_wholeOf_116 (fun H locs hP hD hS => ?_)
              have hP : va_P (dC, dI) nCl (vM cy a (σ.1, σ.2.1, updG σ.2.2 28 (upd (σ.2.2 28) ((((((L 2)) + 5)) + ((L 3)))).toNatClampNeg ((σ.2.2 44 ((L 3)).toNatClampNeg))))) H := hP
              have hD : va_D A (vM cy a (σ.1, σ.2.1, updG σ.2.2 28 (upd (σ.2.2 28) ((((((L 2)) + 5)) + ((L 3)))).toNatClampNeg ((σ.2.2 44 ((L 3)).toNatClampNeg))))) := hD
              exact ih.2.2.2.2.2.2.2.2.1 L (σ.1, σ.2.1, updG σ.2.2 28 (upd (σ.2.2 28) ((((((L 2)) + 5)) + ((L 3)))).toNatClampNeg ((σ.2.2 44 ((L 3)).toNatClampNeg)))) r h H locs ls hP hD hS (lv_sub hl [0, 1, 2, 3] rfl)
            · rw [if_neg q3] at h; cases h
          · rw [if_neg q2] at h; cases h
      · intro L σ r h H locs ls hP hD hS hl
        rw [x_wholeOf] at h
        refine lv_iinc (v := ((L 3)) + 1) (lv' := [(3, .int (((L 3)) + 1)), (0, .ref (a 0)), (1, .int (L 1)), (2, .int (L 2))]) hx hb dX12_wholeOf_117 hl (k := 3) rfl rfl (by decide) rfl (fun ls hl => ?_)
        refine lv_goto (tgt := 93) hx hb dX12_wholeOf_120 (by decide) ?_
        exact ih.2.2.2.2.2.2.2.1 (upd L 3 (((L 3)) + 1)) σ r h H locs ls hP hD hS (lv_sub hl [1, 2, 3, 0] rfl)
      · intro L σ r h H locs ls hP hD hS hl
        rw [x_wholeOf] at h
        refine lv_aload_n hx hb dX12_wholeOf_123 rfl (lv_at hl 0 rfl) ?_
        refine va_get (D := (dC, dI)) (ci := 11) (v := .ref (a 28)) (C := RX12) (T := TX12) (N := 121) hx hb hts in_x_wholeOf hown hK hP 0 rfl rfl 53 (by decide) (hts _ (List.mem_cons_of_mem _ (List.mem_append_left _ (List.mem_append_left _ (List.mem_of_getElem? (i := 10) rfl))))) (fun _ h9 => h9) rfl dX12_wholeOf_124 ?_
        refine lv_iload_n hx hb dX12_wholeOf_127 rfl (lv_at hl 2 rfl) ?_
        refine lv_iconst (v := 2) hx hb dX12_wholeOf_128 (by decide) ?_
        refine lv_iadd hx hb dX12_wholeOf_129 ?_
        refine lv_iconst (v := 1) hx hb dX12_wholeOf_130 (by decide) ?_
        refine lv_aload_n hx hb dX12_wholeOf_131 rfl (lv_at hl 0 rfl) ?_
        refine va_get (D := (dC, dI)) (ci := 11) (v := .int (σ.1 86)) (C := RX12) (T := TX12) (N := 121) hx hb hts in_x_wholeOf hown hK hP 0 rfl rfl 86 (by decide) (hts _ (List.mem_cons_of_mem _ (List.mem_append_left _ (List.mem_append_left _ (List.mem_of_getElem? (i := 0) rfl))))) (fun _ h9 => h9) rfl dX12_wholeOf_132 ?_
        refine lv_iconst (v := 1) hx hb dX12_wholeOf_135 (by decide) ?_
        refine lv_iadd hx hb dX12_wholeOf_136 ?_
        refine lv_iconst (v := 2) hx hb dX12_wholeOf_137 (by decide) ?_
        by_cases q1 : (2 : Int32) = 0
        · rw [if_pos q1] at h; cases h
        · rw [if_neg q1] at h
          refine lv_idiv hx hb dX12_wholeOf_138 q1 ?_
          refine lv_iadd hx hb dX12_wholeOf_139 ?_
          by_cases q2 : ¬ (((((L 2)) + 2)) < 0 ∨ 1740000 ≤ ((((L 2)) + 2)).toNatClampNeg)
          · rw [if_pos q2] at h
            refine va_iast hx hb hK hP hD hS 28 1 rfl rfl (nb_inp q2) dX12_wholeOf_140 (fun H locs hP hD hS => ?_)
            have hP : va_P (dC, dI) nCl (vM cy a (σ.1, σ.2.1, updG σ.2.2 28 (upd (σ.2.2 28) ((((L 2)) + 2)).toNatClampNeg ((1 + ((((((σ.1 86)) + 1)) / 2))))))) H := hP
            have hD : va_D A (vM cy a (σ.1, σ.2.1, updG σ.2.2 28 (upd (σ.2.2 28) ((((L 2)) + 2)).toNatClampNeg ((1 + ((((((σ.1 86)) + 1)) / 2))))))) := hD
            exact ih.2.2.2.2.2.2.2.2.2.2 L (σ.1, σ.2.1, updG σ.2.2 28 (upd (σ.2.2 28) ((((L 2)) + 2)).toNatClampNeg ((1 + ((((((σ.1 86)) + 1)) / 2)))))) r h H locs ls hP hD hS (lv_sub hl [0, 1, 2, 3] rfl)
          · rw [if_neg q2] at h; cases h
      · intro L σ r h H locs ls hP hD hS hl
        rw [x_wholeOf] at h
        refine lv_iload_n hx hb dX12_wholeOf_141 rfl (lv_at hl 2 rfl) ?_
        cases h
        exact W.iret (v := (L 2)) hx hb hr (fun t ht hW => ⟨⟨(L 2), (), rfl, rfl, by rw [ht]; exact hP, va_K.moved hW.alike hK, hD⟩, hS.F ht⟩) hS.2.2 dX12_wholeOf_142
  exact (blk k0).1 L0 σ0 r0 h0 s.heap [] ls hP hD hS hl
/-! put -/
def x_put : Nat → Nat → (Nat → Int32) → MS → Option (Int32 × MS)
  | 0, _, _, _ => none
  | k + 1, 0, L, σ => if ¬ (((σ.1 93)) < 0 ∨ 12000 ≤ ((σ.1 93)).toNatClampNeg) then (x_put k 1 L (σ.1, σ.2.1, updG σ.2.2 48 (upd (σ.2.2 48) ((σ.1 93)).toNatClampNeg ((L 1))))) else none
  | k + 1, 1, L, σ => some (0, (upd σ.1 93 ((((σ.1 93)) + 1)), σ.2.1, σ.2.2))
  | _ + 1, _ + 2, _, _ => none
def o_x_put : List Cond := [.fieldLink RX12 527 "SetHouseModel" "text" "[I", .fieldLink RX12 530 "SetHouseModel" "printed" "I"]
theorem o_x_put_good : o_x_put.all goodWord = true := by decide +kernel
def p_x_put : List Cond := o_x_put ++ []
theorem p_x_put_good : p_x_put.all goodWord = true := nb_all2 o_x_put_good rfl
def w_x_put : List Cond := .code yX12_put cX12_put 2 none :: (p_x_put ++ fM)
theorem w_x_put_good : w_x_put.all goodWord = true := nb_allc (by decide +kernel) (nb_all2 p_x_put_good fM_good)
theorem in_x_put : ∀ w ∈ wsX120, w ∈ w_x_put := fun _ h => List.mem_cons_of_mem _ (List.mem_append_right _ h)
set_option maxHeartbeats 40000000 in
set_option maxRecDepth 100000 in
theorem c_x_put (l : Launch) (dC : Nat → ClassId) (dI : Nat → Nat → Nat) (cy : Nat → ClassId) (a : Nat → Nat) (k0 : Nat) (L0 : Nat → Int32) (σ0 : MS) (r0 : Int32 × MS) (h0 : x_put k0 0 L0 σ0 = some r0) (sz : Nat) : Met l yX12_put w_x_put ({ frames := 0, cells := 0, slots := 0, locals := 0 }) (va_Pc [.ref (a 0), .int (L0 1)] (nIn (dC, dI) cy sz (vM cy a σ0))) (va_Qv (fun _ : Unit => True) (fun _ t => nOut (dC, dI) cy (va_A (vM cy a σ0) sz) (vM cy a r0.2) t) (va_A (vM cy a σ0) sz)) 0 0 (va_A (vM cy a σ0) sz) := by
  refine Met.ofW (cc := cX12_put) (maxL := 2) (ret := none) (by decide) rfl ?_
  intro p e s m args below meth c s₁ B hml hv
  obtain ⟨rfl, hsz, hP, hK, hD0, hG⟩ := hv
  have hx := B.exec
  have hb := B.bytes
  have hr := B.returns
  have hts := atoms_spec (ws := w_x_put) B.pre
  have hown : s.vm.findClass RX12 = some m.cls := findClass_of_methodNamed B.named
  have hlocks := B.notSynchronized
  subst hsz
  have hD := hD0.self (sz := s.heap.size)
  generalize hAe : va_A (vM cy a σ0) s.heap.size = A at hD ⊢
  have hA : ∀ q : Nat, s.heap.size ≤ q → A q := fun q h => by rw [← hAe]; exact Or.inr h
  have hS : va_S A s.heap s.heap [] := va_S.rf
  have hl := lv_entry ([.ref (a 0), .int (L0 1)]) (n := 2) (Nat.le_of_ble_eq_true rfl)
  rw [lg_entry_eq]
  generalize (lg_sl ([.ref (a 0), .int (L0 1)]) ++ List.replicate (2 - (lg_sl ([.ref (a 0), .int (L0 1)])).length) Slot.unset).toArray = ls at hl ⊢
  have hl : lv_has ls 2 [(0, .ref (a 0)), (1, .int (L0 1))] := hl
  have blk : ∀ k : Nat, (∀ (L : Nat → Int32) (σ : MS) (r : Int32 × MS), x_put k 0 L σ = some r → ∀ (H : Heap) (locs : List Loc) (ls : Array Slot), va_P (dC, dI) nCl (vM cy a σ) H → va_D A (vM cy a σ) → va_S A s.heap H locs → lv_has ls 2 [(0, .ref (a 0)), (1, .int (L 1))] → W p l e (headSpec w_x_put ({ frames := 0, cells := 0, slots := 0, locals := 0 })).room s m #[.ref (a 0), .int (L0 1)] below meth c H locs 0 0 (MQ below (va_Qv (fun _ : Unit => True) (fun _ t => nOut (dC, dI) cy A (vM cy a r.2) t) A) #[.ref (a 0), .int (L0 1)] s 0 0 A) (F0 m 0 ls [])) ∧ (∀ (L : Nat → Int32) (σ : MS) (r : Int32 × MS), x_put k 1 L σ = some r → ∀ (H : Heap) (locs : List Loc) (ls : Array Slot), va_P (dC, dI) nCl (vM cy a σ) H → va_D A (vM cy a σ) → va_S A s.heap H locs → lv_has ls 2 [(0, .ref (a 0)), (1, .int (L 1))] → W p l e (headSpec w_x_put ({ frames := 0, cells := 0, slots := 0, locals := 0 })).room s m #[.ref (a 0), .int (L0 1)] below meth c H locs 0 0 (MQ below (va_Qv (fun _ : Unit => True) (fun _ t => nOut (dC, dI) cy A (vM cy a r.2) t) A) #[.ref (a 0), .int (L0 1)] s 0 0 A) (F0 m 10 ls [])) := by
    intro k
    induction k with
    | zero => exact ⟨fun L σ r h => (by cases h), fun L σ r h => (by cases h)⟩
    | succ k ih =>
      refine ⟨?_, ?_⟩
      · intro L σ r h H locs ls hP hD hS hl
        rw [x_put] at h
        refine lv_aload_n hx hb dX12_put_0 rfl (lv_at hl 0 rfl) ?_
        refine va_get (D := (dC, dI)) (ci := 11) (v := .ref (a 48)) (C := RX12) (T := TX12) (N := 121) hx hb hts in_x_put hown hK hP 0 rfl rfl 92 (by decide) (hts _ (List.mem_cons_of_mem _ (List.mem_append_left _ (List.mem_append_left _ (List.mem_of_getElem? (i := 0) rfl))))) (fun _ h9 => h9) rfl dX12_put_1 ?_
        refine lv_aload_n hx hb dX12_put_4 rfl (lv_at hl 0 rfl) ?_
        refine va_get (D := (dC, dI)) (ci := 11) (v := .int (σ.1 93)) (C := RX12) (T := TX12) (N := 121) hx hb hts in_x_put hown hK hP 0 rfl rfl 93 (by decide) (hts _ (List.mem_cons_of_mem _ (List.mem_append_left _ (List.mem_append_left _ (List.mem_of_getElem? (i := 1) rfl))))) (fun _ h9 => h9) rfl dX12_put_5 ?_
        refine lv_iload_n hx hb dX12_put_8 rfl (lv_at hl 1 rfl) ?_
        by_cases q1 : ¬ (((σ.1 93)) < 0 ∨ 12000 ≤ ((σ.1 93)).toNatClampNeg)
        · rw [if_pos q1] at h
          refine va_iast hx hb hK hP hD hS 48 1 rfl rfl (nb_inp q1) dX12_put_9 (fun H locs hP hD hS => ?_)
          have hP : va_P (dC, dI) nCl (vM cy a (σ.1, σ.2.1, updG σ.2.2 48 (upd (σ.2.2 48) ((σ.1 93)).toNatClampNeg ((L 1))))) H := hP
          have hD : va_D A (vM cy a (σ.1, σ.2.1, updG σ.2.2 48 (upd (σ.2.2 48) ((σ.1 93)).toNatClampNeg ((L 1))))) := hD
          exact ih.2 L (σ.1, σ.2.1, updG σ.2.2 48 (upd (σ.2.2 48) ((σ.1 93)).toNatClampNeg ((L 1)))) r h H locs ls hP hD hS (lv_sub hl [0, 1] rfl)
        · rw [if_neg q1] at h; cases h
      · intro L σ r h H locs ls hP hD hS hl
        rw [x_put] at h
        refine lv_aload_n hx hb dX12_put_10 rfl (lv_at hl 0 rfl) ?_
        refine lv_dup hx hb dX12_put_11 rfl ?_
        refine va_get (D := (dC, dI)) (ci := 11) (v := .int (σ.1 93)) (C := RX12) (T := TX12) (N := 121) hx hb hts in_x_put hown hK hP 0 rfl rfl 93 (by decide) (hts _ (List.mem_cons_of_mem _ (List.mem_append_left _ (List.mem_append_left _ (List.mem_of_getElem? (i := 1) rfl))))) (fun _ h9 => h9) rfl dX12_put_12 ?_
        refine lv_iconst (v := 1) hx hb dX12_put_15 (by decide) ?_
        refine lv_iadd hx hb dX12_put_16 ?_
        refine va_put (D := (dC, dI)) (ci := 11) (v := .int (((σ.1 93)) + 1)) (ty := .int) (C := RX12) (T := TX12) (N := 121) hx hb hts in_x_put tyX12 tyX12_ok nmX12 hown hK hP hD hS 0 rfl rfl 93 (by decide) (hts _ (List.mem_cons_of_mem _ (List.mem_append_left _ (List.mem_append_left _ (List.mem_of_getElem? (i := 1) rfl))))) (fun _ h9 => h9) rfl (by decide +kernel) rfl rfl (Nat.le_of_ble_eq_true rfl) dX12_put_17 (fun H locs hP hD hS => ?_)
        have hP : va_P (dC, dI) nCl (vM cy a (upd σ.1 93 ((((σ.1 93)) + 1)), σ.2.1, σ.2.2)) H := hP
        have hD : va_D A (vM cy a (upd σ.1 93 ((((σ.1 93)) + 1)), σ.2.1, σ.2.2)) := hD
        cases h
        exact W.vret hx hb hr (fun t ht hW => ⟨⟨(), rfl, trivial, by rw [ht]; exact hP, va_K.moved hW.alike hK, hD⟩, hS.F ht⟩) hS.2.2 dX12_put_20
  exact (blk k0).1 L0 σ0 r0 h0 s.heap [] ls hP hD hS hl
/-! putWord -/
def x_putWord : Nat → Nat → (Nat → Int32) → MS → Option (Int32 × MS)
  | 0, _, _, _ => none
  | k + 1, 0, L, σ => x_putWord k 1 (upd (upd L 2 0) 3 0) σ
  | k + 1, 1, L, σ => if ((L 1)) ≤ ((L 3)) then (x_putWord k 4 L σ) else (if ¬ (((L 2)) < 0 ∨ 37 ≤ ((L 2)).toNatClampNeg) then (if ((σ.2.2 2 ((L 2)).toNatClampNeg)) = 32 then (x_putWord k 3 (upd (upd L 100 1) 101 ((L 3))) σ) else (x_putWord k 2 (upd L 100 ((L 3))) σ)) else none)
  | k + 1, 2, L, σ => x_putWord k 3 (upd (upd L 100 0) 101 ((L 100))) σ
  | k + 1, 3, L, σ => x_putWord k 1 (upd (upd L 3 ((((L 101)) + ((L 100))))) 2 (((L 2)) + 1)) σ
  | k + 1, 4, L, σ => if ¬ (((L 2)) < 0 ∨ 37 ≤ ((L 2)).toNatClampNeg) then (if ((σ.2.2 2 ((L 2)).toNatClampNeg)) = 32 then (x_putWord k 5 L σ) else (if ¬ (((L 2)) < 0 ∨ 37 ≤ ((L 2)).toNatClampNeg) then (ob (x_put k 0 (upd (fun _ => 0) 1 ((σ.2.2 2 ((L 2)).toNatClampNeg))) σ) (fun r4 => x_putWord k 4 (upd L 2 (((L 2)) + 1)) r4.2)) else none)) else none
  | k + 1, 5, L, σ => some (0, σ)
  | _ + 1, _ + 6, _, _ => none
def o_x_putWord : List Cond := [.fieldLink RX12 533 "SetHouseModel" "types" "[I", .methodLink RX12 536 yX12_put, .instanceMethod yX12_put, .selects RX12 yX12_put yX12_put, .initialized RX12]
theorem o_x_putWord_good : o_x_putWord.all goodWord = true := by decide +kernel
def p_x_putWord : List Cond := o_x_putWord ++ ((.code yX12_put cX12_put 2 none :: p_x_put) ++ [])
theorem p_x_putWord_good : p_x_putWord.all goodWord = true := nb_all2 o_x_putWord_good (nb_all2 (nb_allc (by decide +kernel) p_x_put_good) rfl)
def w_x_putWord : List Cond := .code yX12_putWord cX12_putWord 4 none :: (p_x_putWord ++ fM)
theorem w_x_putWord_good : w_x_putWord.all goodWord = true := nb_allc (by decide +kernel) (nb_all2 p_x_putWord_good fM_good)
theorem in_x_putWord : ∀ w ∈ wsX120, w ∈ w_x_putWord := fun _ h => List.mem_cons_of_mem _ (List.mem_append_right _ h)
theorem gg_x_putWord_put : GoodIn w_x_putWord w_x_put := goodIn_sub (fun w h => (List.mem_cons.mp h).elim (fun e => (List.mem_cons_of_mem _ (List.mem_append_left _ (List.mem_append_right _ (List.mem_append_left _ (List.mem_cons.mpr (Or.inl e))))))) (fun h => (List.mem_append.mp h).elim (fun h => (List.mem_cons_of_mem _ (List.mem_append_left _ (List.mem_append_right _ (List.mem_append_left _ (List.mem_cons_of_mem _ h)))))) (fun h => List.mem_cons_of_mem _ (List.mem_append_right _ h)))) w_x_put_good
theorem g_x_putWord_put_536 : GoodIn w_x_putWord (wsV RX12 536 RX12 yX12_put w_x_put) := goodIn_app (nb_g4 (List.mem_cons_of_mem _ (List.mem_append_left _ (List.mem_append_left _ (List.mem_of_getElem? (i := 1) rfl)))) (List.mem_cons_of_mem _ (List.mem_append_left _ (List.mem_append_left _ (List.mem_of_getElem? (i := 2) rfl)))) (List.mem_cons_of_mem _ (List.mem_append_left _ (List.mem_append_left _ (List.mem_of_getElem? (i := 3) rfl)))) (List.mem_cons_of_mem _ (List.mem_append_left _ (List.mem_append_left _ (List.mem_of_getElem? (i := 4) rfl)))) (by decide +kernel)) gg_x_putWord_put
set_option maxHeartbeats 40000000 in
set_option maxRecDepth 100000 in
theorem c_x_putWord (l : Launch) (dC : Nat → ClassId) (dI : Nat → Nat → Nat) (cy : Nat → ClassId) (a : Nat → Nat) (k0 : Nat) (L0 : Nat → Int32) (σ0 : MS) (r0 : Int32 × MS) (h0 : x_putWord k0 0 L0 σ0 = some r0) (sz : Nat) : Met l yX12_putWord w_x_putWord ({ frames := 1, cells := 0, slots := 0, locals := 21 }) (va_Pc [.ref (a 0), .int (L0 1)] (nIn (dC, dI) cy sz (vM cy a σ0))) (va_Qv (fun _ : Unit => True) (fun _ t => nOut (dC, dI) cy (va_A (vM cy a σ0) sz) (vM cy a r0.2) t) (va_A (vM cy a σ0) sz)) 0 0 (va_A (vM cy a σ0) sz) := by
  refine Met.ofW (cc := cX12_putWord) (maxL := 4) (ret := none) (by decide) rfl ?_
  intro p e s m args below meth c s₁ B hml hv
  obtain ⟨rfl, hsz, hP, hK, hD0, hG⟩ := hv
  have hx := B.exec
  have hb := B.bytes
  have hr := B.returns
  have hts := atoms_spec (ws := w_x_putWord) B.pre
  have hown : s.vm.findClass RX12 = some m.cls := findClass_of_methodNamed B.named
  have hlocks := B.notSynchronized
  subst hsz
  have hD := hD0.self (sz := s.heap.size)
  generalize hAe : va_A (vM cy a σ0) s.heap.size = A at hD ⊢
  have hA : ∀ q : Nat, s.heap.size ≤ q → A q := fun q h => by rw [← hAe]; exact Or.inr h
  have hS : va_S A s.heap s.heap [] := va_S.rf
  have hl := lv_entry ([.ref (a 0), .int (L0 1)]) (n := 4) (Nat.le_of_ble_eq_true rfl)
  rw [lg_entry_eq]
  generalize (lg_sl ([.ref (a 0), .int (L0 1)]) ++ List.replicate (4 - (lg_sl ([.ref (a 0), .int (L0 1)])).length) Slot.unset).toArray = ls at hl ⊢
  have hl : lv_has ls 4 [(0, .ref (a 0)), (1, .int (L0 1))] := hl
  have blk : ∀ k : Nat, (∀ (L : Nat → Int32) (σ : MS) (r : Int32 × MS), x_putWord k 0 L σ = some r → ∀ (H : Heap) (locs : List Loc) (ls : Array Slot), va_P (dC, dI) nCl (vM cy a σ) H → va_D A (vM cy a σ) → va_S A s.heap H locs → lv_has ls 4 [(0, .ref (a 0)), (1, .int (L 1))] → W p l e (headSpec w_x_putWord ({ frames := 1, cells := 0, slots := 0, locals := 21 })).room s m #[.ref (a 0), .int (L0 1)] below meth c H locs 0 0 (MQ below (va_Qv (fun _ : Unit => True) (fun _ t => nOut (dC, dI) cy A (vM cy a r.2) t) A) #[.ref (a 0), .int (L0 1)] s 0 0 A) (F0 m 0 ls [])) ∧ (∀ (L : Nat → Int32) (σ : MS) (r : Int32 × MS), x_putWord k 1 L σ = some r → ∀ (H : Heap) (locs : List Loc) (ls : Array Slot), va_P (dC, dI) nCl (vM cy a σ) H → va_D A (vM cy a σ) → va_S A s.heap H locs → lv_has ls 4 [(0, .ref (a 0)), (1, .int (L 1)), (2, .int (L 2)), (3, .int (L 3))] → W p l e (headSpec w_x_putWord ({ frames := 1, cells := 0, slots := 0, locals := 21 })).room s m #[.ref (a 0), .int (L0 1)] below meth c H locs 0 0 (MQ below (va_Qv (fun _ : Unit => True) (fun _ t => nOut (dC, dI) cy A (vM cy a r.2) t) A) #[.ref (a 0), .int (L0 1)] s 0 0 A) (F0 m 4 ls [])) ∧ (∀ (L : Nat → Int32) (σ : MS) (r : Int32 × MS), x_putWord k 2 L σ = some r → ∀ (H : Heap) (locs : List Loc) (ls : Array Slot), va_P (dC, dI) nCl (vM cy a σ) H → va_D A (vM cy a σ) → va_S A s.heap H locs → lv_has ls 4 [(0, .ref (a 0)), (1, .int (L 1)), (2, .int (L 2)), (3, .int (L 3))] → W p l e (headSpec w_x_putWord ({ frames := 1, cells := 0, slots := 0, locals := 21 })).room s m #[.ref (a 0), .int (L0 1)] below meth c H locs 0 0 (MQ below (va_Qv (fun _ : Unit => True) (fun _ t => nOut (dC, dI) cy A (vM cy a r.2) t) A) #[.ref (a 0), .int (L0 1)] s 0 0 A) (F0 m 25 ls [.int (L 100)])) ∧ (∀ (L : Nat → Int32) (σ : MS) (r : Int32 × MS), x_putWord k 3 L σ = some r → ∀ (H : Heap) (locs : List Loc) (ls : Array Slot), va_P (dC, dI) nCl (vM cy a σ) H → va_D A (vM cy a σ) → va_S A s.heap H locs → lv_has ls 4 [(0, .ref (a 0)), (1, .int (L 1)), (2, .int (L 2)), (3, .int (L 3))] → W p l e (headSpec w_x_putWord ({ frames := 1, cells := 0, slots := 0, locals := 21 })).room s m #[.ref (a 0), .int (L0 1)] below meth c H locs 0 0 (MQ below (va_Qv (fun _ : Unit => True) (fun _ t => nOut (dC, dI) cy A (vM cy a r.2) t) A) #[.ref (a 0), .int (L0 1)] s 0 0 A) (F0 m 26 ls [.int (L 100), .int (L 101)])) ∧ (∀ (L : Nat → Int32) (σ : MS) (r : Int32 × MS), x_putWord k 4 L σ = some r → ∀ (H : Heap) (locs : List Loc) (ls : Array Slot), va_P (dC, dI) nCl (vM cy a σ) H → va_D A (vM cy a σ) → va_S A s.heap H locs → lv_has ls 4 [(0, .ref (a 0)), (1, .int (L 1)), (2, .int (L 2)), (3, .int (L 3))] → W p l e (headSpec w_x_putWord ({ frames := 1, cells := 0, slots := 0, locals := 21 })).room s m #[.ref (a 0), .int (L0 1)] below meth c H locs 0 0 (MQ below (va_Qv (fun _ : Unit => True) (fun _ t => nOut (dC, dI) cy A (vM cy a r.2) t) A) #[.ref (a 0), .int (L0 1)] s 0 0 A) (F0 m 34 ls [])) ∧ (∀ (L : Nat → Int32) (σ : MS) (r : Int32 × MS), x_putWord k 5 L σ = some r → ∀ (H : Heap) (locs : List Loc) (ls : Array Slot), va_P (dC, dI) nCl (vM cy a σ) H → va_D A (vM cy a σ) → va_S A s.heap H locs → lv_has ls 4 [(0, .ref (a 0)), (1, .int (L 1)), (2, .int (L 2)), (3, .int (L 3))] → W p l e (headSpec w_x_putWord ({ frames := 1, cells := 0, slots := 0, locals := 21 })).room s m #[.ref (a 0), .int (L0 1)] below meth c H locs 0 0 (MQ below (va_Qv (fun _ : Unit => True) (fun _ t => nOut (dC, dI) cy A (vM cy a r.2) t) A) #[.ref (a 0), .int (L0 1)] s 0 0 A) (F0 m 61 ls [])) := by
    intro k
    induction k with
    | zero => exact ⟨fun L σ r h => (by cases h), fun L σ r h => (by cases h), fun L σ r h => (by cases h), fun L σ r h => (by cases h), fun L σ r h => (by cases h), fun L σ r h => (by cases h)⟩
    | succ k ih =>
      refine ⟨?_, ?_, ?_, ?_, ?_, ?_⟩
      · intro L σ r h H locs ls hP hD hS hl
        rw [x_putWord] at h
        refine lv_iconst (v := 0) hx hb dX12_putWord_0 (by decide) ?_
        refine lv_istore_n (lv' := [(2, .int 0), (0, .ref (a 0)), (1, .int (L 1))]) hx hb dX12_putWord_1 rfl hl (by decide) rfl (fun ls hl => ?_)
        refine lv_iconst (v := 0) hx hb dX12_putWord_2 (by decide) ?_
        refine lv_istore_n (lv' := [(3, .int 0), (2, .int 0), (0, .ref (a 0)), (1, .int (L 1))]) hx hb dX12_putWord_3 rfl hl (by decide) rfl (fun ls hl => ?_)
        exact ih.2.1 (upd (upd L 2 0) 3 0) σ r h H locs ls hP hD hS (lv_sub hl [2, 3, 1, 0] rfl)
      · intro L σ r h H locs ls hP hD hS hl
        rw [x_putWord] at h
        refine lv_iload_n hx hb dX12_putWord_4 rfl (lv_at hl 3 rfl) ?_
        refine lv_iload_n hx hb dX12_putWord_5 rfl (lv_at hl 1 rfl) ?_
        refine lv_icmp_ge (tgt := 34) hx hb dX12_putWord_6 (by decide) (fun c1 => ?_) (fun c1 => ?_)
        · rw [if_pos c1] at h
          exact ih.2.2.2.2.1 L σ r h H locs ls hP hD hS (lv_sub hl [0, 1, 2, 3] rfl)
        · rw [if_neg c1] at h
          refine lv_iload_n hx hb dX12_putWord_9 rfl (lv_at hl 3 rfl) ?_
          refine lv_aload_n hx hb dX12_putWord_10 rfl (lv_at hl 0 rfl) ?_
          refine va_get (D := (dC, dI)) (ci := 11) (v := .ref (a 2)) (C := RX12) (T := TX12) (N := 121) hx hb hts in_x_putWord hown hK hP 0 rfl rfl 1 (by decide) (hts _ (List.mem_cons_of_mem _ (List.mem_append_left _ (List.mem_append_left _ (List.mem_of_getElem? (i := 0) rfl))))) (fun _ h9 => h9) rfl dX12_putWord_11 ?_
          refine lv_iload_n hx hb dX12_putWord_14 rfl (lv_at hl 2 rfl) ?_
          by_cases q2 : ¬ (((L 2)) < 0 ∨ 37 ≤ ((L 2)).toNatClampNeg)
          · rw [if_pos q2] at h
            refine va_iald hx hb hK hP 2 1 rfl rfl (nb_inp q2) dX12_putWord_15 ?_
            refine lv_bipush (v := 32) hx hb dX12_putWord_16 (by decide) ?_
            refine lv_icmp_ne (tgt := 25) hx hb dX12_putWord_18 (by decide) (fun c3 => ?_) (fun c3 => ?_)
            · rw [if_neg c3] at h
              exact ih.2.2.1 (upd L 100 ((L 3))) σ r h H locs ls hP hD hS (lv_sub hl [0, 1, 2, 3] rfl)
            · rw [if_pos c3] at h
              refine lv_iconst (v := 1) hx hb dX12_putWord_21 (by decide) ?_
              refine lv_goto (tgt := 26) hx hb dX12_putWord_22 (by decide) ?_
              exact ih.2.2.2.1 (upd (upd L 100 1) 101 ((L 3))) σ r h H locs ls hP hD hS (lv_sub hl [0, 1, 2, 3] rfl)
          · rw [if_neg q2] at h; cases h
      · intro L σ r h H locs ls hP hD hS hl
        rw [x_putWord] at h
        refine lv_iconst (v := 0) hx hb dX12_putWord_25 (by decide) ?_
        exact ih.2.2.2.1 (upd (upd L 100 0) 101 ((L 100))) σ r h H locs ls hP hD hS (lv_sub hl [0, 1, 2, 3] rfl)
      · intro L σ r h H locs ls hP hD hS hl
        rw [x_putWord] at h
        refine lv_iadd hx hb dX12_putWord_26 ?_
        refine lv_istore_n (lv' := [(3, .int (((L 101)) + ((L 100)))), (0, .ref (a 0)), (1, .int (L 1)), (2, .int (L 2))]) hx hb dX12_putWord_27 rfl hl (by decide) rfl (fun ls hl => ?_)
        refine lv_iinc (v := ((L 2)) + 1) (lv' := [(2, .int (((L 2)) + 1)), (3, .int (((L 101)) + ((L 100)))), (0, .ref (a 0)), (1, .int (L 1))]) hx hb dX12_putWord_28 hl (k := 3) rfl rfl (by decide) rfl (fun ls hl => ?_)
        refine lv_goto (tgt := 4) hx hb dX12_putWord_31 (by decide) ?_
        exact ih.2.1 (upd (upd L 3 ((((L 101)) + ((L 100))))) 2 (((L 2)) + 1)) σ r h H locs ls hP hD hS (lv_sub hl [2, 3, 0, 1] rfl)
      · intro L σ r h H locs ls hP hD hS hl
        rw [x_putWord] at h
        refine lv_aload_n hx hb dX12_putWord_34 rfl (lv_at hl 0 rfl) ?_
        refine va_get (D := (dC, dI)) (ci := 11) (v := .ref (a 2)) (C := RX12) (T := TX12) (N := 121) hx hb hts in_x_putWord hown hK hP 0 rfl rfl 1 (by decide) (hts _ (List.mem_cons_of_mem _ (List.mem_append_left _ (List.mem_append_left _ (List.mem_of_getElem? (i := 0) rfl))))) (fun _ h9 => h9) rfl dX12_putWord_35 ?_
        refine lv_iload_n hx hb dX12_putWord_38 rfl (lv_at hl 2 rfl) ?_
        by_cases q1 : ¬ (((L 2)) < 0 ∨ 37 ≤ ((L 2)).toNatClampNeg)
        · rw [if_pos q1] at h
          refine va_iald hx hb hK hP 2 1 rfl rfl (nb_inp q1) dX12_putWord_39 ?_
          refine lv_bipush (v := 32) hx hb dX12_putWord_40 (by decide) ?_
          refine lv_icmp_eq (tgt := 61) hx hb dX12_putWord_42 (by decide) (fun c2 => ?_) (fun c2 => ?_)
          · rw [if_pos c2] at h
            exact ih.2.2.2.2.2 L σ r h H locs ls hP hD hS (lv_sub hl [0, 1, 2, 3] rfl)
          · rw [if_neg c2] at h
            refine lv_aload_n hx hb dX12_putWord_45 rfl (lv_at hl 0 rfl) ?_
            refine lv_aload_n hx hb dX12_putWord_46 rfl (lv_at hl 0 rfl) ?_
            refine va_get (D := (dC, dI)) (ci := 11) (v := .ref (a 2)) (C := RX12) (T := TX12) (N := 121) hx hb hts in_x_putWord hown hK hP 0 rfl rfl 1 (by decide) (hts _ (List.mem_cons_of_mem _ (List.mem_append_left _ (List.mem_append_left _ (List.mem_of_getElem? (i := 0) rfl))))) (fun _ h9 => h9) rfl dX12_putWord_47 ?_
            refine lv_iload_n hx hb dX12_putWord_50 rfl (lv_at hl 2 rfl) ?_
            by_cases q3 : ¬ (((L 2)) < 0 ∨ 37 ≤ ((L 2)).toNatClampNeg)
            · rw [if_pos q3] at h
              refine va_iald hx hb hK hP 2 1 rfl rfl (nb_inp q3) dX12_putWord_51 ?_
              cases hc4 : x_put k 0 (upd (fun _ => 0) 1 ((σ.2.2 2 ((L 2)).toNatClampNeg))) σ with
              | none => rw [hc4, ob_none] at h; cases h
              | some r4 =>
                rw [hc4, ob_some] at h
                have hFc := va_free (wc := vM cy a σ) hD hS hA [0, 1, 2, 3, 4, 5, 6, 7, 8, 9, 10, 11, 12, 13, 14, 15, 16, 17, 18, 19, 20, 21, 22, 23, 24, 25, 26, 27, 28, 29, 30, 31, 32, 33, 34, 35, 36, 37, 38, 39, 40, 41, 42, 43, 44, 45, 46, 47, 48, 49, 50, 51, 52, 53, 54, 55, 56, 57] rfl
                refine va_callv (va_runV (As := [.int (σ.2.2 2 ((L 2)).toNatClampNeg)]) (rest := []) ⟨hx, hb, hml, hown, hts⟩ (c_x_put l dC dI cy a k (upd (fun _ => 0) 1 ((σ.2.2 2 ((L 2)).toNatClampNeg))) σ r4 hc4 H.size) (cwV 1 hts g_x_putWord_put_536 rfl rfl rfl (by decide +kernel) ⟨Nat.le_of_ble_eq_true rfl, Nat.le_of_ble_eq_true rfl⟩) ⟨nb_blind, va_recv hK hP (ci := 11) (q0 := 0) rfl rfl, fun U hU hW => ⟨rfl, by rw [hU], by rw [hU]; exact hP, va_K.moved hW.alike hK, hD.weaken (fun _ _ _ _ => trivial), hG.warm hW⟩⟩ rfl rfl hl.1 rfl (lv_room (Nat.le_of_ble_eq_true rfl)) dX12_putWord_52 ⟨Nat.le_of_ble_eq_true rfl, Nat.le_of_ble_eq_true rfl⟩) hS (fun q _ h => hFc q h) hFc (fun _ t H1 locs ht hvm hw hB hz1 hk1 hS => ?_)
                obtain ⟨hP1, hK1, hD1⟩ := hB
                rw [ht] at hP1
                obtain ⟨hP, hD⟩ := va_join (wr := []) (w1 := vM cy a r4.2) hP hD [0, 1, 2, 3, 4, 5, 6, 7, 8, 9, 10, 11, 12, 13, 14, 15, 16, 17, 18, 19, 20, 21, 22, 23, 24, 25, 26, 27, 28, 29, 30, 31, 32, 33, 34, 35, 36, 37, 38, 39, 40, 41, 42, 43, 44, 45, 46, 47, 48, 49, 50, 51, 52, 53, 54, 55, 56, 57] [] rfl rfl (by decide) (by decide) hk1 hFc hP1 hD1
                generalize H1 = H at hP hS ⊢
                have hP : va_P (dC, dI) nCl (vM cy a r4.2) H := hP
                have hD : va_D A (vM cy a r4.2) := hD
                refine lv_iinc (v := ((L 2)) + 1) (lv' := [(2, .int (((L 2)) + 1)), (0, .ref (a 0)), (1, .int (L 1)), (3, .int (L 3))]) hx hb dX12_putWord_55 hl (k := 2) rfl rfl (by decide) rfl (fun ls hl => ?_)
                refine lv_goto (tgt := 34) hx hb dX12_putWord_58 (by decide) ?_
                exact ih.2.2.2.2.1 (upd L 2 (((L 2)) + 1)) r4.2 r h H locs ls hP hD hS (lv_sub hl [1, 2, 0, 3] rfl)
            · rw [if_neg q3] at h; cases h
        · rw [if_neg q1] at h; cases h
      · intro L σ r h H locs ls hP hD hS hl
        rw [x_putWord] at h
        cases h
        exact W.vret hx hb hr (fun t ht hW => ⟨⟨(), rfl, trivial, by rw [ht]; exact hP, va_K.moved hW.alike hK, hD⟩, hS.F ht⟩) hS.2.2 dX12_putWord_61
  exact (blk k0).1 L0 σ0 r0 h0 s.heap [] ls hP hD hS hl
/-! putTruth -/
def x_putTruth : Nat → Nat → (Nat → Int32) → MS → Option (Int32 × MS)
  | 0, _, _, _ => none
  | k + 1, 0, L, σ => if ((L 1)) = 0 then (x_putTruth k 1 L σ) else (x_putTruth k 2 (upd L 100 116) σ)
  | k + 1, 1, L, σ => x_putTruth k 2 (upd L 100 102) σ
  | k + 1, 2, L, σ => ob (x_put k 0 (upd (fun _ => 0) 1 ((L 100))) σ) (fun r1 => if ((L 1)) = 0 then (x_putTruth k 3 L r1.2) else (x_putTruth k 4 (upd L 100 114) r1.2))
  | k + 1, 3, L, σ => x_putTruth k 4 (upd L 100 97) σ
  | k + 1, 4, L, σ => ob (x_put k 0 (upd (fun _ => 0) 1 ((L 100))) σ) (fun r1 => if ((L 1)) = 0 then (x_putTruth k 5 L r1.2) else (x_putTruth k 6 (upd L 100 117) r1.2))
  | k + 1, 5, L, σ => x_putTruth k 6 (upd L 100 108) σ
  | k + 1, 6, L, σ => ob (x_put k 0 (upd (fun _ => 0) 1 ((L 100))) σ) (fun r1 => if ((L 1)) = 0 then (x_putTruth k 7 L r1.2) else (x_putTruth k 8 (upd L 100 101) r1.2))
  | k + 1, 7, L, σ => x_putTruth k 8 (upd L 100 115) σ
  | k + 1, 8, L, σ => ob (x_put k 0 (upd (fun _ => 0) 1 ((L 100))) σ) (fun r1 => if ((L 1)) = 0 then (ob (x_put k 0 (upd (fun _ => 0) 1 101) r1.2) (fun r3 => x_putTruth k 9 L r3.2)) else (x_putTruth k 9 L r1.2))
  | k + 1, 9, L, σ => some (0, σ)
  | _ + 1, _ + 10, _, _ => none
def o_x_putTruth : List Cond := [.methodLink RX12 536 yX12_put, .instanceMethod yX12_put, .selects RX12 yX12_put yX12_put, .initialized RX12]
theorem o_x_putTruth_good : o_x_putTruth.all goodWord = true := by decide +kernel
def p_x_putTruth : List Cond := o_x_putTruth ++ ((.code yX12_put cX12_put 2 none :: p_x_put) ++ [])
theorem p_x_putTruth_good : p_x_putTruth.all goodWord = true := nb_all2 o_x_putTruth_good (nb_all2 (nb_allc (by decide +kernel) p_x_put_good) rfl)
def w_x_putTruth : List Cond := .code yX12_putTruth cX12_putTruth 2 none :: (p_x_putTruth ++ fM)
theorem w_x_putTruth_good : w_x_putTruth.all goodWord = true := nb_allc (by decide +kernel) (nb_all2 p_x_putTruth_good fM_good)
theorem in_x_putTruth : ∀ w ∈ wsX120, w ∈ w_x_putTruth := fun _ h => List.mem_cons_of_mem _ (List.mem_append_right _ h)
theorem gg_x_putTruth_put : GoodIn w_x_putTruth w_x_put := goodIn_sub (fun w h => (List.mem_cons.mp h).elim (fun e => (List.mem_cons_of_mem _ (List.mem_append_left _ (List.mem_append_right _ (List.mem_append_left _ (List.mem_cons.mpr (Or.inl e))))))) (fun h => (List.mem_append.mp h).elim (fun h => (List.mem_cons_of_mem _ (List.mem_append_left _ (List.mem_append_right _ (List.mem_append_left _ (List.mem_cons_of_mem _ h)))))) (fun h => List.mem_cons_of_mem _ (List.mem_append_right _ h)))) w_x_put_good
theorem g_x_putTruth_put_536 : GoodIn w_x_putTruth (wsV RX12 536 RX12 yX12_put w_x_put) := goodIn_app (nb_g4 (List.mem_cons_of_mem _ (List.mem_append_left _ (List.mem_append_left _ (List.mem_of_getElem? (i := 0) rfl)))) (List.mem_cons_of_mem _ (List.mem_append_left _ (List.mem_append_left _ (List.mem_of_getElem? (i := 1) rfl)))) (List.mem_cons_of_mem _ (List.mem_append_left _ (List.mem_append_left _ (List.mem_of_getElem? (i := 2) rfl)))) (List.mem_cons_of_mem _ (List.mem_append_left _ (List.mem_append_left _ (List.mem_of_getElem? (i := 3) rfl)))) (by decide +kernel)) gg_x_putTruth_put
set_option maxHeartbeats 40000000 in
set_option maxRecDepth 100000 in
theorem c_x_putTruth (l : Launch) (dC : Nat → ClassId) (dI : Nat → Nat → Nat) (cy : Nat → ClassId) (a : Nat → Nat) (k0 : Nat) (L0 : Nat → Int32) (σ0 : MS) (r0 : Int32 × MS) (h0 : x_putTruth k0 0 L0 σ0 = some r0) (sz : Nat) : Met l yX12_putTruth w_x_putTruth ({ frames := 1, cells := 0, slots := 0, locals := 21 }) (va_Pc [.ref (a 0), .int (L0 1)] (nIn (dC, dI) cy sz (vM cy a σ0))) (va_Qv (fun _ : Unit => True) (fun _ t => nOut (dC, dI) cy (va_A (vM cy a σ0) sz) (vM cy a r0.2) t) (va_A (vM cy a σ0) sz)) 0 0 (va_A (vM cy a σ0) sz) := by
  refine Met.ofW (cc := cX12_putTruth) (maxL := 2) (ret := none) (by decide) rfl ?_
  intro p e s m args below meth c s₁ B hml hv
  obtain ⟨rfl, hsz, hP, hK, hD0, hG⟩ := hv
  have hx := B.exec
  have hb := B.bytes
  have hr := B.returns
  have hts := atoms_spec (ws := w_x_putTruth) B.pre
  have hown : s.vm.findClass RX12 = some m.cls := findClass_of_methodNamed B.named
  have hlocks := B.notSynchronized
  subst hsz
  have hD := hD0.self (sz := s.heap.size)
  generalize hAe : va_A (vM cy a σ0) s.heap.size = A at hD ⊢
  have hA : ∀ q : Nat, s.heap.size ≤ q → A q := fun q h => by rw [← hAe]; exact Or.inr h
  have hS : va_S A s.heap s.heap [] := va_S.rf
  have hl := lv_entry ([.ref (a 0), .int (L0 1)]) (n := 2) (Nat.le_of_ble_eq_true rfl)
  rw [lg_entry_eq]
  generalize (lg_sl ([.ref (a 0), .int (L0 1)]) ++ List.replicate (2 - (lg_sl ([.ref (a 0), .int (L0 1)])).length) Slot.unset).toArray = ls at hl ⊢
  have hl : lv_has ls 2 [(0, .ref (a 0)), (1, .int (L0 1))] := hl
  have blk : ∀ k : Nat, (∀ (L : Nat → Int32) (σ : MS) (r : Int32 × MS), x_putTruth k 0 L σ = some r → ∀ (H : Heap) (locs : List Loc) (ls : Array Slot), va_P (dC, dI) nCl (vM cy a σ) H → va_D A (vM cy a σ) → va_S A s.heap H locs → lv_has ls 2 [(0, .ref (a 0)), (1, .int (L 1))] → W p l e (headSpec w_x_putTruth ({ frames := 1, cells := 0, slots := 0, locals := 21 })).room s m #[.ref (a 0), .int (L0 1)] below meth c H locs 0 0 (MQ below (va_Qv (fun _ : Unit => True) (fun _ t => nOut (dC, dI) cy A (vM cy a r.2) t) A) #[.ref (a 0), .int (L0 1)] s 0 0 A) (F0 m 0 ls [])) ∧ (∀ (L : Nat → Int32) (σ : MS) (r : Int32 × MS), x_putTruth k 1 L σ = some r → ∀ (H : Heap) (locs : List Loc) (ls : Array Slot), va_P (dC, dI) nCl (vM cy a σ) H → va_D A (vM cy a σ) → va_S A s.heap H locs → lv_has ls 2 [(0, .ref (a 0)), (1, .int (L 1))] → W p l e (headSpec w_x_putTruth ({ frames := 1, cells := 0, slots := 0, locals := 21 })).room s m #[.ref (a 0), .int (L0 1)] below meth c H locs 0 0 (MQ below (va_Qv (fun _ : Unit => True) (fun _ t => nOut (dC, dI) cy A (vM cy a r.2) t) A) #[.ref (a 0), .int (L0 1)] s 0 0 A) (F0 m 10 ls [.ref (a 0)])) ∧ (∀ (L : Nat → Int32) (σ : MS) (r : Int32 × MS), x_putTruth k 2 L σ = some r → ∀ (H : Heap) (locs : List Loc) (ls : Array Slot), va_P (dC, dI) nCl (vM cy a σ) H → va_D A (vM cy a σ) → va_S A s.heap H locs → lv_has ls 2 [(0, .ref (a 0)), (1, .int (L 1))] → W p l e (headSpec w_x_putTruth ({ frames := 1, cells := 0, slots := 0, locals := 21 })).room s m #[.ref (a 0), .int (L0 1)] below meth c H locs 0 0 (MQ below (va_Qv (fun _ : Unit => True) (fun _ t => nOut (dC, dI) cy A (vM cy a r.2) t) A) #[.ref (a 0), .int (L0 1)] s 0 0 A) (F0 m 12 ls [.int (L 100), .ref (a 0)])) ∧ (∀ (L : Nat → Int32) (σ : MS) (r : Int32 × MS), x_putTruth k 3 L σ = some r → ∀ (H : Heap) (locs : List Loc) (ls : Array Slot), va_P (dC, dI) nCl (vM cy a σ) H → va_D A (vM cy a σ) → va_S A s.heap H locs → lv_has ls 2 [(0, .ref (a 0)), (1, .int (L 1))] → W p l e (headSpec w_x_putTruth ({ frames := 1, cells := 0, slots := 0, locals := 21 })).room s m #[.ref (a 0), .int (L0 1)] below meth c H locs 0 0 (MQ below (va_Qv (fun _ : Unit => True) (fun _ t => nOut (dC, dI) cy A (vM cy a r.2) t) A) #[.ref (a 0), .int (L0 1)] s 0 0 A) (F0 m 25 ls [.ref (a 0)])) ∧ (∀ (L : Nat → Int32) (σ : MS) (r : Int32 × MS), x_putTruth k 4 L σ = some r → ∀ (H : Heap) (locs : List Loc) (ls : Array Slot), va_P (dC, dI) nCl (vM cy a σ) H → va_D A (vM cy a σ) → va_S A s.heap H locs → lv_has ls 2 [(0, .ref (a 0)), (1, .int (L 1))] → W p l e (headSpec w_x_putTruth ({ frames := 1, cells := 0, slots := 0, locals := 21 })).room s m #[.ref (a 0), .int (L0 1)] below meth c H locs 0 0 (MQ below (va_Qv (fun _ : Unit => True) (fun _ t => nOut (dC, dI) cy A (vM cy a r.2) t) A) #[.ref (a 0), .int (L0 1)] s 0 0 A) (F0 m 27 ls [.int (L 100), .ref (a 0)])) ∧ (∀ (L : Nat → Int32) (σ : MS) (r : Int32 × MS), x_putTruth k 5 L σ = some r → ∀ (H : Heap) (locs : List Loc) (ls : Array Slot), va_P (dC, dI) nCl (vM cy a σ) H → va_D A (vM cy a σ) → va_S A s.heap H locs → lv_has ls 2 [(0, .ref (a 0)), (1, .int (L 1))] → W p l e (headSpec w_x_putTruth ({ frames := 1, cells := 0, slots := 0, locals := 21 })).room s m #[.ref (a 0), .int (L0 1)] below meth c H locs 0 0 (MQ below (va_Qv (fun _ : Unit => True) (fun _ t => nOut (dC, dI) cy A (vM cy a r.2) t) A) #[.ref (a 0), .int (L0 1)] s 0 0 A) (F0 m 40 ls [.ref (a 0)])) ∧ (∀ (L : Nat → Int32) (σ : MS) (r : Int32 × MS), x_putTruth k 6 L σ = some r → ∀ (H : Heap) (locs : List Loc) (ls : Array Slot), va_P (dC, dI) nCl (vM cy a σ) H → va_D A (vM cy a σ) → va_S A s.heap H locs → lv_has ls 2 [(0, .ref (a 0)), (1, .int (L 1))] → W p l e (headSpec w_x_putTruth ({ frames := 1, cells := 0, slots := 0, locals := 21 })).room s m #[.ref (a 0), .int (L0 1)] below meth c H locs 0 0 (MQ below (va_Qv (fun _ : Unit => True) (fun _ t => nOut (dC, dI) cy A (vM cy a r.2) t) A) #[.ref (a 0), .int (L0 1)] s 0 0 A) (F0 m 42 ls [.int (L 100), .ref (a 0)])) ∧ (∀ (L : Nat → Int32) (σ : MS) (r : Int32 × MS), x_putTruth k 7 L σ = some r → ∀ (H : Heap) (locs : List Loc) (ls : Array Slot), va_P (dC, dI) nCl (vM cy a σ) H → va_D A (vM cy a σ) → va_S A s.heap H locs → lv_has ls 2 [(0, .ref (a 0)), (1, .int (L 1))] → W p l e (headSpec w_x_putTruth ({ frames := 1, cells := 0, slots := 0, locals := 21 })).room s m #[.ref (a 0), .int (L0 1)] below meth c H locs 0 0 (MQ below (va_Qv (fun _ : Unit => True) (fun _ t => nOut (dC, dI) cy A (vM cy a r.2) t) A) #[.ref (a 0), .int (L0 1)] s 0 0 A) (F0 m 55 ls [.ref (a 0)])) ∧ (∀ (L : Nat → Int32) (σ : MS) (r : Int32 × MS), x_putTruth k 8 L σ = some r → ∀ (H : Heap) (locs : List Loc) (ls : Array Slot), va_P (dC, dI) nCl (vM cy a σ) H → va_D A (vM cy a σ) → va_S A s.heap H locs → lv_has ls 2 [(0, .ref (a 0)), (1, .int (L 1))] → W p l e (headSpec w_x_putTruth ({ frames := 1, cells := 0, slots := 0, locals := 21 })).room s m #[.ref (a 0), .int (L0 1)] below meth c H locs 0 0 (MQ below (va_Qv (fun _ : Unit => True) (fun _ t => nOut (dC, dI) cy A (vM cy a r.2) t) A) #[.ref (a 0), .int (L0 1)] s 0 0 A) (F0 m 57 ls [.int (L 100), .ref (a 0)])) ∧ (∀ (L : Nat → Int32) (σ : MS) (r : Int32 × MS), x_putTruth k 9 L σ = some r → ∀ (H : Heap) (locs : List Loc) (ls : Array Slot), va_P (dC, dI) nCl (vM cy a σ) H → va_D A (vM cy a σ) → va_S A s.heap H locs → lv_has ls 2 [(0, .ref (a 0)), (1, .int (L 1))] → W p l e (headSpec w_x_putTruth ({ frames := 1, cells := 0, slots := 0, locals := 21 })).room s m #[.ref (a 0), .int (L0 1)] below meth c H locs 0 0 (MQ below (va_Qv (fun _ : Unit => True) (fun _ t => nOut (dC, dI) cy A (vM cy a r.2) t) A) #[.ref (a 0), .int (L0 1)] s 0 0 A) (F0 m 70 ls [])) := by
    intro k
    induction k with
    | zero => exact ⟨fun L σ r h => (by cases h), fun L σ r h => (by cases h), fun L σ r h => (by cases h), fun L σ r h => (by cases h), fun L σ r h => (by cases h), fun L σ r h => (by cases h), fun L σ r h => (by cases h), fun L σ r h => (by cases h), fun L σ r h => (by cases h), fun L σ r h => (by cases h)⟩
    | succ k ih =>
      refine ⟨?_, ?_, ?_, ?_, ?_, ?_, ?_, ?_, ?_, ?_⟩
      · intro L σ r h H locs ls hP hD hS hl
        rw [x_putTruth] at h
        refine lv_aload_n hx hb dX12_putTruth_0 rfl (lv_at hl 0 rfl) ?_
        refine lv_iload_n hx hb dX12_putTruth_1 rfl (lv_at hl 1 rfl) ?_
        refine lv_if_eq (tgt := 10) hx hb dX12_putTruth_2 (by decide) (fun c1 => ?_) (fun c1 => ?_)
        · rw [if_pos c1] at h
          exact ih.2.1 L σ r h H locs ls hP hD hS (lv_sub hl [0, 1] rfl)
        · rw [if_neg c1] at h
          refine lv_bipush (v := 116) hx hb dX12_putTruth_5 (by decide) ?_
          refine lv_goto (tgt := 12) hx hb dX12_putTruth_7 (by decide) ?_
          exact ih.2.2.1 (upd L 100 116) σ r h H locs ls hP hD hS (lv_sub hl [0, 1] rfl)
      · intro L σ r h H locs ls hP hD hS hl
        rw [x_putTruth] at h
        refine lv_bipush (v := 102) hx hb dX12_putTruth_10 (by decide) ?_
        exact ih.2.2.1 (upd L 100 102) σ r h H locs ls hP hD hS (lv_sub hl [0, 1] rfl)
      · intro L σ r h H locs ls hP hD hS hl
        rw [x_putTruth] at h
        cases hc1 : x_put k 0 (upd (fun _ => 0) 1 ((L 100))) σ with
        | none => rw [hc1, ob_none] at h; cases h
        | some r1 =>
          rw [hc1, ob_some] at h
          have hFc := va_free (wc := vM cy a σ) hD hS hA [0, 1, 2, 3, 4, 5, 6, 7, 8, 9, 10, 11, 12, 13, 14, 15, 16, 17, 18, 19, 20, 21, 22, 23, 24, 25, 26, 27, 28, 29, 30, 31, 32, 33, 34, 35, 36, 37, 38, 39, 40, 41, 42, 43, 44, 45, 46, 47, 48, 49, 50, 51, 52, 53, 54, 55, 56, 57] rfl
          refine va_callv (va_runV (As := [.int (L 100)]) (rest := []) ⟨hx, hb, hml, hown, hts⟩ (c_x_put l dC dI cy a k (upd (fun _ => 0) 1 ((L 100))) σ r1 hc1 H.size) (cwV 1 hts g_x_putTruth_put_536 rfl rfl rfl (by decide +kernel) ⟨Nat.le_of_ble_eq_true rfl, Nat.le_of_ble_eq_true rfl⟩) ⟨nb_blind, va_recv hK hP (ci := 11) (q0 := 0) rfl rfl, fun U hU hW => ⟨rfl, by rw [hU], by rw [hU]; exact hP, va_K.moved hW.alike hK, hD.weaken (fun _ _ _ _ => trivial), hG.warm hW⟩⟩ rfl rfl hl.1 rfl (lv_room (Nat.le_of_ble_eq_true rfl)) dX12_putTruth_12 ⟨Nat.le_of_ble_eq_true rfl, Nat.le_of_ble_eq_true rfl⟩) hS (fun q _ h => hFc q h) hFc (fun _ t H1 locs ht hvm hw hB hz1 hk1 hS => ?_)
          obtain ⟨hP1, hK1, hD1⟩ := hB
          rw [ht] at hP1
          obtain ⟨hP, hD⟩ := va_join (wr := []) (w1 := vM cy a r1.2) hP hD [0, 1, 2, 3, 4, 5, 6, 7, 8, 9, 10, 11, 12, 13, 14, 15, 16, 17, 18, 19, 20, 21, 22, 23, 24, 25, 26, 27, 28, 29, 30, 31, 32, 33, 34, 35, 36, 37, 38, 39, 40, 41, 42, 43, 44, 45, 46, 47, 48, 49, 50, 51, 52, 53, 54, 55, 56, 57] [] rfl rfl (by decide) (by decide) hk1 hFc hP1 hD1
          generalize H1 = H at hP hS ⊢
          have hP : va_P (dC, dI) nCl (vM cy a r1.2) H := hP
          have hD : va_D A (vM cy a r1.2) := hD
          refine lv_aload_n hx hb dX12_putTruth_15 rfl (lv_at hl 0 rfl) ?_
          refine lv_iload_n hx hb dX12_putTruth_16 rfl (lv_at hl 1 rfl) ?_
          refine lv_if_eq (tgt := 25) hx hb dX12_putTruth_17 (by decide) (fun c2 => ?_) (fun c2 => ?_)
          · rw [if_pos c2] at h
            exact ih.2.2.2.1 L r1.2 r h H locs ls hP hD hS (lv_sub hl [0, 1] rfl)
          · rw [if_neg c2] at h
            refine lv_bipush (v := 114) hx hb dX12_putTruth_20 (by decide) ?_
            refine lv_goto (tgt := 27) hx hb dX12_putTruth_22 (by decide) ?_
            exact ih.2.2.2.2.1 (upd L 100 114) r1.2 r h H locs ls hP hD hS (lv_sub hl [0, 1] rfl)
      · intro L σ r h H locs ls hP hD hS hl
        rw [x_putTruth] at h
        refine lv_bipush (v := 97) hx hb dX12_putTruth_25 (by decide) ?_
        exact ih.2.2.2.2.1 (upd L 100 97) σ r h H locs ls hP hD hS (lv_sub hl [0, 1] rfl)
      · intro L σ r h H locs ls hP hD hS hl
        rw [x_putTruth] at h
        cases hc1 : x_put k 0 (upd (fun _ => 0) 1 ((L 100))) σ with
        | none => rw [hc1, ob_none] at h; cases h
        | some r1 =>
          rw [hc1, ob_some] at h
          have hFc := va_free (wc := vM cy a σ) hD hS hA [0, 1, 2, 3, 4, 5, 6, 7, 8, 9, 10, 11, 12, 13, 14, 15, 16, 17, 18, 19, 20, 21, 22, 23, 24, 25, 26, 27, 28, 29, 30, 31, 32, 33, 34, 35, 36, 37, 38, 39, 40, 41, 42, 43, 44, 45, 46, 47, 48, 49, 50, 51, 52, 53, 54, 55, 56, 57] rfl
          refine va_callv (va_runV (As := [.int (L 100)]) (rest := []) ⟨hx, hb, hml, hown, hts⟩ (c_x_put l dC dI cy a k (upd (fun _ => 0) 1 ((L 100))) σ r1 hc1 H.size) (cwV 1 hts g_x_putTruth_put_536 rfl rfl rfl (by decide +kernel) ⟨Nat.le_of_ble_eq_true rfl, Nat.le_of_ble_eq_true rfl⟩) ⟨nb_blind, va_recv hK hP (ci := 11) (q0 := 0) rfl rfl, fun U hU hW => ⟨rfl, by rw [hU], by rw [hU]; exact hP, va_K.moved hW.alike hK, hD.weaken (fun _ _ _ _ => trivial), hG.warm hW⟩⟩ rfl rfl hl.1 rfl (lv_room (Nat.le_of_ble_eq_true rfl)) dX12_putTruth_27 ⟨Nat.le_of_ble_eq_true rfl, Nat.le_of_ble_eq_true rfl⟩) hS (fun q _ h => hFc q h) hFc (fun _ t H1 locs ht hvm hw hB hz1 hk1 hS => ?_)
          obtain ⟨hP1, hK1, hD1⟩ := hB
          rw [ht] at hP1
          obtain ⟨hP, hD⟩ := va_join (wr := []) (w1 := vM cy a r1.2) hP hD [0, 1, 2, 3, 4, 5, 6, 7, 8, 9, 10, 11, 12, 13, 14, 15, 16, 17, 18, 19, 20, 21, 22, 23, 24, 25, 26, 27, 28, 29, 30, 31, 32, 33, 34, 35, 36, 37, 38, 39, 40, 41, 42, 43, 44, 45, 46, 47, 48, 49, 50, 51, 52, 53, 54, 55, 56, 57] [] rfl rfl (by decide) (by decide) hk1 hFc hP1 hD1
          generalize H1 = H at hP hS ⊢
          have hP : va_P (dC, dI) nCl (vM cy a r1.2) H := hP
          have hD : va_D A (vM cy a r1.2) := hD
          refine lv_aload_n hx hb dX12_putTruth_30 rfl (lv_at hl 0 rfl) ?_
          refine lv_iload_n hx hb dX12_putTruth_31 rfl (lv_at hl 1 rfl) ?_
          refine lv_if_eq (tgt := 40) hx hb dX12_putTruth_32 (by decide) (fun c2 => ?_) (fun c2 => ?_)
          · rw [if_pos c2] at h
            exact ih.2.2.2.2.2.1 L r1.2 r h H locs ls hP hD hS (lv_sub hl [0, 1] rfl)
          · rw [if_neg c2] at h
            refine lv_bipush (v := 117) hx hb dX12_putTruth_35 (by decide) ?_
            refine lv_goto (tgt := 42) hx hb dX12_putTruth_37 (by decide) ?_
            exact ih.2.2.2.2.2.2.1 (upd L 100 117) r1.2 r h H locs ls hP hD hS (lv_sub hl [0, 1] rfl)
      · intro L σ r h H locs ls hP hD hS hl
        rw [x_putTruth] at h
        refine lv_bipush (v := 108) hx hb dX12_putTruth_40 (by decide) ?_
        exact ih.2.2.2.2.2.2.1 (upd L 100 108) σ r h H locs ls hP hD hS (lv_sub hl [0, 1] rfl)
      · intro L σ r h H locs ls hP hD hS hl
        rw [x_putTruth] at h
        cases hc1 : x_put k 0 (upd (fun _ => 0) 1 ((L 100))) σ with
        | none => rw [hc1, ob_none] at h; cases h
        | some r1 =>
          rw [hc1, ob_some] at h
          have hFc := va_free (wc := vM cy a σ) hD hS hA [0, 1, 2, 3, 4, 5, 6, 7, 8, 9, 10, 11, 12, 13, 14, 15, 16, 17, 18, 19, 20, 21, 22, 23, 24, 25, 26, 27, 28, 29, 30, 31, 32, 33, 34, 35, 36, 37, 38, 39, 40, 41, 42, 43, 44, 45, 46, 47, 48, 49, 50, 51, 52, 53, 54, 55, 56, 57] rfl
          refine va_callv (va_runV (As := [.int (L 100)]) (rest := []) ⟨hx, hb, hml, hown, hts⟩ (c_x_put l dC dI cy a k (upd (fun _ => 0) 1 ((L 100))) σ r1 hc1 H.size) (cwV 1 hts g_x_putTruth_put_536 rfl rfl rfl (by decide +kernel) ⟨Nat.le_of_ble_eq_true rfl, Nat.le_of_ble_eq_true rfl⟩) ⟨nb_blind, va_recv hK hP (ci := 11) (q0 := 0) rfl rfl, fun U hU hW => ⟨rfl, by rw [hU], by rw [hU]; exact hP, va_K.moved hW.alike hK, hD.weaken (fun _ _ _ _ => trivial), hG.warm hW⟩⟩ rfl rfl hl.1 rfl (lv_room (Nat.le_of_ble_eq_true rfl)) dX12_putTruth_42 ⟨Nat.le_of_ble_eq_true rfl, Nat.le_of_ble_eq_true rfl⟩) hS (fun q _ h => hFc q h) hFc (fun _ t H1 locs ht hvm hw hB hz1 hk1 hS => ?_)
          obtain ⟨hP1, hK1, hD1⟩ := hB
          rw [ht] at hP1
          obtain ⟨hP, hD⟩ := va_join (wr := []) (w1 := vM cy a r1.2) hP hD [0, 1, 2, 3, 4, 5, 6, 7, 8, 9, 10, 11, 12, 13, 14, 15, 16, 17, 18, 19, 20, 21, 22, 23, 24, 25, 26, 27, 28, 29, 30, 31, 32, 33, 34, 35, 36, 37, 38, 39, 40, 41, 42, 43, 44, 45, 46, 47, 48, 49, 50, 51, 52, 53, 54, 55, 56, 57] [] rfl rfl (by decide) (by decide) hk1 hFc hP1 hD1
          generalize H1 = H at hP hS ⊢
          have hP : va_P (dC, dI) nCl (vM cy a r1.2) H := hP
          have hD : va_D A (vM cy a r1.2) := hD
          refine lv_aload_n hx hb dX12_putTruth_45 rfl (lv_at hl 0 rfl) ?_
          refine lv_iload_n hx hb dX12_putTruth_46 rfl (lv_at hl 1 rfl) ?_
          refine lv_if_eq (tgt := 55) hx hb dX12_putTruth_47 (by decide) (fun c2 => ?_) (fun c2 => ?_)
          · rw [if_pos c2] at h
            exact ih.2.2.2.2.2.2.2.1 L r1.2 r h H locs ls hP hD hS (lv_sub hl [0, 1] rfl)
          · rw [if_neg c2] at h
            refine lv_bipush (v := 101) hx hb dX12_putTruth_50 (by decide) ?_
            refine lv_goto (tgt := 57) hx hb dX12_putTruth_52 (by decide) ?_
            exact ih.2.2.2.2.2.2.2.2.1 (upd L 100 101) r1.2 r h H locs ls hP hD hS (lv_sub hl [0, 1] rfl)
      · intro L σ r h H locs ls hP hD hS hl
        rw [x_putTruth] at h
        refine lv_bipush (v := 115) hx hb dX12_putTruth_55 (by decide) ?_
        exact ih.2.2.2.2.2.2.2.2.1 (upd L 100 115) σ r h H locs ls hP hD hS (lv_sub hl [0, 1] rfl)
      · intro L σ r h H locs ls hP hD hS hl
        rw [x_putTruth] at h
        cases hc1 : x_put k 0 (upd (fun _ => 0) 1 ((L 100))) σ with
        | none => rw [hc1, ob_none] at h; cases h
        | some r1 =>
          rw [hc1, ob_some] at h
          have hFc := va_free (wc := vM cy a σ) hD hS hA [0, 1, 2, 3, 4, 5, 6, 7, 8, 9, 10, 11, 12, 13, 14, 15, 16, 17, 18, 19, 20, 21, 22, 23, 24, 25, 26, 27, 28, 29, 30, 31, 32, 33, 34, 35, 36, 37, 38, 39, 40, 41, 42, 43, 44, 45, 46, 47, 48, 49, 50, 51, 52, 53, 54, 55, 56, 57] rfl
          refine va_callv (va_runV (As := [.int (L 100)]) (rest := []) ⟨hx, hb, hml, hown, hts⟩ (c_x_put l dC dI cy a k (upd (fun _ => 0) 1 ((L 100))) σ r1 hc1 H.size) (cwV 1 hts g_x_putTruth_put_536 rfl rfl rfl (by decide +kernel) ⟨Nat.le_of_ble_eq_true rfl, Nat.le_of_ble_eq_true rfl⟩) ⟨nb_blind, va_recv hK hP (ci := 11) (q0 := 0) rfl rfl, fun U hU hW => ⟨rfl, by rw [hU], by rw [hU]; exact hP, va_K.moved hW.alike hK, hD.weaken (fun _ _ _ _ => trivial), hG.warm hW⟩⟩ rfl rfl hl.1 rfl (lv_room (Nat.le_of_ble_eq_true rfl)) dX12_putTruth_57 ⟨Nat.le_of_ble_eq_true rfl, Nat.le_of_ble_eq_true rfl⟩) hS (fun q _ h => hFc q h) hFc (fun _ t H1 locs ht hvm hw hB hz1 hk1 hS => ?_)
          obtain ⟨hP1, hK1, hD1⟩ := hB
          rw [ht] at hP1
          obtain ⟨hP, hD⟩ := va_join (wr := []) (w1 := vM cy a r1.2) hP hD [0, 1, 2, 3, 4, 5, 6, 7, 8, 9, 10, 11, 12, 13, 14, 15, 16, 17, 18, 19, 20, 21, 22, 23, 24, 25, 26, 27, 28, 29, 30, 31, 32, 33, 34, 35, 36, 37, 38, 39, 40, 41, 42, 43, 44, 45, 46, 47, 48, 49, 50, 51, 52, 53, 54, 55, 56, 57] [] rfl rfl (by decide) (by decide) hk1 hFc hP1 hD1
          generalize H1 = H at hP hS ⊢
          have hP : va_P (dC, dI) nCl (vM cy a r1.2) H := hP
          have hD : va_D A (vM cy a r1.2) := hD
          refine lv_iload_n hx hb dX12_putTruth_60 rfl (lv_at hl 1 rfl) ?_
          refine lv_if_ne (tgt := 70) hx hb dX12_putTruth_61 (by decide) (fun c2 => ?_) (fun c2 => ?_)
          · rw [if_neg c2] at h
            exact ih.2.2.2.2.2.2.2.2.2 L r1.2 r h H locs ls hP hD hS (lv_sub hl [0, 1] rfl)
          · rw [if_pos c2] at h
            refine lv_aload_n hx hb dX12_putTruth_64 rfl (lv_at hl 0 rfl) ?_
            refine lv_bipush (v := 101) hx hb dX12_putTruth_65 (by decide) ?_
            cases hc3 : x_put k 0 (upd (fun _ => 0) 1 101) r1.2 with
            | none => rw [hc3, ob_none] at h; cases h
            | some r3 =>
              rw [hc3, ob_some] at h
              have hFc := va_free (wc := vM cy a r1.2) hD hS hA [0, 1, 2, 3, 4, 5, 6, 7, 8, 9, 10, 11, 12, 13, 14, 15, 16, 17, 18, 19, 20, 21, 22, 23, 24, 25, 26, 27, 28, 29, 30, 31, 32, 33, 34, 35, 36, 37, 38, 39, 40, 41, 42, 43, 44, 45, 46, 47, 48, 49, 50, 51, 52, 53, 54, 55, 56, 57] rfl
              refine va_callv (va_runV (As := [.int 101]) (rest := []) ⟨hx, hb, hml, hown, hts⟩ (c_x_put l dC dI cy a k (upd (fun _ => 0) 1 101) r1.2 r3 hc3 H.size) (cwV 1 hts g_x_putTruth_put_536 rfl rfl rfl (by decide +kernel) ⟨Nat.le_of_ble_eq_true rfl, Nat.le_of_ble_eq_true rfl⟩) ⟨nb_blind, va_recv hK hP (ci := 11) (q0 := 0) rfl rfl, fun U hU hW => ⟨rfl, by rw [hU], by rw [hU]; exact hP, va_K.moved hW.alike hK, hD.weaken (fun _ _ _ _ => trivial), hG.warm hW⟩⟩ rfl rfl hl.1 rfl (lv_room (Nat.le_of_ble_eq_true rfl)) dX12_putTruth_67 ⟨Nat.le_of_ble_eq_true rfl, Nat.le_of_ble_eq_true rfl⟩) hS (fun q _ h => hFc q h) hFc (fun _ t H1 locs ht hvm hw hB hz1 hk1 hS => ?_)
              obtain ⟨hP1, hK1, hD1⟩ := hB
              rw [ht] at hP1
              obtain ⟨hP, hD⟩ := va_join (wr := []) (w1 := vM cy a r3.2) hP hD [0, 1, 2, 3, 4, 5, 6, 7, 8, 9, 10, 11, 12, 13, 14, 15, 16, 17, 18, 19, 20, 21, 22, 23, 24, 25, 26, 27, 28, 29, 30, 31, 32, 33, 34, 35, 36, 37, 38, 39, 40, 41, 42, 43, 44, 45, 46, 47, 48, 49, 50, 51, 52, 53, 54, 55, 56, 57] [] rfl rfl (by decide) (by decide) hk1 hFc hP1 hD1
              generalize H1 = H at hP hS ⊢
              have hP : va_P (dC, dI) nCl (vM cy a r3.2) H := hP
              have hD : va_D A (vM cy a r3.2) := hD
              exact ih.2.2.2.2.2.2.2.2.2 L r3.2 r h H locs ls hP hD hS (lv_sub hl [0, 1] rfl)
      · intro L σ r h H locs ls hP hD hS hl
        rw [x_putTruth] at h
        cases h
        exact W.vret hx hb hr (fun t ht hW => ⟨⟨(), rfl, trivial, by rw [ht]; exact hP, va_K.moved hW.alike hK, hD⟩, hS.F ht⟩) hS.2.2 dX12_putTruth_70
  exact (blk k0).1 L0 σ0 r0 h0 s.heap [] ls hP hD hS hl

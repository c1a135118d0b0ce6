/-! X10_dividedSmall -/
def y_X10_dividedSmall : Nat → Nat → LV → CS → Option (Int32 × CS)
  | 0, _, _, _ => none
  | k + 1, 0, L, σ => if ((nbCmp ((L.2.1 3)) (0 : Int64))) = 0 then (some ((-268435454), σ)) else (y_X10_dividedSmall k 1 L σ)
  | k + 1, 1, L, σ => if ((L.2.1 3)) = 0 then none else (if 0 ≤ ((nbCmp ((((L.2.1 1)) - ((L.2.1 1)) / ((L.2.1 3)) * ((L.2.1 3)))) (0 : Int64))) then (y_X10_dividedSmall k 2 (lJ L 6 ((((L.2.1 1)) - ((L.2.1 1)) / ((L.2.1 3)) * ((L.2.1 3))))) σ) else (if 0 ≤ ((nbCmp ((L.2.1 3)) (0 : Int64))) then (y_X10_dividedSmall k 3 (lJ L 100 ((((L.2.1 1)) - ((L.2.1 1)) / ((L.2.1 3)) * ((L.2.1 3))))) σ) else (y_X10_dividedSmall k 4 (lJ (lJ L 100 ((- ((L.2.1 3))))) 101 ((((L.2.1 1)) - ((L.2.1 1)) / ((L.2.1 3)) * ((L.2.1 3))))) σ)))
  | k + 1, 2, L, σ => if ((L.1 5)) = 0 then (y_X10_dividedSmall k 5 L σ) else (y_X10_dividedSmall k 6 (lJ L 100 ((L.2.1 6))) σ)
  | k + 1, 3, L, σ => y_X10_dividedSmall k 4 (lJ (lJ L 100 ((L.2.1 3))) 101 ((L.2.1 100))) σ
  | k + 1, 4, L, σ => y_X10_dividedSmall k 2 (lJ L 6 ((((L.2.1 101)) + ((L.2.1 100))))) σ
  | k + 1, 5, L, σ => if ((L.2.1 3)) = 0 then none else (y_X10_dividedSmall k 6 (lJ L 100 ((((((L.2.1 1)) - ((L.2.1 6)))) / ((L.2.1 3))))) σ)
  | k + 1, 6, L, σ => oc (y_X10_of k 0 (lJ lZ 1 ((L.2.1 100))) σ) (fun r1 => some (r1.1, r1.2))
  | _ + 1, _ + 7, _, _ => none
def o_y_X10_dividedSmall : List Cond := [.constant RX10 122 (-268435454), .methodLink RX10 79 yX10_of, .instanceMethod yX10_of, .selects RX10 yX10_of yX10_of, .initialized RX10]
theorem o_y_X10_dividedSmall_good : o_y_X10_dividedSmall.all goodWord = true := by decide +kernel
def p_y_X10_dividedSmall : List Cond := o_y_X10_dividedSmall ++ ((.code yX10_of cX10_of 5 (some .int) :: p_y_X10_of) ++ [])
theorem p_y_X10_dividedSmall_good : p_y_X10_dividedSmall.all goodWord = true := nb_all2 o_y_X10_dividedSmall_good (nb_all2 (nb_allc (by decide +kernel) p_y_X10_of_good) rfl)
def w_y_X10_dividedSmall : List Cond := .code yX10_dividedSmall cX10_dividedSmall 8 (some .int) :: (p_y_X10_dividedSmall ++ fC)
theorem w_y_X10_dividedSmall_good : w_y_X10_dividedSmall.all goodWord = true := nb_allc (by decide +kernel) (nb_all2 p_y_X10_dividedSmall_good fC_good)
theorem hd_y_X10_dividedSmall : yX10_dividedSmall.cls = RX10 ∧ yX10_dividedSmall.cls ≠ "java/lang/invoke/MethodHandle" ∧ yX10_dividedSmall.cls ≠ "java/lang/invoke/VarHandle" ∧ (parseMethodDescriptor yX10_dividedSmall.desc).map (fun d => d.parameters.length) = some 3 := by decide +kernel
theorem gg_y_X10_dividedSmall_X10_of : GoodIn w_y_X10_dividedSmall w_y_X10_of := goodIn_sub (fun w h => (List.mem_cons.mp h).elim (fun e => (List.mem_cons_of_mem _ (List.mem_append_left _ (List.mem_append_right _ (List.mem_append_left _ (List.mem_cons.mpr (Or.inl e))))))) (fun h => (List.mem_append.mp h).elim (fun h => (List.mem_cons_of_mem _ (List.mem_append_left _ (List.mem_append_right _ (List.mem_append_left _ (List.mem_cons_of_mem _ h)))))) (fun h => List.mem_cons_of_mem _ (List.mem_append_right _ h)))) w_y_X10_of_good
theorem g_y_X10_dividedSmall_X10_of_V79 : GoodIn w_y_X10_dividedSmall (wsV RX10 79 RX10 yX10_of w_y_X10_of) := goodIn_app (nb_g4 (List.mem_cons_of_mem _ (List.mem_append_left _ (List.mem_append_left _ (List.mem_of_getElem? (i := 1) rfl)))) (List.mem_cons_of_mem _ (List.mem_append_left _ (List.mem_append_left _ (List.mem_of_getElem? (i := 2) rfl)))) (List.mem_cons_of_mem _ (List.mem_append_left _ (List.mem_append_left _ (List.mem_of_getElem? (i := 3) rfl)))) (List.mem_cons_of_mem _ (List.mem_append_left _ (List.mem_append_left _ (List.mem_of_getElem? (i := 4) rfl)))) (by decide +kernel)) gg_y_X10_dividedSmall_X10_of
set_option maxHeartbeats 40000000 in
set_option maxRecDepth 100000 in
theorem c_y_X10_dividedSmall (l : Launch) (dC : Nat → ClassId) (dI : Nat → Nat → Nat) (cy : Nat → ClassId) (a z : Nat → Nat) (k0 : Nat) (L0 : LV) (σ0 : CS) (r0 : Int32 × CS) (h0 : y_X10_dividedSmall k0 0 L0 σ0 = some r0) (sz : Nat) : Met l yX10_dividedSmall w_y_X10_dividedSmall ({ frames := 3, cells := 0, slots := 0, locals := 108 }) (va_Pc [.ref (a 4), .long (L0.2.1 1), .long (L0.2.1 3), .int (L0.1 5)] (nIn (dC, dI) cy sz (vC cy a z σ0))) (va_Qi (fun (x : Int32) (_ : Unit) => x = r0.1) (fun _ t => nOut (dC, dI) cy (va_A (vC cy a z σ0) sz) (vC cy a z r0.2) t) (va_A (vC cy a z σ0) sz)) 0 0 (va_A (vC cy a z σ0) sz) := by
  refine Met.ofW (cc := cX10_dividedSmall) (maxL := 8) (ret := (some .int)) (by decide) rfl ?_
  intro p e s m args below meth c s₁ B hml hv
  obtain ⟨rfl, hsz, hP, hK, hD0, hG⟩ := hv
  have hx := B.exec
  have hb := B.bytes
  have hr := B.returns
  have hts := atoms_spec (ws := w_y_X10_dividedSmall) B.pre
  have hown : s.vm.findClass RX10 = some m.cls := findClass_of_methodNamed B.named
  have hlocks := B.notSynchronized
  subst hsz
  have hD := hD0.self (sz := s.heap.size)
  generalize hAe : va_A (vC cy a z σ0) s.heap.size = A at hD ⊢
  have hA : ∀ q : Nat, s.heap.size ≤ q → A q := fun q h => by rw [← hAe]; exact Or.inr h
  have hS : va_S A s.heap s.heap [] := va_S.rf
  have hl := lv_entry ([.ref (a 4), .long (L0.2.1 1), .long (L0.2.1 3), .int (L0.1 5)]) (n := 8) (Nat.le_of_ble_eq_true rfl)
  rw [lg_entry_eq]
  generalize (lg_sl ([.ref (a 4), .long (L0.2.1 1), .long (L0.2.1 3), .int (L0.1 5)]) ++ List.replicate (8 - (lg_sl ([.ref (a 4), .long (L0.2.1 1), .long (L0.2.1 3), .int (L0.1 5)])).length) Slot.unset).toArray = ls at hl ⊢
  have hl : lv_has ls 8 [(0, .ref (a 4)), (1, .long (L0.2.1 1)), (3, .long (L0.2.1 3)), (5, .int (L0.1 5))] := hl
  have blk : ∀ k : Nat, (bC p l e (headSpec w_y_X10_dividedSmall ({ frames := 3, cells := 0, slots := 0, locals := 108 })).room s m #[.ref (a 4), .long (L0.2.1 1), .long (L0.2.1 3), .int (L0.1 5)] below meth c dC dI cy a z A (kI dC dI cy a z A below #[.ref (a 4), .long (L0.2.1 1), .long (L0.2.1 3), .int (L0.1 5)] s) 8 (y_X10_dividedSmall k 0) (fun L => [(0, .ref (a 4)), (1, .long (L.2.1 1)), (3, .long (L.2.1 3)), (5, .int (L.1 5))]) 0 (fun L => [])) ∧ (bC p l e (headSpec w_y_X10_dividedSmall ({ frames := 3, cells := 0, slots := 0, locals := 108 })).room s m #[.ref (a 4), .long (L0.2.1 1), .long (L0.2.1 3), .int (L0.1 5)] below meth c dC dI cy a z A (kI dC dI cy a z A below #[.ref (a 4), .long (L0.2.1 1), .long (L0.2.1 3), .int (L0.1 5)] s) 8 (y_X10_dividedSmall k 1) (fun L => [(0, .ref (a 4)), (1, .long (L.2.1 1)), (3, .long (L.2.1 3)), (5, .int (L.1 5))]) 9 (fun L => [])) ∧ (bC p l e (headSpec w_y_X10_dividedSmall ({ frames := 3, cells := 0, slots := 0, locals := 108 })).room s m #[.ref (a 4), .long (L0.2.1 1), .long (L0.2.1 3), .int (L0.1 5)] below meth c dC dI cy a z A (kI dC dI cy a z A below #[.ref (a 4), .long (L0.2.1 1), .long (L0.2.1 3), .int (L0.1 5)] s) 8 (y_X10_dividedSmall k 2) (fun L => [(0, .ref (a 4)), (1, .long (L.2.1 1)), (3, .long (L.2.1 3)), (5, .int (L.1 5)), (6, .long (L.2.1 6))]) 38 (fun L => [])) ∧ (bC p l e (headSpec w_y_X10_dividedSmall ({ frames := 3, cells := 0, slots := 0, locals := 108 })).room s m #[.ref (a 4), .long (L0.2.1 1), .long (L0.2.1 3), .int (L0.1 5)] below meth c dC dI cy a z A (kI dC dI cy a z A below #[.ref (a 4), .long (L0.2.1 1), .long (L0.2.1 3), .int (L0.1 5)] s) 8 (y_X10_dividedSmall k 3) (fun L => [(0, .ref (a 4)), (1, .long (L.2.1 1)), (3, .long (L.2.1 3)), (5, .int (L.1 5))]) 34 (fun L => [.long (L.2.1 100)])) ∧ (bC p l e (headSpec w_y_X10_dividedSmall ({ frames := 3, cells := 0, slots := 0, locals := 108 })).room s m #[.ref (a 4), .long (L0.2.1 1), .long (L0.2.1 3), .int (L0.1 5)] below meth c dC dI cy a z A (kI dC dI cy a z A below #[.ref (a 4), .long (L0.2.1 1), .long (L0.2.1 3), .int (L0.1 5)] s) 8 (y_X10_dividedSmall k 4) (fun L => [(0, .ref (a 4)), (1, .long (L.2.1 1)), (3, .long (L.2.1 3)), (5, .int (L.1 5))]) 35 (fun L => [.long (L.2.1 100), .long (L.2.1 101)])) ∧ (bC p l e (headSpec w_y_X10_dividedSmall ({ frames := 3, cells := 0, slots := 0, locals := 108 })).room s m #[.ref (a 4), .long (L0.2.1 1), .long (L0.2.1 3), .int (L0.1 5)] below meth c dC dI cy a z A (kI dC dI cy a z A below #[.ref (a 4), .long (L0.2.1 1), .long (L0.2.1 3), .int (L0.1 5)] s) 8 (y_X10_dividedSmall k 5) (fun L => [(1, .long (L.2.1 1)), (3, .long (L.2.1 3)), (6, .long (L.2.1 6))]) 49 (fun L => [.ref (a 4)])) ∧ (bC p l e (headSpec w_y_X10_dividedSmall ({ frames := 3, cells := 0, slots := 0, locals := 108 })).room s m #[.ref (a 4), .long (L0.2.1 1), .long (L0.2.1 3), .int (L0.1 5)] below meth c dC dI cy a z A (kI dC dI cy a z A below #[.ref (a 4), .long (L0.2.1 1), .long (L0.2.1 3), .int (L0.1 5)] s) 8 (y_X10_dividedSmall k 6) (fun L => []) 55 (fun L => [.long (L.2.1 100), .ref (a 4)])) := by
    intro k
    induction k with
    | zero => exact ⟨fun L σ r h => (by cases h), fun L σ r h => (by cases h), fun L σ r h => (by cases h), fun L σ r h => (by cases h), fun L σ r h => (by cases h), fun L σ r h => (by cases h), fun L σ r h => (by cases h)⟩
    | succ k ih =>
      refine ⟨?_, ?_, ?_, ?_, ?_, ?_, ?_⟩
      · intro L σ r h H locs ls hP hD hS hl
        rw [y_X10_dividedSmall] at h
        refine lv_lload_n hx hb dX10_dividedSmall_0 rfl (lv_at hl 2 rfl) ?_
        refine lv_lconst (v := 0) hx hb dX10_dividedSmall_1 (by decide) ?_
        refine nb_lcmp hx hb dX10_dividedSmall_2 ?_
        refine lv_if_ne (tgt := 9) hx hb dX10_dividedSmall_3 (by decide) (fun c1 => ?_) (fun c1 => ?_)
        · rw [if_neg c1] at h
          exact ih.2.1 L σ r h H locs ls hP hD hS (lv_sub hl [0, 1, 2, 3] rfl)
        · rw [if_pos c1] at h
          refine lv_ldc (v := (-268435454)) hx hb hown (hts _ (List.mem_cons_of_mem _ (List.mem_append_left _ (List.mem_append_left _ (List.mem_of_getElem? (i := 0) rfl))))) dX10_dividedSmall_6 ?_
          obtain rfl := Option.some.inj h
          exact W.iret (v := (-268435454)) hx hb hr (fun t ht hW => ⟨⟨(-268435454), (), rfl, rfl, by rw [ht]; exact hP, va_K.moved hW.alike hK, hD⟩, hS.F ht⟩) hS.2.2 dX10_dividedSmall_8
      · intro L σ r h H locs ls hP hD hS hl
        rw [y_X10_dividedSmall] at h
        refine lv_lload_n hx hb dX10_dividedSmall_9 rfl (lv_at hl 1 rfl) ?_
        refine lv_lload_n hx hb dX10_dividedSmall_10 rfl (lv_at hl 2 rfl) ?_
        obtain ⟨q1, h⟩ := kb_ite0 h
        refine lv_lrem hx hb dX10_dividedSmall_11 q1 ?_
        refine lv_lstore (lv' := [(6, .long (((L.2.1 1)) - ((L.2.1 1)) / ((L.2.1 3)) * ((L.2.1 3)))), (0, .ref (a 4)), (1, .long (L.2.1 1)), (3, .long (L.2.1 3)), (5, .int (L.1 5))]) hx hb dX10_dividedSmall_12 hl (by decide) rfl (fun ls hl => ?_)
        refine lv_lload hx hb dX10_dividedSmall_14 (lv_at hl 0 rfl) ?_
        refine lv_lconst (v := 0) hx hb dX10_dividedSmall_16 (by decide) ?_
        refine nb_lcmp hx hb dX10_dividedSmall_17 ?_
        refine lv_if_ge (tgt := 38) hx hb dX10_dividedSmall_18 (by decide) (fun c2 => ?_) (fun c2 => ?_)
        · rw [if_pos c2] at h
          exact ih.2.2.1 (lJ L 6 ((((L.2.1 1)) - ((L.2.1 1)) / ((L.2.1 3)) * ((L.2.1 3))))) σ r h H locs ls hP hD hS (lv_sub hl [1, 2, 3, 4, 0] rfl)
        · rw [if_neg c2] at h
          refine lv_lload hx hb dX10_dividedSmall_21 (lv_at hl 0 rfl) ?_
          refine lv_lload_n hx hb dX10_dividedSmall_23 rfl (lv_at hl 3 rfl) ?_
          refine lv_lconst (v := 0) hx hb dX10_dividedSmall_24 (by decide) ?_
          refine nb_lcmp hx hb dX10_dividedSmall_25 ?_
          refine lv_if_ge (tgt := 34) hx hb dX10_dividedSmall_26 (by decide) (fun c3 => ?_) (fun c3 => ?_)
          · rw [if_pos c3] at h
            exact ih.2.2.2.1 (lJ L 100 ((((L.2.1 1)) - ((L.2.1 1)) / ((L.2.1 3)) * ((L.2.1 3))))) σ r h H locs ls hP hD hS (lv_sub hl [1, 2, 3, 4] rfl)
          · rw [if_neg c3] at h
            refine lv_lload_n hx hb dX10_dividedSmall_29 rfl (lv_at hl 3 rfl) ?_
            refine lv_lneg hx hb dX10_dividedSmall_30 ?_
            refine lv_goto (tgt := 35) hx hb dX10_dividedSmall_31 (by decide) ?_
            exact ih.2.2.2.2.1 (lJ (lJ L 100 ((- ((L.2.1 3))))) 101 ((((L.2.1 1)) - ((L.2.1 1)) / ((L.2.1 3)) * ((L.2.1 3))))) σ r h H locs ls hP hD hS (lv_sub hl [1, 2, 3, 4] rfl)
      · intro L σ r h H locs ls hP hD hS hl
        rw [y_X10_dividedSmall] at h
        refine lv_aload_n hx hb dX10_dividedSmall_38 rfl (lv_at hl 0 rfl) ?_
        refine lv_iload hx hb dX10_dividedSmall_39 (lv_at hl 3 rfl) ?_
        refine lv_if_eq (tgt := 49) hx hb dX10_dividedSmall_41 (by decide) (fun c1 => ?_) (fun c1 => ?_)
        · rw [if_pos c1] at h
          exact ih.2.2.2.2.2.1 L σ r h H locs ls hP hD hS (lv_sub hl [1, 2, 4] rfl)
        · rw [if_neg c1] at h
          refine lv_lload hx hb dX10_dividedSmall_44 (lv_at hl 4 rfl) ?_
          refine lv_goto (tgt := 55) hx hb dX10_dividedSmall_46 (by decide) ?_
          exact ih.2.2.2.2.2.2 (lJ L 100 ((L.2.1 6))) σ r h H locs ls hP hD hS (lv_sub hl [] rfl)
      · intro L σ r h H locs ls hP hD hS hl
        rw [y_X10_dividedSmall] at h
        refine lv_lload_n hx hb dX10_dividedSmall_34 rfl (lv_at hl 2 rfl) ?_
        exact ih.2.2.2.2.1 (lJ (lJ L 100 ((L.2.1 3))) 101 ((L.2.1 100))) σ r h H locs ls hP hD hS (lv_sub hl [0, 1, 2, 3] rfl)
      · intro L σ r h H locs ls hP hD hS hl
        rw [y_X10_dividedSmall] at h
        refine lv_ladd hx hb dX10_dividedSmall_35 ?_
        refine lv_lstore (lv' := [(6, .long (((L.2.1 101)) + ((L.2.1 100)))), (0, .ref (a 4)), (1, .long (L.2.1 1)), (3, .long (L.2.1 3)), (5, .int (L.1 5))]) hx hb dX10_dividedSmall_36 hl (by decide) rfl (fun ls hl => ?_)
        exact ih.2.2.1 (lJ L 6 ((((L.2.1 101)) + ((L.2.1 100))))) σ r h H locs ls hP hD hS (lv_sub hl [1, 2, 3, 4, 0] rfl)
      · intro L σ r h H locs ls hP hD hS hl
        rw [y_X10_dividedSmall] at h
        refine lv_lload_n hx hb dX10_dividedSmall_49 rfl (lv_at hl 0 rfl) ?_
        refine lv_lload hx hb dX10_dividedSmall_50 (lv_at hl 2 rfl) ?_
        refine lv_lsub hx hb dX10_dividedSmall_52 ?_
        refine lv_lload_n hx hb dX10_dividedSmall_53 rfl (lv_at hl 1 rfl) ?_
        obtain ⟨q1, h⟩ := kb_ite0 h
        refine lv_ldiv hx hb dX10_dividedSmall_54 q1 ?_
        exact ih.2.2.2.2.2.2 (lJ L 100 ((((((L.2.1 1)) - ((L.2.1 6)))) / ((L.2.1 3))))) σ r h H locs ls hP hD hS (lv_sub hl [] rfl)
      · intro L σ r h H locs ls hP hD hS hl
        rw [y_X10_dividedSmall] at h
        obtain ⟨r1, hc1, h⟩ := oc_ex h
        refine kc_i (va_runV (As := [.long (L.2.1 100)]) (rest := []) ⟨hx, hb, hml, hown, hts⟩ (c_y_X10_of l dC dI cy a z k (lJ lZ 1 ((L.2.1 100))) σ r1 hc1 H.size) (cwV 1 hts g_y_X10_dividedSmall_X10_of_V79 rfl rfl rfl hd_y_X10_of ⟨Nat.le_of_ble_eq_true rfl, Nat.le_of_ble_eq_true rfl⟩) ⟨nb_blind, va_recv hK hP (ci := 9) (q0 := 4) rfl rfl, (kb_pre hK hG hP hD)⟩ rfl rfl hl.1 rfl (lv_room (Nat.le_of_ble_eq_true rfl)) dX10_dividedSmall_55 ⟨Nat.le_refl _, Nat.le_refl _⟩) hA hP hD hS (fun H locs hP hD hS => ?_)
        obtain rfl := Option.some.inj h
        exact W.iret (v := r1.1) hx hb hr (fun t ht hW => ⟨⟨r1.1, (), rfl, rfl, by rw [ht]; exact hP, va_K.moved hW.alike hK, hD⟩, hS.F ht⟩) hS.2.2 dX10_dividedSmall_58
  exact (blk k0).1 L0 σ0 r0 h0 s.heap [] ls hP hD hS hl
/-! X10_addBack -/
def y_X10_addBack : Nat → Nat → LV → CS → Option (Int32 × CS)
  | 0, _, _, _ => none
  | k + 1, 0, L, σ => y_X10_addBack k 1 (lI (lI L 3 0) 4 0) σ
  | k + 1, 1, L, σ => if ((L.1 2)) ≤ ((L.1 4)) then (y_X10_addBack k 2 L σ) else (if ¬ (((((L.1 1)) + ((L.1 4)))) < 0 ∨ 72 ≤ ((((L.1 1)) + ((L.1 4)))).toNatClampNeg) then (if ¬ (((L.1 4)) < 0 ∨ 72 ≤ ((L.1 4)).toNatClampNeg) then (if ¬ (((((L.1 1)) + ((L.1 4)))) < 0 ∨ 72 ≤ ((((L.1 1)) + ((L.1 4)))).toNatClampNeg) then (y_X10_addBack k 1 (lI (lI L 3 (((((((((L.1 3)) + ((σ.2.2.1 8 ((((L.1 1)) + ((L.1 4)))).toNatClampNeg)))) + ((σ.2.2.1 9 ((L.1 4)).toNatClampNeg)))).toUInt32 >>> ((16 : Int32).toUInt32 &&& Int32.toUInt32 31)).toInt32))) 4 ((((L.1 4)) + 1))) (uA σ 8 ((((L.1 1)) + ((L.1 4)))).toNatClampNeg ((((((((L.1 3)) + ((σ.2.2.1 8 ((((L.1 1)) + ((L.1 4)))).toNatClampNeg)))) + ((σ.2.2.1 9 ((L.1 4)).toNatClampNeg)))) &&& 65535)))) else none) else none) else none)
  | k + 1, 2, L, σ => if ¬ (((((L.1 1)) + ((L.1 2)))) < 0 ∨ 72 ≤ ((((L.1 1)) + ((L.1 2)))).toNatClampNeg) then (if ¬ (((((L.1 1)) + ((L.1 2)))) < 0 ∨ 72 ≤ ((((L.1 1)) + ((L.1 2)))).toNatClampNeg) then (some (0, (uA σ 8 ((((L.1 1)) + ((L.1 2)))).toNatClampNeg ((((((σ.2.2.1 8 ((((L.1 1)) + ((L.1 2)))).toNatClampNeg)) + ((L.1 3)))) &&& 65535))))) else none) else none
  | _ + 1, _ + 3, _, _ => none
def o_y_X10_addBack : List Cond := [.fieldLink RX10 21 "SetHouse$Wholes" "dividend" "[I", .fieldLink RX10 24 "SetHouse$Wholes" "divisor" "[I", .constant RX10 149 (65535)]
theorem o_y_X10_addBack_good : o_y_X10_addBack.all goodWord = true := by decide +kernel
def p_y_X10_addBack : List Cond := o_y_X10_addBack ++ []
theorem p_y_X10_addBack_good : p_y_X10_addBack.all goodWord = true := nb_all2 o_y_X10_addBack_good rfl
def w_y_X10_addBack : List Cond := .code yX10_addBack cX10_addBack 5 none :: (p_y_X10_addBack ++ fC)
theorem w_y_X10_addBack_good : w_y_X10_addBack.all goodWord = true := nb_allc (by decide +kernel) (nb_all2 p_y_X10_addBack_good fC_good)
theorem in_y_X10_addBack_X10 : ∀ w ∈ wsX100, w ∈ w_y_X10_addBack := fun _ h => List.mem_cons_of_mem _ (List.mem_append_right _ (List.mem_append_right _ (List.mem_append_right _ (List.mem_append_right _ (List.mem_append_right _ (List.mem_append_right _ (List.mem_append_right _ (List.mem_append_right _ (List.mem_append_right _ (List.mem_append_right _ (List.mem_append_left _ h)))))))))))
theorem hd_y_X10_addBack : yX10_addBack.cls = RX10 ∧ yX10_addBack.cls ≠ "java/lang/invoke/MethodHandle" ∧ yX10_addBack.cls ≠ "java/lang/invoke/VarHandle" ∧ (parseMethodDescriptor yX10_addBack.desc).map (fun d => d.parameters.length) = some 2 := by decide +kernel
set_option maxHeartbeats 40000000 in
set_option maxRecDepth 100000 in
theorem c_y_X10_addBack (l : Launch) (dC : Nat → ClassId) (dI : Nat → Nat → Nat) (cy : Nat → ClassId) (a z : Nat → Nat) (k0 : Nat) (L0 : LV) (σ0 : CS) (r0 : Int32 × CS) (h0 : y_X10_addBack k0 0 L0 σ0 = some r0) (sz : Nat) : Met l yX10_addBack w_y_X10_addBack ({ frames := 0, cells := 0, slots := 0, locals := 0 }) (va_Pc [.ref (a 4), .int (L0.1 1), .int (L0.1 2)] (nIn (dC, dI) cy sz (vC cy a z σ0))) (va_Qv (fun _ : Unit => True) (fun _ t => nOut (dC, dI) cy (va_A (vC cy a z σ0) sz) (vC cy a z r0.2) t) (va_A (vC cy a z σ0) sz)) 0 0 (va_A (vC cy a z σ0) sz) := by
  refine Met.ofW (cc := cX10_addBack) (maxL := 5) (ret := none) (by decide) rfl ?_
  intro p e s m args below meth c s₁ B hml hv
  obtain ⟨rfl, hsz, hP, hK, hD0, hG⟩ := hv
  have hx := B.exec
  have hb := B.bytes
  have hr := B.returns
  have hts := atoms_spec (ws := w_y_X10_addBack) B.pre
  have hown : s.vm.findClass RX10 = some m.cls := findClass_of_methodNamed B.named
  have hlocks := B.notSynchronized
  subst hsz
  have hD := hD0.self (sz := s.heap.size)
  generalize hAe : va_A (vC cy a z σ0) s.heap.size = A at hD ⊢
  have hA : ∀ q : Nat, s.heap.size ≤ q → A q := fun q h => by rw [← hAe]; exact Or.inr h
  have hS : va_S A s.heap s.heap [] := va_S.rf
  have hl := lv_entry ([.ref (a 4), .int (L0.1 1), .int (L0.1 2)]) (n := 5) (Nat.le_of_ble_eq_true rfl)
  rw [lg_entry_eq]
  generalize (lg_sl ([.ref (a 4), .int (L0.1 1), .int (L0.1 2)]) ++ List.replicate (5 - (lg_sl ([.ref (a 4), .int (L0.1 1), .int (L0.1 2)])).length) Slot.unset).toArray = ls at hl ⊢
  have hl : lv_has ls 5 [(0, .ref (a 4)), (1, .int (L0.1 1)), (2, .int (L0.1 2))] := hl
  have blk : ∀ k : Nat, (bC p l e (headSpec w_y_X10_addBack ({ frames := 0, cells := 0, slots := 0, locals := 0 })).room s m #[.ref (a 4), .int (L0.1 1), .int (L0.1 2)] below meth c dC dI cy a z A (kV dC dI cy a z A below #[.ref (a 4), .int (L0.1 1), .int (L0.1 2)] s) 5 (y_X10_addBack k 0) (fun L => [(0, .ref (a 4)), (1, .int (L.1 1)), (2, .int (L.1 2))]) 0 (fun L => [])) ∧ (bC p l e (headSpec w_y_X10_addBack ({ frames := 0, cells := 0, slots := 0, locals := 0 })).room s m #[.ref (a 4), .int (L0.1 1), .int (L0.1 2)] below meth c dC dI cy a z A (kV dC dI cy a z A below #[.ref (a 4), .int (L0.1 1), .int (L0.1 2)] s) 5 (y_X10_addBack k 1) (fun L => [(0, .ref (a 4)), (1, .int (L.1 1)), (2, .int (L.1 2)), (3, .int (L.1 3)), (4, .int (L.1 4))]) 5 (fun L => [])) ∧ (bC p l e (headSpec w_y_X10_addBack ({ frames := 0, cells := 0, slots := 0, locals := 0 })).room s m #[.ref (a 4), .int (L0.1 1), .int (L0.1 2)] below meth c dC dI cy a z A (kV dC dI cy a z A below #[.ref (a 4), .int (L0.1 1), .int (L0.1 2)] s) 5 (y_X10_addBack k 2) (fun L => [(0, .ref (a 4)), (1, .int (L.1 1)), (2, .int (L.1 2)), (3, .int (L.1 3))]) 55 (fun L => [])) := by
    intro k
    induction k with
    | zero => exact ⟨fun L σ r h => (by cases h), fun L σ r h => (by cases h), fun L σ r h => (by cases h)⟩
    | succ k ih =>
      refine ⟨?_, ?_, ?_⟩
      · intro L σ r h H locs ls hP hD hS hl
        rw [y_X10_addBack] at h
        refine lv_iconst (v := 0) hx hb dX10_addBack_0 (by decide) ?_
        refine lv_istore_n (lv' := [(3, .int 0), (0, .ref (a 4)), (1, .int (L.1 1)), (2, .int (L.1 2))]) hx hb dX10_addBack_1 rfl hl (by decide) rfl (fun ls hl => ?_)
        refine lv_iconst (v := 0) hx hb dX10_addBack_2 (by decide) ?_
        refine lv_istore (lv' := [(4, .int 0), (3, .int 0), (0, .ref (a 4)), (1, .int (L.1 1)), (2, .int (L.1 2))]) hx hb dX10_addBack_3 hl (by decide) rfl (fun ls hl => ?_)
        exact ih.2.1 (lI (lI L 3 0) 4 0) σ r h H locs ls hP hD hS (lv_sub hl [2, 3, 4, 1, 0] rfl)
      · intro L σ r h H locs ls hP hD hS hl
        rw [y_X10_addBack] at h
        refine lv_iload hx hb dX10_addBack_5 (lv_at hl 4 rfl) ?_
        refine lv_iload_n hx hb dX10_addBack_7 rfl (lv_at hl 2 rfl) ?_
        refine lv_icmp_ge (tgt := 55) hx hb dX10_addBack_8 (by decide) (fun c1 => ?_) (fun c1 => ?_)
        · rw [if_pos c1] at h
          exact ih.2.2 L σ r h H locs ls hP hD hS (lv_sub hl [0, 1, 2, 3] rfl)
        · rw [if_neg c1] at h
          refine lv_iload_n hx hb dX10_addBack_11 rfl (lv_at hl 3 rfl) ?_
          refine lv_aload_n hx hb dX10_addBack_12 rfl (lv_at hl 0 rfl) ?_
          refine hg_4_5 hx hb hts in_y_X10_addBack_X10 hown hK hP (hts _ (List.mem_cons_of_mem _ (List.mem_append_left _ (List.mem_append_left _ (List.mem_of_getElem? (i := 0) rfl))))) dX10_addBack_13 ?_
          refine lv_iload_n hx hb dX10_addBack_16 rfl (lv_at hl 1 rfl) ?_
          refine lv_iload hx hb dX10_addBack_17 (lv_at hl 4 rfl) ?_
          refine lv_iadd hx hb dX10_addBack_19 ?_
          obtain ⟨q2, h⟩ := kb_ite1 h
          refine hl_8 hx hb hK hP q2 dX10_addBack_20 ?_
          refine lv_iadd hx hb dX10_addBack_21 ?_
          refine lv_aload_n hx hb dX10_addBack_22 rfl (lv_at hl 0 rfl) ?_
          refine hg_4_6 hx hb hts in_y_X10_addBack_X10 hown hK hP (hts _ (List.mem_cons_of_mem _ (List.mem_append_left _ (List.mem_append_left _ (List.mem_of_getElem? (i := 1) rfl))))) dX10_addBack_23 ?_
          refine lv_iload hx hb dX10_addBack_26 (lv_at hl 4 rfl) ?_
          obtain ⟨q3, h⟩ := kb_ite1 h
          refine hl_9 hx hb hK hP q3 dX10_addBack_28 ?_
          refine lv_iadd hx hb dX10_addBack_29 ?_
          refine lv_istore_n (lv' := [(3, .int (((((L.1 3)) + ((σ.2.2.1 8 ((((L.1 1)) + ((L.1 4)))).toNatClampNeg)))) + ((σ.2.2.1 9 ((L.1 4)).toNatClampNeg)))), (0, .ref (a 4)), (1, .int (L.1 1)), (2, .int (L.1 2)), (4, .int (L.1 4))]) hx hb dX10_addBack_30 rfl hl (by decide) rfl (fun ls hl => ?_)
          refine lv_aload_n hx hb dX10_addBack_31 rfl (lv_at hl 1 rfl) ?_
          refine hg_4_5 hx hb hts in_y_X10_addBack_X10 hown hK hP (hts _ (List.mem_cons_of_mem _ (List.mem_append_left _ (List.mem_append_left _ (List.mem_of_getElem? (i := 0) rfl))))) dX10_addBack_32 ?_
          refine lv_iload_n hx hb dX10_addBack_35 rfl (lv_at hl 2 rfl) ?_
          refine lv_iload hx hb dX10_addBack_36 (lv_at hl 4 rfl) ?_
          refine lv_iadd hx hb dX10_addBack_38 ?_
          refine lv_iload_n hx hb dX10_addBack_39 rfl (lv_at hl 0 rfl) ?_
          refine lv_ldc (v := 65535) hx hb hown (hts _ (List.mem_cons_of_mem _ (List.mem_append_left _ (List.mem_append_left _ (List.mem_of_getElem? (i := 2) rfl))))) dX10_addBack_40 ?_
          refine lv_iand hx hb dX10_addBack_42 ?_
          obtain ⟨q4, h⟩ := kb_ite1 h
          refine hs_8 hx hb hK hP hD hS q4 dX10_addBack_43 (fun H locs hP hD hS => ?_)
          refine lv_iload_n hx hb dX10_addBack_44 rfl (lv_at hl 0 rfl) ?_
          refine lv_bipush (v := 16) hx hb dX10_addBack_45 (by decide) ?_
          refine lv_iushr (v := (((((((L.1 3)) + ((σ.2.2.1 8 ((((L.1 1)) + ((L.1 4)))).toNatClampNeg)))) + ((σ.2.2.1 9 ((L.1 4)).toNatClampNeg)))).toUInt32 >>> ((16 : Int32).toUInt32 &&& Int32.toUInt32 31)).toInt32) hx hb dX10_addBack_47 rfl ?_
          refine lv_istore_n (lv' := [(3, .int ((((((((L.1 3)) + ((σ.2.2.1 8 ((((L.1 1)) + ((L.1 4)))).toNatClampNeg)))) + ((σ.2.2.1 9 ((L.1 4)).toNatClampNeg)))).toUInt32 >>> ((16 : Int32).toUInt32 &&& Int32.toUInt32 31)).toInt32)), (0, .ref (a 4)), (1, .int (L.1 1)), (2, .int (L.1 2)), (4, .int (L.1 4))]) hx hb dX10_addBack_48 rfl hl (by decide) rfl (fun ls hl => ?_)
          refine lv_iinc (v := ((L.1 4)) + 1) (lv' := [(4, .int (((L.1 4)) + 1)), (3, .int ((((((((L.1 3)) + ((σ.2.2.1 8 ((((L.1 1)) + ((L.1 4)))).toNatClampNeg)))) + ((σ.2.2.1 9 ((L.1 4)).toNatClampNeg)))).toUInt32 >>> ((16 : Int32).toUInt32 &&& Int32.toUInt32 31)).toInt32)), (0, .ref (a 4)), (1, .int (L.1 1)), (2, .int (L.1 2))]) hx hb dX10_addBack_49 hl (k := 4) rfl rfl (by decide) rfl (fun ls hl => ?_)
          refine lv_goto (tgt := 5) hx hb dX10_addBack_52 (by decide) ?_
          exact ih.2.1 (lI (lI L 3 (((((((((L.1 3)) + ((σ.2.2.1 8 ((((L.1 1)) + ((L.1 4)))).toNatClampNeg)))) + ((σ.2.2.1 9 ((L.1 4)).toNatClampNeg)))).toUInt32 >>> ((16 : Int32).toUInt32 &&& Int32.toUInt32 31)).toInt32))) 4 ((((L.1 4)) + 1))) (uA σ 8 ((((L.1 1)) + ((L.1 4)))).toNatClampNeg ((((((((L.1 3)) + ((σ.2.2.1 8 ((((L.1 1)) + ((L.1 4)))).toNatClampNeg)))) + ((σ.2.2.1 9 ((L.1 4)).toNatClampNeg)))) &&& 65535))) r h H locs ls hP hD hS (lv_sub hl [2, 3, 4, 1, 0] rfl)
      · intro L σ r h H locs ls hP hD hS hl
        rw [y_X10_addBack] at h
        refine lv_aload_n hx hb dX10_addBack_55 rfl (lv_at hl 0 rfl) ?_
        refine hg_4_5 hx hb hts in_y_X10_addBack_X10 hown hK hP (hts _ (List.mem_cons_of_mem _ (List.mem_append_left _ (List.mem_append_left _ (List.mem_of_getElem? (i := 0) rfl))))) dX10_addBack_56 ?_
        refine lv_iload_n hx hb dX10_addBack_59 rfl (lv_at hl 1 rfl) ?_
        refine lv_iload_n hx hb dX10_addBack_60 rfl (lv_at hl 2 rfl) ?_
        refine lv_iadd hx hb dX10_addBack_61 ?_
        refine lv_aload_n hx hb dX10_addBack_62 rfl (lv_at hl 0 rfl) ?_
        refine hg_4_5 hx hb hts in_y_X10_addBack_X10 hown hK hP (hts _ (List.mem_cons_of_mem _ (List.mem_append_left _ (List.mem_append_left _ (List.mem_of_getElem? (i := 0) rfl))))) dX10_addBack_63 ?_
        refine lv_iload_n hx hb dX10_addBack_66 rfl (lv_at hl 1 rfl) ?_
        refine lv_iload_n hx hb dX10_addBack_67 rfl (lv_at hl 2 rfl) ?_
        refine lv_iadd hx hb dX10_addBack_68 ?_
        obtain ⟨q1, h⟩ := kb_ite1 h
        refine hl_8 hx hb hK hP q1 dX10_addBack_69 ?_
        refine lv_iload_n hx hb dX10_addBack_70 rfl (lv_at hl 3 rfl) ?_
        refine lv_iadd hx hb dX10_addBack_71 ?_
        refine lv_ldc (v := 65535) hx hb hown (hts _ (List.mem_cons_of_mem _ (List.mem_append_left _ (List.mem_append_left _ (List.mem_of_getElem? (i := 2) rfl))))) dX10_addBack_72 ?_
        refine lv_iand hx hb dX10_addBack_74 ?_
        obtain ⟨q2, h⟩ := kb_ite1 h
        refine hs_8 hx hb hK hP hD hS q2 dX10_addBack_75 (fun H locs hP hD hS => ?_)
        obtain rfl := Option.some.inj h
        exact W.vret hx hb hr (fun t ht hW => ⟨⟨(), rfl, trivial, by rw [ht]; exact hP, va_K.moved hW.alike hK, hD⟩, hS.F ht⟩) hS.2.2 dX10_addBack_76
  exact (blk k0).1 L0 σ0 r0 h0 s.heap [] ls hP hD hS hl
/-! X10_quotientDigit -/
def y_X10_quotientDigit : Nat → Nat → LV → CS → Option (Int32 × CS)
  | 0, _, _, _ => none
  | k + 1, 0, L, σ => if ((L.1 2)) ≤ 0 then (y_X10_quotientDigit k 1 L σ) else (if ¬ (((((L.1 2)) - 1)) < 0 ∨ 72 ≤ ((((L.1 2)) - 1)).toNatClampNeg) then (y_X10_quotientDigit k 2 (lJ L 100 ((((σ.2.2.1 9 ((((L.1 2)) - 1)).toNatClampNeg)).toInt64))) σ) else none)
  | k + 1, 1, L, σ => y_X10_quotientDigit k 2 (lJ L 100 0) σ
  | k + 1, 2, L, σ => if ((nbCmp ((L.2.1 100)) (0 : Int64))) = 0 then (some (0, σ)) else (y_X10_quotientDigit k 3 (lJ L 3 ((L.2.1 100))) σ)
  | k + 1, 3, L, σ => if ((L.1 2)) ≤ 1 then (y_X10_quotientDigit k 4 L σ) else (if ¬ (((((L.1 2)) - 2)) < 0 ∨ 72 ≤ ((((L.1 2)) - 2)).toNatClampNeg) then (y_X10_quotientDigit k 5 (lJ L 100 ((((σ.2.2.1 9 ((((L.1 2)) - 2)).toNatClampNeg)).toInt64))) σ) else none)
  | k + 1, 4, L, σ => y_X10_quotientDigit k 5 (lJ L 100 0) σ
  | k + 1, 5, L, σ => if ((L.1 2)) ≤ 1 then (y_X10_quotientDigit k 6 (lJ L 5 ((L.2.1 100))) σ) else (if ¬ (((((((L.1 1)) + ((L.1 2)))) - 2)) < 0 ∨ 72 ≤ ((((((L.1 1)) + ((L.1 2)))) - 2)).toNatClampNeg) then (y_X10_quotientDigit k 7 (lJ (lJ L 5 ((L.2.1 100))) 100 ((((σ.2.2.1 8 ((((((L.1 1)) + ((L.1 2)))) - 2)).toNatClampNeg)).toInt64))) σ) else none)
  | k + 1, 6, L, σ => y_X10_quotientDigit k 7 (lJ L 100 0) σ
  | k + 1, 7, L, σ => if ¬ (((((L.1 1)) + ((L.1 2)))) < 0 ∨ 72 ≤ ((((L.1 1)) + ((L.1 2)))).toNatClampNeg) then (if ¬ (((((((L.1 1)) + ((L.1 2)))) - 1)) < 0 ∨ 72 ≤ ((((((L.1 1)) + ((L.1 2)))) - 1)).toNatClampNeg) then (if ((L.2.1 3)) = 0 then none else (y_X10_quotientDigit k 8 (lI (lJ (lJ (lJ L 7 ((L.2.1 100))) 11 ((((((((((σ.2.2.1 8 ((((L.1 1)) + ((L.1 2)))).toNatClampNeg)).toInt64)) <<< ((16 : Int32).toInt64 &&& 63))) ||| ((((σ.2.2.1 8 ((((((L.1 1)) + ((L.1 2)))) - 1)).toNatClampNeg)).toInt64)))) / ((L.2.1 3))))) 13 ((((((((((σ.2.2.1 8 ((((L.1 1)) + ((L.1 2)))).toNatClampNeg)).toInt64)) <<< ((16 : Int32).toInt64 &&& 63))) ||| ((((σ.2.2.1 8 ((((((L.1 1)) + ((L.1 2)))) - 1)).toNatClampNeg)).toInt64)))) - ((((((((((((σ.2.2.1 8 ((((L.1 1)) + ((L.1 2)))).toNatClampNeg)).toInt64)) <<< ((16 : Int32).toInt64 &&& 63))) ||| ((((σ.2.2.1 8 ((((((L.1 1)) + ((L.1 2)))) - 1)).toNatClampNeg)).toInt64)))) / ((L.2.1 3)))) * ((L.2.1 3))))))) 15 0) σ)) else none) else none
  | k + 1, 8, L, σ => if 4 ≤ ((L.1 15)) then (y_X10_quotientDigit k 9 L σ) else (if 0 < ((nbCmp ((L.2.1 13)) (65535 : Int64))) then (y_X10_quotientDigit k 9 L σ) else (if 0 < ((nbCmp ((L.2.1 11)) (65535 : Int64))) then (y_X10_quotientDigit k 10 L σ) else (if ((nbCmp ((((L.2.1 11)) * ((L.2.1 5)))) ((((((L.2.1 13)) <<< ((16 : Int32).toInt64 &&& 63))) ||| ((L.2.1 7)))))) ≤ 0 then (y_X10_quotientDigit k 9 L σ) else (y_X10_quotientDigit k 10 L σ))))
  | k + 1, 9, L, σ => y_X10_quotientDigit k 11 (lI (lJ L 15 0) 17 0) σ
  | k + 1, 10, L, σ => y_X10_quotientDigit k 8 (lI (lJ (lJ L 11 ((((L.2.1 11)) - 1))) 13 ((((L.2.1 13)) + ((L.2.1 3))))) 15 ((((L.1 15)) + 1))) σ
  | k + 1, 11, L, σ => if ((L.1 2)) ≤ ((L.1 17)) then (y_X10_quotientDigit k 12 L σ) else (if ¬ (((((L.1 1)) + ((L.1 17)))) < 0 ∨ 72 ≤ ((((L.1 1)) + ((L.1 17)))).toNatClampNeg) then (if ¬ (((L.1 17)) < 0 ∨ 72 ≤ ((L.1 17)).toNatClampNeg) then (if ¬ (((((L.1 1)) + ((L.1 17)))) < 0 ∨ 72 ≤ ((((L.1 1)) + ((L.1 17)))).toNatClampNeg) then (y_X10_quotientDigit k 11 (lI (lJ L 15 ((((((((L.2.1 15)) + ((((σ.2.2.1 8 ((((L.1 1)) + ((L.1 17)))).toNatClampNeg)).toInt64)))) - ((((L.2.1 11)) * ((((σ.2.2.1 9 ((L.1 17)).toNatClampNeg)).toInt64)))))) >>> ((16 : Int32).toInt64 &&& 63)))) 17 ((((L.1 17)) + 1))) (uA σ 8 ((((L.1 1)) + ((L.1 17)))).toNatClampNeg ((((((((((L.2.1 15)) + ((((σ.2.2.1 8 ((((L.1 1)) + ((L.1 17)))).toNatClampNeg)).toInt64)))) - ((((L.2.1 11)) * ((((σ.2.2.1 9 ((L.1 17)).toNatClampNeg)).toInt64)))))) &&& 65535)).toInt32)))) else none) else none) else none)
  | k + 1, 12, L, σ => if ¬ (((((L.1 1)) + ((L.1 2)))) < 0 ∨ 72 ≤ ((((L.1 1)) + ((L.1 2)))).toNatClampNeg) then (if ¬ (((((L.1 1)) + ((L.1 2)))) < 0 ∨ 72 ≤ ((((L.1 1)) + ((L.1 2)))).toNatClampNeg) then (if 0 ≤ ((nbCmp ((((L.2.1 15)) + ((((σ.2.2.1 8 ((((L.1 1)) + ((L.1 2)))).toNatClampNeg)).toInt64)))) (0 : Int64))) then (y_X10_quotientDigit k 13 L (uA σ 8 ((((L.1 1)) + ((L.1 2)))).toNatClampNeg ((((((((L.2.1 15)) + ((((σ.2.2.1 8 ((((L.1 1)) + ((L.1 2)))).toNatClampNeg)).toInt64)))) &&& 65535)).toInt32)))) else (oc (y_X10_addBack k 0 (lI (lI lZ 1 ((L.1 1))) 2 ((L.1 2))) (uA σ 8 ((((L.1 1)) + ((L.1 2)))).toNatClampNeg ((((((((L.2.1 15)) + ((((σ.2.2.1 8 ((((L.1 1)) + ((L.1 2)))).toNatClampNeg)).toInt64)))) &&& 65535)).toInt32)))) (fun r4 => y_X10_quotientDigit k 13 (lJ L 11 ((((L.2.1 11)) - 1))) r4.2))) else none) else none
  | k + 1, 13, L, σ => some ((((L.2.1 11)).toInt32), σ)
  | _ + 1, _ + 14, _, _ => none
def o_y_X10_quotientDigit : List Cond := [.fieldLink RX10 24 "SetHouse$Wholes" "divisor" "[I", .fieldLink RX10 21 "SetHouse$Wholes" "dividend" "[I", .constantLong RX10 161 (65535), .methodLink RX10 163 yX10_addBack, .instanceMethod yX10_addBack, .selects RX10 yX10_addBack yX10_addBack, .initialized RX10]
theorem o_y_X10_quotientDigit_good : o_y_X10_quotientDigit.all goodWord = true := by decide +kernel
def p_y_X10_quotientDigit : List Cond := o_y_X10_quotientDigit ++ ((.code yX10_addBack cX10_addBack 5 none :: p_y_X10_addBack) ++ [])
theorem p_y_X10_quotientDigit_good : p_y_X10_quotientDigit.all goodWord = true := nb_all2 o_y_X10_quotientDigit_good (nb_all2 (nb_allc (by decide +kernel) p_y_X10_addBack_good) rfl)
def w_y_X10_quotientDigit : List Cond := .code yX10_quotientDigit cX10_quotientDigit 18 (some .int) :: (p_y_X10_quotientDigit ++ fC)
theorem w_y_X10_quotientDigit_good : w_y_X10_quotientDigit.all goodWord = true := nb_allc (by decide +kernel) (nb_all2 p_y_X10_quotientDigit_good fC_good)
theorem in_y_X10_quotientDigit_X10 : ∀ w ∈ wsX100, w ∈ w_y_X10_quotientDigit := fun _ h => List.mem_cons_of_mem _ (List.mem_append_right _ (List.mem_append_right _ (List.mem_append_right _ (List.mem_append_right _ (List.mem_append_right _ (List.mem_append_right _ (List.mem_append_right _ (List.mem_append_right _ (List.mem_append_right _ (List.mem_append_right _ (List.mem_append_left _ h)))))))))))
theorem hd_y_X10_quotientDigit : yX10_quotientDigit.cls = RX10 ∧ yX10_quotientDigit.cls ≠ "java/lang/invoke/MethodHandle" ∧ yX10_quotientDigit.cls ≠ "java/lang/invoke/VarHandle" ∧ (parseMethodDescriptor yX10_quotientDigit.desc).map (fun d => d.parameters.length) = some 2 := by decide +kernel
theorem gg_y_X10_quotientDigit_X10_addBack : GoodIn w_y_X10_quotientDigit w_y_X10_addBack := goodIn_sub (fun w h => (List.mem_cons.mp h).elim (fun e => (List.mem_cons_of_mem _ (List.mem_append_left _ (List.mem_append_right _ (List.mem_append_left _ (List.mem_cons.mpr (Or.inl e))))))) (fun h => (List.mem_append.mp h).elim (fun h => (List.mem_cons_of_mem _ (List.mem_append_left _ (List.mem_append_right _ (List.mem_append_left _ (List.mem_cons_of_mem _ h)))))) (fun h => List.mem_cons_of_mem _ (List.mem_append_right _ h)))) w_y_X10_addBack_good
theorem g_y_X10_quotientDigit_X10_addBack_V163 : GoodIn w_y_X10_quotientDigit (wsV RX10 163 RX10 yX10_addBack w_y_X10_addBack) := goodIn_app (nb_g4 (List.mem_cons_of_mem _ (List.mem_append_left _ (List.mem_append_left _ (List.mem_of_getElem? (i := 3) rfl)))) (List.mem_cons_of_mem _ (List.mem_append_left _ (List.mem_append_left _ (List.mem_of_getElem? (i := 4) rfl)))) (List.mem_cons_of_mem _ (List.mem_append_left _ (List.mem_append_left _ (List.mem_of_getElem? (i := 5) rfl)))) (List.mem_cons_of_mem _ (List.mem_append_left _ (List.mem_append_left _ (List.mem_of_getElem? (i := 6) rfl)))) (by decide +kernel)) gg_y_X10_quotientDigit_X10_addBack
set_option maxHeartbeats 40000000 in
set_option maxRecDepth 100000 in
theorem c_y_X10_quotientDigit (l : Launch) (dC : Nat → ClassId) (dI : Nat → Nat → Nat) (cy : Nat → ClassId) (a z : Nat → Nat) (k0 : Nat) (L0 : LV) (σ0 : CS) (r0 : Int32 × CS) (h0 : y_X10_quotientDigit k0 0 L0 σ0 = some r0) (sz : Nat) : Met l yX10_quotientDigit w_y_X10_quotientDigit ({ frames := 1, cells := 0, slots := 0, locals := 24 }) (va_Pc [.ref (a 4), .int (L0.1 1), .int (L0.1 2)] (nIn (dC, dI) cy sz (vC cy a z σ0))) (va_Qi (fun (x : Int32) (_ : Unit) => x = r0.1) (fun _ t => nOut (dC, dI) cy (va_A (vC cy a z σ0) sz) (vC cy a z r0.2) t) (va_A (vC cy a z σ0) sz)) 0 0 (va_A (vC cy a z σ0) sz) := by
  refine Met.ofW (cc := cX10_quotientDigit) (maxL := 18) (ret := (some .int)) (by decide) rfl ?_
  intro p e s m args below meth c s₁ B hml hv
  obtain ⟨rfl, hsz, hP, hK, hD0, hG⟩ := hv
  have hx := B.exec
  have hb := B.bytes
  have hr := B.returns
  have hts := atoms_spec (ws := w_y_X10_quotientDigit) B.pre
  have hown : s.vm.findClass RX10 = some m.cls := findClass_of_methodNamed B.named
  have hlocks := B.notSynchronized
  subst hsz
  have hD := hD0.self (sz := s.heap.size)
  generalize hAe : va_A (vC cy a z σ0) s.heap.size = A at hD ⊢
  have hA : ∀ q : Nat, s.heap.size ≤ q → A q := fun q h => by rw [← hAe]; exact Or.inr h
  have hS : va_S A s.heap s.heap [] := va_S.rf
  have hl := lv_entry ([.ref (a 4), .int (L0.1 1), .int (L0.1 2)]) (n := 18) (Nat.le_of_ble_eq_true rfl)
  rw [lg_entry_eq]
  generalize (lg_sl ([.ref (a 4), .int (L0.1 1), .int (L0.1 2)]) ++ List.replicate (18 - (lg_sl ([.ref (a 4), .int (L0.1 1), .int (L0.1 2)])).length) Slot.unset).toArray = ls at hl ⊢
  have hl : lv_has ls 18 [(0, .ref (a 4)), (1, .int (L0.1 1)), (2, .int (L0.1 2))] := hl
  have blk : ∀ k : Nat, (bC p l e (headSpec w_y_X10_quotientDigit ({ frames := 1, cells := 0, slots := 0, locals := 24 })).room s m #[.ref (a 4), .int (L0.1 1), .int (L0.1 2)] below meth c dC dI cy a z A (kI dC dI cy a z A below #[.ref (a 4), .int (L0.1 1), .int (L0.1 2)] s) 18 (y_X10_quotientDigit k 0) (fun L => [(0, .ref (a 4)), (1, .int (L.1 1)), (2, .int (L.1 2))]) 0 (fun L => [])) ∧ (bC p l e (headSpec w_y_X10_quotientDigit ({ frames := 1, cells := 0, slots := 0, locals := 24 })).room s m #[.ref (a 4), .int (L0.1 1), .int (L0.1 2)] below meth c dC dI cy a z A (kI dC dI cy a z A below #[.ref (a 4), .int (L0.1 1), .int (L0.1 2)] s) 18 (y_X10_quotientDigit k 1) (fun L => [(0, .ref (a 4)), (1, .int (L.1 1)), (2, .int (L.1 2))]) 16 (fun L => [])) ∧ (bC p l e (headSpec w_y_X10_quotientDigit ({ frames := 1, cells := 0, slots := 0, locals := 24 })).room s m #[.ref (a 4), .int (L0.1 1), .int (L0.1 2)] below meth c dC dI cy a z A (kI dC dI cy a z A below #[.ref (a 4), .int (L0.1 1), .int (L0.1 2)] s) 18 (y_X10_quotientDigit k 2) (fun L => [(0, .ref (a 4)), (1, .int (L.1 1)), (2, .int (L.1 2))]) 17 (fun L => [.long (L.2.1 100)])) ∧ (bC p l e (headSpec w_y_X10_quotientDigit ({ frames := 1, cells := 0, slots := 0, locals := 24 })).room s m #[.ref (a 4), .int (L0.1 1), .int (L0.1 2)] below meth c dC dI cy a z A (kI dC dI cy a z A below #[.ref (a 4), .int (L0.1 1), .int (L0.1 2)] s) 18 (y_X10_quotientDigit k 3) (fun L => [(0, .ref (a 4)), (1, .int (L.1 1)), (2, .int (L.1 2)), (3, .long (L.2.1 3))]) 26 (fun L => [])) ∧ (bC p l e (headSpec w_y_X10_quotientDigit ({ frames := 1, cells := 0, slots := 0, locals := 24 })).room s m #[.ref (a 4), .int (L0.1 1), .int (L0.1 2)] below meth c dC dI cy a z A (kI dC dI cy a z A below #[.ref (a 4), .int (L0.1 1), .int (L0.1 2)] s) 18 (y_X10_quotientDigit k 4) (fun L => [(0, .ref (a 4)), (1, .int (L.1 1)), (2, .int (L.1 2)), (3, .long (L.2.1 3))]) 43 (fun L => [])) ∧ (bC p l e (headSpec w_y_X10_quotientDigit ({ frames := 1, cells := 0, slots := 0, locals := 24 })).room s m #[.ref (a 4), .int (L0.1 1), .int (L0.1 2)] below meth c dC dI cy a z A (kI dC dI cy a z A below #[.ref (a 4), .int (L0.1 1), .int (L0.1 2)] s) 18 (y_X10_quotientDigit k 5) (fun L => [(0, .ref (a 4)), (1, .int (L.1 1)), (2, .int (L.1 2)), (3, .long (L.2.1 3))]) 44 (fun L => [.long (L.2.1 100)])) ∧ (bC p l e (headSpec w_y_X10_quotientDigit ({ frames := 1, cells := 0, slots := 0, locals := 24 })).room s m #[.ref (a 4), .int (L0.1 1), .int (L0.1 2)] below meth c dC dI cy a z A (kI dC dI cy a z A below #[.ref (a 4), .int (L0.1 1), .int (L0.1 2)] s) 18 (y_X10_quotientDigit k 6) (fun L => [(0, .ref (a 4)), (1, .int (L.1 1)), (2, .int (L.1 2)), (3, .long (L.2.1 3)), (5, .long (L.2.1 5))]) 65 (fun L => [])) ∧ (bC p l e (headSpec w_y_X10_quotientDigit ({ frames := 1, cells := 0, slots := 0, locals := 24 })).room s m #[.ref (a 4), .int (L0.1 1), .int (L0.1 2)] below meth c dC dI cy a z A (kI dC dI cy a z A below #[.ref (a 4), .int (L0.1 1), .int (L0.1 2)] s) 18 (y_X10_quotientDigit k 7) (fun L => [(0, .ref (a 4)), (1, .int (L.1 1)), (2, .int (L.1 2)), (3, .long (L.2.1 3)), (5, .long (L.2.1 5))]) 66 (fun L => [.long (L.2.1 100)])) ∧ (bC p l e (headSpec w_y_X10_quotientDigit ({ frames := 1, cells := 0, slots := 0, locals := 24 })).room s m #[.ref (a 4), .int (L0.1 1), .int (L0.1 2)] below meth c dC dI cy a z A (kI dC dI cy a z A below #[.ref (a 4), .int (L0.1 1), .int (L0.1 2)] s) 18 (y_X10_quotientDigit k 8) (fun L => [(0, .ref (a 4)), (1, .int (L.1 1)), (2, .int (L.1 2)), (3, .long (L.2.1 3)), (5, .long (L.2.1 5)), (7, .long (L.2.1 7)), (11, .long (L.2.1 11)), (13, .long (L.2.1 13)), (15, .int (L.1 15))]) 112 (fun L => [])) ∧ (bC p l e (headSpec w_y_X10_quotientDigit ({ frames := 1, cells := 0, slots := 0, locals := 24 })).room s m #[.ref (a 4), .int (L0.1 1), .int (L0.1 2)] below meth c dC dI cy a z A (kI dC dI cy a z A below #[.ref (a 4), .int (L0.1 1), .int (L0.1 2)] s) 18 (y_X10_quotientDigit k 9) (fun L => [(0, .ref (a 4)), (1, .int (L.1 1)), (2, .int (L.1 2)), (11, .long (L.2.1 11))]) 171 (fun L => [])) ∧ (bC p l e (headSpec w_y_X10_quotientDigit ({ frames := 1, cells := 0, slots := 0, locals := 24 })).room s m #[.ref (a 4), .int (L0.1 1), .int (L0.1 2)] below meth c dC dI cy a z A (kI dC dI cy a z A below #[.ref (a 4), .int (L0.1 1), .int (L0.1 2)] s) 18 (y_X10_quotientDigit k 10) (fun L => [(0, .ref (a 4)), (1, .int (L.1 1)), (2, .int (L.1 2)), (3, .long (L.2.1 3)), (5, .long (L.2.1 5)), (7, .long (L.2.1 7)), (11, .long (L.2.1 11)), (13, .long (L.2.1 13)), (15, .int (L.1 15))]) 153 (fun L => [])) ∧ (bC p l e (headSpec w_y_X10_quotientDigit ({ frames := 1, cells := 0, slots := 0, locals := 24 })).room s m #[.ref (a 4), .int (L0.1 1), .int (L0.1 2)] below meth c dC dI cy a z A (kI dC dI cy a z A below #[.ref (a 4), .int (L0.1 1), .int (L0.1 2)] s) 18 (y_X10_quotientDigit k 11) (fun L => [(0, .ref (a 4)), (1, .int (L.1 1)), (2, .int (L.1 2)), (11, .long (L.2.1 11)), (15, .long (L.2.1 15)), (17, .int (L.1 17))]) 177 (fun L => [])) ∧ (bC p l e (headSpec w_y_X10_quotientDigit ({ frames := 1, cells := 0, slots := 0, locals := 24 })).room s m #[.ref (a 4), .int (L0.1 1), .int (L0.1 2)] below meth c dC dI cy a z A (kI dC dI cy a z A below #[.ref (a 4), .int (L0.1 1), .int (L0.1 2)] s) 18 (y_X10_quotientDigit k 12) (fun L => [(0, .ref (a 4)), (1, .int (L.1 1)), (2, .int (L.1 2)), (11, .long (L.2.1 11)), (15, .long (L.2.1 15))]) 239 (fun L => [])) ∧ (bC p l e (headSpec w_y_X10_quotientDigit ({ frames := 1, cells := 0, slots := 0, locals := 24 })).room s m #[.ref (a 4), .int (L0.1 1), .int (L0.1 2)] below meth c dC dI cy a z A (kI dC dI cy a z A below #[.ref (a 4), .int (L0.1 1), .int (L0.1 2)] s) 18 (y_X10_quotientDigit k 13) (fun L => [(11, .long (L.2.1 11))]) 287 (fun L => [])) := by
    intro k
    induction k with
    | zero => exact ⟨fun L σ r h => (by cases h), fun L σ r h => (by cases h), fun L σ r h => (by cases h), fun L σ r h => (by cases h), fun L σ r h => (by cases h), fun L σ r h => (by cases h), fun L σ r h => (by cases h), fun L σ r h => (by cases h), fun L σ r h => (by cases h), fun L σ r h => (by cases h), fun L σ r h => (by cases h), fun L σ r h => (by cases h), fun L σ r h => (by cases h), fun L σ r h => (by cases h)⟩
    | succ k ih =>
      refine ⟨?_, ?_, ?_, ?_, ?_, ?_, ?_, ?_, ?_, ?_, ?_, ?_, ?_, ?_⟩
      · intro L σ r h H locs ls hP hD hS hl
        rw [y_X10_quotientDigit] at h
        refine lv_iload_n hx hb dX10_quotientDigit_0 rfl (lv_at hl 2 rfl) ?_
        refine lv_if_le (tgt := 16) hx hb dX10_quotientDigit_1 (by decide) (fun c1 => ?_) (fun c1 => ?_)
        · rw [if_pos c1] at h
          exact ih.2.1 L σ r h H locs ls hP hD hS (lv_sub hl [0, 1, 2] rfl)
        · rw [if_neg c1] at h
          refine lv_aload_n hx hb dX10_quotientDigit_4 rfl (lv_at hl 0 rfl) ?_
          refine hg_4_6 hx hb hts in_y_X10_quotientDigit_X10 hown hK hP (hts _ (List.mem_cons_of_mem _ (List.mem_append_left _ (List.mem_append_left _ (List.mem_of_getElem? (i := 0) rfl))))) dX10_quotientDigit_5 ?_
          refine lv_iload_n hx hb dX10_quotientDigit_8 rfl (lv_at hl 2 rfl) ?_
          refine lv_iconst (v := 1) hx hb dX10_quotientDigit_9 (by decide) ?_
          refine lv_isub hx hb dX10_quotientDigit_10 ?_
          obtain ⟨q2, h⟩ := kb_ite1 h
          refine hl_9 hx hb hK hP q2 dX10_quotientDigit_11 ?_
          refine lv_i2l (v := ((σ.2.2.1 9 ((((L.1 2)) - 1)).toNatClampNeg)).toInt64) hx hb dX10_quotientDigit_12 rfl ?_
          refine lv_goto (tgt := 17) hx hb dX10_quotientDigit_13 (by decide) ?_
          exact ih.2.2.1 (lJ L 100 ((((σ.2.2.1 9 ((((L.1 2)) - 1)).toNatClampNeg)).toInt64))) σ r h H locs ls hP hD hS (lv_sub hl [0, 1, 2] rfl)
      · intro L σ r h H locs ls hP hD hS hl
        rw [y_X10_quotientDigit] at h
        refine lv_lconst (v := 0) hx hb dX10_quotientDigit_16 (by decide) ?_
        exact ih.2.2.1 (lJ L 100 0) σ r h H locs ls hP hD hS (lv_sub hl [0, 1, 2] rfl)
      · intro L σ r h H locs ls hP hD hS hl
        rw [y_X10_quotientDigit] at h
        refine lv_lstore_n (lv' := [(3, .long (L.2.1 100)), (0, .ref (a 4)), (1, .int (L.1 1)), (2, .int (L.1 2))]) hx hb dX10_quotientDigit_17 rfl hl (by decide) rfl (fun ls hl => ?_)
        refine lv_lload_n hx hb dX10_quotientDigit_18 rfl (lv_at hl 0 rfl) ?_
        refine lv_lconst (v := 0) hx hb dX10_quotientDigit_19 (by decide) ?_
        refine nb_lcmp hx hb dX10_quotientDigit_20 ?_
        refine lv_if_ne (tgt := 26) hx hb dX10_quotientDigit_21 (by decide) (fun c1 => ?_) (fun c1 => ?_)
        · rw [if_neg c1] at h
          exact ih.2.2.2.1 (lJ L 3 ((L.2.1 100))) σ r h H locs ls hP hD hS (lv_sub hl [1, 2, 3, 0] rfl)
        · rw [if_pos c1] at h
          refine lv_iconst (v := 0) hx hb dX10_quotientDigit_24 (by decide) ?_
          obtain rfl := Option.some.inj h
          exact W.iret (v := 0) hx hb hr (fun t ht hW => ⟨⟨0, (), rfl, rfl, by rw [ht]; exact hP, va_K.moved hW.alike hK, hD⟩, hS.F ht⟩) hS.2.2 dX10_quotientDigit_25
      · intro L σ r h H locs ls hP hD hS hl
        rw [y_X10_quotientDigit] at h
        refine lv_iload_n hx hb dX10_quotientDigit_26 rfl (lv_at hl 2 rfl) ?_
        refine lv_iconst (v := 1) hx hb dX10_quotientDigit_27 (by decide) ?_
        refine lv_icmp_le (tgt := 43) hx hb dX10_quotientDigit_28 (by decide) (fun c1 => ?_) (fun c1 => ?_)
        · rw [if_pos c1] at h
          exact ih.2.2.2.2.1 L σ r h H locs ls hP hD hS (lv_sub hl [0, 1, 2, 3] rfl)
        · rw [if_neg c1] at h
          refine lv_aload_n hx hb dX10_quotientDigit_31 rfl (lv_at hl 0 rfl) ?_
          refine hg_4_6 hx hb hts in_y_X10_quotientDigit_X10 hown hK hP (hts _ (List.mem_cons_of_mem _ (List.mem_append_left _ (List.mem_append_left _ (List.mem_of_getElem? (i := 0) rfl))))) dX10_quotientDigit_32 ?_
          refine lv_iload_n hx hb dX10_quotientDigit_35 rfl (lv_at hl 2 rfl) ?_
          refine lv_iconst (v := 2) hx hb dX10_quotientDigit_36 (by decide) ?_
          refine lv_isub hx hb dX10_quotientDigit_37 ?_
          obtain ⟨q2, h⟩ := kb_ite1 h
          refine hl_9 hx hb hK hP q2 dX10_quotientDigit_38 ?_
          refine lv_i2l (v := ((σ.2.2.1 9 ((((L.1 2)) - 2)).toNatClampNeg)).toInt64) hx hb dX10_quotientDigit_39 rfl ?_
          refine lv_goto (tgt := 44) hx hb dX10_quotientDigit_40 (by decide) ?_
          exact ih.2.2.2.2.2.1 (lJ L 100 ((((σ.2.2.1 9 ((((L.1 2)) - 2)).toNatClampNeg)).toInt64))) σ r h H locs ls hP hD hS (lv_sub hl [0, 1, 2, 3] rfl)
      · intro L σ r h H locs ls hP hD hS hl
        rw [y_X10_quotientDigit] at h
        refine lv_lconst (v := 0) hx hb dX10_quotientDigit_43 (by decide) ?_
        exact ih.2.2.2.2.2.1 (lJ L 100 0) σ r h H locs ls hP hD hS (lv_sub hl [0, 1, 2, 3] rfl)
      · intro L σ r h H locs ls hP hD hS hl
        rw [y_X10_quotientDigit] at h
        refine lv_lstore (lv' := [(5, .long (L.2.1 100)), (0, .ref (a 4)), (1, .int (L.1 1)), (2, .int (L.1 2)), (3, .long (L.2.1 3))]) hx hb dX10_quotientDigit_44 hl (by decide) rfl (fun ls hl => ?_)
        refine lv_iload_n hx hb dX10_quotientDigit_46 rfl (lv_at hl 3 rfl) ?_
        refine lv_iconst (v := 1) hx hb dX10_quotientDigit_47 (by decide) ?_
        refine lv_icmp_le (tgt := 65) hx hb dX10_quotientDigit_48 (by decide) (fun c1 => ?_) (fun c1 => ?_)
        · rw [if_pos c1] at h
          exact ih.2.2.2.2.2.2.1 (lJ L 5 ((L.2.1 100))) σ r h H locs ls hP hD hS (lv_sub hl [1, 2, 3, 4, 0] rfl)
        · rw [if_neg c1] at h
          refine lv_aload_n hx hb dX10_quotientDigit_51 rfl (lv_at hl 1 rfl) ?_
          refine hg_4_5 hx hb hts in_y_X10_quotientDigit_X10 hown hK hP (hts _ (List.mem_cons_of_mem _ (List.mem_append_left _ (List.mem_append_left _ (List.mem_of_getElem? (i := 1) rfl))))) dX10_quotientDigit_52 ?_
          refine lv_iload_n hx hb dX10_quotientDigit_55 rfl (lv_at hl 2 rfl) ?_
          refine lv_iload_n hx hb dX10_quotientDigit_56 rfl (lv_at hl 3 rfl) ?_
          refine lv_iadd hx hb dX10_quotientDigit_57 ?_
          refine lv_iconst (v := 2) hx hb dX10_quotientDigit_58 (by decide) ?_
          refine lv_isub hx hb dX10_quotientDigit_59 ?_
          obtain ⟨q2, h⟩ := kb_ite1 h
          refine hl_8 hx hb hK hP q2 dX10_quotientDigit_60 ?_
          refine lv_i2l (v := ((σ.2.2.1 8 ((((((L.1 1)) + ((L.1 2)))) - 2)).toNatClampNeg)).toInt64) hx hb dX10_quotientDigit_61 rfl ?_
          refine lv_goto (tgt := 66) hx hb dX10_quotientDigit_62 (by decide) ?_
          exact ih.2.2.2.2.2.2.2.1 (lJ (lJ L 5 ((L.2.1 100))) 100 ((((σ.2.2.1 8 ((((((L.1 1)) + ((L.1 2)))) - 2)).toNatClampNeg)).toInt64))) σ r h H locs ls hP hD hS (lv_sub hl [1, 2, 3, 4, 0] rfl)
      · intro L σ r h H locs ls hP hD hS hl
        rw [y_X10_quotientDigit] at h
        refine lv_lconst (v := 0) hx hb dX10_quotientDigit_65 (by decide) ?_
        exact ih.2.2.2.2.2.2.2.1 (lJ L 100 0) σ r h H locs ls hP hD hS (lv_sub hl [0, 1, 2, 3, 4] rfl)
      · intro L σ r h H locs ls hP hD hS hl
        rw [y_X10_quotientDigit] at h
        refine lv_lstore (lv' := [(7, .long (L.2.1 100)), (0, .ref (a 4)), (1, .int (L.1 1)), (2, .int (L.1 2)), (3, .long (L.2.1 3)), (5, .long (L.2.1 5))]) hx hb dX10_quotientDigit_66 hl (by decide) rfl (fun ls hl => ?_)
        refine lv_aload_n hx hb dX10_quotientDigit_68 rfl (lv_at hl 1 rfl) ?_
        refine hg_4_5 hx hb hts in_y_X10_quotientDigit_X10 hown hK hP (hts _ (List.mem_cons_of_mem _ (List.mem_append_left _ (List.mem_append_left _ (List.mem_of_getElem? (i := 1) rfl))))) dX10_quotientDigit_69 ?_
        refine lv_iload_n hx hb dX10_quotientDigit_72 rfl (lv_at hl 2 rfl) ?_
        refine lv_iload_n hx hb dX10_quotientDigit_73 rfl (lv_at hl 3 rfl) ?_
        refine lv_iadd hx hb dX10_quotientDigit_74 ?_
        obtain ⟨q1, h⟩ := kb_ite1 h
        refine hl_8 hx hb hK hP q1 dX10_quotientDigit_75 ?_
        refine lv_i2l (v := ((σ.2.2.1 8 ((((L.1 1)) + ((L.1 2)))).toNatClampNeg)).toInt64) hx hb dX10_quotientDigit_76 rfl ?_
        refine lv_bipush (v := 16) hx hb dX10_quotientDigit_77 (by decide) ?_
        refine lv_lshl (v := ((((σ.2.2.1 8 ((((L.1 1)) + ((L.1 2)))).toNatClampNeg)).toInt64)) <<< ((16 : Int32).toInt64 &&& 63)) hx hb dX10_quotientDigit_79 rfl ?_
        refine lv_aload_n hx hb dX10_quotientDigit_80 rfl (lv_at hl 1 rfl) ?_
        refine hg_4_5 hx hb hts in_y_X10_quotientDigit_X10 hown hK hP (hts _ (List.mem_cons_of_mem _ (List.mem_append_left _ (List.mem_append_left _ (List.mem_of_getElem? (i := 1) rfl))))) dX10_quotientDigit_81 ?_
        refine lv_iload_n hx hb dX10_quotientDigit_84 rfl (lv_at hl 2 rfl) ?_
        refine lv_iload_n hx hb dX10_quotientDigit_85 rfl (lv_at hl 3 rfl) ?_
        refine lv_iadd hx hb dX10_quotientDigit_86 ?_
        refine lv_iconst (v := 1) hx hb dX10_quotientDigit_87 (by decide) ?_
        refine lv_isub hx hb dX10_quotientDigit_88 ?_
        obtain ⟨q2, h⟩ := kb_ite1 h
        refine hl_8 hx hb hK hP q2 dX10_quotientDigit_89 ?_
        refine lv_i2l (v := ((σ.2.2.1 8 ((((((L.1 1)) + ((L.1 2)))) - 1)).toNatClampNeg)).toInt64) hx hb dX10_quotientDigit_90 rfl ?_
        refine lv_lor hx hb dX10_quotientDigit_91 ?_
        refine lv_lstore (lv' := [(9, .long (((((((σ.2.2.1 8 ((((L.1 1)) + ((L.1 2)))).toNatClampNeg)).toInt64)) <<< ((16 : Int32).toInt64 &&& 63))) ||| ((((σ.2.2.1 8 ((((((L.1 1)) + ((L.1 2)))) - 1)).toNatClampNeg)).toInt64)))), (7, .long (L.2.1 100)), (0, .ref (a 4)), (1, .int (L.1 1)), (2, .int (L.1 2)), (3, .long (L.2.1 3)), (5, .long (L.2.1 5))]) hx hb dX10_quotientDigit_92 hl (by decide) rfl (fun ls hl => ?_)
        refine lv_lload hx hb dX10_quotientDigit_94 (lv_at hl 0 rfl) ?_
        refine lv_lload_n hx hb dX10_quotientDigit_96 rfl (lv_at hl 5 rfl) ?_
        obtain ⟨q3, h⟩ := kb_ite0 h
        refine lv_ldiv hx hb dX10_quotientDigit_97 q3 ?_
        refine lv_lstore (lv' := [(11, .long (((((((((σ.2.2.1 8 ((((L.1 1)) + ((L.1 2)))).toNatClampNeg)).toInt64)) <<< ((16 : Int32).toInt64 &&& 63))) ||| ((((σ.2.2.1 8 ((((((L.1 1)) + ((L.1 2)))) - 1)).toNatClampNeg)).toInt64)))) / ((L.2.1 3)))), (9, .long (((((((σ.2.2.1 8 ((((L.1 1)) + ((L.1 2)))).toNatClampNeg)).toInt64)) <<< ((16 : Int32).toInt64 &&& 63))) ||| ((((σ.2.2.1 8 ((((((L.1 1)) + ((L.1 2)))) - 1)).toNatClampNeg)).toInt64)))), (7, .long (L.2.1 100)), (0, .ref (a 4)), (1, .int (L.1 1)), (2, .int (L.1 2)), (3, .long (L.2.1 3)), (5, .long (L.2.1 5))]) hx hb dX10_quotientDigit_98 hl (by decide) rfl (fun ls hl => ?_)
        refine lv_lload hx hb dX10_quotientDigit_100 (lv_at hl 1 rfl) ?_
        refine lv_lload hx hb dX10_quotientDigit_102 (lv_at hl 0 rfl) ?_
        refine lv_lload_n hx hb dX10_quotientDigit_104 rfl (lv_at hl 6 rfl) ?_
        refine lv_lmul hx hb dX10_quotientDigit_105 ?_
        refine lv_lsub hx hb dX10_quotientDigit_106 ?_
        refine lv_lstore (lv' := [(13, .long (((((((((σ.2.2.1 8 ((((L.1 1)) + ((L.1 2)))).toNatClampNeg)).toInt64)) <<< ((16 : Int32).toInt64 &&& 63))) ||| ((((σ.2.2.1 8 ((((((L.1 1)) + ((L.1 2)))) - 1)).toNatClampNeg)).toInt64)))) - ((((((((((((σ.2.2.1 8 ((((L.1 1)) + ((L.1 2)))).toNatClampNeg)).toInt64)) <<< ((16 : Int32).toInt64 &&& 63))) ||| ((((σ.2.2.1 8 ((((((L.1 1)) + ((L.1 2)))) - 1)).toNatClampNeg)).toInt64)))) / ((L.2.1 3)))) * ((L.2.1 3)))))), (11, .long (((((((((σ.2.2.1 8 ((((L.1 1)) + ((L.1 2)))).toNatClampNeg)).toInt64)) <<< ((16 : Int32).toInt64 &&& 63))) ||| ((((σ.2.2.1 8 ((((((L.1 1)) + ((L.1 2)))) - 1)).toNatClampNeg)).toInt64)))) / ((L.2.1 3)))), (9, .long (((((((σ.2.2.1 8 ((((L.1 1)) + ((L.1 2)))).toNatClampNeg)).toInt64)) <<< ((16 : Int32).toInt64 &&& 63))) ||| ((((σ.2.2.1 8 ((((((L.1 1)) + ((L.1 2)))) - 1)).toNatClampNeg)).toInt64)))), (7, .long (L.2.1 100)), (0, .ref (a 4)), (1, .int (L.1 1)), (2, .int (L.1 2)), (3, .long (L.2.1 3)), (5, .long (L.2.1 5))]) hx hb dX10_quotientDigit_107 hl (by decide) rfl (fun ls hl => ?_)
        refine lv_iconst (v := 0) hx hb dX10_quotientDigit_109 (by decide) ?_
        refine lv_istore (lv' := [(15, .int 0), (13, .long (((((((((σ.2.2.1 8 ((((L.1 1)) + ((L.1 2)))).toNatClampNeg)).toInt64)) <<< ((16 : Int32).toInt64 &&& 63))) ||| ((((σ.2.2.1 8 ((((((L.1 1)) + ((L.1 2)))) - 1)).toNatClampNeg)).toInt64)))) - ((((((((((((σ.2.2.1 8 ((((L.1 1)) + ((L.1 2)))).toNatClampNeg)).toInt64)) <<< ((16 : Int32).toInt64 &&& 63))) ||| ((((σ.2.2.1 8 ((((((L.1 1)) + ((L.1 2)))) - 1)).toNatClampNeg)).toInt64)))) / ((L.2.1 3)))) * ((L.2.1 3)))))), (11, .long (((((((((σ.2.2.1 8 ((((L.1 1)) + ((L.1 2)))).toNatClampNeg)).toInt64)) <<< ((16 : Int32).toInt64 &&& 63))) ||| ((((σ.2.2.1 8 ((((((L.1 1)) + ((L.1 2)))) - 1)).toNatClampNeg)).toInt64)))) / ((L.2.1 3)))), (9, .long (((((((σ.2.2.1 8 ((((L.1 1)) + ((L.1 2)))).toNatClampNeg)).toInt64)) <<< ((16 : Int32).toInt64 &&& 63))) ||| ((((σ.2.2.1 8 ((((((L.1 1)) + ((L.1 2)))) - 1)).toNatClampNeg)).toInt64)))), (7, .long (L.2.1 100)), (0, .ref (a 4)), (1, .int (L.1 1)), (2, .int (L.1 2)), (3, .long (L.2.1 3)), (5, .long (L.2.1 5))]) hx hb dX10_quotientDigit_110 hl (by decide) rfl (fun ls hl => ?_)
        exact ih.2.2.2.2.2.2.2.2.1 (lI (lJ (lJ (lJ L 7 ((L.2.1 100))) 11 ((((((((((σ.2.2.1 8 ((((L.1 1)) + ((L.1 2)))).toNatClampNeg)).toInt64)) <<< ((16 : Int32).toInt64 &&& 63))) ||| ((((σ.2.2.1 8 ((((((L.1 1)) + ((L.1 2)))) - 1)).toNatClampNeg)).toInt64)))) / ((L.2.1 3))))) 13 ((((((((((σ.2.2.1 8 ((((L.1 1)) + ((L.1 2)))).toNatClampNeg)).toInt64)) <<< ((16 : Int32).toInt64 &&& 63))) ||| ((((σ.2.2.1 8 ((((((L.1 1)) + ((L.1 2)))) - 1)).toNatClampNeg)).toInt64)))) - ((((((((((((σ.2.2.1 8 ((((L.1 1)) + ((L.1 2)))).toNatClampNeg)).toInt64)) <<< ((16 : Int32).toInt64 &&& 63))) ||| ((((σ.2.2.1 8 ((((((L.1 1)) + ((L.1 2)))) - 1)).toNatClampNeg)).toInt64)))) / ((L.2.1 3)))) * ((L.2.1 3))))))) 15 0) σ r h H locs ls hP hD hS (lv_sub hl [5, 6, 7, 8, 9, 4, 2, 1, 0] rfl)
      · intro L σ r h H locs ls hP hD hS hl
        rw [y_X10_quotientDigit] at h
        refine lv_iload hx hb dX10_quotientDigit_112 (lv_at hl 8 rfl) ?_
        refine lv_iconst (v := 4) hx hb dX10_quotientDigit_114 (by decide) ?_
        refine lv_icmp_ge (tgt := 171) hx hb dX10_quotientDigit_115 (by decide) (fun c1 => ?_) (fun c1 => ?_)
        · rw [if_pos c1] at h
          exact ih.2.2.2.2.2.2.2.2.2.1 L σ r h H locs ls hP hD hS (lv_sub hl [0, 1, 2, 6] rfl)
        · rw [if_neg c1] at h
          refine lv_lload hx hb dX10_quotientDigit_118 (lv_at hl 7 rfl) ?_
          refine lv_ldc2 (v := 65535) hx hb hown (hts _ (List.mem_cons_of_mem _ (List.mem_append_left _ (List.mem_append_left _ (List.mem_of_getElem? (i := 2) rfl))))) dX10_quotientDigit_120 ?_
          refine nb_lcmp hx hb dX10_quotientDigit_123 ?_
          refine lv_if_gt (tgt := 171) hx hb dX10_quotientDigit_124 (by decide) (fun c2 => ?_) (fun c2 => ?_)
          · rw [if_pos c2] at h
            exact ih.2.2.2.2.2.2.2.2.2.1 L σ r h H locs ls hP hD hS (lv_sub hl [0, 1, 2, 6] rfl)
          · rw [if_neg c2] at h
            refine lv_lload hx hb dX10_quotientDigit_127 (lv_at hl 6 rfl) ?_
            refine lv_ldc2 (v := 65535) hx hb hown (hts _ (List.mem_cons_of_mem _ (List.mem_append_left _ (List.mem_append_left _ (List.mem_of_getElem? (i := 2) rfl))))) dX10_quotientDigit_129 ?_
            refine nb_lcmp hx hb dX10_quotientDigit_132 ?_
            refine lv_if_gt (tgt := 153) hx hb dX10_quotientDigit_133 (by decide) (fun c3 => ?_) (fun c3 => ?_)
            · rw [if_pos c3] at h
              exact ih.2.2.2.2.2.2.2.2.2.2.1 L σ r h H locs ls hP hD hS (lv_sub hl [0, 1, 2, 3, 4, 5, 6, 7, 8] rfl)
            · rw [if_neg c3] at h
              refine lv_lload hx hb dX10_quotientDigit_136 (lv_at hl 6 rfl) ?_
              refine lv_lload hx hb dX10_quotientDigit_138 (lv_at hl 4 rfl) ?_
              refine lv_lmul hx hb dX10_quotientDigit_140 ?_
              refine lv_lload hx hb dX10_quotientDigit_141 (lv_at hl 7 rfl) ?_
              refine lv_bipush (v := 16) hx hb dX10_quotientDigit_143 (by decide) ?_
              refine lv_lshl (v := ((L.2.1 13)) <<< ((16 : Int32).toInt64 &&& 63)) hx hb dX10_quotientDigit_145 rfl ?_
              refine lv_lload hx hb dX10_quotientDigit_146 (lv_at hl 5 rfl) ?_
              refine lv_lor hx hb dX10_quotientDigit_148 ?_
              refine nb_lcmp hx hb dX10_quotientDigit_149 ?_
              refine lv_if_le (tgt := 171) hx hb dX10_quotientDigit_150 (by decide) (fun c4 => ?_) (fun c4 => ?_)
              · rw [if_pos c4] at h
                exact ih.2.2.2.2.2.2.2.2.2.1 L σ r h H locs ls hP hD hS (lv_sub hl [0, 1, 2, 6] rfl)
              · rw [if_neg c4] at h
                exact ih.2.2.2.2.2.2.2.2.2.2.1 L σ r h H locs ls hP hD hS (lv_sub hl [0, 1, 2, 3, 4, 5, 6, 7, 8] rfl)
      · intro L σ r h H locs ls hP hD hS hl
        rw [y_X10_quotientDigit] at h
        refine lv_lconst (v := 0) hx hb dX10_quotientDigit_171 (by decide) ?_
        refine lv_lstore (lv' := [(15, .long 0), (0, .ref (a 4)), (1, .int (L.1 1)), (2, .int (L.1 2)), (11, .long (L.2.1 11))]) hx hb dX10_quotientDigit_172 hl (by decide) rfl (fun ls hl => ?_)
        refine lv_iconst (v := 0) hx hb dX10_quotientDigit_174 (by decide) ?_
        refine lv_istore (lv' := [(17, .int 0), (15, .long 0), (0, .ref (a 4)), (1, .int (L.1 1)), (2, .int (L.1 2)), (11, .long (L.2.1 11))]) hx hb dX10_quotientDigit_175 hl (by decide) rfl (fun ls hl => ?_)
        exact ih.2.2.2.2.2.2.2.2.2.2.2.1 (lI (lJ L 15 0) 17 0) σ r h H locs ls hP hD hS (lv_sub hl [2, 3, 4, 5, 1, 0] rfl)
      · intro L σ r h H locs ls hP hD hS hl
        rw [y_X10_quotientDigit] at h
        refine lv_lload hx hb dX10_quotientDigit_153 (lv_at hl 6 rfl) ?_
        refine lv_lconst (v := 1) hx hb dX10_quotientDigit_155 (by decide) ?_
        refine lv_lsub hx hb dX10_quotientDigit_156 ?_
        refine lv_lstore (lv' := [(11, .long (((L.2.1 11)) - 1)), (0, .ref (a 4)), (1, .int (L.1 1)), (2, .int (L.1 2)), (3, .long (L.2.1 3)), (5, .long (L.2.1 5)), (7, .long (L.2.1 7)), (13, .long (L.2.1 13)), (15, .int (L.1 15))]) hx hb dX10_quotientDigit_157 hl (by decide) rfl (fun ls hl => ?_)
        refine lv_lload hx hb dX10_quotientDigit_159 (lv_at hl 7 rfl) ?_
        refine lv_lload_n hx hb dX10_quotientDigit_161 rfl (lv_at hl 4 rfl) ?_
        refine lv_ladd hx hb dX10_quotientDigit_162 ?_
        refine lv_lstore (lv' := [(13, .long (((L.2.1 13)) + ((L.2.1 3)))), (11, .long (((L.2.1 11)) - 1)), (0, .ref (a 4)), (1, .int (L.1 1)), (2, .int (L.1 2)), (3, .long (L.2.1 3)), (5, .long (L.2.1 5)), (7, .long (L.2.1 7)), (15, .int (L.1 15))]) hx hb dX10_quotientDigit_163 hl (by decide) rfl (fun ls hl => ?_)
        refine lv_iinc (v := ((L.1 15)) + 1) (lv' := [(15, .int (((L.1 15)) + 1)), (13, .long (((L.2.1 13)) + ((L.2.1 3)))), (11, .long (((L.2.1 11)) - 1)), (0, .ref (a 4)), (1, .int (L.1 1)), (2, .int (L.1 2)), (3, .long (L.2.1 3)), (5, .long (L.2.1 5)), (7, .long (L.2.1 7))]) hx hb dX10_quotientDigit_165 hl (k := 8) rfl rfl (by decide) rfl (fun ls hl => ?_)
        refine lv_goto (tgt := 112) hx hb dX10_quotientDigit_168 (by decide) ?_
        exact ih.2.2.2.2.2.2.2.2.1 (lI (lJ (lJ L 11 ((((L.2.1 11)) - 1))) 13 ((((L.2.1 13)) + ((L.2.1 3))))) 15 ((((L.1 15)) + 1))) σ r h H locs ls hP hD hS (lv_sub hl [3, 4, 5, 6, 7, 8, 2, 1, 0] rfl)
      · intro L σ r h H locs ls hP hD hS hl
        rw [y_X10_quotientDigit] at h
        refine lv_iload hx hb dX10_quotientDigit_177 (lv_at hl 5 rfl) ?_
        refine lv_iload_n hx hb dX10_quotientDigit_179 rfl (lv_at hl 2 rfl) ?_
        refine lv_icmp_ge (tgt := 239) hx hb dX10_quotientDigit_180 (by decide) (fun c1 => ?_) (fun c1 => ?_)
        · rw [if_pos c1] at h
          exact ih.2.2.2.2.2.2.2.2.2.2.2.2.1 L σ r h H locs ls hP hD hS (lv_sub hl [0, 1, 2, 3, 4] rfl)
        · rw [if_neg c1] at h
          refine lv_lload hx hb dX10_quotientDigit_183 (lv_at hl 4 rfl) ?_
          refine lv_aload_n hx hb dX10_quotientDigit_185 rfl (lv_at hl 0 rfl) ?_
          refine hg_4_5 hx hb hts in_y_X10_quotientDigit_X10 hown hK hP (hts _ (List.mem_cons_of_mem _ (List.mem_append_left _ (List.mem_append_left _ (List.mem_of_getElem? (i := 1) rfl))))) dX10_quotientDigit_186 ?_
          refine lv_iload_n hx hb dX10_quotientDigit_189 rfl (lv_at hl 1 rfl) ?_
          refine lv_iload hx hb dX10_quotientDigit_190 (lv_at hl 5 rfl) ?_
          refine lv_iadd hx hb dX10_quotientDigit_192 ?_
          obtain ⟨q2, h⟩ := kb_ite1 h
          refine hl_8 hx hb hK hP q2 dX10_quotientDigit_193 ?_
          refine lv_i2l (v := ((σ.2.2.1 8 ((((L.1 1)) + ((L.1 17)))).toNatClampNeg)).toInt64) hx hb dX10_quotientDigit_194 rfl ?_
          refine lv_ladd hx hb dX10_quotientDigit_195 ?_
          refine lv_lload hx hb dX10_quotientDigit_196 (lv_at hl 3 rfl) ?_
          refine lv_aload_n hx hb dX10_quotientDigit_198 rfl (lv_at hl 0 rfl) ?_
          refine hg_4_6 hx hb hts in_y_X10_quotientDigit_X10 hown hK hP (hts _ (List.mem_cons_of_mem _ (List.mem_append_left _ (List.mem_append_left _ (List.mem_of_getElem? (i := 0) rfl))))) dX10_quotientDigit_199 ?_
          refine lv_iload hx hb dX10_quotientDigit_202 (lv_at hl 5 rfl) ?_
          obtain ⟨q3, h⟩ := kb_ite1 h
          refine hl_9 hx hb hK hP q3 dX10_quotientDigit_204 ?_
          refine lv_i2l (v := ((σ.2.2.1 9 ((L.1 17)).toNatClampNeg)).toInt64) hx hb dX10_quotientDigit_205 rfl ?_
          refine lv_lmul hx hb dX10_quotientDigit_206 ?_
          refine lv_lsub hx hb dX10_quotientDigit_207 ?_
          refine lv_lstore (lv' := [(15, .long (((((L.2.1 15)) + ((((σ.2.2.1 8 ((((L.1 1)) + ((L.1 17)))).toNatClampNeg)).toInt64)))) - ((((L.2.1 11)) * ((((σ.2.2.1 9 ((L.1 17)).toNatClampNeg)).toInt64)))))), (0, .ref (a 4)), (1, .int (L.1 1)), (2, .int (L.1 2)), (11, .long (L.2.1 11)), (17, .int (L.1 17))]) hx hb dX10_quotientDigit_208 hl (by decide) rfl (fun ls hl => ?_)
          refine lv_aload_n hx hb dX10_quotientDigit_210 rfl (lv_at hl 1 rfl) ?_
          refine hg_4_5 hx hb hts in_y_X10_quotientDigit_X10 hown hK hP (hts _ (List.mem_cons_of_mem _ (List.mem_append_left _ (List.mem_append_left _ (List.mem_of_getElem? (i := 1) rfl))))) dX10_quotientDigit_211 ?_
          refine lv_iload_n hx hb dX10_quotientDigit_214 rfl (lv_at hl 2 rfl) ?_
          refine lv_iload hx hb dX10_quotientDigit_215 (lv_at hl 5 rfl) ?_
          refine lv_iadd hx hb dX10_quotientDigit_217 ?_
          refine lv_lload hx hb dX10_quotientDigit_218 (lv_at hl 0 rfl) ?_
          refine lv_ldc2 (v := 65535) hx hb hown (hts _ (List.mem_cons_of_mem _ (List.mem_append_left _ (List.mem_append_left _ (List.mem_of_getElem? (i := 2) rfl))))) dX10_quotientDigit_220 ?_
          refine lv_land hx hb dX10_quotientDigit_223 ?_
          refine lv_l2i (v := ((((((((L.2.1 15)) + ((((σ.2.2.1 8 ((((L.1 1)) + ((L.1 17)))).toNatClampNeg)).toInt64)))) - ((((L.2.1 11)) * ((((σ.2.2.1 9 ((L.1 17)).toNatClampNeg)).toInt64)))))) &&& 65535)).toInt32) hx hb dX10_quotientDigit_224 rfl ?_
          obtain ⟨q4, h⟩ := kb_ite1 h
          refine hs_8 hx hb hK hP hD hS q4 dX10_quotientDigit_225 (fun H locs hP hD hS => ?_)
          refine lv_lload hx hb dX10_quotientDigit_226 (lv_at hl 0 rfl) ?_
          refine lv_bipush (v := 16) hx hb dX10_quotientDigit_228 (by decide) ?_
          refine lv_lshr (v := ((((((L.2.1 15)) + ((((σ.2.2.1 8 ((((L.1 1)) + ((L.1 17)))).toNatClampNeg)).toInt64)))) - ((((L.2.1 11)) * ((((σ.2.2.1 9 ((L.1 17)).toNatClampNeg)).toInt64)))))) >>> ((16 : Int32).toInt64 &&& 63)) hx hb dX10_quotientDigit_230 rfl ?_
          refine lv_lstore (lv' := [(15, .long (((((((L.2.1 15)) + ((((σ.2.2.1 8 ((((L.1 1)) + ((L.1 17)))).toNatClampNeg)).toInt64)))) - ((((L.2.1 11)) * ((((σ.2.2.1 9 ((L.1 17)).toNatClampNeg)).toInt64)))))) >>> ((16 : Int32).toInt64 &&& 63))), (0, .ref (a 4)), (1, .int (L.1 1)), (2, .int (L.1 2)), (11, .long (L.2.1 11)), (17, .int (L.1 17))]) hx hb dX10_quotientDigit_231 hl (by decide) rfl (fun ls hl => ?_)
          refine lv_iinc (v := ((L.1 17)) + 1) (lv' := [(17, .int (((L.1 17)) + 1)), (15, .long (((((((L.2.1 15)) + ((((σ.2.2.1 8 ((((L.1 1)) + ((L.1 17)))).toNatClampNeg)).toInt64)))) - ((((L.2.1 11)) * ((((σ.2.2.1 9 ((L.1 17)).toNatClampNeg)).toInt64)))))) >>> ((16 : Int32).toInt64 &&& 63))), (0, .ref (a 4)), (1, .int (L.1 1)), (2, .int (L.1 2)), (11, .long (L.2.1 11))]) hx hb dX10_quotientDigit_233 hl (k := 5) rfl rfl (by decide) rfl (fun ls hl => ?_)
          refine lv_goto (tgt := 177) hx hb dX10_quotientDigit_236 (by decide) ?_
          exact ih.2.2.2.2.2.2.2.2.2.2.2.1 (lI (lJ L 15 ((((((((L.2.1 15)) + ((((σ.2.2.1 8 ((((L.1 1)) + ((L.1 17)))).toNatClampNeg)).toInt64)))) - ((((L.2.1 11)) * ((((σ.2.2.1 9 ((L.1 17)).toNatClampNeg)).toInt64)))))) >>> ((16 : Int32).toInt64 &&& 63)))) 17 ((((L.1 17)) + 1))) (uA σ 8 ((((L.1 1)) + ((L.1 17)))).toNatClampNeg ((((((((((L.2.1 15)) + ((((σ.2.2.1 8 ((((L.1 1)) + ((L.1 17)))).toNatClampNeg)).toInt64)))) - ((((L.2.1 11)) * ((((σ.2.2.1 9 ((L.1 17)).toNatClampNeg)).toInt64)))))) &&& 65535)).toInt32))) r h H locs ls hP hD hS (lv_sub hl [2, 3, 4, 5, 1, 0] rfl)
      · intro L σ r h H locs ls hP hD hS hl
        rw [y_X10_quotientDigit] at h
        refine lv_lload hx hb dX10_quotientDigit_239 (lv_at hl 4 rfl) ?_
        refine lv_aload_n hx hb dX10_quotientDigit_241 rfl (lv_at hl 0 rfl) ?_
        refine hg_4_5 hx hb hts in_y_X10_quotientDigit_X10 hown hK hP (hts _ (List.mem_cons_of_mem _ (List.mem_append_left _ (List.mem_append_left _ (List.mem_of_getElem? (i := 1) rfl))))) dX10_quotientDigit_242 ?_
        refine lv_iload_n hx hb dX10_quotientDigit_245 rfl (lv_at hl 1 rfl) ?_
        refine lv_iload_n hx hb dX10_quotientDigit_246 rfl (lv_at hl 2 rfl) ?_
        refine lv_iadd hx hb dX10_quotientDigit_247 ?_
        obtain ⟨q1, h⟩ := kb_ite1 h
        refine hl_8 hx hb hK hP q1 dX10_quotientDigit_248 ?_
        refine lv_i2l (v := ((σ.2.2.1 8 ((((L.1 1)) + ((L.1 2)))).toNatClampNeg)).toInt64) hx hb dX10_quotientDigit_249 rfl ?_
        refine lv_ladd hx hb dX10_quotientDigit_250 ?_
        refine lv_lstore (lv' := [(15, .long (((L.2.1 15)) + ((((σ.2.2.1 8 ((((L.1 1)) + ((L.1 2)))).toNatClampNeg)).toInt64)))), (0, .ref (a 4)), (1, .int (L.1 1)), (2, .int (L.1 2)), (11, .long (L.2.1 11))]) hx hb dX10_quotientDigit_251 hl (by decide) rfl (fun ls hl => ?_)
        refine lv_aload_n hx hb dX10_quotientDigit_253 rfl (lv_at hl 1 rfl) ?_
        refine hg_4_5 hx hb hts in_y_X10_quotientDigit_X10 hown hK hP (hts _ (List.mem_cons_of_mem _ (List.mem_append_left _ (List.mem_append_left _ (List.mem_of_getElem? (i := 1) rfl))))) dX10_quotientDigit_254 ?_
        refine lv_iload_n hx hb dX10_quotientDigit_257 rfl (lv_at hl 2 rfl) ?_
        refine lv_iload_n hx hb dX10_quotientDigit_258 rfl (lv_at hl 3 rfl) ?_
        refine lv_iadd hx hb dX10_quotientDigit_259 ?_
        refine lv_lload hx hb dX10_quotientDigit_260 (lv_at hl 0 rfl) ?_
        refine lv_ldc2 (v := 65535) hx hb hown (hts _ (List.mem_cons_of_mem _ (List.mem_append_left _ (List.mem_append_left _ (List.mem_of_getElem? (i := 2) rfl))))) dX10_quotientDigit_262 ?_
        refine lv_land hx hb dX10_quotientDigit_265 ?_
        refine lv_l2i (v := ((((((L.2.1 15)) + ((((σ.2.2.1 8 ((((L.1 1)) + ((L.1 2)))).toNatClampNeg)).toInt64)))) &&& 65535)).toInt32) hx hb dX10_quotientDigit_266 rfl ?_
        obtain ⟨q2, h⟩ := kb_ite1 h
        refine hs_8 hx hb hK hP hD hS q2 dX10_quotientDigit_267 (fun H locs hP hD hS => ?_)
        refine lv_lload hx hb dX10_quotientDigit_268 (lv_at hl 0 rfl) ?_
        refine lv_lconst (v := 0) hx hb dX10_quotientDigit_270 (by decide) ?_
        refine nb_lcmp hx hb dX10_quotientDigit_271 ?_
        refine lv_if_ge (tgt := 287) hx hb dX10_quotientDigit_272 (by decide) (fun c3 => ?_) (fun c3 => ?_)
        · rw [if_pos c3] at h
          exact ih.2.2.2.2.2.2.2.2.2.2.2.2.2 L (uA σ 8 ((((L.1 1)) + ((L.1 2)))).toNatClampNeg ((((((((L.2.1 15)) + ((((σ.2.2.1 8 ((((L.1 1)) + ((L.1 2)))).toNatClampNeg)).toInt64)))) &&& 65535)).toInt32))) r h H locs ls hP hD hS (lv_sub hl [4] rfl)
        · rw [if_neg c3] at h
          refine lv_lload hx hb dX10_quotientDigit_275 (lv_at hl 4 rfl) ?_
          refine lv_lconst (v := 1) hx hb dX10_quotientDigit_277 (by decide) ?_
          refine lv_lsub hx hb dX10_quotientDigit_278 ?_
          refine lv_lstore (lv' := [(11, .long (((L.2.1 11)) - 1)), (15, .long (((L.2.1 15)) + ((((σ.2.2.1 8 ((((L.1 1)) + ((L.1 2)))).toNatClampNeg)).toInt64)))), (0, .ref (a 4)), (1, .int (L.1 1)), (2, .int (L.1 2))]) hx hb dX10_quotientDigit_279 hl (by decide) rfl (fun ls hl => ?_)
          refine lv_aload_n hx hb dX10_quotientDigit_281 rfl (lv_at hl 2 rfl) ?_
          refine lv_iload_n hx hb dX10_quotientDigit_282 rfl (lv_at hl 3 rfl) ?_
          refine lv_iload_n hx hb dX10_quotientDigit_283 rfl (lv_at hl 4 rfl) ?_
          obtain ⟨r4, hc4, h⟩ := oc_ex h
          refine kc_v (va_runV (As := [.int (L.1 1), .int (L.1 2)]) (rest := []) ⟨hx, hb, hml, hown, hts⟩ (c_y_X10_addBack l dC dI cy a z k (lI (lI lZ 1 ((L.1 1))) 2 ((L.1 2))) (uA σ 8 ((((L.1 1)) + ((L.1 2)))).toNatClampNeg ((((((((L.2.1 15)) + ((((σ.2.2.1 8 ((((L.1 1)) + ((L.1 2)))).toNatClampNeg)).toInt64)))) &&& 65535)).toInt32))) r4 hc4 H.size) (cwV 2 hts g_y_X10_quotientDigit_X10_addBack_V163 rfl rfl rfl hd_y_X10_addBack ⟨Nat.le_of_ble_eq_true rfl, Nat.le_of_ble_eq_true rfl⟩) ⟨nb_blind, va_recv hK hP (ci := 9) (q0 := 4) rfl rfl, (kb_pre hK hG hP hD)⟩ rfl rfl hl.1 rfl (lv_room (Nat.le_of_ble_eq_true rfl)) dX10_quotientDigit_284 ⟨Nat.le_refl _, Nat.le_refl _⟩) hA hP hD hS (fun H locs hP hD hS => ?_)
          exact ih.2.2.2.2.2.2.2.2.2.2.2.2.2 (lJ L 11 ((((L.2.1 11)) - 1))) r4.2 r h H locs ls hP hD hS (lv_sub hl [0] rfl)
      · intro L σ r h H locs ls hP hD hS hl
        rw [y_X10_quotientDigit] at h
        refine lv_lload hx hb dX10_quotientDigit_287 (lv_at hl 0 rfl) ?_
        refine lv_l2i (v := ((L.2.1 11)).toInt32) hx hb dX10_quotientDigit_289 rfl ?_
        obtain rfl := Option.some.inj h
        exact W.iret (v := (((L.2.1 11)).toInt32)) hx hb hr (fun t ht hW => ⟨⟨(((L.2.1 11)).toInt32), (), rfl, rfl, by rw [ht]; exact hP, va_K.moved hW.alike hK, hD⟩, hS.F ht⟩) hS.2.2 dX10_quotientDigit_290
  exact (blk k0).1 L0 σ0 r0 h0 s.heap [] ls hP hD hS hl
/-! J7_fill_53178__a10 -/
def y_J7_fill_53178__a10 : Nat → Nat → LV → CS → Option (Int32 × CS)
  | 0, _, _, _ => none
  | k + 1, 0, L, σ => y_J7_fill_53178__a10 k 1 (lI (lI L 2 0) 3 ((Int32.ofNat 72))) σ
  | k + 1, 1, L, σ => if ((L.1 3)) ≤ ((L.1 2)) then (y_J7_fill_53178__a10 k 2 L σ) else (if ¬ (((L.1 2)) < 0 ∨ 72 ≤ ((L.1 2)).toNatClampNeg) then (y_J7_fill_53178__a10 k 1 (lI L 2 ((((L.1 2)) + 1))) (uA σ 10 ((L.1 2)).toNatClampNeg ((L.1 1)))) else none)
  | k + 1, 2, L, σ => some (0, σ)
  | _ + 1, _ + 3, _, _ => none
def o_y_J7_fill_53178__a10 : List Cond := []
theorem o_y_J7_fill_53178__a10_good : o_y_J7_fill_53178__a10.all goodWord = true := by decide +kernel
def p_y_J7_fill_53178__a10 : List Cond := o_y_J7_fill_53178__a10 ++ []
theorem p_y_J7_fill_53178__a10_good : p_y_J7_fill_53178__a10.all goodWord = true := nb_all2 o_y_J7_fill_53178__a10_good rfl
def w_y_J7_fill_53178__a10 : List Cond := .code yJ7_fill_53178 cJ7_fill_53178 4 none :: (p_y_J7_fill_53178__a10 ++ fC)
theorem w_y_J7_fill_53178__a10_good : w_y_J7_fill_53178__a10.all goodWord = true := nb_allc (by decide +kernel) (nb_all2 p_y_J7_fill_53178__a10_good fC_good)
theorem hd_y_J7_fill_53178__a10 : yJ7_fill_53178.cls ≠ "java/lang/invoke/MethodHandle" ∧ yJ7_fill_53178.cls ≠ "java/lang/invoke/VarHandle" ∧ (parseMethodDescriptor yJ7_fill_53178.desc).map (fun d => d.parameters.length) = some 2 := by decide +kernel
set_option maxHeartbeats 40000000 in
set_option maxRecDepth 100000 in
theorem c_y_J7_fill_53178__a10 (l : Launch) (dC : Nat → ClassId) (dI : Nat → Nat → Nat) (cy : Nat → ClassId) (a z : Nat → Nat) (k0 : Nat) (L0 : LV) (σ0 : CS) (r0 : Int32 × CS) (h0 : y_J7_fill_53178__a10 k0 0 L0 σ0 = some r0) (sz : Nat) : Met l yJ7_fill_53178 w_y_J7_fill_53178__a10 ({ frames := 0, cells := 0, slots := 0, locals := 0 }) (va_Pc [.ref (a 10), .int (L0.1 1)] (nIn (dC, dI) cy sz (vC cy a z σ0))) (va_Qv (fun _ : Unit => True) (fun _ t => nOut (dC, dI) cy (va_A (vC cy a z σ0) sz) (vC cy a z r0.2) t) (va_A (vC cy a z σ0) sz)) 0 0 (va_A (vC cy a z σ0) sz) := by
  refine Met.ofW (cc := cJ7_fill_53178) (maxL := 4) (ret := none) (by decide) rfl ?_
  intro p e s m args below meth c s₁ B hml hv
  obtain ⟨rfl, hsz, hP, hK, hD0, hG⟩ := hv
  have hx := B.exec
  have hb := B.bytes
  have hr := B.returns
  have hts := atoms_spec (ws := w_y_J7_fill_53178__a10) B.pre
  have hown : s.vm.findClass RJ7 = some m.cls := findClass_of_methodNamed B.named
  have hlocks := B.notSynchronized
  subst hsz
  have hD := hD0.self (sz := s.heap.size)
  generalize hAe : va_A (vC cy a z σ0) s.heap.size = A at hD ⊢
  have hA : ∀ q : Nat, s.heap.size ≤ q → A q := fun q h => by rw [← hAe]; exact Or.inr h
  have hS : va_S A s.heap s.heap [] := va_S.rf
  have hl := lv_entry ([.ref (a 10), .int (L0.1 1)]) (n := 4) (Nat.le_of_ble_eq_true rfl)
  rw [lg_entry_eq]
  generalize (lg_sl ([.ref (a 10), .int (L0.1 1)]) ++ List.replicate (4 - (lg_sl ([.ref (a 10), .int (L0.1 1)])).length) Slot.unset).toArray = ls at hl ⊢
  have hl : lv_has ls 4 [(0, .ref (a 10)), (1, .int (L0.1 1))] := hl
  have blk : ∀ k : Nat, (bC p l e (headSpec w_y_J7_fill_53178__a10 ({ frames := 0, cells := 0, slots := 0, locals := 0 })).room s m #[.ref (a 10), .int (L0.1 1)] below meth c dC dI cy a z A (kV dC dI cy a z A below #[.ref (a 10), .int (L0.1 1)] s) 4 (y_J7_fill_53178__a10 k 0) (fun L => [(0, .ref (a 10)), (1, .int (L.1 1))]) 0 (fun L => [])) ∧ (bC p l e (headSpec w_y_J7_fill_53178__a10 ({ frames := 0, cells := 0, slots := 0, locals := 0 })).room s m #[.ref (a 10), .int (L0.1 1)] below meth c dC dI cy a z A (kV dC dI cy a z A below #[.ref (a 10), .int (L0.1 1)] s) 4 (y_J7_fill_53178__a10 k 1) (fun L => [(0, .ref (a 10)), (1, .int (L.1 1)), (2, .int (L.1 2)), (3, .int (L.1 3))]) 5 (fun L => [])) ∧ (bC p l e (headSpec w_y_J7_fill_53178__a10 ({ frames := 0, cells := 0, slots := 0, locals := 0 })).room s m #[.ref (a 10), .int (L0.1 1)] below meth c dC dI cy a z A (kV dC dI cy a z A below #[.ref (a 10), .int (L0.1 1)] s) 4 (y_J7_fill_53178__a10 k 2) (fun L => []) 20 (fun L => [])) := by
    intro k
    induction k with
    | zero => exact ⟨fun L σ r h => (by cases h), fun L σ r h => (by cases h), fun L σ r h => (by cases h)⟩
    | succ k ih =>
      refine ⟨?_, ?_, ?_⟩
      · intro L σ r h H locs ls hP hD hS hl
        rw [y_J7_fill_53178__a10] at h
        refine lv_iconst (v := 0) hx hb dJ7_fill_53178_0 (by decide) ?_
        refine lv_istore_n (lv' := [(2, .int 0), (0, .ref (a 10)), (1, .int (L.1 1))]) hx hb dJ7_fill_53178_1 rfl hl (by decide) rfl (fun ls hl => ?_)
        refine lv_aload_n hx hb dJ7_fill_53178_2 rfl (lv_at hl 1 rfl) ?_
        refine hn_10 hx hb hK hP dJ7_fill_53178_3 ?_
        refine lv_istore_n (lv' := [(3, .int (Int32.ofNat 72)), (2, .int 0), (0, .ref (a 10)), (1, .int (L.1 1))]) hx hb dJ7_fill_53178_4 rfl hl (by decide) rfl (fun ls hl => ?_)
        exact ih.2.1 (lI (lI L 2 0) 3 ((Int32.ofNat 72))) σ r h H locs ls hP hD hS (lv_sub hl [2, 3, 1, 0] rfl)
      · intro L σ r h H locs ls hP hD hS hl
        rw [y_J7_fill_53178__a10] at h
        refine lv_iload_n hx hb dJ7_fill_53178_5 rfl (lv_at hl 2 rfl) ?_
        refine lv_iload_n hx hb dJ7_fill_53178_6 rfl (lv_at hl 3 rfl) ?_
        refine lv_icmp_ge (tgt := 20) hx hb dJ7_fill_53178_7 (by decide) (fun c1 => ?_) (fun c1 => ?_)
        · rw [if_pos c1] at h
          exact ih.2.2 L σ r h H locs ls hP hD hS (lv_sub hl [] rfl)
        · rw [if_neg c1] at h
          refine lv_aload_n hx hb dJ7_fill_53178_10 rfl (lv_at hl 0 rfl) ?_
          refine lv_iload_n hx hb dJ7_fill_53178_11 rfl (lv_at hl 2 rfl) ?_
          refine lv_iload_n hx hb dJ7_fill_53178_12 rfl (lv_at hl 1 rfl) ?_
          obtain ⟨q2, h⟩ := kb_ite1 h
          refine hs_10 hx hb hK hP hD hS q2 dJ7_fill_53178_13 (fun H locs hP hD hS => ?_)
          refine lv_iinc (v := ((L.1 2)) + 1) (lv' := [(2, .int (((L.1 2)) + 1)), (0, .ref (a 10)), (1, .int (L.1 1)), (3, .int (L.1 3))]) hx hb dJ7_fill_53178_14 hl (k := 2) rfl rfl (by decide) rfl (fun ls hl => ?_)
          refine lv_goto (tgt := 5) hx hb dJ7_fill_53178_17 (by decide) ?_
          exact ih.2.1 (lI L 2 ((((L.1 2)) + 1))) (uA σ 10 ((L.1 2)).toNatClampNeg ((L.1 1))) r h H locs ls hP hD hS (lv_sub hl [1, 2, 0, 3] rfl)
      · intro L σ r h H locs ls hP hD hS hl
        rw [y_J7_fill_53178__a10] at h
        obtain rfl := Option.some.inj h
        exact W.vret hx hb hr (fun t ht hW => ⟨⟨(), rfl, trivial, by rw [ht]; exact hP, va_K.moved hW.alike hK, hD⟩, hS.F ht⟩) hS.2.2 dJ7_fill_53178_20
  exact (blk k0).1 L0 σ0 r0 h0 s.heap [] ls hP hD hS hl
/-! J7_fill_53178__a8 -/
def y_J7_fill_53178__a8 : Nat → Nat → LV → CS → Option (Int32 × CS)
  | 0, _, _, _ => none
  | k + 1, 0, L, σ => y_J7_fill_53178__a8 k 1 (lI (lI L 2 0) 3 ((Int32.ofNat 72))) σ
  | k + 1, 1, L, σ => if ((L.1 3)) ≤ ((L.1 2)) then (y_J7_fill_53178__a8 k 2 L σ) else (if ¬ (((L.1 2)) < 0 ∨ 72 ≤ ((L.1 2)).toNatClampNeg) then (y_J7_fill_53178__a8 k 1 (lI L 2 ((((L.1 2)) + 1))) (uA σ 8 ((L.1 2)).toNatClampNeg ((L.1 1)))) else none)
  | k + 1, 2, L, σ => some (0, σ)
  | _ + 1, _ + 3, _, _ => none
def o_y_J7_fill_53178__a8 : List Cond := []
theorem o_y_J7_fill_53178__a8_good : o_y_J7_fill_53178__a8.all goodWord = true := by decide +kernel
def p_y_J7_fill_53178__a8 : List Cond := o_y_J7_fill_53178__a8 ++ []
theorem p_y_J7_fill_53178__a8_good : p_y_J7_fill_53178__a8.all goodWord = true := nb_all2 o_y_J7_fill_53178__a8_good rfl
def w_y_J7_fill_53178__a8 : List Cond := .code yJ7_fill_53178 cJ7_fill_53178 4 none :: (p_y_J7_fill_53178__a8 ++ fC)
theorem w_y_J7_fill_53178__a8_good : w_y_J7_fill_53178__a8.all goodWord = true := nb_allc (by decide +kernel) (nb_all2 p_y_J7_fill_53178__a8_good fC_good)
theorem hd_y_J7_fill_53178__a8 : yJ7_fill_53178.cls ≠ "java/lang/invoke/MethodHandle" ∧ yJ7_fill_53178.cls ≠ "java/lang/invoke/VarHandle" ∧ (parseMethodDescriptor yJ7_fill_53178.desc).map (fun d => d.parameters.length) = some 2 := by decide +kernel
set_option maxHeartbeats 40000000 in
set_option maxRecDepth 100000 in
theorem c_y_J7_fill_53178__a8 (l : Launch) (dC : Nat → ClassId) (dI : Nat → Nat → Nat) (cy : Nat → ClassId) (a z : Nat → Nat) (k0 : Nat) (L0 : LV) (σ0 : CS) (r0 : Int32 × CS) (h0 : y_J7_fill_53178__a8 k0 0 L0 σ0 = some r0) (sz : Nat) : Met l yJ7_fill_53178 w_y_J7_fill_53178__a8 ({ frames := 0, cells := 0, slots := 0, locals := 0 }) (va_Pc [.ref (a 8), .int (L0.1 1)] (nIn (dC, dI) cy sz (vC cy a z σ0))) (va_Qv (fun _ : Unit => True) (fun _ t => nOut (dC, dI) cy (va_A (vC cy a z σ0) sz) (vC cy a z r0.2) t) (va_A (vC cy a z σ0) sz)) 0 0 (va_A (vC cy a z σ0) sz) := by
  refine Met.ofW (cc := cJ7_fill_53178) (maxL := 4) (ret := none) (by decide) rfl ?_
  intro p e s m args below meth c s₁ B hml hv
  obtain ⟨rfl, hsz, hP, hK, hD0, hG⟩ := hv
  have hx := B.exec
  have hb := B.bytes
  have hr := B.returns
  have hts := atoms_spec (ws := w_y_J7_fill_53178__a8) B.pre
  have hown : s.vm.findClass RJ7 = some m.cls := findClass_of_methodNamed B.named
  have hlocks := B.notSynchronized
  subst hsz
  have hD := hD0.self (sz := s.heap.size)
  generalize hAe : va_A (vC cy a z σ0) s.heap.size = A at hD ⊢
  have hA : ∀ q : Nat, s.heap.size ≤ q → A q := fun q h => by rw [← hAe]; exact Or.inr h
  have hS : va_S A s.heap s.heap [] := va_S.rf
  have hl := lv_entry ([.ref (a 8), .int (L0.1 1)]) (n := 4) (Nat.le_of_ble_eq_true rfl)
  rw [lg_entry_eq]
  generalize (lg_sl ([.ref (a 8), .int (L0.1 1)]) ++ List.replicate (4 - (lg_sl ([.ref (a 8), .int (L0.1 1)])).length) Slot.unset).toArray = ls at hl ⊢
  have hl : lv_has ls 4 [(0, .ref (a 8)), (1, .int (L0.1 1))] := hl
  have blk : ∀ k : Nat, (bC p l e (headSpec w_y_J7_fill_53178__a8 ({ frames := 0, cells := 0, slots := 0, locals := 0 })).room s m #[.ref (a 8), .int (L0.1 1)] below meth c dC dI cy a z A (kV dC dI cy a z A below #[.ref (a 8), .int (L0.1 1)] s) 4 (y_J7_fill_53178__a8 k 0) (fun L => [(0, .ref (a 8)), (1, .int (L.1 1))]) 0 (fun L => [])) ∧ (bC p l e (headSpec w_y_J7_fill_53178__a8 ({ frames := 0, cells := 0, slots := 0, locals := 0 })).room s m #[.ref (a 8), .int (L0.1 1)] below meth c dC dI cy a z A (kV dC dI cy a z A below #[.ref (a 8), .int (L0.1 1)] s) 4 (y_J7_fill_53178__a8 k 1) (fun L => [(0, .ref (a 8)), (1, .int (L.1 1)), (2, .int (L.1 2)), (3, .int (L.1 3))]) 5 (fun L => [])) ∧ (bC p l e (headSpec w_y_J7_fill_53178__a8 ({ frames := 0, cells := 0, slots := 0, locals := 0 })).room s m #[.ref (a 8), .int (L0.1 1)] below meth c dC dI cy a z A (kV dC dI cy a z A below #[.ref (a 8), .int (L0.1 1)] s) 4 (y_J7_fill_53178__a8 k 2) (fun L => []) 20 (fun L => [])) := by
    intro k
    induction k with
    | zero => exact ⟨fun L σ r h => (by cases h), fun L σ r h => (by cases h), fun L σ r h => (by cases h)⟩
    | succ k ih =>
      refine ⟨?_, ?_, ?_⟩
      · intro L σ r h H locs ls hP hD hS hl
        rw [y_J7_fill_53178__a8] at h
        refine lv_iconst (v := 0) hx hb dJ7_fill_53178_0 (by decide) ?_
        refine lv_istore_n (lv' := [(2, .int 0), (0, .ref (a 8)), (1, .int (L.1 1))]) hx hb dJ7_fill_53178_1 rfl hl (by decide) rfl (fun ls hl => ?_)
        refine lv_aload_n hx hb dJ7_fill_53178_2 rfl (lv_at hl 1 rfl) ?_
        refine hn_8 hx hb hK hP dJ7_fill_53178_3 ?_
        refine lv_istore_n (lv' := [(3, .int (Int32.ofNat 72)), (2, .int 0), (0, .ref (a 8)), (1, .int (L.1 1))]) hx hb dJ7_fill_53178_4 rfl hl (by decide) rfl (fun ls hl => ?_)
        exact ih.2.1 (lI (lI L 2 0) 3 ((Int32.ofNat 72))) σ r h H locs ls hP hD hS (lv_sub hl [2, 3, 1, 0] rfl)
      · intro L σ r h H locs ls hP hD hS hl
        rw [y_J7_fill_53178__a8] at h
        refine lv_iload_n hx hb dJ7_fill_53178_5 rfl (lv_at hl 2 rfl) ?_
        refine lv_iload_n hx hb dJ7_fill_53178_6 rfl (lv_at hl 3 rfl) ?_
        refine lv_icmp_ge (tgt := 20) hx hb dJ7_fill_53178_7 (by decide) (fun c1 => ?_) (fun c1 => ?_)
        · rw [if_pos c1] at h
          exact ih.2.2 L σ r h H locs ls hP hD hS (lv_sub hl [] rfl)
        · rw [if_neg c1] at h
          refine lv_aload_n hx hb dJ7_fill_53178_10 rfl (lv_at hl 0 rfl) ?_
          refine lv_iload_n hx hb dJ7_fill_53178_11 rfl (lv_at hl 2 rfl) ?_
          refine lv_iload_n hx hb dJ7_fill_53178_12 rfl (lv_at hl 1 rfl) ?_
          obtain ⟨q2, h⟩ := kb_ite1 h
          refine hs_8 hx hb hK hP hD hS q2 dJ7_fill_53178_13 (fun H locs hP hD hS => ?_)
          refine lv_iinc (v := ((L.1 2)) + 1) (lv' := [(2, .int (((L.1 2)) + 1)), (0, .ref (a 8)), (1, .int (L.1 1)), (3, .int (L.1 3))]) hx hb dJ7_fill_53178_14 hl (k := 2) rfl rfl (by decide) rfl (fun ls hl => ?_)
          refine lv_goto (tgt := 5) hx hb dJ7_fill_53178_17 (by decide) ?_
          exact ih.2.1 (lI L 2 ((((L.1 2)) + 1))) (uA σ 8 ((L.1 2)).toNatClampNeg ((L.1 1))) r h H locs ls hP hD hS (lv_sub hl [1, 2, 0, 3] rfl)
      · intro L σ r h H locs ls hP hD hS hl
        rw [y_J7_fill_53178__a8] at h
        obtain rfl := Option.some.inj h
        exact W.vret hx hb hr (fun t ht hW => ⟨⟨(), rfl, trivial, by rw [ht]; exact hP, va_K.moved hW.alike hK, hD⟩, hS.F ht⟩) hS.2.2 dJ7_fill_53178_20
  exact (blk k0).1 L0 σ0 r0 h0 s.heap [] ls hP hD hS hl
/-! J7_fill_53178__a9 -/
def y_J7_fill_53178__a9 : Nat → Nat → LV → CS → Option (Int32 × CS)
  | 0, _, _, _ => none
  | k + 1, 0, L, σ => y_J7_fill_53178__a9 k 1 (lI (lI L 2 0) 3 ((Int32.ofNat 72))) σ
  | k + 1, 1, L, σ => if ((L.1 3)) ≤ ((L.1 2)) then (y_J7_fill_53178__a9 k 2 L σ) else (if ¬ (((L.1 2)) < 0 ∨ 72 ≤ ((L.1 2)).toNatClampNeg) then (y_J7_fill_53178__a9 k 1 (lI L 2 ((((L.1 2)) + 1))) (uA σ 9 ((L.1 2)).toNatClampNeg ((L.1 1)))) else none)
  | k + 1, 2, L, σ => some (0, σ)
  | _ + 1, _ + 3, _, _ => none
def o_y_J7_fill_53178__a9 : List Cond := []
theorem o_y_J7_fill_53178__a9_good : o_y_J7_fill_53178__a9.all goodWord = true := by decide +kernel
def p_y_J7_fill_53178__a9 : List Cond := o_y_J7_fill_53178__a9 ++ []
theorem p_y_J7_fill_53178__a9_good : p_y_J7_fill_53178__a9.all goodWord = true := nb_all2 o_y_J7_fill_53178__a9_good rfl
def w_y_J7_fill_53178__a9 : List Cond := .code yJ7_fill_53178 cJ7_fill_53178 4 none :: (p_y_J7_fill_53178__a9 ++ fC)
theorem w_y_J7_fill_53178__a9_good : w_y_J7_fill_53178__a9.all goodWord = true := nb_allc (by decide +kernel) (nb_all2 p_y_J7_fill_53178__a9_good fC_good)
theorem hd_y_J7_fill_53178__a9 : yJ7_fill_53178.cls ≠ "java/lang/invoke/MethodHandle" ∧ yJ7_fill_53178.cls ≠ "java/lang/invoke/VarHandle" ∧ (parseMethodDescriptor yJ7_fill_53178.desc).map (fun d => d.parameters.length) = some 2 := by decide +kernel
set_option maxHeartbeats 40000000 in
set_option maxRecDepth 100000 in
theorem c_y_J7_fill_53178__a9 (l : Launch) (dC : Nat → ClassId) (dI : Nat → Nat → Nat) (cy : Nat → ClassId) (a z : Nat → Nat) (k0 : Nat) (L0 : LV) (σ0 : CS) (r0 : Int32 × CS) (h0 : y_J7_fill_53178__a9 k0 0 L0 σ0 = some r0) (sz : Nat) : Met l yJ7_fill_53178 w_y_J7_fill_53178__a9 ({ frames := 0, cells := 0, slots := 0, locals := 0 }) (va_Pc [.ref (a 9), .int (L0.1 1)] (nIn (dC, dI) cy sz (vC cy a z σ0))) (va_Qv (fun _ : Unit => True) (fun _ t => nOut (dC, dI) cy (va_A (vC cy a z σ0) sz) (vC cy a z r0.2) t) (va_A (vC cy a z σ0) sz)) 0 0 (va_A (vC cy a z σ0) sz) := by
  refine Met.ofW (cc := cJ7_fill_53178) (maxL := 4) (ret := none) (by decide) rfl ?_
  intro p e s m args below meth c s₁ B hml hv
  obtain ⟨rfl, hsz, hP, hK, hD0, hG⟩ := hv
  have hx := B.exec
  have hb := B.bytes
  have hr := B.returns
  have hts := atoms_spec (ws := w_y_J7_fill_53178__a9) B.pre
  have hown : s.vm.findClass RJ7 = some m.cls := findClass_of_methodNamed B.named
  have hlocks := B.notSynchronized
  subst hsz
  have hD := hD0.self (sz := s.heap.size)
  generalize hAe : va_A (vC cy a z σ0) s.heap.size = A at hD ⊢
  have hA : ∀ q : Nat, s.heap.size ≤ q → A q := fun q h => by rw [← hAe]; exact Or.inr h
  have hS : va_S A s.heap s.heap [] := va_S.rf
  have hl := lv_entry ([.ref (a 9), .int (L0.1 1)]) (n := 4) (Nat.le_of_ble_eq_true rfl)
  rw [lg_entry_eq]
  generalize (lg_sl ([.ref (a 9), .int (L0.1 1)]) ++ List.replicate (4 - (lg_sl ([.ref (a 9), .int (L0.1 1)])).length) Slot.unset).toArray = ls at hl ⊢
  have hl : lv_has ls 4 [(0, .ref (a 9)), (1, .int (L0.1 1))] := hl
  have blk : ∀ k : Nat, (bC p l e (headSpec w_y_J7_fill_53178__a9 ({ frames := 0, cells := 0, slots := 0, locals := 0 })).room s m #[.ref (a 9), .int (L0.1 1)] below meth c dC dI cy a z A (kV dC dI cy a z A below #[.ref (a 9), .int (L0.1 1)] s) 4 (y_J7_fill_53178__a9 k 0) (fun L => [(0, .ref (a 9)), (1, .int (L.1 1))]) 0 (fun L => [])) ∧ (bC p l e (headSpec w_y_J7_fill_53178__a9 ({ frames := 0, cells := 0, slots := 0, locals := 0 })).room s m #[.ref (a 9), .int (L0.1 1)] below meth c dC dI cy a z A (kV dC dI cy a z A below #[.ref (a 9), .int (L0.1 1)] s) 4 (y_J7_fill_53178__a9 k 1) (fun L => [(0, .ref (a 9)), (1, .int (L.1 1)), (2, .int (L.1 2)), (3, .int (L.1 3))]) 5 (fun L => [])) ∧ (bC p l e (headSpec w_y_J7_fill_53178__a9 ({ frames := 0, cells := 0, slots := 0, locals := 0 })).room s m #[.ref (a 9), .int (L0.1 1)] below meth c dC dI cy a z A (kV dC dI cy a z A below #[.ref (a 9), .int (L0.1 1)] s) 4 (y_J7_fill_53178__a9 k 2) (fun L => []) 20 (fun L => [])) := by
    intro k
    induction k with
    | zero => exact ⟨fun L σ r h => (by cases h), fun L σ r h => (by cases h), fun L σ r h => (by cases h)⟩
    | succ k ih =>
      refine ⟨?_, ?_, ?_⟩
      · intro L σ r h H locs ls hP hD hS hl
        rw [y_J7_fill_53178__a9] at h
        refine lv_iconst (v := 0) hx hb dJ7_fill_53178_0 (by decide) ?_
        refine lv_istore_n (lv' := [(2, .int 0), (0, .ref (a 9)), (1, .int (L.1 1))]) hx hb dJ7_fill_53178_1 rfl hl (by decide) rfl (fun ls hl => ?_)
        refine lv_aload_n hx hb dJ7_fill_53178_2 rfl (lv_at hl 1 rfl) ?_
        refine hn_9 hx hb hK hP dJ7_fill_53178_3 ?_
        refine lv_istore_n (lv' := [(3, .int (Int32.ofNat 72)), (2, .int 0), (0, .ref (a 9)), (1, .int (L.1 1))]) hx hb dJ7_fill_53178_4 rfl hl (by decide) rfl (fun ls hl => ?_)
        exact ih.2.1 (lI (lI L 2 0) 3 ((Int32.ofNat 72))) σ r h H locs ls hP hD hS (lv_sub hl [2, 3, 1, 0] rfl)
      · intro L σ r h H locs ls hP hD hS hl
        rw [y_J7_fill_53178__a9] at h
        refine lv_iload_n hx hb dJ7_fill_53178_5 rfl (lv_at hl 2 rfl) ?_
        refine lv_iload_n hx hb dJ7_fill_53178_6 rfl (lv_at hl 3 rfl) ?_
        refine lv_icmp_ge (tgt := 20) hx hb dJ7_fill_53178_7 (by decide) (fun c1 => ?_) (fun c1 => ?_)
        · rw [if_pos c1] at h
          exact ih.2.2 L σ r h H locs ls hP hD hS (lv_sub hl [] rfl)
        · rw [if_neg c1] at h
          refine lv_aload_n hx hb dJ7_fill_53178_10 rfl (lv_at hl 0 rfl) ?_
          refine lv_iload_n hx hb dJ7_fill_53178_11 rfl (lv_at hl 2 rfl) ?_
          refine lv_iload_n hx hb dJ7_fill_53178_12 rfl (lv_at hl 1 rfl) ?_
          obtain ⟨q2, h⟩ := kb_ite1 h
          refine hs_9 hx hb hK hP hD hS q2 dJ7_fill_53178_13 (fun H locs hP hD hS => ?_)
          refine lv_iinc (v := ((L.1 2)) + 1) (lv' := [(2, .int (((L.1 2)) + 1)), (0, .ref (a 9)), (1, .int (L.1 1)), (3, .int (L.1 3))]) hx hb dJ7_fill_53178_14 hl (k := 2) rfl rfl (by decide) rfl (fun ls hl => ?_)
          refine lv_goto (tgt := 5) hx hb dJ7_fill_53178_17 (by decide) ?_
          exact ih.2.1 (lI L 2 ((((L.1 2)) + 1))) (uA σ 9 ((L.1 2)).toNatClampNeg ((L.1 1))) r h H locs ls hP hD hS (lv_sub hl [1, 2, 0, 3] rfl)
      · intro L σ r h H locs ls hP hD hS hl
        rw [y_J7_fill_53178__a9] at h
        obtain rfl := Option.some.inj h
        exact W.vret hx hb hr (fun t ht hW => ⟨⟨(), rfl, trivial, by rw [ht]; exact hP, va_K.moved hW.alike hK, hD⟩, hS.F ht⟩) hS.2.2 dJ7_fill_53178_20
  exact (blk k0).1 L0 σ0 r0 h0 s.heap [] ls hP hD hS hl
/-! X10_shiftUp__a8 -/
def y_X10_shiftUp__a8 : Nat → Nat → LV → CS → Option (Int32 × CS)
  | 0, _, _, _ => none
  | k + 1, 0, L, σ => y_X10_shiftUp__a8 k 1 (lI (lI L 3 0) 4 0) σ
  | k + 1, 1, L, σ => if ((L.1 1)) ≤ ((L.1 4)) then (y_X10_shiftUp__a8 k 2 L σ) else (if ¬ (((L.1 4)) < 0 ∨ 72 ≤ ((L.1 4)).toNatClampNeg) then (if ¬ (((L.1 4)) < 0 ∨ 72 ≤ ((L.1 4)).toNatClampNeg) then (y_X10_shiftUp__a8 k 1 (lI (lI L 3 (((((((((σ.2.2.1 8 ((L.1 4)).toNatClampNeg)) <<< (((L.1 2)) &&& 31))) ||| ((L.1 3)))).toUInt32 >>> ((16 : Int32).toUInt32 &&& Int32.toUInt32 31)).toInt32))) 4 ((((L.1 4)) + 1))) (uA σ 8 ((L.1 4)).toNatClampNeg ((((((((σ.2.2.1 8 ((L.1 4)).toNatClampNeg)) <<< (((L.1 2)) &&& 31))) ||| ((L.1 3)))) &&& 65535)))) else none) else none)
  | k + 1, 2, L, σ => some (0, σ)
  | _ + 1, _ + 3, _, _ => none
def o_y_X10_shiftUp__a8 : List Cond := [.constant RX10 149 (65535)]
theorem o_y_X10_shiftUp__a8_good : o_y_X10_shiftUp__a8.all goodWord = true := by decide +kernel
def p_y_X10_shiftUp__a8 : List Cond := o_y_X10_shiftUp__a8 ++ []
theorem p_y_X10_shiftUp__a8_good : p_y_X10_shiftUp__a8.all goodWord = true := nb_all2 o_y_X10_shiftUp__a8_good rfl
def w_y_X10_shiftUp__a8 : List Cond := .code yX10_shiftUp cX10_shiftUp 6 none :: (p_y_X10_shiftUp__a8 ++ fC)
theorem w_y_X10_shiftUp__a8_good : w_y_X10_shiftUp__a8.all goodWord = true := nb_allc (by decide +kernel) (nb_all2 p_y_X10_shiftUp__a8_good fC_good)
theorem hd_y_X10_shiftUp__a8 : yX10_shiftUp.cls ≠ "java/lang/invoke/MethodHandle" ∧ yX10_shiftUp.cls ≠ "java/lang/invoke/VarHandle" ∧ (parseMethodDescriptor yX10_shiftUp.desc).map (fun d => d.parameters.length) = some 3 := by decide +kernel
set_option maxHeartbeats 40000000 in
set_option maxRecDepth 100000 in
theorem c_y_X10_shiftUp__a8 (l : Launch) (dC : Nat → ClassId) (dI : Nat → Nat → Nat) (cy : Nat → ClassId) (a z : Nat → Nat) (k0 : Nat) (L0 : LV) (σ0 : CS) (r0 : Int32 × CS) (h0 : y_X10_shiftUp__a8 k0 0 L0 σ0 = some r0) (sz : Nat) : Met l yX10_shiftUp w_y_X10_shiftUp__a8 ({ frames := 0, cells := 0, slots := 0, locals := 0 }) (va_Pc [.ref (a 8), .int (L0.1 1), .int (L0.1 2)] (nIn (dC, dI) cy sz (vC cy a z σ0))) (va_Qv (fun _ : Unit => True) (fun _ t => nOut (dC, dI) cy (va_A (vC cy a z σ0) sz) (vC cy a z r0.2) t) (va_A (vC cy a z σ0) sz)) 0 0 (va_A (vC cy a z σ0) sz) := by
  refine Met.ofW (cc := cX10_shiftUp) (maxL := 6) (ret := none) (by decide) rfl ?_
  intro p e s m args below meth c s₁ B hml hv
  obtain ⟨rfl, hsz, hP, hK, hD0, hG⟩ := hv
  have hx := B.exec
  have hb := B.bytes
  have hr := B.returns
  have hts := atoms_spec (ws := w_y_X10_shiftUp__a8) B.pre
  have hown : s.vm.findClass RX10 = some m.cls := findClass_of_methodNamed B.named
  have hlocks := B.notSynchronized
  subst hsz
  have hD := hD0.self (sz := s.heap.size)
  generalize hAe : va_A (vC cy a z σ0) s.heap.size = A at hD ⊢
  have hA : ∀ q : Nat, s.heap.size ≤ q → A q := fun q h => by rw [← hAe]; exact Or.inr h
  have hS : va_S A s.heap s.heap [] := va_S.rf
  have hl := lv_entry ([.ref (a 8), .int (L0.1 1), .int (L0.1 2)]) (n := 6) (Nat.le_of_ble_eq_true rfl)
  rw [lg_entry_eq]
  generalize (lg_sl ([.ref (a 8), .int (L0.1 1), .int (L0.1 2)]) ++ List.replicate (6 - (lg_sl ([.ref (a 8), .int (L0.1 1), .int (L0.1 2)])).length) Slot.unset).toArray = ls at hl ⊢
  have hl : lv_has ls 6 [(0, .ref (a 8)), (1, .int (L0.1 1)), (2, .int (L0.1 2))] := hl
  have blk : ∀ k : Nat, (bC p l e (headSpec w_y_X10_shiftUp__a8 ({ frames := 0, cells := 0, slots := 0, locals := 0 })).room s m #[.ref (a 8), .int (L0.1 1), .int (L0.1 2)] below meth c dC dI cy a z A (kV dC dI cy a z A below #[.ref (a 8), .int (L0.1 1), .int (L0.1 2)] s) 6 (y_X10_shiftUp__a8 k 0) (fun L => [(0, .ref (a 8)), (1, .int (L.1 1)), (2, .int (L.1 2))]) 0 (fun L => [])) ∧ (bC p l e (headSpec w_y_X10_shiftUp__a8 ({ frames := 0, cells := 0, slots := 0, locals := 0 })).room s m #[.ref (a 8), .int (L0.1 1), .int (L0.1 2)] below meth c dC dI cy a z A (kV dC dI cy a z A below #[.ref (a 8), .int (L0.1 1), .int (L0.1 2)] s) 6 (y_X10_shiftUp__a8 k 1) (fun L => [(0, .ref (a 8)), (1, .int (L.1 1)), (2, .int (L.1 2)), (3, .int (L.1 3)), (4, .int (L.1 4))]) 5 (fun L => [])) ∧ (bC p l e (headSpec w_y_X10_shiftUp__a8 ({ frames := 0, cells := 0, slots := 0, locals := 0 })).room s m #[.ref (a 8), .int (L0.1 1), .int (L0.1 2)] below meth c dC dI cy a z A (kV dC dI cy a z A below #[.ref (a 8), .int (L0.1 1), .int (L0.1 2)] s) 6 (y_X10_shiftUp__a8 k 2) (fun L => []) 42 (fun L => [])) := by
    intro k
    induction k with
    | zero => exact ⟨fun L σ r h => (by cases h), fun L σ r h => (by cases h), fun L σ r h => (by cases h)⟩
    | succ k ih =>
      refine ⟨?_, ?_, ?_⟩
      · intro L σ r h H locs ls hP hD hS hl
        rw [y_X10_shiftUp__a8] at h
        refine lv_iconst (v := 0) hx hb dX10_shiftUp_0 (by decide) ?_
        refine lv_istore_n (lv' := [(3, .int 0), (0, .ref (a 8)), (1, .int (L.1 1)), (2, .int (L.1 2))]) hx hb dX10_shiftUp_1 rfl hl (by decide) rfl (fun ls hl => ?_)
        refine lv_iconst (v := 0) hx hb dX10_shiftUp_2 (by decide) ?_
        refine lv_istore (lv' := [(4, .int 0), (3, .int 0), (0, .ref (a 8)), (1, .int (L.1 1)), (2, .int (L.1 2))]) hx hb dX10_shiftUp_3 hl (by decide) rfl (fun ls hl => ?_)
        exact ih.2.1 (lI (lI L 3 0) 4 0) σ r h H locs ls hP hD hS (lv_sub hl [2, 3, 4, 1, 0] rfl)
      · intro L σ r h H locs ls hP hD hS hl
        rw [y_X10_shiftUp__a8] at h
        refine lv_iload hx hb dX10_shiftUp_5 (lv_at hl 4 rfl) ?_
        refine lv_iload_n hx hb dX10_shiftUp_7 rfl (lv_at hl 1 rfl) ?_
        refine lv_icmp_ge (tgt := 42) hx hb dX10_shiftUp_8 (by decide) (fun c1 => ?_) (fun c1 => ?_)
        · rw [if_pos c1] at h
          exact ih.2.2 L σ r h H locs ls hP hD hS (lv_sub hl [] rfl)
        · rw [if_neg c1] at h
          refine lv_aload_n hx hb dX10_shiftUp_11 rfl (lv_at hl 0 rfl) ?_
          refine lv_iload hx hb dX10_shiftUp_12 (lv_at hl 4 rfl) ?_
          obtain ⟨q2, h⟩ := kb_ite1 h
          refine hl_8 hx hb hK hP q2 dX10_shiftUp_14 ?_
          refine lv_iload_n hx hb dX10_shiftUp_15 rfl (lv_at hl 2 rfl) ?_
          refine lv_ishl hx hb dX10_shiftUp_16 ?_
          refine lv_iload_n hx hb dX10_shiftUp_17 rfl (lv_at hl 3 rfl) ?_
          refine lv_ior hx hb dX10_shiftUp_18 ?_
          refine lv_istore (lv' := [(5, .int (((((σ.2.2.1 8 ((L.1 4)).toNatClampNeg)) <<< (((L.1 2)) &&& 31))) ||| ((L.1 3)))), (0, .ref (a 8)), (1, .int (L.1 1)), (2, .int (L.1 2)), (3, .int (L.1 3)), (4, .int (L.1 4))]) hx hb dX10_shiftUp_19 hl (by decide) rfl (fun ls hl => ?_)
          refine lv_aload_n hx hb dX10_shiftUp_21 rfl (lv_at hl 1 rfl) ?_
          refine lv_iload hx hb dX10_shiftUp_22 (lv_at hl 5 rfl) ?_
          refine lv_iload hx hb dX10_shiftUp_24 (lv_at hl 0 rfl) ?_
          refine lv_ldc (v := 65535) hx hb hown (hts _ (List.mem_cons_of_mem _ (List.mem_append_left _ (List.mem_append_left _ (List.mem_of_getElem? (i := 0) rfl))))) dX10_shiftUp_26 ?_
          refine lv_iand hx hb dX10_shiftUp_28 ?_
          obtain ⟨q3, h⟩ := kb_ite1 h
          refine hs_8 hx hb hK hP hD hS q3 dX10_shiftUp_29 (fun H locs hP hD hS => ?_)
          refine lv_iload hx hb dX10_shiftUp_30 (lv_at hl 0 rfl) ?_
          refine lv_bipush (v := 16) hx hb dX10_shiftUp_32 (by decide) ?_
          refine lv_iushr (v := (((((((σ.2.2.1 8 ((L.1 4)).toNatClampNeg)) <<< (((L.1 2)) &&& 31))) ||| ((L.1 3)))).toUInt32 >>> ((16 : Int32).toUInt32 &&& Int32.toUInt32 31)).toInt32) hx hb dX10_shiftUp_34 rfl ?_
          refine lv_istore_n (lv' := [(3, .int ((((((((σ.2.2.1 8 ((L.1 4)).toNatClampNeg)) <<< (((L.1 2)) &&& 31))) ||| ((L.1 3)))).toUInt32 >>> ((16 : Int32).toUInt32 &&& Int32.toUInt32 31)).toInt32)), (5, .int (((((σ.2.2.1 8 ((L.1 4)).toNatClampNeg)) <<< (((L.1 2)) &&& 31))) ||| ((L.1 3)))), (0, .ref (a 8)), (1, .int (L.1 1)), (2, .int (L.1 2)), (4, .int (L.1 4))]) hx hb dX10_shiftUp_35 rfl hl (by decide) rfl (fun ls hl => ?_)
          refine lv_iinc (v := ((L.1 4)) + 1) (lv' := [(4, .int (((L.1 4)) + 1)), (3, .int ((((((((σ.2.2.1 8 ((L.1 4)).toNatClampNeg)) <<< (((L.1 2)) &&& 31))) ||| ((L.1 3)))).toUInt32 >>> ((16 : Int32).toUInt32 &&& Int32.toUInt32 31)).toInt32)), (5, .int (((((σ.2.2.1 8 ((L.1 4)).toNatClampNeg)) <<< (((L.1 2)) &&& 31))) ||| ((L.1 3)))), (0, .ref (a 8)), (1, .int (L.1 1)), (2, .int (L.1 2))]) hx hb dX10_shiftUp_36 hl (k := 5) rfl rfl (by decide) rfl (fun ls hl => ?_)
          refine lv_goto (tgt := 5) hx hb dX10_shiftUp_39 (by decide) ?_
          exact ih.2.1 (lI (lI L 3 (((((((((σ.2.2.1 8 ((L.1 4)).toNatClampNeg)) <<< (((L.1 2)) &&& 31))) ||| ((L.1 3)))).toUInt32 >>> ((16 : Int32).toUInt32 &&& Int32.toUInt32 31)).toInt32))) 4 ((((L.1 4)) + 1))) (uA σ 8 ((L.1 4)).toNatClampNeg ((((((((σ.2.2.1 8 ((L.1 4)).toNatClampNeg)) <<< (((L.1 2)) &&& 31))) ||| ((L.1 3)))) &&& 65535))) r h H locs ls hP hD hS (lv_sub hl [3, 4, 5, 1, 0] rfl)
      · intro L σ r h H locs ls hP hD hS hl
        rw [y_X10_shiftUp__a8] at h
        obtain rfl := Option.some.inj h
        exact W.vret hx hb hr (fun t ht hW => ⟨⟨(), rfl, trivial, by rw [ht]; exact hP, va_K.moved hW.alike hK, hD⟩, hS.F ht⟩) hS.2.2 dX10_shiftUp_42
  exact (blk k0).1 L0 σ0 r0 h0 s.heap [] ls hP hD hS hl
/-! X10_shiftUp__a9 -/
def y_X10_shiftUp__a9 : Nat → Nat → LV → CS → Option (Int32 × CS)
  | 0, _, _, _ => none
  | k + 1, 0, L, σ => y_X10_shiftUp__a9 k 1 (lI (lI L 3 0) 4 0) σ
  | k + 1, 1, L, σ => if ((L.1 1)) ≤ ((L.1 4)) then (y_X10_shiftUp__a9 k 2 L σ) else (if ¬ (((L.1 4)) < 0 ∨ 72 ≤ ((L.1 4)).toNatClampNeg) then (if ¬ (((L.1 4)) < 0 ∨ 72 ≤ ((L.1 4)).toNatClampNeg) then (y_X10_shiftUp__a9 k 1 (lI (lI L 3 (((((((((σ.2.2.1 9 ((L.1 4)).toNatClampNeg)) <<< (((L.1 2)) &&& 31))) ||| ((L.1 3)))).toUInt32 >>> ((16 : Int32).toUInt32 &&& Int32.toUInt32 31)).toInt32))) 4 ((((L.1 4)) + 1))) (uA σ 9 ((L.1 4)).toNatClampNeg ((((((((σ.2.2.1 9 ((L.1 4)).toNatClampNeg)) <<< (((L.1 2)) &&& 31))) ||| ((L.1 3)))) &&& 65535)))) else none) else none)
  | k + 1, 2, L, σ => some (0, σ)
  | _ + 1, _ + 3, _, _ => none
def o_y_X10_shiftUp__a9 : List Cond := [.constant RX10 149 (65535)]
theorem o_y_X10_shiftUp__a9_good : o_y_X10_shiftUp__a9.all goodWord = true := by decide +kernel
def p_y_X10_shiftUp__a9 : List Cond := o_y_X10_shiftUp__a9 ++ []
theorem p_y_X10_shiftUp__a9_good : p_y_X10_shiftUp__a9.all goodWord = true := nb_all2 o_y_X10_shiftUp__a9_good rfl
def w_y_X10_shiftUp__a9 : List Cond := .code yX10_shiftUp cX10_shiftUp 6 none :: (p_y_X10_shiftUp__a9 ++ fC)
theorem w_y_X10_shiftUp__a9_good : w_y_X10_shiftUp__a9.all goodWord = true := nb_allc (by decide +kernel) (nb_all2 p_y_X10_shiftUp__a9_good fC_good)
theorem hd_y_X10_shiftUp__a9 : yX10_shiftUp.cls ≠ "java/lang/invoke/MethodHandle" ∧ yX10_shiftUp.cls ≠ "java/lang/invoke/VarHandle" ∧ (parseMethodDescriptor yX10_shiftUp.desc).map (fun d => d.parameters.length) = some 3 := by decide +kernel
set_option maxHeartbeats 40000000 in
set_option maxRecDepth 100000 in
theorem c_y_X10_shiftUp__a9 (l : Launch) (dC : Nat → ClassId) (dI : Nat → Nat → Nat) (cy : Nat → ClassId) (a z : Nat → Nat) (k0 : Nat) (L0 : LV) (σ0 : CS) (r0 : Int32 × CS) (h0 : y_X10_shiftUp__a9 k0 0 L0 σ0 = some r0) (sz : Nat) : Met l yX10_shiftUp w_y_X10_shiftUp__a9 ({ frames := 0, cells := 0, slots := 0, locals := 0 }) (va_Pc [.ref (a 9), .int (L0.1 1), .int (L0.1 2)] (nIn (dC, dI) cy sz (vC cy a z σ0))) (va_Qv (fun _ : Unit => True) (fun _ t => nOut (dC, dI) cy (va_A (vC cy a z σ0) sz) (vC cy a z r0.2) t) (va_A (vC cy a z σ0) sz)) 0 0 (va_A (vC cy a z σ0) sz) := by
  refine Met.ofW (cc := cX10_shiftUp) (maxL := 6) (ret := none) (by decide) rfl ?_
  intro p e s m args below meth c s₁ B hml hv
  obtain ⟨rfl, hsz, hP, hK, hD0, hG⟩ := hv
  have hx := B.exec
  have hb := B.bytes
  have hr := B.returns
  have hts := atoms_spec (ws := w_y_X10_shiftUp__a9) B.pre
  have hown : s.vm.findClass RX10 = some m.cls := findClass_of_methodNamed B.named
  have hlocks := B.notSynchronized
  subst hsz
  have hD := hD0.self (sz := s.heap.size)
  generalize hAe : va_A (vC cy a z σ0) s.heap.size = A at hD ⊢
  have hA : ∀ q : Nat, s.heap.size ≤ q → A q := fun q h => by rw [← hAe]; exact Or.inr h
  have hS : va_S A s.heap s.heap [] := va_S.rf
  have hl := lv_entry ([.ref (a 9), .int (L0.1 1), .int (L0.1 2)]) (n := 6) (Nat.le_of_ble_eq_true rfl)
  rw [lg_entry_eq]
  generalize (lg_sl ([.ref (a 9), .int (L0.1 1), .int (L0.1 2)]) ++ List.replicate (6 - (lg_sl ([.ref (a 9), .int (L0.1 1), .int (L0.1 2)])).length) Slot.unset).toArray = ls at hl ⊢
  have hl : lv_has ls 6 [(0, .ref (a 9)), (1, .int (L0.1 1)), (2, .int (L0.1 2))] := hl
  have blk : ∀ k : Nat, (bC p l e (headSpec w_y_X10_shiftUp__a9 ({ frames := 0, cells := 0, slots := 0, locals := 0 })).room s m #[.ref (a 9), .int (L0.1 1), .int (L0.1 2)] below meth c dC dI cy a z A (kV dC dI cy a z A below #[.ref (a 9), .int (L0.1 1), .int (L0.1 2)] s) 6 (y_X10_shiftUp__a9 k 0) (fun L => [(0, .ref (a 9)), (1, .int (L.1 1)), (2, .int (L.1 2))]) 0 (fun L => [])) ∧ (bC p l e (headSpec w_y_X10_shiftUp__a9 ({ frames := 0, cells := 0, slots := 0, locals := 0 })).room s m #[.ref (a 9), .int (L0.1 1), .int (L0.1 2)] below meth c dC dI cy a z A (kV dC dI cy a z A below #[.ref (a 9), .int (L0.1 1), .int (L0.1 2)] s) 6 (y_X10_shiftUp__a9 k 1) (fun L => [(0, .ref (a 9)), (1, .int (L.1 1)), (2, .int (L.1 2)), (3, .int (L.1 3)), (4, .int (L.1 4))]) 5 (fun L => [])) ∧ (bC p l e (headSpec w_y_X10_shiftUp__a9 ({ frames := 0, cells := 0, slots := 0, locals := 0 })).room s m #[.ref (a 9), .int (L0.1 1), .int (L0.1 2)] below meth c dC dI cy a z A (kV dC dI cy a z A below #[.ref (a 9), .int (L0.1 1), .int (L0.1 2)] s) 6 (y_X10_shiftUp__a9 k 2) (fun L => []) 42 (fun L => [])) := by
    intro k
    induction k with
    | zero => exact ⟨fun L σ r h => (by cases h), fun L σ r h => (by cases h), fun L σ r h => (by cases h)⟩
    | succ k ih =>
      refine ⟨?_, ?_, ?_⟩
      · intro L σ r h H locs ls hP hD hS hl
        rw [y_X10_shiftUp__a9] at h
        refine lv_iconst (v := 0) hx hb dX10_shiftUp_0 (by decide) ?_
        refine lv_istore_n (lv' := [(3, .int 0), (0, .ref (a 9)), (1, .int (L.1 1)), (2, .int (L.1 2))]) hx hb dX10_shiftUp_1 rfl hl (by decide) rfl (fun ls hl => ?_)
        refine lv_iconst (v := 0) hx hb dX10_shiftUp_2 (by decide) ?_
        refine lv_istore (lv' := [(4, .int 0), (3, .int 0), (0, .ref (a 9)), (1, .int (L.1 1)), (2, .int (L.1 2))]) hx hb dX10_shiftUp_3 hl (by decide) rfl (fun ls hl => ?_)
        exact ih.2.1 (lI (lI L 3 0) 4 0) σ r h H locs ls hP hD hS (lv_sub hl [2, 3, 4, 1, 0] rfl)
      · intro L σ r h H locs ls hP hD hS hl
        rw [y_X10_shiftUp__a9] at h
        refine lv_iload hx hb dX10_shiftUp_5 (lv_at hl 4 rfl) ?_
        refine lv_iload_n hx hb dX10_shiftUp_7 rfl (lv_at hl 1 rfl) ?_
        refine lv_icmp_ge (tgt := 42) hx hb dX10_shiftUp_8 (by decide) (fun c1 => ?_) (fun c1 => ?_)
        · rw [if_pos c1] at h
          exact ih.2.2 L σ r h H locs ls hP hD hS (lv_sub hl [] rfl)
        · rw [if_neg c1] at h
          refine lv_aload_n hx hb dX10_shiftUp_11 rfl (lv_at hl 0 rfl) ?_
          refine lv_iload hx hb dX10_shiftUp_12 (lv_at hl 4 rfl) ?_
          obtain ⟨q2, h⟩ := kb_ite1 h
          refine hl_9 hx hb hK hP q2 dX10_shiftUp_14 ?_
          refine lv_iload_n hx hb dX10_shiftUp_15 rfl (lv_at hl 2 rfl) ?_
          refine lv_ishl hx hb dX10_shiftUp_16 ?_
          refine lv_iload_n hx hb dX10_shiftUp_17 rfl (lv_at hl 3 rfl) ?_
          refine lv_ior hx hb dX10_shiftUp_18 ?_
          refine lv_istore (lv' := [(5, .int (((((σ.2.2.1 9 ((L.1 4)).toNatClampNeg)) <<< (((L.1 2)) &&& 31))) ||| ((L.1 3)))), (0, .ref (a 9)), (1, .int (L.1 1)), (2, .int (L.1 2)), (3, .int (L.1 3)), (4, .int (L.1 4))]) hx hb dX10_shiftUp_19 hl (by decide) rfl (fun ls hl => ?_)
          refine lv_aload_n hx hb dX10_shiftUp_21 rfl (lv_at hl 1 rfl) ?_
          refine lv_iload hx hb dX10_shiftUp_22 (lv_at hl 5 rfl) ?_
          refine lv_iload hx hb dX10_shiftUp_24 (lv_at hl 0 rfl) ?_
          refine lv_ldc (v := 65535) hx hb hown (hts _ (List.mem_cons_of_mem _ (List.mem_append_left _ (List.mem_append_left _ (List.mem_of_getElem? (i := 0) rfl))))) dX10_shiftUp_26 ?_
          refine lv_iand hx hb dX10_shiftUp_28 ?_
          obtain ⟨q3, h⟩ := kb_ite1 h
          refine hs_9 hx hb hK hP hD hS q3 dX10_shiftUp_29 (fun H locs hP hD hS => ?_)
          refine lv_iload hx hb dX10_shiftUp_30 (lv_at hl 0 rfl) ?_
          refine lv_bipush (v := 16) hx hb dX10_shiftUp_32 (by decide) ?_
          refine lv_iushr (v := (((((((σ.2.2.1 9 ((L.1 4)).toNatClampNeg)) <<< (((L.1 2)) &&& 31))) ||| ((L.1 3)))).toUInt32 >>> ((16 : Int32).toUInt32 &&& Int32.toUInt32 31)).toInt32) hx hb dX10_shiftUp_34 rfl ?_
          refine lv_istore_n (lv' := [(3, .int ((((((((σ.2.2.1 9 ((L.1 4)).toNatClampNeg)) <<< (((L.1 2)) &&& 31))) ||| ((L.1 3)))).toUInt32 >>> ((16 : Int32).toUInt32 &&& Int32.toUInt32 31)).toInt32)), (5, .int (((((σ.2.2.1 9 ((L.1 4)).toNatClampNeg)) <<< (((L.1 2)) &&& 31))) ||| ((L.1 3)))), (0, .ref (a 9)), (1, .int (L.1 1)), (2, .int (L.1 2)), (4, .int (L.1 4))]) hx hb dX10_shiftUp_35 rfl hl (by decide) rfl (fun ls hl => ?_)
          refine lv_iinc (v := ((L.1 4)) + 1) (lv' := [(4, .int (((L.1 4)) + 1)), (3, .int ((((((((σ.2.2.1 9 ((L.1 4)).toNatClampNeg)) <<< (((L.1 2)) &&& 31))) ||| ((L.1 3)))).toUInt32 >>> ((16 : Int32).toUInt32 &&& Int32.toUInt32 31)).toInt32)), (5, .int (((((σ.2.2.1 9 ((L.1 4)).toNatClampNeg)) <<< (((L.1 2)) &&& 31))) ||| ((L.1 3)))), (0, .ref (a 9)), (1, .int (L.1 1)), (2, .int (L.1 2))]) hx hb dX10_shiftUp_36 hl (k := 5) rfl rfl (by decide) rfl (fun ls hl => ?_)
          refine lv_goto (tgt := 5) hx hb dX10_shiftUp_39 (by decide) ?_
          exact ih.2.1 (lI (lI L 3 (((((((((σ.2.2.1 9 ((L.1 4)).toNatClampNeg)) <<< (((L.1 2)) &&& 31))) ||| ((L.1 3)))).toUInt32 >>> ((16 : Int32).toUInt32 &&& Int32.toUInt32 31)).toInt32))) 4 ((((L.1 4)) + 1))) (uA σ 9 ((L.1 4)).toNatClampNeg ((((((((σ.2.2.1 9 ((L.1 4)).toNatClampNeg)) <<< (((L.1 2)) &&& 31))) ||| ((L.1 3)))) &&& 65535))) r h H locs ls hP hD hS (lv_sub hl [3, 4, 5, 1, 0] rfl)
      · intro L σ r h H locs ls hP hD hS hl
        rw [y_X10_shiftUp__a9] at h
        obtain rfl := Option.some.inj h
        exact W.vret hx hb hr (fun t ht hW => ⟨⟨(), rfl, trivial, by rw [ht]; exact hP, va_K.moved hW.alike hK, hD⟩, hS.F ht⟩) hS.2.2 dX10_shiftUp_42
  exact (blk k0).1 L0 σ0 r0 h0 s.heap [] ls hP hD hS hl
/-! X10_shiftDown__a8 -/
def y_X10_shiftDown__a8 : Nat → Nat → LV → CS → Option (Int32 × CS)
  | 0, _, _, _ => none
  | k + 1, 0, L, σ => y_X10_shiftDown__a8 k 1 (lI L 3 0) σ
  | k + 1, 1, L, σ => if ((L.1 1)) ≤ ((L.1 3)) then (y_X10_shiftDown__a8 k 2 L σ) else (if ¬ (((L.1 3)) < 0 ∨ 72 ≤ ((L.1 3)).toNatClampNeg) then (if ¬ (((((L.1 3)) + 1)) < 0 ∨ 72 ≤ ((((L.1 3)) + 1)).toNatClampNeg) then (if ¬ (((L.1 3)) < 0 ∨ 72 ≤ ((L.1 3)).toNatClampNeg) then (y_X10_shiftDown__a8 k 1 (lI L 3 ((((L.1 3)) + 1))) (uA σ 8 ((L.1 3)).toNatClampNeg (((((((((σ.2.2.1 8 ((L.1 3)).toNatClampNeg)).toUInt32 >>> (((L.1 2)).toUInt32 &&& Int32.toUInt32 31)).toInt32)) ||| ((((σ.2.2.1 8 ((((L.1 3)) + 1)).toNatClampNeg)) <<< (((16 - ((L.1 2)))) &&& 31))))) &&& 65535)))) else none) else none) else none)
  | k + 1, 2, L, σ => some (0, σ)
  | _ + 1, _ + 3, _, _ => none
def o_y_X10_shiftDown__a8 : List Cond := [.constant RX10 149 (65535)]
theorem o_y_X10_shiftDown__a8_good : o_y_X10_shiftDown__a8.all goodWord = true := by decide +kernel
def p_y_X10_shiftDown__a8 : List Cond := o_y_X10_shiftDown__a8 ++ []
theorem p_y_X10_shiftDown__a8_good : p_y_X10_shiftDown__a8.all goodWord = true := nb_all2 o_y_X10_shiftDown__a8_good rfl
def w_y_X10_shiftDown__a8 : List Cond := .code yX10_shiftDown cX10_shiftDown 4 none :: (p_y_X10_shiftDown__a8 ++ fC)
theorem w_y_X10_shiftDown__a8_good : w_y_X10_shiftDown__a8.all goodWord = true := nb_allc (by decide +kernel) (nb_all2 p_y_X10_shiftDown__a8_good fC_good)
theorem hd_y_X10_shiftDown__a8 : yX10_shiftDown.cls ≠ "java/lang/invoke/MethodHandle" ∧ yX10_shiftDown.cls ≠ "java/lang/invoke/VarHandle" ∧ (parseMethodDescriptor yX10_shiftDown.desc).map (fun d => d.parameters.length) = some 3 := by decide +kernel
set_option maxHeartbeats 40000000 in
set_option maxRecDepth 100000 in
theorem c_y_X10_shiftDown__a8 (l : Launch) (dC : Nat → ClassId) (dI : Nat → Nat → Nat) (cy : Nat → ClassId) (a z : Nat → Nat) (k0 : Nat) (L0 : LV) (σ0 : CS) (r0 : Int32 × CS) (h0 : y_X10_shiftDown__a8 k0 0 L0 σ0 = some r0) (sz : Nat) : Met l yX10_shiftDown w_y_X10_shiftDown__a8 ({ frames := 0, cells := 0, slots := 0, locals := 0 }) (va_Pc [.ref (a 8), .int (L0.1 1), .int (L0.1 2)] (nIn (dC, dI) cy sz (vC cy a z σ0))) (va_Qv (fun _ : Unit => True) (fun _ t => nOut (dC, dI) cy (va_A (vC cy a z σ0) sz) (vC cy a z r0.2) t) (va_A (vC cy a z σ0) sz)) 0 0 (va_A (vC cy a z σ0) sz) := by
  refine Met.ofW (cc := cX10_shiftDown) (maxL := 4) (ret := none) (by decide) rfl ?_
  intro p e s m args below meth c s₁ B hml hv
  obtain ⟨rfl, hsz, hP, hK, hD0, hG⟩ := hv
  have hx := B.exec
  have hb := B.bytes
  have hr := B.returns
  have hts := atoms_spec (ws := w_y_X10_shiftDown__a8) B.pre
  have hown : s.vm.findClass RX10 = some m.cls := findClass_of_methodNamed B.named
  have hlocks := B.notSynchronized
  subst hsz
  have hD := hD0.self (sz := s.heap.size)
  generalize hAe : va_A (vC cy a z σ0) s.heap.size = A at hD ⊢
  have hA : ∀ q : Nat, s.heap.size ≤ q → A q := fun q h => by rw [← hAe]; exact Or.inr h
  have hS : va_S A s.heap s.heap [] := va_S.rf
  have hl := lv_entry ([.ref (a 8), .int (L0.1 1), .int (L0.1 2)]) (n := 4) (Nat.le_of_ble_eq_true rfl)
  rw [lg_entry_eq]
  generalize (lg_sl ([.ref (a 8), .int (L0.1 1), .int (L0.1 2)]) ++ List.replicate (4 - (lg_sl ([.ref (a 8), .int (L0.1 1), .int (L0.1 2)])).length) Slot.unset).toArray = ls at hl ⊢
  have hl : lv_has ls 4 [(0, .ref (a 8)), (1, .int (L0.1 1)), (2, .int (L0.1 2))] := hl
  have blk : ∀ k : Nat, (bC p l e (headSpec w_y_X10_shiftDown__a8 ({ frames := 0, cells := 0, slots := 0, locals := 0 })).room s m #[.ref (a 8), .int (L0.1 1), .int (L0.1 2)] below meth c dC dI cy a z A (kV dC dI cy a z A below #[.ref (a 8), .int (L0.1 1), .int (L0.1 2)] s) 4 (y_X10_shiftDown__a8 k 0) (fun L => [(0, .ref (a 8)), (1, .int (L.1 1)), (2, .int (L.1 2))]) 0 (fun L => [])) ∧ (bC p l e (headSpec w_y_X10_shiftDown__a8 ({ frames := 0, cells := 0, slots := 0, locals := 0 })).room s m #[.ref (a 8), .int (L0.1 1), .int (L0.1 2)] below meth c dC dI cy a z A (kV dC dI cy a z A below #[.ref (a 8), .int (L0.1 1), .int (L0.1 2)] s) 4 (y_X10_shiftDown__a8 k 1) (fun L => [(0, .ref (a 8)), (1, .int (L.1 1)), (2, .int (L.1 2)), (3, .int (L.1 3))]) 2 (fun L => [])) ∧ (bC p l e (headSpec w_y_X10_shiftDown__a8 ({ frames := 0, cells := 0, slots := 0, locals := 0 })).room s m #[.ref (a 8), .int (L0.1 1), .int (L0.1 2)] below meth c dC dI cy a z A (kV dC dI cy a z A below #[.ref (a 8), .int (L0.1 1), .int (L0.1 2)] s) 4 (y_X10_shiftDown__a8 k 2) (fun L => []) 35 (fun L => [])) := by
    intro k
    induction k with
    | zero => exact ⟨fun L σ r h => (by cases h), fun L σ r h => (by cases h), fun L σ r h => (by cases h)⟩
    | succ k ih =>
      refine ⟨?_, ?_, ?_⟩
      · intro L σ r h H locs ls hP hD hS hl
        rw [y_X10_shiftDown__a8] at h
        refine lv_iconst (v := 0) hx hb dX10_shiftDown_0 (by decide) ?_
        refine lv_istore_n (lv' := [(3, .int 0), (0, .ref (a 8)), (1, .int (L.1 1)), (2, .int (L.1 2))]) hx hb dX10_shiftDown_1 rfl hl (by decide) rfl (fun ls hl => ?_)
        exact ih.2.1 (lI L 3 0) σ r h H locs ls hP hD hS (lv_sub hl [1, 2, 3, 0] rfl)
      · intro L σ r h H locs ls hP hD hS hl
        rw [y_X10_shiftDown__a8] at h
        refine lv_iload_n hx hb dX10_shiftDown_2 rfl (lv_at hl 3 rfl) ?_
        refine lv_iload_n hx hb dX10_shiftDown_3 rfl (lv_at hl 1 rfl) ?_
        refine lv_icmp_ge (tgt := 35) hx hb dX10_shiftDown_4 (by decide) (fun c1 => ?_) (fun c1 => ?_)
        · rw [if_pos c1] at h
          exact ih.2.2 L σ r h H locs ls hP hD hS (lv_sub hl [] rfl)
        · rw [if_neg c1] at h
          refine lv_aload_n hx hb dX10_shiftDown_7 rfl (lv_at hl 0 rfl) ?_
          refine lv_iload_n hx hb dX10_shiftDown_8 rfl (lv_at hl 3 rfl) ?_
          refine lv_aload_n hx hb dX10_shiftDown_9 rfl (lv_at hl 0 rfl) ?_
          refine lv_iload_n hx hb dX10_shiftDown_10 rfl (lv_at hl 3 rfl) ?_
          obtain ⟨q2, h⟩ := kb_ite1 h
          refine hl_8 hx hb hK hP q2 dX10_shiftDown_11 ?_
          refine lv_iload_n hx hb dX10_shiftDown_12 rfl (lv_at hl 2 rfl) ?_
          refine lv_iushr (v := (((σ.2.2.1 8 ((L.1 3)).toNatClampNeg)).toUInt32 >>> (((L.1 2)).toUInt32 &&& Int32.toUInt32 31)).toInt32) hx hb dX10_shiftDown_13 rfl ?_
          refine lv_aload_n hx hb dX10_shiftDown_14 rfl (lv_at hl 0 rfl) ?_
          refine lv_iload_n hx hb dX10_shiftDown_15 rfl (lv_at hl 3 rfl) ?_
          refine lv_iconst (v := 1) hx hb dX10_shiftDown_16 (by decide) ?_
          refine lv_iadd hx hb dX10_shiftDown_17 ?_
          obtain ⟨q3, h⟩ := kb_ite1 h
          refine hl_8 hx hb hK hP q3 dX10_shiftDown_18 ?_
          refine lv_bipush (v := 16) hx hb dX10_shiftDown_19 (by decide) ?_
          refine lv_iload_n hx hb dX10_shiftDown_21 rfl (lv_at hl 2 rfl) ?_
          refine lv_isub hx hb dX10_shiftDown_22 ?_
          refine lv_ishl hx hb dX10_shiftDown_23 ?_
          refine lv_ior hx hb dX10_shiftDown_24 ?_
          refine lv_ldc (v := 65535) hx hb hown (hts _ (List.mem_cons_of_mem _ (List.mem_append_left _ (List.mem_append_left _ (List.mem_of_getElem? (i := 0) rfl))))) dX10_shiftDown_25 ?_
          refine lv_iand hx hb dX10_shiftDown_27 ?_
          obtain ⟨q4, h⟩ := kb_ite1 h
          refine hs_8 hx hb hK hP hD hS q4 dX10_shiftDown_28 (fun H locs hP hD hS => ?_)
          refine lv_iinc (v := ((L.1 3)) + 1) (lv' := [(3, .int (((L.1 3)) + 1)), (0, .ref (a 8)), (1, .int (L.1 1)), (2, .int (L.1 2))]) hx hb dX10_shiftDown_29 hl (k := 3) rfl rfl (by decide) rfl (fun ls hl => ?_)
          refine lv_goto (tgt := 2) hx hb dX10_shiftDown_32 (by decide) ?_
          exact ih.2.1 (lI L 3 ((((L.1 3)) + 1))) (uA σ 8 ((L.1 3)).toNatClampNeg (((((((((σ.2.2.1 8 ((L.1 3)).toNatClampNeg)).toUInt32 >>> (((L.1 2)).toUInt32 &&& Int32.toUInt32 31)).toInt32)) ||| ((((σ.2.2.1 8 ((((L.1 3)) + 1)).toNatClampNeg)) <<< (((16 - ((L.1 2)))) &&& 31))))) &&& 65535))) r h H locs ls hP hD hS (lv_sub hl [1, 2, 3, 0] rfl)
      · intro L σ r h H locs ls hP hD hS hl
        rw [y_X10_shiftDown__a8] at h
        obtain rfl := Option.some.inj h
        exact W.vret hx hb hr (fun t ht hW => ⟨⟨(), rfl, trivial, by rw [ht]; exact hP, va_K.moved hW.alike hK, hD⟩, hS.F ht⟩) hS.2.2 dX10_shiftDown_35
  exact (blk k0).1 L0 σ0 r0 h0 s.heap [] ls hP hD hS hl
/-! X10_divideLimbs -/
def y_X10_divideLimbs : Nat → Nat → LV → CS → Option (Int32 × CS)
  | 0, _, _, _ => none
  | k + 1, 0, L, σ => oc (y_J7_fill_53178__a10 k 0 (lI lZ 1 0) σ) (fun r1 => oc (y_J7_fill_53178__a8 k 0 (lI lZ 1 0) r1.2) (fun r2 => oc (y_J7_fill_53178__a9 k 0 (lI lZ 1 0) r2.2) (fun r3 => y_X10_divideLimbs k 1 L r3.2)))
  | k + 1, 1, L, σ => y_X10_divideLimbs k 2 (lI L 3 0) σ
  | k + 1, 2, L, σ => if ((L.1 1)) ≤ ((L.1 3)) then (y_X10_divideLimbs k 3 L σ) else (if ¬ (((L.1 3)) < 0 ∨ 72 ≤ ((L.1 3)).toNatClampNeg) then (if ¬ (((2 * ((L.1 3)))) < 0 ∨ 72 ≤ ((2 * ((L.1 3)))).toNatClampNeg) then (if ¬ (((L.1 3)) < 0 ∨ 72 ≤ ((L.1 3)).toNatClampNeg) then (if ¬ (((((2 * ((L.1 3)))) + 1)) < 0 ∨ 72 ≤ ((((2 * ((L.1 3)))) + 1)).toNatClampNeg) then (y_X10_divideLimbs k 2 (lI L 3 ((((L.1 3)) + 1))) (uA (uA σ 8 ((2 * ((L.1 3)))).toNatClampNeg ((((σ.2.2.1 5 ((L.1 3)).toNatClampNeg)) &&& 65535))) 8 ((((2 * ((L.1 3)))) + 1)).toNatClampNeg ((((((uA σ 8 ((2 * ((L.1 3)))).toNatClampNeg ((((σ.2.2.1 5 ((L.1 3)).toNatClampNeg)) &&& 65535))).2.2.1 5 ((L.1 3)).toNatClampNeg)).toUInt32 >>> ((16 : Int32).toUInt32 &&& Int32.toUInt32 31)).toInt32)))) else none) else none) else none) else none)
  | k + 1, 3, L, σ => y_X10_divideLimbs k 4 (lI L 3 0) σ
  | k + 1, 4, L, σ => if ((L.1 2)) ≤ ((L.1 3)) then (y_X10_divideLimbs k 5 L σ) else (if ¬ (((L.1 3)) < 0 ∨ 72 ≤ ((L.1 3)).toNatClampNeg) then (if ¬ (((2 * ((L.1 3)))) < 0 ∨ 72 ≤ ((2 * ((L.1 3)))).toNatClampNeg) then (if ¬ (((L.1 3)) < 0 ∨ 72 ≤ ((L.1 3)).toNatClampNeg) then (if ¬ (((((2 * ((L.1 3)))) + 1)) < 0 ∨ 72 ≤ ((((2 * ((L.1 3)))) + 1)).toNatClampNeg) then (y_X10_divideLimbs k 4 (lI L 3 ((((L.1 3)) + 1))) (uA (uA σ 9 ((2 * ((L.1 3)))).toNatClampNeg ((((σ.2.2.1 6 ((L.1 3)).toNatClampNeg)) &&& 65535))) 9 ((((2 * ((L.1 3)))) + 1)).toNatClampNeg ((((((uA σ 9 ((2 * ((L.1 3)))).toNatClampNeg ((((σ.2.2.1 6 ((L.1 3)).toNatClampNeg)) &&& 65535))).2.2.1 6 ((L.1 3)).toNatClampNeg)).toUInt32 >>> ((16 : Int32).toUInt32 &&& Int32.toUInt32 31)).toInt32)))) else none) else none) else none) else none)
  | k + 1, 5, L, σ => if ((2 * ((L.1 2)))) ≤ 0 then (y_X10_divideLimbs k 6 (lI L 3 ((2 * ((L.1 2))))) σ) else (if ¬ (((((2 * ((L.1 2)))) - 1)) < 0 ∨ 72 ≤ ((((2 * ((L.1 2)))) - 1)).toNatClampNeg) then (if ((σ.2.2.1 9 ((((2 * ((L.1 2)))) - 1)).toNatClampNeg)) = 0 then (y_X10_divideLimbs k 6 (lI L 3 ((((2 * ((L.1 2)))) + (-1)))) σ) else (y_X10_divideLimbs k 6 (lI L 3 ((2 * ((L.1 2))))) σ)) else none)
  | k + 1, 6, L, σ => y_X10_divideLimbs k 7 (lI (lI L 4 0) 5 0) σ
  | k + 1, 7, L, σ => if 15 ≤ ((L.1 5)) then (y_X10_divideLimbs k 8 L σ) else (if ((L.1 3)) ≤ 0 then (y_X10_divideLimbs k 8 L σ) else (if ¬ (((((L.1 3)) - 1)) < 0 ∨ 72 ≤ ((((L.1 3)) - 1)).toNatClampNeg) then (if ((((((σ.2.2.1 9 ((((L.1 3)) - 1)).toNatClampNeg)) <<< (((L.1 4)) &&& 31))) &&& 32768)) = 0 then (y_X10_divideLimbs k 7 (lI (lI L 4 ((((L.1 4)) + 1))) 5 ((((L.1 5)) + 1))) σ) else (y_X10_divideLimbs k 8 L σ)) else none))
  | k + 1, 8, L, σ => oc (y_X10_shiftUp__a8 k 0 (lI (lI lZ 1 ((((2 * ((L.1 1)))) + 1))) 2 ((L.1 4))) σ) (fun r1 => oc (y_X10_shiftUp__a9 k 0 (lI (lI lZ 1 ((L.1 3))) 2 ((L.1 4))) r1.2) (fun r2 => y_X10_divideLimbs k 9 (lI L 5 ((((2 * ((L.1 1)))) - ((L.1 3))))) r2.2))
  | k + 1, 9, L, σ => if ((L.1 5)) < 0 then (y_X10_divideLimbs k 10 L σ) else (oc (y_X10_quotientDigit k 0 (lI (lI lZ 1 ((L.1 5))) 2 ((L.1 3))) σ) (fun r2 => if ¬ (((L.1 5)) < 0 ∨ 72 ≤ ((L.1 5)).toNatClampNeg) then (y_X10_divideLimbs k 9 (lI L 5 ((((L.1 5)) + (-1)))) (uA r2.2 10 ((L.1 5)).toNatClampNeg r2.1)) else none))
  | k + 1, 10, L, σ => oc (y_X10_shiftDown__a8 k 0 (lI (lI lZ 1 ((L.1 3))) 2 ((L.1 4))) σ) (fun r1 => y_X10_divideLimbs k 11 (lI (lI L 5 0) 6 0) r1.2)
  | k + 1, 11, L, σ => if ((((2 * ((L.1 1)))) + 1)) ≤ ((L.1 6)) then (y_X10_divideLimbs k 12 L σ) else (if ¬ (((L.1 6)) < 0 ∨ 72 ≤ ((L.1 6)).toNatClampNeg) then (if ((σ.2.2.1 8 ((L.1 6)).toNatClampNeg)) = 0 then (y_X10_divideLimbs k 13 L σ) else (y_X10_divideLimbs k 14 (lI L 100 ((((L.1 5)) + 1))) σ)) else none)
  | k + 1, 12, L, σ => some ((L.1 5), σ)
  | k + 1, 13, L, σ => y_X10_divideLimbs k 14 (lI L 100 ((L.1 5))) σ
  | k + 1, 14, L, σ => y_X10_divideLimbs k 11 (lI (lI L 5 ((L.1 100))) 6 ((((L.1 6)) + 1))) σ
  | _ + 1, _ + 15, _, _ => none
def o_y_X10_divideLimbs : List Cond := [.fieldLink RX10 27 "SetHouse$Wholes" "quotient" "[I", .methodLink RX10 143 yJ7_fill_53178, .static yJ7_fill_53178, .initialized RJ7, .fieldLink RX10 21 "SetHouse$Wholes" "dividend" "[I", .fieldLink RX10 24 "SetHouse$Wholes" "divisor" "[I", .fieldLink RX10 9 "SetHouse$Wholes" "left" "[I", .constant RX10 149 (65535), .fieldLink RX10 15 "SetHouse$Wholes" "right" "[I", .constant RX10 150 (32768), .methodLink RX10 151 yX10_shiftUp, .static yX10_shiftUp, .initialized RX10, .methodLink RX10 155 yX10_quotientDigit, .instanceMethod yX10_quotientDigit, .selects RX10 yX10_quotientDigit yX10_quotientDigit, .methodLink RX10 158 yX10_shiftDown, .static yX10_shiftDown]
theorem o_y_X10_divideLimbs_good : o_y_X10_divideLimbs.all goodWord = true := by decide +kernel
def p_y_X10_divideLimbs : List Cond := o_y_X10_divideLimbs ++ ((.code yJ7_fill_53178 cJ7_fill_53178 4 none :: p_y_J7_fill_53178__a10) ++ ((.code yJ7_fill_53178 cJ7_fill_53178 4 none :: p_y_J7_fill_53178__a8) ++ ((.code yJ7_fill_53178 cJ7_fill_53178 4 none :: p_y_J7_fill_53178__a9) ++ ((.code yX10_shiftUp cX10_shiftUp 6 none :: p_y_X10_shiftUp__a8) ++ ((.code yX10_shiftUp cX10_shiftUp 6 none :: p_y_X10_shiftUp__a9) ++ ((.code yX10_quotientDigit cX10_quotientDigit 18 (some .int) :: p_y_X10_quotientDigit) ++ ((.code yX10_shiftDown cX10_shiftDown 4 none :: p_y_X10_shiftDown__a8) ++ [])))))))
theorem p_y_X10_divideLimbs_good : p_y_X10_divideLimbs.all goodWord = true := nb_all2 o_y_X10_divideLimbs_good (nb_all2 (nb_allc (by decide +kernel) p_y_J7_fill_53178__a10_good) (nb_all2 (nb_allc (by decide +kernel) p_y_J7_fill_53178__a8_good) (nb_all2 (nb_allc (by decide +kernel) p_y_J7_fill_53178__a9_good) (nb_all2 (nb_allc (by decide +kernel) p_y_X10_shiftUp__a8_good) (nb_all2 (nb_allc (by decide +kernel) p_y_X10_shiftUp__a9_good) (nb_all2 (nb_allc (by decide +kernel) p_y_X10_quotientDigit_good) (nb_all2 (nb_allc (by decide +kernel) p_y_X10_shiftDown__a8_good) rfl)))))))
def w_y_X10_divideLimbs : List Cond := .code yX10_divideLimbs cX10_divideLimbs 7 (some .int) :: (p_y_X10_divideLimbs ++ fC)
theorem w_y_X10_divideLimbs_good : w_y_X10_divideLimbs.all goodWord = true := nb_allc (by decide +kernel) (nb_all2 p_y_X10_divideLimbs_good fC_good)
theorem in_y_X10_divideLimbs_X10 : ∀ w ∈ wsX100, w ∈ w_y_X10_divideLimbs := fun _ h => List.mem_cons_of_mem _ (List.mem_append_right _ (List.mem_append_right _ (List.mem_append_right _ (List.mem_append_right _ (List.mem_append_right _ (List.mem_append_right _ (List.mem_append_right _ (List.mem_append_right _ (List.mem_append_right _ (List.mem_append_right _ (List.mem_append_left _ h)))))))))))
theorem hd_y_X10_divideLimbs : yX10_divideLimbs.cls = RX10 ∧ yX10_divideLimbs.cls ≠ "java/lang/invoke/MethodHandle" ∧ yX10_divideLimbs.cls ≠ "java/lang/invoke/VarHandle" ∧ (parseMethodDescriptor yX10_divideLimbs.desc).map (fun d => d.parameters.length) = some 2 := by decide +kernel
theorem gg_y_X10_divideLimbs_J7_fill_53178__a10 : GoodIn w_y_X10_divideLimbs w_y_J7_fill_53178__a10 := goodIn_sub (fun w h => (List.mem_cons.mp h).elim (fun e => (List.mem_cons_of_mem _ (List.mem_append_left _ (List.mem_append_right _ (List.mem_append_left _ (List.mem_cons.mpr (Or.inl e))))))) (fun h => (List.mem_append.mp h).elim (fun h => (List.mem_cons_of_mem _ (List.mem_append_left _ (List.mem_append_right _ (List.mem_append_left _ (List.mem_cons_of_mem _ h)))))) (fun h => List.mem_cons_of_mem _ (List.mem_append_right _ h)))) w_y_J7_fill_53178__a10_good
theorem g_y_X10_divideLimbs_J7_fill_53178__a10_S143 : GoodIn w_y_X10_divideLimbs (va_wsS RX10 143 yJ7_fill_53178 w_y_J7_fill_53178__a10) := goodIn_app (nb_g3 (List.mem_cons_of_mem _ (List.mem_append_left _ (List.mem_append_left _ (List.mem_of_getElem? (i := 1) rfl)))) (List.mem_cons_of_mem _ (List.mem_append_left _ (List.mem_append_left _ (List.mem_of_getElem? (i := 2) rfl)))) (List.mem_cons_of_mem _ (List.mem_append_left _ (List.mem_append_left _ (List.mem_of_getElem? (i := 3) rfl)))) (by decide +kernel)) gg_y_X10_divideLimbs_J7_fill_53178__a10
theorem gg_y_X10_divideLimbs_J7_fill_53178__a8 : GoodIn w_y_X10_divideLimbs w_y_J7_fill_53178__a8 := goodIn_sub (fun w h => (List.mem_cons.mp h).elim (fun e => (List.mem_cons_of_mem _ (List.mem_append_left _ (List.mem_append_right _ (List.mem_append_right _ (List.mem_append_left _ (List.mem_cons.mpr (Or.inl e)))))))) (fun h => (List.mem_append.mp h).elim (fun h => (List.mem_cons_of_mem _ (List.mem_append_left _ (List.mem_append_right _ (List.mem_append_right _ (List.mem_append_left _ (List.mem_cons_of_mem _ h))))))) (fun h => List.mem_cons_of_mem _ (List.mem_append_right _ h)))) w_y_J7_fill_53178__a8_good
theorem g_y_X10_divideLimbs_J7_fill_53178__a8_S143 : GoodIn w_y_X10_divideLimbs (va_wsS RX10 143 yJ7_fill_53178 w_y_J7_fill_53178__a8) := goodIn_app (nb_g3 (List.mem_cons_of_mem _ (List.mem_append_left _ (List.mem_append_left _ (List.mem_of_getElem? (i := 1) rfl)))) (List.mem_cons_of_mem _ (List.mem_append_left _ (List.mem_append_left _ (List.mem_of_getElem? (i := 2) rfl)))) (List.mem_cons_of_mem _ (List.mem_append_left _ (List.mem_append_left _ (List.mem_of_getElem? (i := 3) rfl)))) (by decide +kernel)) gg_y_X10_divideLimbs_J7_fill_53178__a8
theorem gg_y_X10_divideLimbs_J7_fill_53178__a9 : GoodIn w_y_X10_divideLimbs w_y_J7_fill_53178__a9 := goodIn_sub (fun w h => (List.mem_cons.mp h).elim (fun e => (List.mem_cons_of_mem _ (List.mem_append_left _ (List.mem_append_right _ (List.mem_append_right _ (List.mem_append_right _ (List.mem_append_left _ (List.mem_cons.mpr (Or.inl e))))))))) (fun h => (List.mem_append.mp h).elim (fun h => (List.mem_cons_of_mem _ (List.mem_append_left _ (List.mem_append_right _ (List.mem_append_right _ (List.mem_append_right _ (List.mem_append_left _ (List.mem_cons_of_mem _ h)))))))) (fun h => List.mem_cons_of_mem _ (List.mem_append_right _ h)))) w_y_J7_fill_53178__a9_good
theorem g_y_X10_divideLimbs_J7_fill_53178__a9_S143 : GoodIn w_y_X10_divideLimbs (va_wsS RX10 143 yJ7_fill_53178 w_y_J7_fill_53178__a9) := goodIn_app (nb_g3 (List.mem_cons_of_mem _ (List.mem_append_left _ (List.mem_append_left _ (List.mem_of_getElem? (i := 1) rfl)))) (List.mem_cons_of_mem _ (List.mem_append_left _ (List.mem_append_left _ (List.mem_of_getElem? (i := 2) rfl)))) (List.mem_cons_of_mem _ (List.mem_append_left _ (List.mem_append_left _ (List.mem_of_getElem? (i := 3) rfl)))) (by decide +kernel)) gg_y_X10_divideLimbs_J7_fill_53178__a9
theorem gg_y_X10_divideLimbs_X10_quotientDigit : GoodIn w_y_X10_divideLimbs w_y_X10_quotientDigit := goodIn_sub (fun w h => (List.mem_cons.mp h).elim (fun e => (List.mem_cons_of_mem _ (List.mem_append_left _ (List.mem_append_right _ (List.mem_append_right _ (List.mem_append_right _ (List.mem_append_right _ (List.mem_append_right _ (List.mem_append_right _ (List.mem_append_left _ (List.mem_cons.mpr (Or.inl e)))))))))))) (fun h => (List.mem_append.mp h).elim (fun h => (List.mem_cons_of_mem _ (List.mem_append_left _ (List.mem_append_right _ (List.mem_append_right _ (List.mem_append_right _ (List.mem_append_right _ (List.mem_append_right _ (List.mem_append_right _ (List.mem_append_left _ (List.mem_cons_of_mem _ h))))))))))) (fun h => List.mem_cons_of_mem _ (List.mem_append_right _ h)))) w_y_X10_quotientDigit_good
theorem g_y_X10_divideLimbs_X10_quotientDigit_V155 : GoodIn w_y_X10_divideLimbs (wsV RX10 155 RX10 yX10_quotientDigit w_y_X10_quotientDigit) := goodIn_app (nb_g4 (List.mem_cons_of_mem _ (List.mem_append_left _ (List.mem_append_left _ (List.mem_of_getElem? (i := 13) rfl)))) (List.mem_cons_of_mem _ (List.mem_append_left _ (List.mem_append_left _ (List.mem_of_getElem? (i := 14) rfl)))) (List.mem_cons_of_mem _ (List.mem_append_left _ (List.mem_append_left _ (List.mem_of_getElem? (i := 15) rfl)))) (List.mem_cons_of_mem _ (List.mem_append_left _ (List.mem_append_left _ (List.mem_of_getElem? (i := 12) rfl)))) (by decide +kernel)) gg_y_X10_divideLimbs_X10_quotientDigit
theorem gg_y_X10_divideLimbs_X10_shiftDown__a8 : GoodIn w_y_X10_divideLimbs w_y_X10_shiftDown__a8 := goodIn_sub (fun w h => (List.mem_cons.mp h).elim (fun e => (List.mem_cons_of_mem _ (List.mem_append_left _ (List.mem_append_right _ (List.mem_append_right _ (List.mem_append_right _ (List.mem_append_right _ (List.mem_append_right _ (List.mem_append_right _ (List.mem_append_right _ (List.mem_append_left _ (List.mem_cons.mpr (Or.inl e))))))))))))) (fun h => (List.mem_append.mp h).elim (fun h => (List.mem_cons_of_mem _ (List.mem_append_left _ (List.mem_append_right _ (List.mem_append_right _ (List.mem_append_right _ (List.mem_append_right _ (List.mem_append_right _ (List.mem_append_right _ (List.mem_append_right _ (List.mem_append_left _ (List.mem_cons_of_mem _ h)))))))))))) (fun h => List.mem_cons_of_mem _ (List.mem_append_right _ h)))) w_y_X10_shiftDown__a8_good
theorem g_y_X10_divideLimbs_X10_shiftDown__a8_S158 : GoodIn w_y_X10_divideLimbs (va_wsS RX10 158 yX10_shiftDown w_y_X10_shiftDown__a8) := goodIn_app (nb_g3 (List.mem_cons_of_mem _ (List.mem_append_left _ (List.mem_append_left _ (List.mem_of_getElem? (i := 16) rfl)))) (List.mem_cons_of_mem _ (List.mem_append_left _ (List.mem_append_left _ (List.mem_of_getElem? (i := 17) rfl)))) (List.mem_cons_of_mem _ (List.mem_append_left _ (List.mem_append_left _ (List.mem_of_getElem? (i := 12) rfl)))) (by decide +kernel)) gg_y_X10_divideLimbs_X10_shiftDown__a8
theorem gg_y_X10_divideLimbs_X10_shiftUp__a8 : GoodIn w_y_X10_divideLimbs w_y_X10_shiftUp__a8 := goodIn_sub (fun w h => (List.mem_cons.mp h).elim (fun e => (List.mem_cons_of_mem _ (List.mem_append_left _ (List.mem_append_right _ (List.mem_append_right _ (List.mem_append_right _ (List.mem_append_right _ (List.mem_append_left _ (List.mem_cons.mpr (Or.inl e)))))))))) (fun h => (List.mem_append.mp h).elim (fun h => (List.mem_cons_of_mem _ (List.mem_append_left _ (List.mem_append_right _ (List.mem_append_right _ (List.mem_append_right _ (List.mem_append_right _ (List.mem_append_left _ (List.mem_cons_of_mem _ h))))))))) (fun h => List.mem_cons_of_mem _ (List.mem_append_right _ h)))) w_y_X10_shiftUp__a8_good
theorem g_y_X10_divideLimbs_X10_shiftUp__a8_S151 : GoodIn w_y_X10_divideLimbs (va_wsS RX10 151 yX10_shiftUp w_y_X10_shiftUp__a8) := goodIn_app (nb_g3 (List.mem_cons_of_mem _ (List.mem_append_left _ (List.mem_append_left _ (List.mem_of_getElem? (i := 10) rfl)))) (List.mem_cons_of_mem _ (List.mem_append_left _ (List.mem_append_left _ (List.mem_of_getElem? (i := 11) rfl)))) (List.mem_cons_of_mem _ (List.mem_append_left _ (List.mem_append_left _ (List.mem_of_getElem? (i := 12) rfl)))) (by decide +kernel)) gg_y_X10_divideLimbs_X10_shiftUp__a8
theorem gg_y_X10_divideLimbs_X10_shiftUp__a9 : GoodIn w_y_X10_divideLimbs w_y_X10_shiftUp__a9 := goodIn_sub (fun w h => (List.mem_cons.mp h).elim (fun e => (List.mem_cons_of_mem _ (List.mem_append_left _ (List.mem_append_right _ (List.mem_append_right _ (List.mem_append_right _ (List.mem_append_right _ (List.mem_append_right _ (List.mem_append_left _ (List.mem_cons.mpr (Or.inl e))))))))))) (fun h => (List.mem_append.mp h).elim (fun h => (List.mem_cons_of_mem _ (List.mem_append_left _ (List.mem_append_right _ (List.mem_append_right _ (List.mem_append_right _ (List.mem_append_right _ (List.mem_append_right _ (List.mem_append_left _ (List.mem_cons_of_mem _ h)))))))))) (fun h => List.mem_cons_of_mem _ (List.mem_append_right _ h)))) w_y_X10_shiftUp__a9_good
theorem g_y_X10_divideLimbs_X10_shiftUp__a9_S151 : GoodIn w_y_X10_divideLimbs (va_wsS RX10 151 yX10_shiftUp w_y_X10_shiftUp__a9) := goodIn_app (nb_g3 (List.mem_cons_of_mem _ (List.mem_append_left _ (List.mem_append_left _ (List.mem_of_getElem? (i := 10) rfl)))) (List.mem_cons_of_mem _ (List.mem_append_left _ (List.mem_append_left _ (List.mem_of_getElem? (i := 11) rfl)))) (List.mem_cons_of_mem _ (List.mem_append_left _ (List.mem_append_left _ (List.mem_of_getElem? (i := 12) rfl)))) (by decide +kernel)) gg_y_X10_divideLimbs_X10_shiftUp__a9
set_option maxHeartbeats 40000000 in
set_option maxRecDepth 100000 in
theorem c_y_X10_divideLimbs (l : Launch) (dC : Nat → ClassId) (dI : Nat → Nat → Nat) (cy : Nat → ClassId) (a z : Nat → Nat) (k0 : Nat) (L0 : LV) (σ0 : CS) (r0 : Int32 × CS) (h0 : y_X10_divideLimbs k0 0 L0 σ0 = some r0) (sz : Nat) : Met l yX10_divideLimbs w_y_X10_divideLimbs ({ frames := 2, cells := 0, slots := 0, locals := 61 }) (va_Pc [.ref (a 4), .int (L0.1 1), .int (L0.1 2)] (nIn (dC, dI) cy sz (vC cy a z σ0))) (va_Qi (fun (x : Int32) (_ : Unit) => x = r0.1) (fun _ t => nOut (dC, dI) cy (va_A (vC cy a z σ0) sz) (vC cy a z r0.2) t) (va_A (vC cy a z σ0) sz)) 0 0 (va_A (vC cy a z σ0) sz) := by
  refine Met.ofW (cc := cX10_divideLimbs) (maxL := 7) (ret := (some .int)) (by decide) rfl ?_
  intro p e s m args below meth c s₁ B hml hv
  obtain ⟨rfl, hsz, hP, hK, hD0, hG⟩ := hv
  have hx := B.exec
  have hb := B.bytes
  have hr := B.returns
  have hts := atoms_spec (ws := w_y_X10_divideLimbs) B.pre
  have hown : s.vm.findClass RX10 = some m.cls := findClass_of_methodNamed B.named
  have hlocks := B.notSynchronized
  subst hsz
  have hD := hD0.self (sz := s.heap.size)
  generalize hAe : va_A (vC cy a z σ0) s.heap.size = A at hD ⊢
  have hA : ∀ q : Nat, s.heap.size ≤ q → A q := fun q h => by rw [← hAe]; exact Or.inr h
  have hS : va_S A s.heap s.heap [] := va_S.rf
  have hl := lv_entry ([.ref (a 4), .int (L0.1 1), .int (L0.1 2)]) (n := 7) (Nat.le_of_ble_eq_true rfl)
  rw [lg_entry_eq]
  generalize (lg_sl ([.ref (a 4), .int (L0.1 1), .int (L0.1 2)]) ++ List.replicate (7 - (lg_sl ([.ref (a 4), .int (L0.1 1), .int (L0.1 2)])).length) Slot.unset).toArray = ls at hl ⊢
  have hl : lv_has ls 7 [(0, .ref (a 4)), (1, .int (L0.1 1)), (2, .int (L0.1 2))] := hl
  have blk : ∀ k : Nat, (bC p l e (headSpec w_y_X10_divideLimbs ({ frames := 2, cells := 0, slots := 0, locals := 61 })).room s m #[.ref (a 4), .int (L0.1 1), .int (L0.1 2)] below meth c dC dI cy a z A (kI dC dI cy a z A below #[.ref (a 4), .int (L0.1 1), .int (L0.1 2)] s) 7 (y_X10_divideLimbs k 0) (fun L => [(0, .ref (a 4)), (1, .int (L.1 1)), (2, .int (L.1 2))]) 0 (fun L => [])) ∧ (bC p l e (headSpec w_y_X10_divideLimbs ({ frames := 2, cells := 0, slots := 0, locals := 61 })).room s m #[.ref (a 4), .int (L0.1 1), .int (L0.1 2)] below meth c dC dI cy a z A (kI dC dI cy a z A below #[.ref (a 4), .int (L0.1 1), .int (L0.1 2)] s) 7 (y_X10_divideLimbs k 1) (fun L => [(0, .ref (a 4)), (1, .int (L.1 1)), (2, .int (L.1 2))]) 24 (fun L => [])) ∧ (bC p l e (headSpec w_y_X10_divideLimbs ({ frames := 2, cells := 0, slots := 0, locals := 61 })).room s m #[.ref (a 4), .int (L0.1 1), .int (L0.1 2)] below meth c dC dI cy a z A (kI dC dI cy a z A below #[.ref (a 4), .int (L0.1 1), .int (L0.1 2)] s) 7 (y_X10_divideLimbs k 2) (fun L => [(0, .ref (a 4)), (1, .int (L.1 1)), (2, .int (L.1 2)), (3, .int (L.1 3))]) 26 (fun L => [])) ∧ (bC p l e (headSpec w_y_X10_divideLimbs ({ frames := 2, cells := 0, slots := 0, locals := 61 })).room s m #[.ref (a 4), .int (L0.1 1), .int (L0.1 2)] below meth c dC dI cy a z A (kI dC dI cy a z A below #[.ref (a 4), .int (L0.1 1), .int (L0.1 2)] s) 7 (y_X10_divideLimbs k 3) (fun L => [(0, .ref (a 4)), (1, .int (L.1 1)), (2, .int (L.1 2))]) 73 (fun L => [])) ∧ (bC p l e (headSpec w_y_X10_divideLimbs ({ frames := 2, cells := 0, slots := 0, locals := 61 })).room s m #[.ref (a 4), .int (L0.1 1), .int (L0.1 2)] below meth c dC dI cy a z A (kI dC dI cy a z A below #[.ref (a 4), .int (L0.1 1), .int (L0.1 2)] s) 7 (y_X10_divideLimbs k 4) (fun L => [(0, .ref (a 4)), (1, .int (L.1 1)), (2, .int (L.1 2)), (3, .int (L.1 3))]) 75 (fun L => [])) ∧ (bC p l e (headSpec w_y_X10_divideLimbs ({ frames := 2, cells := 0, slots := 0, locals := 61 })).room s m #[.ref (a 4), .int (L0.1 1), .int (L0.1 2)] below meth c dC dI cy a z A (kI dC dI cy a z A below #[.ref (a 4), .int (L0.1 1), .int (L0.1 2)] s) 7 (y_X10_divideLimbs k 5) (fun L => [(0, .ref (a 4)), (1, .int (L.1 1)), (2, .int (L.1 2))]) 122 (fun L => [])) ∧ (bC p l e (headSpec w_y_X10_divideLimbs ({ frames := 2, cells := 0, slots := 0, locals := 61 })).room s m #[.ref (a 4), .int (L0.1 1), .int (L0.1 2)] below meth c dC dI cy a z A (kI dC dI cy a z A below #[.ref (a 4), .int (L0.1 1), .int (L0.1 2)] s) 7 (y_X10_divideLimbs k 6) (fun L => [(0, .ref (a 4)), (1, .int (L.1 1)), (3, .int (L.1 3))]) 144 (fun L => [])) ∧ (bC p l e (headSpec w_y_X10_divideLimbs ({ frames := 2, cells := 0, slots := 0, locals := 61 })).room s m #[.ref (a 4), .int (L0.1 1), .int (L0.1 2)] below meth c dC dI cy a z A (kI dC dI cy a z A below #[.ref (a 4), .int (L0.1 1), .int (L0.1 2)] s) 7 (y_X10_divideLimbs k 7) (fun L => [(0, .ref (a 4)), (1, .int (L.1 1)), (3, .int (L.1 3)), (4, .int (L.1 4)), (5, .int (L.1 5))]) 150 (fun L => [])) ∧ (bC p l e (headSpec w_y_X10_divideLimbs ({ frames := 2, cells := 0, slots := 0, locals := 61 })).room s m #[.ref (a 4), .int (L0.1 1), .int (L0.1 2)] below meth c dC dI cy a z A (kI dC dI cy a z A below #[.ref (a 4), .int (L0.1 1), .int (L0.1 2)] s) 7 (y_X10_divideLimbs k 8) (fun L => [(0, .ref (a 4)), (1, .int (L.1 1)), (3, .int (L.1 3)), (4, .int (L.1 4))]) 187 (fun L => [])) ∧ (bC p l e (headSpec w_y_X10_divideLimbs ({ frames := 2, cells := 0, slots := 0, locals := 61 })).room s m #[.ref (a 4), .int (L0.1 1), .int (L0.1 2)] below meth c dC dI cy a z A (kI dC dI cy a z A below #[.ref (a 4), .int (L0.1 1), .int (L0.1 2)] s) 7 (y_X10_divideLimbs k 9) (fun L => [(0, .ref (a 4)), (1, .int (L.1 1)), (3, .int (L.1 3)), (4, .int (L.1 4)), (5, .int (L.1 5))]) 218 (fun L => [])) ∧ (bC p l e (headSpec w_y_X10_divideLimbs ({ frames := 2, cells := 0, slots := 0, locals := 61 })).room s m #[.ref (a 4), .int (L0.1 1), .int (L0.1 2)] below meth c dC dI cy a z A (kI dC dI cy a z A below #[.ref (a 4), .int (L0.1 1), .int (L0.1 2)] s) 7 (y_X10_divideLimbs k 10) (fun L => [(0, .ref (a 4)), (1, .int (L.1 1)), (3, .int (L.1 3)), (4, .int (L.1 4))]) 243 (fun L => [])) ∧ (bC p l e (headSpec w_y_X10_divideLimbs ({ frames := 2, cells := 0, slots := 0, locals := 61 })).room s m #[.ref (a 4), .int (L0.1 1), .int (L0.1 2)] below meth c dC dI cy a z A (kI dC dI cy a z A below #[.ref (a 4), .int (L0.1 1), .int (L0.1 2)] s) 7 (y_X10_divideLimbs k 11) (fun L => [(0, .ref (a 4)), (1, .int (L.1 1)), (5, .int (L.1 5)), (6, .int (L.1 6))]) 259 (fun L => [])) ∧ (bC p l e (headSpec w_y_X10_divideLimbs ({ frames := 2, cells := 0, slots := 0, locals := 61 })).room s m #[.ref (a 4), .int (L0.1 1), .int (L0.1 2)] below meth c dC dI cy a z A (kI dC dI cy a z A below #[.ref (a 4), .int (L0.1 1), .int (L0.1 2)] s) 7 (y_X10_divideLimbs k 12) (fun L => [(5, .int (L.1 5))]) 296 (fun L => [])) ∧ (bC p l e (headSpec w_y_X10_divideLimbs ({ frames := 2, cells := 0, slots := 0, locals := 61 })).room s m #[.ref (a 4), .int (L0.1 1), .int (L0.1 2)] below meth c dC dI cy a z A (kI dC dI cy a z A below #[.ref (a 4), .int (L0.1 1), .int (L0.1 2)] s) 7 (y_X10_divideLimbs k 13) (fun L => [(0, .ref (a 4)), (1, .int (L.1 1)), (5, .int (L.1 5)), (6, .int (L.1 6))]) 286 (fun L => [])) ∧ (bC p l e (headSpec w_y_X10_divideLimbs ({ frames := 2, cells := 0, slots := 0, locals := 61 })).room s m #[.ref (a 4), .int (L0.1 1), .int (L0.1 2)] below meth c dC dI cy a z A (kI dC dI cy a z A below #[.ref (a 4), .int (L0.1 1), .int (L0.1 2)] s) 7 (y_X10_divideLimbs k 14) (fun L => [(0, .ref (a 4)), (1, .int (L.1 1)), (6, .int (L.1 6))]) 288 (fun L => [.int (L.1 100)])) := by
    intro k
    induction k with
    | zero => exact ⟨fun L σ r h => (by cases h), fun L σ r h => (by cases h), fun L σ r h => (by cases h), fun L σ r h => (by cases h), fun L σ r h => (by cases h), fun L σ r h => (by cases h), fun L σ r h => (by cases h), fun L σ r h => (by cases h), fun L σ r h => (by cases h), fun L σ r h => (by cases h), fun L σ r h => (by cases h), fun L σ r h => (by cases h), fun L σ r h => (by cases h), fun L σ r h => (by cases h), fun L σ r h => (by cases h)⟩
    | succ k ih =>
      refine ⟨?_, ?_, ?_, ?_, ?_, ?_, ?_, ?_, ?_, ?_, ?_, ?_, ?_, ?_, ?_⟩
      · intro L σ r h H locs ls hP hD hS hl
        rw [y_X10_divideLimbs] at h
        refine lv_aload_n hx hb dX10_divideLimbs_0 rfl (lv_at hl 0 rfl) ?_
        refine hg_4_7 hx hb hts in_y_X10_divideLimbs_X10 hown hK hP (hts _ (List.mem_cons_of_mem _ (List.mem_append_left _ (List.mem_append_left _ (List.mem_of_getElem? (i := 0) rfl))))) dX10_divideLimbs_1 ?_
        refine lv_iconst (v := 0) hx hb dX10_divideLimbs_4 (by decide) ?_
        obtain ⟨r1, hc1, h⟩ := oc_ex h
        refine kc_v (va_runS (As := [.ref (a 10), .int 0]) (rest := []) ⟨hx, hb, hml, hown, hts⟩ (c_y_J7_fill_53178__a10 l dC dI cy a z k (lI lZ 1 0) σ r1 hc1 H.size) (va_cwS 2 hts g_y_X10_divideLimbs_J7_fill_53178__a10_S143 rfl rfl rfl hd_y_J7_fill_53178__a10 ⟨Nat.le_of_ble_eq_true rfl, Nat.le_of_ble_eq_true rfl⟩) ⟨nb_blind, (kb_pre hK hG hP hD)⟩ rfl rfl hl.1 rfl (lv_room (Nat.le_of_ble_eq_true rfl)) dX10_divideLimbs_5 ⟨Nat.le_refl _, Nat.le_refl _⟩) hA hP hD hS (fun H locs hP hD hS => ?_)
        refine lv_aload_n hx hb dX10_divideLimbs_8 rfl (lv_at hl 0 rfl) ?_
        refine hg_4_5 hx hb hts in_y_X10_divideLimbs_X10 hown hK hP (hts _ (List.mem_cons_of_mem _ (List.mem_append_left _ (List.mem_append_left _ (List.mem_of_getElem? (i := 4) rfl))))) dX10_divideLimbs_9 ?_
        refine lv_iconst (v := 0) hx hb dX10_divideLimbs_12 (by decide) ?_
        obtain ⟨r2, hc2, h⟩ := oc_ex h
        refine kc_v (va_runS (As := [.ref (a 8), .int 0]) (rest := []) ⟨hx, hb, hml, hown, hts⟩ (c_y_J7_fill_53178__a8 l dC dI cy a z k (lI lZ 1 0) r1.2 r2 hc2 H.size) (va_cwS 2 hts g_y_X10_divideLimbs_J7_fill_53178__a8_S143 rfl rfl rfl hd_y_J7_fill_53178__a8 ⟨Nat.le_of_ble_eq_true rfl, Nat.le_of_ble_eq_true rfl⟩) ⟨nb_blind, (kb_pre hK hG hP hD)⟩ rfl rfl hl.1 rfl (lv_room (Nat.le_of_ble_eq_true rfl)) dX10_divideLimbs_13 ⟨Nat.le_refl _, Nat.le_refl _⟩) hA hP hD hS (fun H locs hP hD hS => ?_)
        refine lv_aload_n hx hb dX10_divideLimbs_16 rfl (lv_at hl 0 rfl) ?_
        refine hg_4_6 hx hb hts in_y_X10_divideLimbs_X10 hown hK hP (hts _ (List.mem_cons_of_mem _ (List.mem_append_left _ (List.mem_append_left _ (List.mem_of_getElem? (i := 5) rfl))))) dX10_divideLimbs_17 ?_
        refine lv_iconst (v := 0) hx hb dX10_divideLimbs_20 (by decide) ?_
        obtain ⟨r3, hc3, h⟩ := oc_ex h
        refine kc_v (va_runS (As := [.ref (a 9), .int 0]) (rest := []) ⟨hx, hb, hml, hown, hts⟩ (c_y_J7_fill_53178__a9 l dC dI cy a z k (lI lZ 1 0) r2.2 r3 hc3 H.size) (va_cwS 2 hts g_y_X10_divideLimbs_J7_fill_53178__a9_S143 rfl rfl rfl hd_y_J7_fill_53178__a9 ⟨Nat.le_of_ble_eq_true rfl, Nat.le_of_ble_eq_true rfl⟩) ⟨nb_blind, (kb_pre hK hG hP hD)⟩ rfl rfl hl.1 rfl (lv_room (Nat.le_of_ble_eq_true rfl)) dX10_divideLimbs_21 ⟨Nat.le_refl _, Nat.le_refl _⟩) hA hP hD hS (fun H locs hP hD hS => ?_)
        exact ih.2.1 L r3.2 r h H locs ls hP hD hS (lv_sub hl [0, 1, 2] rfl)
      · intro L σ r h H locs ls hP hD hS hl
        rw [y_X10_divideLimbs] at h
        refine lv_iconst (v := 0) hx hb dX10_divideLimbs_24 (by decide) ?_
        refine lv_istore_n (lv' := [(3, .int 0), (0, .ref (a 4)), (1, .int (L.1 1)), (2, .int (L.1 2))]) hx hb dX10_divideLimbs_25 rfl hl (by decide) rfl (fun ls hl => ?_)
        exact ih.2.2.1 (lI L 3 0) σ r h H locs ls hP hD hS (lv_sub hl [1, 2, 3, 0] rfl)
      · intro L σ r h H locs ls hP hD hS hl
        rw [y_X10_divideLimbs] at h
        refine lv_iload_n hx hb dX10_divideLimbs_26 rfl (lv_at hl 3 rfl) ?_
        refine lv_iload_n hx hb dX10_divideLimbs_27 rfl (lv_at hl 1 rfl) ?_
        refine lv_icmp_ge (tgt := 73) hx hb dX10_divideLimbs_28 (by decide) (fun c1 => ?_) (fun c1 => ?_)
        · rw [if_pos c1] at h
          exact ih.2.2.2.1 L σ r h H locs ls hP hD hS (lv_sub hl [0, 1, 2] rfl)
        · rw [if_neg c1] at h
          refine lv_aload_n hx hb dX10_divideLimbs_31 rfl (lv_at hl 0 rfl) ?_
          refine hg_4_5 hx hb hts in_y_X10_divideLimbs_X10 hown hK hP (hts _ (List.mem_cons_of_mem _ (List.mem_append_left _ (List.mem_append_left _ (List.mem_of_getElem? (i := 4) rfl))))) dX10_divideLimbs_32 ?_
          refine lv_iconst (v := 2) hx hb dX10_divideLimbs_35 (by decide) ?_
          refine lv_iload_n hx hb dX10_divideLimbs_36 rfl (lv_at hl 3 rfl) ?_
          refine lv_imul hx hb dX10_divideLimbs_37 ?_
          refine lv_aload_n hx hb dX10_divideLimbs_38 rfl (lv_at hl 0 rfl) ?_
          refine hg_4_1 hx hb hts in_y_X10_divideLimbs_X10 hown hK hP (hts _ (List.mem_cons_of_mem _ (List.mem_append_left _ (List.mem_append_left _ (List.mem_of_getElem? (i := 6) rfl))))) dX10_divideLimbs_39 ?_
          refine lv_iload_n hx hb dX10_divideLimbs_42 rfl (lv_at hl 3 rfl) ?_
          obtain ⟨q2, h⟩ := kb_ite1 h
          refine hl_5 hx hb hK hP q2 dX10_divideLimbs_43 ?_
          refine lv_ldc (v := 65535) hx hb hown (hts _ (List.mem_cons_of_mem _ (List.mem_append_left _ (List.mem_append_left _ (List.mem_of_getElem? (i := 7) rfl))))) dX10_divideLimbs_44 ?_
          refine lv_iand hx hb dX10_divideLimbs_46 ?_
          obtain ⟨q3, h⟩ := kb_ite1 h
          refine hs_8 hx hb hK hP hD hS q3 dX10_divideLimbs_47 (fun H locs hP hD hS => ?_)
          refine lv_aload_n hx hb dX10_divideLimbs_48 rfl (lv_at hl 0 rfl) ?_
          refine hg_4_5 hx hb hts in_y_X10_divideLimbs_X10 hown hK hP (hts _ (List.mem_cons_of_mem _ (List.mem_append_left _ (List.mem_append_left _ (List.mem_of_getElem? (i := 4) rfl))))) dX10_divideLimbs_49 ?_
          refine lv_iconst (v := 2) hx hb dX10_divideLimbs_52 (by decide) ?_
          refine lv_iload_n hx hb dX10_divideLimbs_53 rfl (lv_at hl 3 rfl) ?_
          refine lv_imul hx hb dX10_divideLimbs_54 ?_
          refine lv_iconst (v := 1) hx hb dX10_divideLimbs_55 (by decide) ?_
          refine lv_iadd hx hb dX10_divideLimbs_56 ?_
          refine lv_aload_n hx hb dX10_divideLimbs_57 rfl (lv_at hl 0 rfl) ?_
          refine hg_4_1 hx hb hts in_y_X10_divideLimbs_X10 hown hK hP (hts _ (List.mem_cons_of_mem _ (List.mem_append_left _ (List.mem_append_left _ (List.mem_of_getElem? (i := 6) rfl))))) dX10_divideLimbs_58 ?_
          refine lv_iload_n hx hb dX10_divideLimbs_61 rfl (lv_at hl 3 rfl) ?_
          obtain ⟨q4, h⟩ := kb_ite1 h
          refine hl_5 hx hb hK hP q4 dX10_divideLimbs_62 ?_
          refine lv_bipush (v := 16) hx hb dX10_divideLimbs_63 (by decide) ?_
          refine lv_iushr (v := ((((uA σ 8 ((2 * ((L.1 3)))).toNatClampNeg ((((σ.2.2.1 5 ((L.1 3)).toNatClampNeg)) &&& 65535))).2.2.1 5 ((L.1 3)).toNatClampNeg)).toUInt32 >>> ((16 : Int32).toUInt32 &&& Int32.toUInt32 31)).toInt32) hx hb dX10_divideLimbs_65 rfl ?_
          obtain ⟨q5, h⟩ := kb_ite1 h
          refine hs_8 hx hb hK hP hD hS q5 dX10_divideLimbs_66 (fun H locs hP hD hS => ?_)
          refine lv_iinc (v := ((L.1 3)) + 1) (lv' := [(3, .int (((L.1 3)) + 1)), (0, .ref (a 4)), (1, .int (L.1 1)), (2, .int (L.1 2))]) hx hb dX10_divideLimbs_67 hl (k := 3) rfl rfl (by decide) rfl (fun ls hl => ?_)
          refine lv_goto (tgt := 26) hx hb dX10_divideLimbs_70 (by decide) ?_
          exact ih.2.2.1 (lI L 3 ((((L.1 3)) + 1))) (uA (uA σ 8 ((2 * ((L.1 3)))).toNatClampNeg ((((σ.2.2.1 5 ((L.1 3)).toNatClampNeg)) &&& 65535))) 8 ((((2 * ((L.1 3)))) + 1)).toNatClampNeg ((((((uA σ 8 ((2 * ((L.1 3)))).toNatClampNeg ((((σ.2.2.1 5 ((L.1 3)).toNatClampNeg)) &&& 65535))).2.2.1 5 ((L.1 3)).toNatClampNeg)).toUInt32 >>> ((16 : Int32).toUInt32 &&& Int32.toUInt32 31)).toInt32))) r h H locs ls hP hD hS (lv_sub hl [1, 2, 3, 0] rfl)
      · intro L σ r h H locs ls hP hD hS hl
        rw [y_X10_divideLimbs] at h
        refine lv_iconst (v := 0) hx hb dX10_divideLimbs_73 (by decide) ?_
        refine lv_istore_n (lv' := [(3, .int 0), (0, .ref (a 4)), (1, .int (L.1 1)), (2, .int (L.1 2))]) hx hb dX10_divideLimbs_74 rfl hl (by decide) rfl (fun ls hl => ?_)
        exact ih.2.2.2.2.1 (lI L 3 0) σ r h H locs ls hP hD hS (lv_sub hl [1, 2, 3, 0] rfl)
      · intro L σ r h H locs ls hP hD hS hl
        rw [y_X10_divideLimbs] at h
        refine lv_iload_n hx hb dX10_divideLimbs_75 rfl (lv_at hl 3 rfl) ?_
        refine lv_iload_n hx hb dX10_divideLimbs_76 rfl (lv_at hl 2 rfl) ?_
        refine lv_icmp_ge (tgt := 122) hx hb dX10_divideLimbs_77 (by decide) (fun c1 => ?_) (fun c1 => ?_)
        · rw [if_pos c1] at h
          exact ih.2.2.2.2.2.1 L σ r h H locs ls hP hD hS (lv_sub hl [0, 1, 2] rfl)
        · rw [if_neg c1] at h
          refine lv_aload_n hx hb dX10_divideLimbs_80 rfl (lv_at hl 0 rfl) ?_
          refine hg_4_6 hx hb hts in_y_X10_divideLimbs_X10 hown hK hP (hts _ (List.mem_cons_of_mem _ (List.mem_append_left _ (List.mem_append_left _ (List.mem_of_getElem? (i := 5) rfl))))) dX10_divideLimbs_81 ?_
          refine lv_iconst (v := 2) hx hb dX10_divideLimbs_84 (by decide) ?_
          refine lv_iload_n hx hb dX10_divideLimbs_85 rfl (lv_at hl 3 rfl) ?_
          refine lv_imul hx hb dX10_divideLimbs_86 ?_
          refine lv_aload_n hx hb dX10_divideLimbs_87 rfl (lv_at hl 0 rfl) ?_
          refine hg_4_2 hx hb hts in_y_X10_divideLimbs_X10 hown hK hP (hts _ (List.mem_cons_of_mem _ (List.mem_append_left _ (List.mem_append_left _ (List.mem_of_getElem? (i := 8) rfl))))) dX10_divideLimbs_88 ?_
          refine lv_iload_n hx hb dX10_divideLimbs_91 rfl (lv_at hl 3 rfl) ?_
          obtain ⟨q2, h⟩ := kb_ite1 h
          refine hl_6 hx hb hK hP q2 dX10_divideLimbs_92 ?_
          refine lv_ldc (v := 65535) hx hb hown (hts _ (List.mem_cons_of_mem _ (List.mem_append_left _ (List.mem_append_left _ (List.mem_of_getElem? (i := 7) rfl))))) dX10_divideLimbs_93 ?_
          refine lv_iand hx hb dX10_divideLimbs_95 ?_
          obtain ⟨q3, h⟩ := kb_ite1 h
          refine hs_9 hx hb hK hP hD hS q3 dX10_divideLimbs_96 (fun H locs hP hD hS => ?_)
          refine lv_aload_n hx hb dX10_divideLimbs_97 rfl (lv_at hl 0 rfl) ?_
          refine hg_4_6 hx hb hts in_y_X10_divideLimbs_X10 hown hK hP (hts _ (List.mem_cons_of_mem _ (List.mem_append_left _ (List.mem_append_left _ (List.mem_of_getElem? (i := 5) rfl))))) dX10_divideLimbs_98 ?_
          refine lv_iconst (v := 2) hx hb dX10_divideLimbs_101 (by decide) ?_
          refine lv_iload_n hx hb dX10_divideLimbs_102 rfl (lv_at hl 3 rfl) ?_
          refine lv_imul hx hb dX10_divideLimbs_103 ?_
          refine lv_iconst (v := 1) hx hb dX10_divideLimbs_104 (by decide) ?_
          refine lv_iadd hx hb dX10_divideLimbs_105 ?_
          refine lv_aload_n hx hb dX10_divideLimbs_106 rfl (lv_at hl 0 rfl) ?_
          refine hg_4_2 hx hb hts in_y_X10_divideLimbs_X10 hown hK hP (hts _ (List.mem_cons_of_mem _ (List.mem_append_left _ (List.mem_append_left _ (List.mem_of_getElem? (i := 8) rfl))))) dX10_divideLimbs_107 ?_
          refine lv_iload_n hx hb dX10_divideLimbs_110 rfl (lv_at hl 3 rfl) ?_
          obtain ⟨q4, h⟩ := kb_ite1 h
          refine hl_6 hx hb hK hP q4 dX10_divideLimbs_111 ?_
          refine lv_bipush (v := 16) hx hb dX10_divideLimbs_112 (by decide) ?_
          refine lv_iushr (v := ((((uA σ 9 ((2 * ((L.1 3)))).toNatClampNeg ((((σ.2.2.1 6 ((L.1 3)).toNatClampNeg)) &&& 65535))).2.2.1 6 ((L.1 3)).toNatClampNeg)).toUInt32 >>> ((16 : Int32).toUInt32 &&& Int32.toUInt32 31)).toInt32) hx hb dX10_divideLimbs_114 rfl ?_
          obtain ⟨q5, h⟩ := kb_ite1 h
          refine hs_9 hx hb hK hP hD hS q5 dX10_divideLimbs_115 (fun H locs hP hD hS => ?_)
          refine lv_iinc (v := ((L.1 3)) + 1) (lv' := [(3, .int (((L.1 3)) + 1)), (0, .ref (a 4)), (1, .int (L.1 1)), (2, .int (L.1 2))]) hx hb dX10_divideLimbs_116 hl (k := 3) rfl rfl (by decide) rfl (fun ls hl => ?_)
          refine lv_goto (tgt := 75) hx hb dX10_divideLimbs_119 (by decide) ?_
          exact ih.2.2.2.2.1 (lI L 3 ((((L.1 3)) + 1))) (uA (uA σ 9 ((2 * ((L.1 3)))).toNatClampNeg ((((σ.2.2.1 6 ((L.1 3)).toNatClampNeg)) &&& 65535))) 9 ((((2 * ((L.1 3)))) + 1)).toNatClampNeg ((((((uA σ 9 ((2 * ((L.1 3)))).toNatClampNeg ((((σ.2.2.1 6 ((L.1 3)).toNatClampNeg)) &&& 65535))).2.2.1 6 ((L.1 3)).toNatClampNeg)).toUInt32 >>> ((16 : Int32).toUInt32 &&& Int32.toUInt32 31)).toInt32))) r h H locs ls hP hD hS (lv_sub hl [1, 2, 3, 0] rfl)
      · intro L σ r h H locs ls hP hD hS hl
        rw [y_X10_divideLimbs] at h
        refine lv_iconst (v := 2) hx hb dX10_divideLimbs_122 (by decide) ?_
        refine lv_iload_n hx hb dX10_divideLimbs_123 rfl (lv_at hl 2 rfl) ?_
        refine lv_imul hx hb dX10_divideLimbs_124 ?_
        refine lv_istore_n (lv' := [(3, .int (2 * ((L.1 2)))), (0, .ref (a 4)), (1, .int (L.1 1)), (2, .int (L.1 2))]) hx hb dX10_divideLimbs_125 rfl hl (by decide) rfl (fun ls hl => ?_)
        refine lv_iload_n hx hb dX10_divideLimbs_126 rfl (lv_at hl 0 rfl) ?_
        refine lv_if_le (tgt := 144) hx hb dX10_divideLimbs_127 (by decide) (fun c1 => ?_) (fun c1 => ?_)
        · rw [if_pos c1] at h
          exact ih.2.2.2.2.2.2.1 (lI L 3 ((2 * ((L.1 2))))) σ r h H locs ls hP hD hS (lv_sub hl [1, 2, 0] rfl)
        · rw [if_neg c1] at h
          refine lv_aload_n hx hb dX10_divideLimbs_130 rfl (lv_at hl 1 rfl) ?_
          refine hg_4_6 hx hb hts in_y_X10_divideLimbs_X10 hown hK hP (hts _ (List.mem_cons_of_mem _ (List.mem_append_left _ (List.mem_append_left _ (List.mem_of_getElem? (i := 5) rfl))))) dX10_divideLimbs_131 ?_
          refine lv_iload_n hx hb dX10_divideLimbs_134 rfl (lv_at hl 0 rfl) ?_
          refine lv_iconst (v := 1) hx hb dX10_divideLimbs_135 (by decide) ?_
          refine lv_isub hx hb dX10_divideLimbs_136 ?_
          obtain ⟨q2, h⟩ := kb_ite1 h
          refine hl_9 hx hb hK hP q2 dX10_divideLimbs_137 ?_
          refine lv_if_ne (tgt := 144) hx hb dX10_divideLimbs_138 (by decide) (fun c3 => ?_) (fun c3 => ?_)
          · rw [if_neg c3] at h
            exact ih.2.2.2.2.2.2.1 (lI L 3 ((2 * ((L.1 2))))) σ r h H locs ls hP hD hS (lv_sub hl [1, 2, 0] rfl)
          · rw [if_pos c3] at h
            refine lv_iinc (v := ((2 * ((L.1 2)))) + (-1)) (lv' := [(3, .int (((2 * ((L.1 2)))) + (-1))), (0, .ref (a 4)), (1, .int (L.1 1)), (2, .int (L.1 2))]) hx hb dX10_divideLimbs_141 hl (k := 0) rfl rfl (by decide) rfl (fun ls hl => ?_)
            exact ih.2.2.2.2.2.2.1 (lI L 3 ((((2 * ((L.1 2)))) + (-1)))) σ r h H locs ls hP hD hS (lv_sub hl [1, 2, 0] rfl)
      · intro L σ r h H locs ls hP hD hS hl
        rw [y_X10_divideLimbs] at h
        refine lv_iconst (v := 0) hx hb dX10_divideLimbs_144 (by decide) ?_
        refine lv_istore (lv' := [(4, .int 0), (0, .ref (a 4)), (1, .int (L.1 1)), (3, .int (L.1 3))]) hx hb dX10_divideLimbs_145 hl (by decide) rfl (fun ls hl => ?_)
        refine lv_iconst (v := 0) hx hb dX10_divideLimbs_147 (by decide) ?_
        refine lv_istore (lv' := [(5, .int 0), (4, .int 0), (0, .ref (a 4)), (1, .int (L.1 1)), (3, .int (L.1 3))]) hx hb dX10_divideLimbs_148 hl (by decide) rfl (fun ls hl => ?_)
        exact ih.2.2.2.2.2.2.2.1 (lI (lI L 4 0) 5 0) σ r h H locs ls hP hD hS (lv_sub hl [2, 3, 4, 1, 0] rfl)
      · intro L σ r h H locs ls hP hD hS hl
        rw [y_X10_divideLimbs] at h
        refine lv_iload hx hb dX10_divideLimbs_150 (lv_at hl 4 rfl) ?_
        refine lv_bipush (v := 15) hx hb dX10_divideLimbs_152 (by decide) ?_
        refine lv_icmp_ge (tgt := 187) hx hb dX10_divideLimbs_154 (by decide) (fun c1 => ?_) (fun c1 => ?_)
        · rw [if_pos c1] at h
          exact ih.2.2.2.2.2.2.2.2.1 L σ r h H locs ls hP hD hS (lv_sub hl [0, 1, 2, 3] rfl)
        · rw [if_neg c1] at h
          refine lv_iload_n hx hb dX10_divideLimbs_157 rfl (lv_at hl 2 rfl) ?_
          refine lv_if_le (tgt := 187) hx hb dX10_divideLimbs_158 (by decide) (fun c2 => ?_) (fun c2 => ?_)
          · rw [if_pos c2] at h
            exact ih.2.2.2.2.2.2.2.2.1 L σ r h H locs ls hP hD hS (lv_sub hl [0, 1, 2, 3] rfl)
          · rw [if_neg c2] at h
            refine lv_aload_n hx hb dX10_divideLimbs_161 rfl (lv_at hl 0 rfl) ?_
            refine hg_4_6 hx hb hts in_y_X10_divideLimbs_X10 hown hK hP (hts _ (List.mem_cons_of_mem _ (List.mem_append_left _ (List.mem_append_left _ (List.mem_of_getElem? (i := 5) rfl))))) dX10_divideLimbs_162 ?_
            refine lv_iload_n hx hb dX10_divideLimbs_165 rfl (lv_at hl 2 rfl) ?_
            refine lv_iconst (v := 1) hx hb dX10_divideLimbs_166 (by decide) ?_
            refine lv_isub hx hb dX10_divideLimbs_167 ?_
            obtain ⟨q3, h⟩ := kb_ite1 h
            refine hl_9 hx hb hK hP q3 dX10_divideLimbs_168 ?_
            refine lv_iload hx hb dX10_divideLimbs_169 (lv_at hl 3 rfl) ?_
            refine lv_ishl hx hb dX10_divideLimbs_171 ?_
            refine lv_ldc (v := 32768) hx hb hown (hts _ (List.mem_cons_of_mem _ (List.mem_append_left _ (List.mem_append_left _ (List.mem_of_getElem? (i := 9) rfl))))) dX10_divideLimbs_172 ?_
            refine lv_iand hx hb dX10_divideLimbs_174 ?_
            refine lv_if_ne (tgt := 187) hx hb dX10_divideLimbs_175 (by decide) (fun c4 => ?_) (fun c4 => ?_)
            · rw [if_neg c4] at h
              exact ih.2.2.2.2.2.2.2.2.1 L σ r h H locs ls hP hD hS (lv_sub hl [0, 1, 2, 3] rfl)
            · rw [if_pos c4] at h
              refine lv_iinc (v := ((L.1 4)) + 1) (lv' := [(4, .int (((L.1 4)) + 1)), (0, .ref (a 4)), (1, .int (L.1 1)), (3, .int (L.1 3)), (5, .int (L.1 5))]) hx hb dX10_divideLimbs_178 hl (k := 3) rfl rfl (by decide) rfl (fun ls hl => ?_)
              refine lv_iinc (v := ((L.1 5)) + 1) (lv' := [(5, .int (((L.1 5)) + 1)), (4, .int (((L.1 4)) + 1)), (0, .ref (a 4)), (1, .int (L.1 1)), (3, .int (L.1 3))]) hx hb dX10_divideLimbs_181 hl (k := 4) rfl rfl (by decide) rfl (fun ls hl => ?_)
              refine lv_goto (tgt := 150) hx hb dX10_divideLimbs_184 (by decide) ?_
              exact ih.2.2.2.2.2.2.2.1 (lI (lI L 4 ((((L.1 4)) + 1))) 5 ((((L.1 5)) + 1))) σ r h H locs ls hP hD hS (lv_sub hl [2, 3, 4, 1, 0] rfl)
      · intro L σ r h H locs ls hP hD hS hl
        rw [y_X10_divideLimbs] at h
        refine lv_aload_n hx hb dX10_divideLimbs_187 rfl (lv_at hl 0 rfl) ?_
        refine hg_4_5 hx hb hts in_y_X10_divideLimbs_X10 hown hK hP (hts _ (List.mem_cons_of_mem _ (List.mem_append_left _ (List.mem_append_left _ (List.mem_of_getElem? (i := 4) rfl))))) dX10_divideLimbs_188 ?_
        refine lv_iconst (v := 2) hx hb dX10_divideLimbs_191 (by decide) ?_
        refine lv_iload_n hx hb dX10_divideLimbs_192 rfl (lv_at hl 1 rfl) ?_
        refine lv_imul hx hb dX10_divideLimbs_193 ?_
        refine lv_iconst (v := 1) hx hb dX10_divideLimbs_194 (by decide) ?_
        refine lv_iadd hx hb dX10_divideLimbs_195 ?_
        refine lv_iload hx hb dX10_divideLimbs_196 (lv_at hl 3 rfl) ?_
        obtain ⟨r1, hc1, h⟩ := oc_ex h
        refine kc_v (va_runS (As := [.ref (a 8), .int (((2 * ((L.1 1)))) + 1), .int (L.1 4)]) (rest := []) ⟨hx, hb, hml, hown, hts⟩ (c_y_X10_shiftUp__a8 l dC dI cy a z k (lI (lI lZ 1 ((((2 * ((L.1 1)))) + 1))) 2 ((L.1 4))) σ r1 hc1 H.size) (va_cwS 3 hts g_y_X10_divideLimbs_X10_shiftUp__a8_S151 rfl rfl rfl hd_y_X10_shiftUp__a8 ⟨Nat.le_of_ble_eq_true rfl, Nat.le_of_ble_eq_true rfl⟩) ⟨nb_blind, (kb_pre hK hG hP hD)⟩ rfl rfl hl.1 rfl (lv_room (Nat.le_of_ble_eq_true rfl)) dX10_divideLimbs_198 ⟨Nat.le_refl _, Nat.le_refl _⟩) hA hP hD hS (fun H locs hP hD hS => ?_)
        refine lv_aload_n hx hb dX10_divideLimbs_201 rfl (lv_at hl 0 rfl) ?_
        refine hg_4_6 hx hb hts in_y_X10_divideLimbs_X10 hown hK hP (hts _ (List.mem_cons_of_mem _ (List.mem_append_left _ (List.mem_append_left _ (List.mem_of_getElem? (i := 5) rfl))))) dX10_divideLimbs_202 ?_
        refine lv_iload_n hx hb dX10_divideLimbs_205 rfl (lv_at hl 2 rfl) ?_
        refine lv_iload hx hb dX10_divideLimbs_206 (lv_at hl 3 rfl) ?_
        obtain ⟨r2, hc2, h⟩ := oc_ex h
        refine kc_v (va_runS (As := [.ref (a 9), .int (L.1 3), .int (L.1 4)]) (rest := []) ⟨hx, hb, hml, hown, hts⟩ (c_y_X10_shiftUp__a9 l dC dI cy a z k (lI (lI lZ 1 ((L.1 3))) 2 ((L.1 4))) r1.2 r2 hc2 H.size) (va_cwS 3 hts g_y_X10_divideLimbs_X10_shiftUp__a9_S151 rfl rfl rfl hd_y_X10_shiftUp__a9 ⟨Nat.le_of_ble_eq_true rfl, Nat.le_of_ble_eq_true rfl⟩) ⟨nb_blind, (kb_pre hK hG hP hD)⟩ rfl rfl hl.1 rfl (lv_room (Nat.le_of_ble_eq_true rfl)) dX10_divideLimbs_208 ⟨Nat.le_refl _, Nat.le_refl _⟩) hA hP hD hS (fun H locs hP hD hS => ?_)
        refine lv_iconst (v := 2) hx hb dX10_divideLimbs_211 (by decide) ?_
        refine lv_iload_n hx hb dX10_divideLimbs_212 rfl (lv_at hl 1 rfl) ?_
        refine lv_imul hx hb dX10_divideLimbs_213 ?_
        refine lv_iload_n hx hb dX10_divideLimbs_214 rfl (lv_at hl 2 rfl) ?_
        refine lv_isub hx hb dX10_divideLimbs_215 ?_
        refine lv_istore (lv' := [(5, .int (((2 * ((L.1 1)))) - ((L.1 3)))), (0, .ref (a 4)), (1, .int (L.1 1)), (3, .int (L.1 3)), (4, .int (L.1 4))]) hx hb dX10_divideLimbs_216 hl (by decide) rfl (fun ls hl => ?_)
        exact ih.2.2.2.2.2.2.2.2.2.1 (lI L 5 ((((2 * ((L.1 1)))) - ((L.1 3))))) r2.2 r h H locs ls hP hD hS (lv_sub hl [1, 2, 3, 4, 0] rfl)
      · intro L σ r h H locs ls hP hD hS hl
        rw [y_X10_divideLimbs] at h
        refine lv_iload hx hb dX10_divideLimbs_218 (lv_at hl 4 rfl) ?_
        refine lv_if_lt (tgt := 243) hx hb dX10_divideLimbs_220 (by decide) (fun c1 => ?_) (fun c1 => ?_)
        · rw [if_pos c1] at h
          exact ih.2.2.2.2.2.2.2.2.2.2.1 L σ r h H locs ls hP hD hS (lv_sub hl [0, 1, 2, 3] rfl)
        · rw [if_neg c1] at h
          refine lv_aload_n hx hb dX10_divideLimbs_223 rfl (lv_at hl 0 rfl) ?_
          refine hg_4_7 hx hb hts in_y_X10_divideLimbs_X10 hown hK hP (hts _ (List.mem_cons_of_mem _ (List.mem_append_left _ (List.mem_append_left _ (List.mem_of_getElem? (i := 0) rfl))))) dX10_divideLimbs_224 ?_
          refine lv_iload hx hb dX10_divideLimbs_227 (lv_at hl 4 rfl) ?_
          refine lv_aload_n hx hb dX10_divideLimbs_229 rfl (lv_at hl 0 rfl) ?_
          refine lv_iload hx hb dX10_divideLimbs_230 (lv_at hl 4 rfl) ?_
          refine lv_iload_n hx hb dX10_divideLimbs_232 rfl (lv_at hl 2 rfl) ?_
          obtain ⟨r2, hc2, h⟩ := oc_ex h
          refine kc_i (va_runV (As := [.int (L.1 5), .int (L.1 3)]) (rest := [.int (L.1 5), .ref (a 10)]) ⟨hx, hb, hml, hown, hts⟩ (c_y_X10_quotientDigit l dC dI cy a z k (lI (lI lZ 1 ((L.1 5))) 2 ((L.1 3))) σ r2 hc2 H.size) (cwV 2 hts g_y_X10_divideLimbs_X10_quotientDigit_V155 rfl rfl rfl hd_y_X10_quotientDigit ⟨Nat.le_of_ble_eq_true rfl, Nat.le_of_ble_eq_true rfl⟩) ⟨nb_blind, va_recv hK hP (ci := 9) (q0 := 4) rfl rfl, (kb_pre hK hG hP hD)⟩ rfl rfl hl.1 rfl (lv_room (Nat.le_of_ble_eq_true rfl)) dX10_divideLimbs_233 ⟨Nat.le_refl _, Nat.le_refl _⟩) hA hP hD hS (fun H locs hP hD hS => ?_)
          obtain ⟨q3, h⟩ := kb_ite1 h
          refine hs_10 hx hb hK hP hD hS q3 dX10_divideLimbs_236 (fun H locs hP hD hS => ?_)
          refine lv_iinc (v := ((L.1 5)) + (-1)) (lv' := [(5, .int (((L.1 5)) + (-1))), (0, .ref (a 4)), (1, .int (L.1 1)), (3, .int (L.1 3)), (4, .int (L.1 4))]) hx hb dX10_divideLimbs_237 hl (k := 4) rfl rfl (by decide) rfl (fun ls hl => ?_)
          refine lv_goto (tgt := 218) hx hb dX10_divideLimbs_240 (by decide) ?_
          exact ih.2.2.2.2.2.2.2.2.2.1 (lI L 5 ((((L.1 5)) + (-1)))) (uA r2.2 10 ((L.1 5)).toNatClampNeg r2.1) r h H locs ls hP hD hS (lv_sub hl [1, 2, 3, 4, 0] rfl)
      · intro L σ r h H locs ls hP hD hS hl
        rw [y_X10_divideLimbs] at h
        refine lv_aload_n hx hb dX10_divideLimbs_243 rfl (lv_at hl 0 rfl) ?_
        refine hg_4_5 hx hb hts in_y_X10_divideLimbs_X10 hown hK hP (hts _ (List.mem_cons_of_mem _ (List.mem_append_left _ (List.mem_append_left _ (List.mem_of_getElem? (i := 4) rfl))))) dX10_divideLimbs_244 ?_
        refine lv_iload_n hx hb dX10_divideLimbs_247 rfl (lv_at hl 2 rfl) ?_
        refine lv_iload hx hb dX10_divideLimbs_248 (lv_at hl 3 rfl) ?_
        obtain ⟨r1, hc1, h⟩ := oc_ex h
        refine kc_v (va_runS (As := [.ref (a 8), .int (L.1 3), .int (L.1 4)]) (rest := []) ⟨hx, hb, hml, hown, hts⟩ (c_y_X10_shiftDown__a8 l dC dI cy a z k (lI (lI lZ 1 ((L.1 3))) 2 ((L.1 4))) σ r1 hc1 H.size) (va_cwS 3 hts g_y_X10_divideLimbs_X10_shiftDown__a8_S158 rfl rfl rfl hd_y_X10_shiftDown__a8 ⟨Nat.le_of_ble_eq_true rfl, Nat.le_of_ble_eq_true rfl⟩) ⟨nb_blind, (kb_pre hK hG hP hD)⟩ rfl rfl hl.1 rfl (lv_room (Nat.le_of_ble_eq_true rfl)) dX10_divideLimbs_250 ⟨Nat.le_refl _, Nat.le_refl _⟩) hA hP hD hS (fun H locs hP hD hS => ?_)
        refine lv_iconst (v := 0) hx hb dX10_divideLimbs_253 (by decide) ?_
        refine lv_istore (lv' := [(5, .int 0), (0, .ref (a 4)), (1, .int (L.1 1)), (3, .int (L.1 3)), (4, .int (L.1 4))]) hx hb dX10_divideLimbs_254 hl (by decide) rfl (fun ls hl => ?_)
        refine lv_iconst (v := 0) hx hb dX10_divideLimbs_256 (by decide) ?_
        refine lv_istore (lv' := [(6, .int 0), (5, .int 0), (0, .ref (a 4)), (1, .int (L.1 1)), (3, .int (L.1 3)), (4, .int (L.1 4))]) hx hb dX10_divideLimbs_257 hl (by decide) rfl (fun ls hl => ?_)
        exact ih.2.2.2.2.2.2.2.2.2.2.2.1 (lI (lI L 5 0) 6 0) r1.2 r h H locs ls hP hD hS (lv_sub hl [2, 3, 1, 0] rfl)
      · intro L σ r h H locs ls hP hD hS hl
        rw [y_X10_divideLimbs] at h
        refine lv_iload hx hb dX10_divideLimbs_259 (lv_at hl 3 rfl) ?_
        refine lv_iconst (v := 2) hx hb dX10_divideLimbs_261 (by decide) ?_
        refine lv_iload_n hx hb dX10_divideLimbs_262 rfl (lv_at hl 1 rfl) ?_
        refine lv_imul hx hb dX10_divideLimbs_263 ?_
        refine lv_iconst (v := 1) hx hb dX10_divideLimbs_264 (by decide) ?_
        refine lv_iadd hx hb dX10_divideLimbs_265 ?_
        refine lv_icmp_ge (tgt := 296) hx hb dX10_divideLimbs_266 (by decide) (fun c1 => ?_) (fun c1 => ?_)
        · rw [if_pos c1] at h
          exact ih.2.2.2.2.2.2.2.2.2.2.2.2.1 L σ r h H locs ls hP hD hS (lv_sub hl [2] rfl)
        · rw [if_neg c1] at h
          refine lv_aload_n hx hb dX10_divideLimbs_269 rfl (lv_at hl 0 rfl) ?_
          refine hg_4_5 hx hb hts in_y_X10_divideLimbs_X10 hown hK hP (hts _ (List.mem_cons_of_mem _ (List.mem_append_left _ (List.mem_append_left _ (List.mem_of_getElem? (i := 4) rfl))))) dX10_divideLimbs_270 ?_
          refine lv_iload hx hb dX10_divideLimbs_273 (lv_at hl 3 rfl) ?_
          obtain ⟨q2, h⟩ := kb_ite1 h
          refine hl_8 hx hb hK hP q2 dX10_divideLimbs_275 ?_
          refine lv_if_eq (tgt := 286) hx hb dX10_divideLimbs_276 (by decide) (fun c3 => ?_) (fun c3 => ?_)
          · rw [if_pos c3] at h
            exact ih.2.2.2.2.2.2.2.2.2.2.2.2.2.1 L σ r h H locs ls hP hD hS (lv_sub hl [0, 1, 2, 3] rfl)
          · rw [if_neg c3] at h
            refine lv_iload hx hb dX10_divideLimbs_279 (lv_at hl 2 rfl) ?_
            refine lv_iconst (v := 1) hx hb dX10_divideLimbs_281 (by decide) ?_
            refine lv_iadd hx hb dX10_divideLimbs_282 ?_
            refine lv_goto (tgt := 288) hx hb dX10_divideLimbs_283 (by decide) ?_
            exact ih.2.2.2.2.2.2.2.2.2.2.2.2.2.2 (lI L 100 ((((L.1 5)) + 1))) σ r h H locs ls hP hD hS (lv_sub hl [0, 1, 3] rfl)
      · intro L σ r h H locs ls hP hD hS hl
        rw [y_X10_divideLimbs] at h
        refine lv_iload hx hb dX10_divideLimbs_296 (lv_at hl 0 rfl) ?_
        obtain rfl := Option.some.inj h
        exact W.iret (v := (L.1 5)) hx hb hr (fun t ht hW => ⟨⟨(L.1 5), (), rfl, rfl, by rw [ht]; exact hP, va_K.moved hW.alike hK, hD⟩, hS.F ht⟩) hS.2.2 dX10_divideLimbs_298
      · intro L σ r h H locs ls hP hD hS hl
        rw [y_X10_divideLimbs] at h
        refine lv_iload hx hb dX10_divideLimbs_286 (lv_at hl 2 rfl) ?_
        exact ih.2.2.2.2.2.2.2.2.2.2.2.2.2.2 (lI L 100 ((L.1 5))) σ r h H locs ls hP hD hS (lv_sub hl [0, 1, 3] rfl)
      · intro L σ r h H locs ls hP hD hS hl
        rw [y_X10_divideLimbs] at h
        refine lv_istore (lv' := [(5, .int (L.1 100)), (0, .ref (a 4)), (1, .int (L.1 1)), (6, .int (L.1 6))]) hx hb dX10_divideLimbs_288 hl (by decide) rfl (fun ls hl => ?_)
        refine lv_iinc (v := ((L.1 6)) + 1) (lv' := [(6, .int (((L.1 6)) + 1)), (5, .int (L.1 100)), (0, .ref (a 4)), (1, .int (L.1 1))]) hx hb dX10_divideLimbs_290 hl (k := 3) rfl rfl (by decide) rfl (fun ls hl => ?_)
        refine lv_goto (tgt := 259) hx hb dX10_divideLimbs_293 (by decide) ?_
        exact ih.2.2.2.2.2.2.2.2.2.2.2.1 (lI (lI L 5 ((L.1 100))) 6 ((((L.1 6)) + 1))) σ r h H locs ls hP hD hS (lv_sub hl [2, 3, 1, 0] rfl)
  exact (blk k0).1 L0 σ0 r0 h0 s.heap [] ls hP hD hS hl

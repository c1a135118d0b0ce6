/-! X5_binaryOp -/
def y_X5_binaryOp : Nat → Nat → LV → CS → Option (Int32 × CS)
  | 0, _, _, _ => none
  | k + 1, 0, L, σ => if ((L.1 0)) = (6 : Int32) then (y_X5_binaryOp k 1 L σ) else (if ((L.1 0)) = (7 : Int32) then (y_X5_binaryOp k 2 L σ) else (if ((L.1 0)) = (8 : Int32) then (y_X5_binaryOp k 3 L σ) else (if ((L.1 0)) = (9 : Int32) then (y_X5_binaryOp k 4 L σ) else (if ((L.1 0)) = (46 : Int32) then (y_X5_binaryOp k 5 L σ) else (if ((L.1 0)) = (47 : Int32) then (y_X5_binaryOp k 6 L σ) else (if ((L.1 0)) = (48 : Int32) then (y_X5_binaryOp k 7 L σ) else (if ((L.1 0)) = (67 : Int32) then (y_X5_binaryOp k 8 L σ) else (if ((L.1 0)) = (68 : Int32) then (y_X5_binaryOp k 9 L σ) else (y_X5_binaryOp k 10 L σ)))))))))
  | k + 1, 1, L, σ => some (128, σ)
  | k + 1, 2, L, σ => some (129, σ)
  | k + 1, 3, L, σ => some (130, σ)
  | k + 1, 4, L, σ => some (133, σ)
  | k + 1, 5, L, σ => some (140, σ)
  | k + 1, 6, L, σ => some (141, σ)
  | k + 1, 7, L, σ => some (142, σ)
  | k + 1, 8, L, σ => some (131, σ)
  | k + 1, 9, L, σ => some (132, σ)
  | k + 1, 10, L, σ => some ((((134 + ((L.1 0)))) - 20), σ)
  | _ + 1, _ + 11, _, _ => none
def o_y_X5_binaryOp : List Cond := []
theorem o_y_X5_binaryOp_good : o_y_X5_binaryOp.all goodWord = true := by decide +kernel
def p_y_X5_binaryOp : List Cond := o_y_X5_binaryOp ++ []
theorem p_y_X5_binaryOp_good : p_y_X5_binaryOp.all goodWord = true := nb_all2 o_y_X5_binaryOp_good rfl
def w_y_X5_binaryOp : List Cond := .code yX5_binaryOp cX5_binaryOp 1 (some .int) :: (p_y_X5_binaryOp ++ fC)
theorem w_y_X5_binaryOp_good : w_y_X5_binaryOp.all goodWord = true := nb_allc (by decide +kernel) (nb_all2 p_y_X5_binaryOp_good fC_good)
theorem hd_y_X5_binaryOp : yX5_binaryOp.cls ≠ "java/lang/invoke/MethodHandle" ∧ yX5_binaryOp.cls ≠ "java/lang/invoke/VarHandle" ∧ (parseMethodDescriptor yX5_binaryOp.desc).map (fun d => d.parameters.length) = some 1 := by decide +kernel
set_option maxHeartbeats 40000000 in
set_option maxRecDepth 100000 in
theorem c_y_X5_binaryOp (l : Launch) (dC : Nat → ClassId) (dI : Nat → Nat → Nat) (cy : Nat → ClassId) (a z : Nat → Nat) (k0 : Nat) (L0 : LV) (σ0 : CS) (r0 : Int32 × CS) (h0 : y_X5_binaryOp k0 0 L0 σ0 = some r0) (sz : Nat) : Met l yX5_binaryOp w_y_X5_binaryOp ({ frames := 0, cells := 0, slots := 0, locals := 0 }) (va_Pc [.int (L0.1 0)] (nIn (dC, dI) cy sz (vC cy a z σ0))) (va_Qi (fun (x : Int32) (_ : Unit) => x = r0.1) (fun _ t => nOut (dC, dI) cy (va_A (vC cy a z σ0) sz) (vC cy a z r0.2) t) (va_A (vC cy a z σ0) sz)) 0 0 (va_A (vC cy a z σ0) sz) := by
  refine Met.ofW (cc := cX5_binaryOp) (maxL := 1) (ret := (some .int)) (by decide) rfl ?_
  intro p e s m args below meth c s₁ B hml hv
  obtain ⟨rfl, hsz, hP, hK, hD0, hG⟩ := hv
  have hx := B.exec
  have hb := B.bytes
  have hr := B.returns
  have hts := atoms_spec (ws := w_y_X5_binaryOp) B.pre
  have hown : s.vm.findClass RX5 = some m.cls := findClass_of_methodNamed B.named
  have hlocks := B.notSynchronized
  subst hsz
  have hD := hD0.self (sz := s.heap.size)
  generalize hAe : va_A (vC cy a z σ0) s.heap.size = A at hD ⊢
  have hA : ∀ q : Nat, s.heap.size ≤ q → A q := fun q h => by rw [← hAe]; exact Or.inr h
  have hS : va_S A s.heap s.heap [] := va_S.rf
  have hl := lv_entry ([.int (L0.1 0)]) (n := 1) (Nat.le_of_ble_eq_true rfl)
  rw [lg_entry_eq]
  generalize (lg_sl ([.int (L0.1 0)]) ++ List.replicate (1 - (lg_sl ([.int (L0.1 0)])).length) Slot.unset).toArray = ls at hl ⊢
  have hl : lv_has ls 1 [(0, .int (L0.1 0))] := hl
  have blk : ∀ k : Nat, (bC p l e (headSpec w_y_X5_binaryOp ({ frames := 0, cells := 0, slots := 0, locals := 0 })).room s m #[.int (L0.1 0)] below meth c dC dI cy a z A (kI dC dI cy a z A below #[.int (L0.1 0)] s) 1 (y_X5_binaryOp k 0) (fun L => [(0, .int (L.1 0))]) 0 (fun L => [])) ∧ (bC p l e (headSpec w_y_X5_binaryOp ({ frames := 0, cells := 0, slots := 0, locals := 0 })).room s m #[.int (L0.1 0)] below meth c dC dI cy a z A (kI dC dI cy a z A below #[.int (L0.1 0)] s) 1 (y_X5_binaryOp k 1) (fun L => []) 84 (fun L => [])) ∧ (bC p l e (headSpec w_y_X5_binaryOp ({ frames := 0, cells := 0, slots := 0, locals := 0 })).room s m #[.int (L0.1 0)] below meth c dC dI cy a z A (kI dC dI cy a z A below #[.int (L0.1 0)] s) 1 (y_X5_binaryOp k 2) (fun L => []) 88 (fun L => [])) ∧ (bC p l e (headSpec w_y_X5_binaryOp ({ frames := 0, cells := 0, slots := 0, locals := 0 })).room s m #[.int (L0.1 0)] below meth c dC dI cy a z A (kI dC dI cy a z A below #[.int (L0.1 0)] s) 1 (y_X5_binaryOp k 3) (fun L => []) 92 (fun L => [])) ∧ (bC p l e (headSpec w_y_X5_binaryOp ({ frames := 0, cells := 0, slots := 0, locals := 0 })).room s m #[.int (L0.1 0)] below meth c dC dI cy a z A (kI dC dI cy a z A below #[.int (L0.1 0)] s) 1 (y_X5_binaryOp k 4) (fun L => []) 104 (fun L => [])) ∧ (bC p l e (headSpec w_y_X5_binaryOp ({ frames := 0, cells := 0, slots := 0, locals := 0 })).room s m #[.int (L0.1 0)] below meth c dC dI cy a z A (kI dC dI cy a z A below #[.int (L0.1 0)] s) 1 (y_X5_binaryOp k 5) (fun L => []) 108 (fun L => [])) ∧ (bC p l e (headSpec w_y_X5_binaryOp ({ frames := 0, cells := 0, slots := 0, locals := 0 })).room s m #[.int (L0.1 0)] below meth c dC dI cy a z A (kI dC dI cy a z A below #[.int (L0.1 0)] s) 1 (y_X5_binaryOp k 6) (fun L => []) 112 (fun L => [])) ∧ (bC p l e (headSpec w_y_X5_binaryOp ({ frames := 0, cells := 0, slots := 0, locals := 0 })).room s m #[.int (L0.1 0)] below meth c dC dI cy a z A (kI dC dI cy a z A below #[.int (L0.1 0)] s) 1 (y_X5_binaryOp k 7) (fun L => []) 116 (fun L => [])) ∧ (bC p l e (headSpec w_y_X5_binaryOp ({ frames := 0, cells := 0, slots := 0, locals := 0 })).room s m #[.int (L0.1 0)] below meth c dC dI cy a z A (kI dC dI cy a z A below #[.int (L0.1 0)] s) 1 (y_X5_binaryOp k 8) (fun L => []) 96 (fun L => [])) ∧ (bC p l e (headSpec w_y_X5_binaryOp ({ frames := 0, cells := 0, slots := 0, locals := 0 })).room s m #[.int (L0.1 0)] below meth c dC dI cy a z A (kI dC dI cy a z A below #[.int (L0.1 0)] s) 1 (y_X5_binaryOp k 9) (fun L => []) 100 (fun L => [])) ∧ (bC p l e (headSpec w_y_X5_binaryOp ({ frames := 0, cells := 0, slots := 0, locals := 0 })).room s m #[.int (L0.1 0)] below meth c dC dI cy a z A (kI dC dI cy a z A below #[.int (L0.1 0)] s) 1 (y_X5_binaryOp k 10) (fun L => [(0, .int (L.1 0))]) 120 (fun L => [])) := by
    intro k
    induction k with
    | zero => exact ⟨fun L σ r h => (by cases h), fun L σ r h => (by cases h), fun L σ r h => (by cases h), fun L σ r h => (by cases h), fun L σ r h => (by cases h), fun L σ r h => (by cases h), fun L σ r h => (by cases h), fun L σ r h => (by cases h), fun L σ r h => (by cases h), fun L σ r h => (by cases h), fun L σ r h => (by cases h)⟩
    | succ k ih =>
      refine ⟨?_, ?_, ?_, ?_, ?_, ?_, ?_, ?_, ?_, ?_, ?_⟩
      · intro L σ r h H locs ls hP hD hS hl
        rw [y_X5_binaryOp] at h
        refine lv_iload_n hx hb dX5_binaryOp_0 rfl (lv_at hl 0 rfl) ?_
        by_cases q1 : ((L.1 0)) = (6 : Int32)
        · rw [if_pos q1] at h
          refine lv_lookup (off := 83) (tgt := 84) hx hb dX5_binaryOp_1 (by decide) (by rw [q1]; decide) (by decide) ?_
          exact ih.2.1 L σ r h H locs ls hP hD hS (lv_sub hl [] rfl)
        · rw [if_neg q1] at h
          by_cases q2 : ((L.1 0)) = (7 : Int32)
          · rw [if_pos q2] at h
            refine lv_lookup (off := 87) (tgt := 88) hx hb dX5_binaryOp_1 (by decide) (by rw [q2]; decide) (by decide) ?_
            exact ih.2.2.1 L σ r h H locs ls hP hD hS (lv_sub hl [] rfl)
          · rw [if_neg q2] at h
            by_cases q3 : ((L.1 0)) = (8 : Int32)
            · rw [if_pos q3] at h
              refine lv_lookup (off := 91) (tgt := 92) hx hb dX5_binaryOp_1 (by decide) (by rw [q3]; decide) (by decide) ?_
              exact ih.2.2.2.1 L σ r h H locs ls hP hD hS (lv_sub hl [] rfl)
            · rw [if_neg q3] at h
              by_cases q4 : ((L.1 0)) = (9 : Int32)
              · rw [if_pos q4] at h
                refine lv_lookup (off := 103) (tgt := 104) hx hb dX5_binaryOp_1 (by decide) (by rw [q4]; decide) (by decide) ?_
                exact ih.2.2.2.2.1 L σ r h H locs ls hP hD hS (lv_sub hl [] rfl)
              · rw [if_neg q4] at h
                by_cases q5 : ((L.1 0)) = (46 : Int32)
                · rw [if_pos q5] at h
                  refine lv_lookup (off := 107) (tgt := 108) hx hb dX5_binaryOp_1 (by decide) (by rw [q5]; decide) (by decide) ?_
                  exact ih.2.2.2.2.2.1 L σ r h H locs ls hP hD hS (lv_sub hl [] rfl)
                · rw [if_neg q5] at h
                  by_cases q6 : ((L.1 0)) = (47 : Int32)
                  · rw [if_pos q6] at h
                    refine lv_lookup (off := 111) (tgt := 112) hx hb dX5_binaryOp_1 (by decide) (by rw [q6]; decide) (by decide) ?_
                    exact ih.2.2.2.2.2.2.1 L σ r h H locs ls hP hD hS (lv_sub hl [] rfl)
                  · rw [if_neg q6] at h
                    by_cases q7 : ((L.1 0)) = (48 : Int32)
                    · rw [if_pos q7] at h
                      refine lv_lookup (off := 115) (tgt := 116) hx hb dX5_binaryOp_1 (by decide) (by rw [q7]; decide) (by decide) ?_
                      exact ih.2.2.2.2.2.2.2.1 L σ r h H locs ls hP hD hS (lv_sub hl [] rfl)
                    · rw [if_neg q7] at h
                      by_cases q8 : ((L.1 0)) = (67 : Int32)
                      · rw [if_pos q8] at h
                        refine lv_lookup (off := 95) (tgt := 96) hx hb dX5_binaryOp_1 (by decide) (by rw [q8]; decide) (by decide) ?_
                        exact ih.2.2.2.2.2.2.2.2.1 L σ r h H locs ls hP hD hS (lv_sub hl [] rfl)
                      · rw [if_neg q8] at h
                        by_cases q9 : ((L.1 0)) = (68 : Int32)
                        · rw [if_pos q9] at h
                          refine lv_lookup (off := 99) (tgt := 100) hx hb dX5_binaryOp_1 (by decide) (by rw [q9]; decide) (by decide) ?_
                          exact ih.2.2.2.2.2.2.2.2.2.1 L σ r h H locs ls hP hD hS (lv_sub hl [] rfl)
                        · rw [if_neg q9] at h
                          have nq1 : ¬ ((L.1 0)).toInt = 6 := nb_ti q1 rfl
                          have nq2 : ¬ ((L.1 0)).toInt = 7 := nb_ti q2 rfl
                          have nq3 : ¬ ((L.1 0)).toInt = 8 := nb_ti q3 rfl
                          have nq4 : ¬ ((L.1 0)).toInt = 9 := nb_ti q4 rfl
                          have nq5 : ¬ ((L.1 0)).toInt = 46 := nb_ti q5 rfl
                          have nq6 : ¬ ((L.1 0)).toInt = 47 := nb_ti q6 rfl
                          have nq7 : ¬ ((L.1 0)).toInt = 48 := nb_ti q7 rfl
                          have nq8 : ¬ ((L.1 0)).toInt = 67 := nb_ti q8 rfl
                          have nq9 : ¬ ((L.1 0)).toInt = 68 := nb_ti q9 rfl
                          refine lv_lookup (off := 119) (tgt := 120) hx hb dX5_binaryOp_1 (by decide) (nb_lk (by simp only [List.forall_mem_cons]; exact ⟨nq1, nq2, nq3, nq4, nq5, nq6, nq7, nq8, nq9, fun _ h => absurd h List.not_mem_nil⟩)) (by decide) ?_
                          exact ih.2.2.2.2.2.2.2.2.2.2 L σ r h H locs ls hP hD hS (lv_sub hl [0] rfl)
      · intro L σ r h H locs ls hP hD hS hl
        rw [y_X5_binaryOp] at h
        refine lv_sipush (v := 128) hx hb dX5_binaryOp_84 (by decide) ?_
        obtain rfl := Option.some.inj h
        exact W.iret (v := 128) hx hb hr (fun t ht hW => ⟨⟨128, (), rfl, rfl, by rw [ht]; exact hP, va_K.moved hW.alike hK, hD⟩, hS.F ht⟩) hS.2.2 dX5_binaryOp_87
      · intro L σ r h H locs ls hP hD hS hl
        rw [y_X5_binaryOp] at h
        refine lv_sipush (v := 129) hx hb dX5_binaryOp_88 (by decide) ?_
        obtain rfl := Option.some.inj h
        exact W.iret (v := 129) hx hb hr (fun t ht hW => ⟨⟨129, (), rfl, rfl, by rw [ht]; exact hP, va_K.moved hW.alike hK, hD⟩, hS.F ht⟩) hS.2.2 dX5_binaryOp_91
      · intro L σ r h H locs ls hP hD hS hl
        rw [y_X5_binaryOp] at h
        refine lv_sipush (v := 130) hx hb dX5_binaryOp_92 (by decide) ?_
        obtain rfl := Option.some.inj h
        exact W.iret (v := 130) hx hb hr (fun t ht hW => ⟨⟨130, (), rfl, rfl, by rw [ht]; exact hP, va_K.moved hW.alike hK, hD⟩, hS.F ht⟩) hS.2.2 dX5_binaryOp_95
      · intro L σ r h H locs ls hP hD hS hl
        rw [y_X5_binaryOp] at h
        refine lv_sipush (v := 133) hx hb dX5_binaryOp_104 (by decide) ?_
        obtain rfl := Option.some.inj h
        exact W.iret (v := 133) hx hb hr (fun t ht hW => ⟨⟨133, (), rfl, rfl, by rw [ht]; exact hP, va_K.moved hW.alike hK, hD⟩, hS.F ht⟩) hS.2.2 dX5_binaryOp_107
      · intro L σ r h H locs ls hP hD hS hl
        rw [y_X5_binaryOp] at h
        refine lv_sipush (v := 140) hx hb dX5_binaryOp_108 (by decide) ?_
        obtain rfl := Option.some.inj h
        exact W.iret (v := 140) hx hb hr (fun t ht hW => ⟨⟨140, (), rfl, rfl, by rw [ht]; exact hP, va_K.moved hW.alike hK, hD⟩, hS.F ht⟩) hS.2.2 dX5_binaryOp_111
      · intro L σ r h H locs ls hP hD hS hl
        rw [y_X5_binaryOp] at h
        refine lv_sipush (v := 141) hx hb dX5_binaryOp_112 (by decide) ?_
        obtain rfl := Option.some.inj h
        exact W.iret (v := 141) hx hb hr (fun t ht hW => ⟨⟨141, (), rfl, rfl, by rw [ht]; exact hP, va_K.moved hW.alike hK, hD⟩, hS.F ht⟩) hS.2.2 dX5_binaryOp_115
      · intro L σ r h H locs ls hP hD hS hl
        rw [y_X5_binaryOp] at h
        refine lv_sipush (v := 142) hx hb dX5_binaryOp_116 (by decide) ?_
        obtain rfl := Option.some.inj h
        exact W.iret (v := 142) hx hb hr (fun t ht hW => ⟨⟨142, (), rfl, rfl, by rw [ht]; exact hP, va_K.moved hW.alike hK, hD⟩, hS.F ht⟩) hS.2.2 dX5_binaryOp_119
      · intro L σ r h H locs ls hP hD hS hl
        rw [y_X5_binaryOp] at h
        refine lv_sipush (v := 131) hx hb dX5_binaryOp_96 (by decide) ?_
        obtain rfl := Option.some.inj h
        exact W.iret (v := 131) hx hb hr (fun t ht hW => ⟨⟨131, (), rfl, rfl, by rw [ht]; exact hP, va_K.moved hW.alike hK, hD⟩, hS.F ht⟩) hS.2.2 dX5_binaryOp_99
      · intro L σ r h H locs ls hP hD hS hl
        rw [y_X5_binaryOp] at h
        refine lv_sipush (v := 132) hx hb dX5_binaryOp_100 (by decide) ?_
        obtain rfl := Option.some.inj h
        exact W.iret (v := 132) hx hb hr (fun t ht hW => ⟨⟨132, (), rfl, rfl, by rw [ht]; exact hP, va_K.moved hW.alike hK, hD⟩, hS.F ht⟩) hS.2.2 dX5_binaryOp_103
      · intro L σ r h H locs ls hP hD hS hl
        rw [y_X5_binaryOp] at h
        refine lv_sipush (v := 134) hx hb dX5_binaryOp_120 (by decide) ?_
        refine lv_iload_n hx hb dX5_binaryOp_123 rfl (lv_at hl 0 rfl) ?_
        refine lv_iadd hx hb dX5_binaryOp_124 ?_
        refine lv_bipush (v := 20) hx hb dX5_binaryOp_125 (by decide) ?_
        refine lv_isub hx hb dX5_binaryOp_127 ?_
        obtain rfl := Option.some.inj h
        exact W.iret (v := (((134 + ((L.1 0)))) - 20)) hx hb hr (fun t ht hW => ⟨⟨(((134 + ((L.1 0)))) - 20), (), rfl, rfl, by rw [ht]; exact hP, va_K.moved hW.alike hK, hD⟩, hS.F ht⟩) hS.2.2 dX5_binaryOp_128
  exact (blk k0).1 L0 σ0 r0 h0 s.heap [] ls hP hD hS hl
/-! X5_postponedLevel -/
def y_X5_postponedLevel : Nat → Nat → LV → CS → Option (Int32 × CS)
  | 0, _, _, _ => none
  | k + 1, 0, L, σ => if ((σ.1 4011)) ≤ ((L.1 1)) then (y_X5_postponedLevel k 1 L σ) else (if ¬ (((((σ.1 4011)) - 3)) < 0 ∨ (sN σ 41) ≤ ((((σ.1 4011)) - 3)).toNatClampNeg) then (y_X5_postponedLevel k 2 (lI L 100 ((σ.2.2.1 41 ((((σ.1 4011)) - 3)).toNatClampNeg))) σ) else none)
  | k + 1, 1, L, σ => y_X5_postponedLevel k 2 (lI L 100 ((-1))) σ
  | k + 1, 2, L, σ => some ((L.1 100), σ)
  | _ + 1, _ + 3, _, _ => none
def o_y_X5_postponedLevel : List Cond := [.fieldLink RX5 112 "SetHouse$Parser" "marked" "I", .fieldLink RX5 9 "SetHouse$Parser" "marks" "[I"]
theorem o_y_X5_postponedLevel_good : o_y_X5_postponedLevel.all goodWord = true := by decide +kernel
def p_y_X5_postponedLevel : List Cond := o_y_X5_postponedLevel ++ []
theorem p_y_X5_postponedLevel_good : p_y_X5_postponedLevel.all goodWord = true := nb_all2 o_y_X5_postponedLevel_good rfl
def w_y_X5_postponedLevel : List Cond := .code yX5_postponedLevel cX5_postponedLevel 2 (some .int) :: (p_y_X5_postponedLevel ++ fC)
theorem w_y_X5_postponedLevel_good : w_y_X5_postponedLevel.all goodWord = true := nb_allc (by decide +kernel) (nb_all2 p_y_X5_postponedLevel_good fC_good)
theorem in_y_X5_postponedLevel_X5 : ∀ w ∈ wsX50, w ∈ w_y_X5_postponedLevel := fun _ h => List.mem_cons_of_mem _ (List.mem_append_right _ (List.mem_append_right _ (List.mem_append_right _ (List.mem_append_right _ (List.mem_append_right _ (List.mem_append_left _ h))))))
theorem hd_y_X5_postponedLevel : yX5_postponedLevel.cls = RX5 ∧ yX5_postponedLevel.cls ≠ "java/lang/invoke/MethodHandle" ∧ yX5_postponedLevel.cls ≠ "java/lang/invoke/VarHandle" ∧ (parseMethodDescriptor yX5_postponedLevel.desc).map (fun d => d.parameters.length) = some 1 := by decide +kernel
set_option maxHeartbeats 40000000 in
set_option maxRecDepth 100000 in
theorem c_y_X5_postponedLevel (l : Launch) (dC : Nat → ClassId) (dI : Nat → Nat → Nat) (cy : Nat → ClassId) (a z : Nat → Nat) (k0 : Nat) (L0 : LV) (σ0 : CS) (r0 : Int32 × CS) (h0 : y_X5_postponedLevel k0 0 L0 σ0 = some r0) (sz : Nat) : Met l yX5_postponedLevel w_y_X5_postponedLevel ({ frames := 0, cells := 0, slots := 0, locals := 0 }) (va_Pc [.ref (a 40), .int (L0.1 1)] (nIn (dC, dI) cy sz (vC cy a z σ0))) (va_Qi (fun (x : Int32) (_ : Unit) => x = r0.1) (fun _ t => nOut (dC, dI) cy (va_A (vC cy a z σ0) sz) (vC cy a z r0.2) t) (va_A (vC cy a z σ0) sz)) 0 0 (va_A (vC cy a z σ0) sz) := by
  refine Met.ofW (cc := cX5_postponedLevel) (maxL := 2) (ret := (some .int)) (by decide) rfl ?_
  intro p e s m args below meth c s₁ B hml hv
  obtain ⟨rfl, hsz, hP, hK, hD0, hG⟩ := hv
  have hx := B.exec
  have hb := B.bytes
  have hr := B.returns
  have hts := atoms_spec (ws := w_y_X5_postponedLevel) B.pre
  have hown : s.vm.findClass RX5 = some m.cls := findClass_of_methodNamed B.named
  have hlocks := B.notSynchronized
  subst hsz
  have hD := hD0.self (sz := s.heap.size)
  generalize hAe : va_A (vC cy a z σ0) s.heap.size = A at hD ⊢
  have hA : ∀ q : Nat, s.heap.size ≤ q → A q := fun q h => by rw [← hAe]; exact Or.inr h
  have hS : va_S A s.heap s.heap [] := va_S.rf
  have hl := lv_entry ([.ref (a 40), .int (L0.1 1)]) (n := 2) (Nat.le_of_ble_eq_true rfl)
  rw [lg_entry_eq]
  generalize (lg_sl ([.ref (a 40), .int (L0.1 1)]) ++ List.replicate (2 - (lg_sl ([.ref (a 40), .int (L0.1 1)])).length) Slot.unset).toArray = ls at hl ⊢
  have hl : lv_has ls 2 [(0, .ref (a 40)), (1, .int (L0.1 1))] := hl
  have blk : ∀ k : Nat, (bC p l e (headSpec w_y_X5_postponedLevel ({ frames := 0, cells := 0, slots := 0, locals := 0 })).room s m #[.ref (a 40), .int (L0.1 1)] below meth c dC dI cy a z A (kI dC dI cy a z A below #[.ref (a 40), .int (L0.1 1)] s) 2 (y_X5_postponedLevel k 0) (fun L => [(0, .ref (a 40)), (1, .int (L.1 1))]) 0 (fun L => [])) ∧ (bC p l e (headSpec w_y_X5_postponedLevel ({ frames := 0, cells := 0, slots := 0, locals := 0 })).room s m #[.ref (a 40), .int (L0.1 1)] below meth c dC dI cy a z A (kI dC dI cy a z A below #[.ref (a 40), .int (L0.1 1)] s) 2 (y_X5_postponedLevel k 1) (fun L => []) 22 (fun L => [])) ∧ (bC p l e (headSpec w_y_X5_postponedLevel ({ frames := 0, cells := 0, slots := 0, locals := 0 })).room s m #[.ref (a 40), .int (L0.1 1)] below meth c dC dI cy a z A (kI dC dI cy a z A below #[.ref (a 40), .int (L0.1 1)] s) 2 (y_X5_postponedLevel k 2) (fun L => []) 23 (fun L => [.int (L.1 100)])) := by
    intro k
    induction k with
    | zero => exact ⟨fun L σ r h => (by cases h), fun L σ r h => (by cases h), fun L σ r h => (by cases h)⟩
    | succ k ih =>
      refine ⟨?_, ?_, ?_⟩
      · intro L σ r h H locs ls hP hD hS hl
        rw [y_X5_postponedLevel] at h
        refine lv_aload_n hx hb dX5_postponedLevel_0 rfl (lv_at hl 0 rfl) ?_
        refine hg_40_11 hx hb hts in_y_X5_postponedLevel_X5 hown hK hP (hts _ (List.mem_cons_of_mem _ (List.mem_append_left _ (List.mem_append_left _ (List.mem_of_getElem? (i := 0) rfl))))) dX5_postponedLevel_1 ?_
        refine lv_iload_n hx hb dX5_postponedLevel_4 rfl (lv_at hl 1 rfl) ?_
        refine lv_icmp_le (tgt := 22) hx hb dX5_postponedLevel_5 (by decide) (fun c1 => ?_) (fun c1 => ?_)
        · rw [if_pos c1] at h
          exact ih.2.1 L σ r h H locs ls hP hD hS (lv_sub hl [] rfl)
        · rw [if_neg c1] at h
          refine lv_aload_n hx hb dX5_postponedLevel_8 rfl (lv_at hl 0 rfl) ?_
          refine hg_40_10 hx hb hts in_y_X5_postponedLevel_X5 hown hK hP (hts _ (List.mem_cons_of_mem _ (List.mem_append_left _ (List.mem_append_left _ (List.mem_of_getElem? (i := 1) rfl))))) dX5_postponedLevel_9 ?_
          refine lv_aload_n hx hb dX5_postponedLevel_12 rfl (lv_at hl 0 rfl) ?_
          refine hg_40_11 hx hb hts in_y_X5_postponedLevel_X5 hown hK hP (hts _ (List.mem_cons_of_mem _ (List.mem_append_left _ (List.mem_append_left _ (List.mem_of_getElem? (i := 0) rfl))))) dX5_postponedLevel_13 ?_
          refine lv_iconst (v := 3) hx hb dX5_postponedLevel_16 (by decide) ?_
          refine lv_isub hx hb dX5_postponedLevel_17 ?_
          obtain ⟨q2, h⟩ := kb_ite1 h
          refine hl_41 hx hb hK hP q2 dX5_postponedLevel_18 ?_
          refine lv_goto (tgt := 23) hx hb dX5_postponedLevel_19 (by decide) ?_
          exact ih.2.2 (lI L 100 ((σ.2.2.1 41 ((((σ.1 4011)) - 3)).toNatClampNeg))) σ r h H locs ls hP hD hS (lv_sub hl [] rfl)
      · intro L σ r h H locs ls hP hD hS hl
        rw [y_X5_postponedLevel] at h
        refine lv_iconst (v := (-1)) hx hb dX5_postponedLevel_22 (by decide) ?_
        exact ih.2.2 (lI L 100 ((-1))) σ r h H locs ls hP hD hS (lv_sub hl [] rfl)
      · intro L σ r h H locs ls hP hD hS hl
        rw [y_X5_postponedLevel] at h
        obtain rfl := Option.some.inj h
        exact W.iret (v := (L.1 100)) hx hb hr (fun t ht hW => ⟨⟨(L.1 100), (), rfl, rfl, by rw [ht]; exact hP, va_K.moved hW.alike hK, hD⟩, hS.F ht⟩) hS.2.2 dX5_postponedLevel_23
  exact (blk k0).1 L0 σ0 r0 h0 s.heap [] ls hP hD hS hl
/-! X5_wordOp -/
def y_X5_wordOp : Nat → Nat → LV → CS → Option (Int32 × CS)
  | 0, _, _, _ => none
  | k + 1, 0, L, σ => if ((L.1 0)) < 71 then (y_X5_wordOp k 1 L σ) else (if 79 < ((L.1 0)) then (y_X5_wordOp k 1 L σ) else (some ((((162 + ((L.1 0)))) - 71), σ)))
  | k + 1, 1, L, σ => if ((L.1 0)) = 82 then (y_X5_wordOp k 3 (lI L 100 171) σ) else (y_X5_wordOp k 2 L σ)
  | k + 1, 2, L, σ => y_X5_wordOp k 3 (lI L 100 ((-1))) σ
  | k + 1, 3, L, σ => some ((L.1 100), σ)
  | _ + 1, _ + 4, _, _ => none
def o_y_X5_wordOp : List Cond := []
theorem o_y_X5_wordOp_good : o_y_X5_wordOp.all goodWord = true := by decide +kernel
def p_y_X5_wordOp : List Cond := o_y_X5_wordOp ++ []
theorem p_y_X5_wordOp_good : p_y_X5_wordOp.all goodWord = true := nb_all2 o_y_X5_wordOp_good rfl
def w_y_X5_wordOp : List Cond := .code yX5_wordOp cX5_wordOp 1 (some .int) :: (p_y_X5_wordOp ++ fC)
theorem w_y_X5_wordOp_good : w_y_X5_wordOp.all goodWord = true := nb_allc (by decide +kernel) (nb_all2 p_y_X5_wordOp_good fC_good)
theorem hd_y_X5_wordOp : yX5_wordOp.cls ≠ "java/lang/invoke/MethodHandle" ∧ yX5_wordOp.cls ≠ "java/lang/invoke/VarHandle" ∧ (parseMethodDescriptor yX5_wordOp.desc).map (fun d => d.parameters.length) = some 1 := by decide +kernel
set_option maxHeartbeats 40000000 in
set_option maxRecDepth 100000 in
theorem c_y_X5_wordOp (l : Launch) (dC : Nat → ClassId) (dI : Nat → Nat → Nat) (cy : Nat → ClassId) (a z : Nat → Nat) (k0 : Nat) (L0 : LV) (σ0 : CS) (r0 : Int32 × CS) (h0 : y_X5_wordOp k0 0 L0 σ0 = some r0) (sz : Nat) : Met l yX5_wordOp w_y_X5_wordOp ({ frames := 0, cells := 0, slots := 0, locals := 0 }) (va_Pc [.int (L0.1 0)] (nIn (dC, dI) cy sz (vC cy a z σ0))) (va_Qi (fun (x : Int32) (_ : Unit) => x = r0.1) (fun _ t => nOut (dC, dI) cy (va_A (vC cy a z σ0) sz) (vC cy a z r0.2) t) (va_A (vC cy a z σ0) sz)) 0 0 (va_A (vC cy a z σ0) sz) := by
  refine Met.ofW (cc := cX5_wordOp) (maxL := 1) (ret := (some .int)) (by decide) rfl ?_
  intro p e s m args below meth c s₁ B hml hv
  obtain ⟨rfl, hsz, hP, hK, hD0, hG⟩ := hv
  have hx := B.exec
  have hb := B.bytes
  have hr := B.returns
  have hts := atoms_spec (ws := w_y_X5_wordOp) B.pre
  have hown : s.vm.findClass RX5 = some m.cls := findClass_of_methodNamed B.named
  have hlocks := B.notSynchronized
  subst hsz
  have hD := hD0.self (sz := s.heap.size)
  generalize hAe : va_A (vC cy a z σ0) s.heap.size = A at hD ⊢
  have hA : ∀ q : Nat, s.heap.size ≤ q → A q := fun q h => by rw [← hAe]; exact Or.inr h
  have hS : va_S A s.heap s.heap [] := va_S.rf
  have hl := lv_entry ([.int (L0.1 0)]) (n := 1) (Nat.le_of_ble_eq_true rfl)
  rw [lg_entry_eq]
  generalize (lg_sl ([.int (L0.1 0)]) ++ List.replicate (1 - (lg_sl ([.int (L0.1 0)])).length) Slot.unset).toArray = ls at hl ⊢
  have hl : lv_has ls 1 [(0, .int (L0.1 0))] := hl
  have blk : ∀ k : Nat, (bC p l e (headSpec w_y_X5_wordOp ({ frames := 0, cells := 0, slots := 0, locals := 0 })).room s m #[.int (L0.1 0)] below meth c dC dI cy a z A (kI dC dI cy a z A below #[.int (L0.1 0)] s) 1 (y_X5_wordOp k 0) (fun L => [(0, .int (L.1 0))]) 0 (fun L => [])) ∧ (bC p l e (headSpec w_y_X5_wordOp ({ frames := 0, cells := 0, slots := 0, locals := 0 })).room s m #[.int (L0.1 0)] below meth c dC dI cy a z A (kI dC dI cy a z A below #[.int (L0.1 0)] s) 1 (y_X5_wordOp k 1) (fun L => [(0, .int (L.1 0))]) 21 (fun L => [])) ∧ (bC p l e (headSpec w_y_X5_wordOp ({ frames := 0, cells := 0, slots := 0, locals := 0 })).room s m #[.int (L0.1 0)] below meth c dC dI cy a z A (kI dC dI cy a z A below #[.int (L0.1 0)] s) 1 (y_X5_wordOp k 2) (fun L => []) 33 (fun L => [])) ∧ (bC p l e (headSpec w_y_X5_wordOp ({ frames := 0, cells := 0, slots := 0, locals := 0 })).room s m #[.int (L0.1 0)] below meth c dC dI cy a z A (kI dC dI cy a z A below #[.int (L0.1 0)] s) 1 (y_X5_wordOp k 3) (fun L => []) 34 (fun L => [.int (L.1 100)])) := by
    intro k
    induction k with
    | zero => exact ⟨fun L σ r h => (by cases h), fun L σ r h => (by cases h), fun L σ r h => (by cases h), fun L σ r h => (by cases h)⟩
    | succ k ih =>
      refine ⟨?_, ?_, ?_, ?_⟩
      · intro L σ r h H locs ls hP hD hS hl
        rw [y_X5_wordOp] at h
        refine lv_iload_n hx hb dX5_wordOp_0 rfl (lv_at hl 0 rfl) ?_
        refine lv_bipush (v := 71) hx hb dX5_wordOp_1 (by decide) ?_
        refine lv_icmp_lt (tgt := 21) hx hb dX5_wordOp_3 (by decide) (fun c1 => ?_) (fun c1 => ?_)
        · rw [if_pos c1] at h
          exact ih.2.1 L σ r h H locs ls hP hD hS (lv_sub hl [0] rfl)
        · rw [if_neg c1] at h
          refine lv_iload_n hx hb dX5_wordOp_6 rfl (lv_at hl 0 rfl) ?_
          refine lv_bipush (v := 79) hx hb dX5_wordOp_7 (by decide) ?_
          refine lv_icmp_gt (tgt := 21) hx hb dX5_wordOp_9 (by decide) (fun c2 => ?_) (fun c2 => ?_)
          · rw [if_pos c2] at h
            exact ih.2.1 L σ r h H locs ls hP hD hS (lv_sub hl [0] rfl)
          · rw [if_neg c2] at h
            refine lv_sipush (v := 162) hx hb dX5_wordOp_12 (by decide) ?_
            refine lv_iload_n hx hb dX5_wordOp_15 rfl (lv_at hl 0 rfl) ?_
            refine lv_iadd hx hb dX5_wordOp_16 ?_
            refine lv_bipush (v := 71) hx hb dX5_wordOp_17 (by decide) ?_
            refine lv_isub hx hb dX5_wordOp_19 ?_
            obtain rfl := Option.some.inj h
            exact W.iret (v := (((162 + ((L.1 0)))) - 71)) hx hb hr (fun t ht hW => ⟨⟨(((162 + ((L.1 0)))) - 71), (), rfl, rfl, by rw [ht]; exact hP, va_K.moved hW.alike hK, hD⟩, hS.F ht⟩) hS.2.2 dX5_wordOp_20
      · intro L σ r h H locs ls hP hD hS hl
        rw [y_X5_wordOp] at h
        refine lv_iload_n hx hb dX5_wordOp_21 rfl (lv_at hl 0 rfl) ?_
        refine lv_bipush (v := 82) hx hb dX5_wordOp_22 (by decide) ?_
        refine lv_icmp_ne (tgt := 33) hx hb dX5_wordOp_24 (by decide) (fun c1 => ?_) (fun c1 => ?_)
        · rw [if_neg c1] at h
          exact ih.2.2.1 L σ r h H locs ls hP hD hS (lv_sub hl [] rfl)
        · rw [if_pos c1] at h
          refine lv_sipush (v := 171) hx hb dX5_wordOp_27 (by decide) ?_
          refine lv_goto (tgt := 34) hx hb dX5_wordOp_30 (by decide) ?_
          exact ih.2.2.2 (lI L 100 171) σ r h H locs ls hP hD hS (lv_sub hl [] rfl)
      · intro L σ r h H locs ls hP hD hS hl
        rw [y_X5_wordOp] at h
        refine lv_iconst (v := (-1)) hx hb dX5_wordOp_33 (by decide) ?_
        exact ih.2.2.2 (lI L 100 ((-1))) σ r h H locs ls hP hD hS (lv_sub hl [] rfl)
      · intro L σ r h H locs ls hP hD hS hl
        rw [y_X5_wordOp] at h
        obtain rfl := Option.some.inj h
        exact W.iret (v := (L.1 100)) hx hb hr (fun t ht hW => ⟨⟨(L.1 100), (), rfl, rfl, by rw [ht]; exact hP, va_K.moved hW.alike hK, hD⟩, hS.F ht⟩) hS.2.2 dX5_wordOp_34
  exact (blk k0).1 L0 σ0 r0 h0 s.heap [] ls hP hD hS hl
/-! X6_put -/
def y_X6_put : Nat → Nat → LV → CS → Option (Int32 × CS)
  | 0, _, _, _ => none
  | k + 1, 0, L, σ => if ((Int32.ofNat 10400)) ≤ ((σ.1 1203)) then (y_X6_put k 1 L σ) else (if ¬ (((σ.1 1203)) < 0 ∨ 10400 ≤ ((σ.1 1203)).toNatClampNeg) then (y_X6_put k 1 L (uI (uA σ 13 ((σ.1 1203)).toNatClampNeg (vp_nar .byte ((((L.1 1)).toInt8.toInt32)))) 1203 (((((uA σ 13 ((σ.1 1203)).toNatClampNeg (vp_nar .byte ((((L.1 1)).toInt8.toInt32)))).1 1203)) + 1)))) else none)
  | k + 1, 1, L, σ => some (0, σ)
  | _ + 1, _ + 2, _, _ => none
def o_y_X6_put : List Cond := [.fieldLink RX6 23 "SetHouse$Printer" "length" "I", .fieldLink RX6 11 "SetHouse$Printer" "text" "[B"]
theorem o_y_X6_put_good : o_y_X6_put.all goodWord = true := by decide +kernel
def p_y_X6_put : List Cond := o_y_X6_put ++ []
theorem p_y_X6_put_good : p_y_X6_put.all goodWord = true := nb_all2 o_y_X6_put_good rfl
def w_y_X6_put : List Cond := .code yX6_put cX6_put 2 none :: (p_y_X6_put ++ fC)
theorem w_y_X6_put_good : w_y_X6_put.all goodWord = true := nb_allc (by decide +kernel) (nb_all2 p_y_X6_put_good fC_good)
theorem in_y_X6_put_X6 : ∀ w ∈ wsX60, w ∈ w_y_X6_put := fun _ h => List.mem_cons_of_mem _ (List.mem_append_right _ (List.mem_append_right _ (List.mem_append_right _ (List.mem_append_right _ (List.mem_append_right _ (List.mem_append_right _ (List.mem_append_left _ h)))))))
theorem hd_y_X6_put : yX6_put.cls = RX6 ∧ yX6_put.cls ≠ "java/lang/invoke/MethodHandle" ∧ yX6_put.cls ≠ "java/lang/invoke/VarHandle" ∧ (parseMethodDescriptor yX6_put.desc).map (fun d => d.parameters.length) = some 1 := by decide +kernel
set_option maxHeartbeats 40000000 in
set_option maxRecDepth 100000 in
theorem c_y_X6_put (l : Launch) (dC : Nat → ClassId) (dI : Nat → Nat → Nat) (cy : Nat → ClassId) (a z : Nat → Nat) (k0 : Nat) (L0 : LV) (σ0 : CS) (r0 : Int32 × CS) (h0 : y_X6_put k0 0 L0 σ0 = some r0) (sz : Nat) : Met l yX6_put w_y_X6_put ({ frames := 0, cells := 0, slots := 0, locals := 0 }) (va_Pc [.ref (a 12), .int (L0.1 1)] (nIn (dC, dI) cy sz (vC cy a z σ0))) (va_Qv (fun _ : Unit => True) (fun _ t => nOut (dC, dI) cy (va_A (vC cy a z σ0) sz) (vC cy a z r0.2) t) (va_A (vC cy a z σ0) sz)) 0 0 (va_A (vC cy a z σ0) sz) := by
  refine Met.ofW (cc := cX6_put) (maxL := 2) (ret := none) (by decide) rfl ?_
  intro p e s m args below meth c s₁ B hml hv
  obtain ⟨rfl, hsz, hP, hK, hD0, hG⟩ := hv
  have hx := B.exec
  have hb := B.bytes
  have hr := B.returns
  have hts := atoms_spec (ws := w_y_X6_put) B.pre
  have hown : s.vm.findClass RX6 = some m.cls := findClass_of_methodNamed B.named
  have hlocks := B.notSynchronized
  subst hsz
  have hD := hD0.self (sz := s.heap.size)
  generalize hAe : va_A (vC cy a z σ0) s.heap.size = A at hD ⊢
  have hA : ∀ q : Nat, s.heap.size ≤ q → A q := fun q h => by rw [← hAe]; exact Or.inr h
  have hS : va_S A s.heap s.heap [] := va_S.rf
  have hl := lv_entry ([.ref (a 12), .int (L0.1 1)]) (n := 2) (Nat.le_of_ble_eq_true rfl)
  rw [lg_entry_eq]
  generalize (lg_sl ([.ref (a 12), .int (L0.1 1)]) ++ List.replicate (2 - (lg_sl ([.ref (a 12), .int (L0.1 1)])).length) Slot.unset).toArray = ls at hl ⊢
  have hl : lv_has ls 2 [(0, .ref (a 12)), (1, .int (L0.1 1))] := hl
  have blk : ∀ k : Nat, (bC p l e (headSpec w_y_X6_put ({ frames := 0, cells := 0, slots := 0, locals := 0 })).room s m #[.ref (a 12), .int (L0.1 1)] below meth c dC dI cy a z A (kV dC dI cy a z A below #[.ref (a 12), .int (L0.1 1)] s) 2 (y_X6_put k 0) (fun L => [(0, .ref (a 12)), (1, .int (L.1 1))]) 0 (fun L => [])) ∧ (bC p l e (headSpec w_y_X6_put ({ frames := 0, cells := 0, slots := 0, locals := 0 })).room s m #[.ref (a 12), .int (L0.1 1)] below meth c dC dI cy a z A (kV dC dI cy a z A below #[.ref (a 12), .int (L0.1 1)] s) 2 (y_X6_put k 1) (fun L => []) 33 (fun L => [])) := by
    intro k
    induction k with
    | zero => exact ⟨fun L σ r h => (by cases h), fun L σ r h => (by cases h)⟩
    | succ k ih =>
      refine ⟨?_, ?_⟩
      · intro L σ r h H locs ls hP hD hS hl
        rw [y_X6_put] at h
        refine lv_aload_n hx hb dX6_put_0 rfl (lv_at hl 0 rfl) ?_
        refine hg_12_3 hx hb hts in_y_X6_put_X6 hown hK hP (hts _ (List.mem_cons_of_mem _ (List.mem_append_left _ (List.mem_append_left _ (List.mem_of_getElem? (i := 0) rfl))))) dX6_put_1 ?_
        refine lv_aload_n hx hb dX6_put_4 rfl (lv_at hl 0 rfl) ?_
        refine hg_12_2 hx hb hts in_y_X6_put_X6 hown hK hP (hts _ (List.mem_cons_of_mem _ (List.mem_append_left _ (List.mem_append_left _ (List.mem_of_getElem? (i := 1) rfl))))) dX6_put_5 ?_
        refine hn_13 hx hb hK hP dX6_put_8 ?_
        refine lv_icmp_ge (tgt := 33) hx hb dX6_put_9 (by decide) (fun c1 => ?_) (fun c1 => ?_)
        · rw [if_pos c1] at h
          exact ih.2 L σ r h H locs ls hP hD hS (lv_sub hl [] rfl)
        · rw [if_neg c1] at h
          refine lv_aload_n hx hb dX6_put_12 rfl (lv_at hl 0 rfl) ?_
          refine hg_12_2 hx hb hts in_y_X6_put_X6 hown hK hP (hts _ (List.mem_cons_of_mem _ (List.mem_append_left _ (List.mem_append_left _ (List.mem_of_getElem? (i := 1) rfl))))) dX6_put_13 ?_
          refine lv_aload_n hx hb dX6_put_16 rfl (lv_at hl 0 rfl) ?_
          refine hg_12_3 hx hb hts in_y_X6_put_X6 hown hK hP (hts _ (List.mem_cons_of_mem _ (List.mem_append_left _ (List.mem_append_left _ (List.mem_of_getElem? (i := 0) rfl))))) dX6_put_17 ?_
          refine lv_iload_n hx hb dX6_put_20 rfl (lv_at hl 1 rfl) ?_
          refine lv_i2b (v := ((L.1 1)).toInt8.toInt32) hx hb dX6_put_21 rfl ?_
          obtain ⟨q2, h⟩ := kb_ite1 h
          refine hs_13 hx hb hK hP hD hS q2 dX6_put_22 (fun H locs hP hD hS => ?_)
          refine lv_aload_n hx hb dX6_put_23 rfl (lv_at hl 0 rfl) ?_
          refine lv_dup hx hb dX6_put_24 rfl ?_
          refine hg_12_3 hx hb hts in_y_X6_put_X6 hown hK hP (hts _ (List.mem_cons_of_mem _ (List.mem_append_left _ (List.mem_append_left _ (List.mem_of_getElem? (i := 0) rfl))))) dX6_put_25 ?_
          refine lv_iconst (v := 1) hx hb dX6_put_28 (by decide) ?_
          refine lv_iadd hx hb dX6_put_29 ?_
          refine hp_12_3 hx hb hts in_y_X6_put_X6 hown hK hP hD hS (hts _ (List.mem_cons_of_mem _ (List.mem_append_left _ (List.mem_append_left _ (List.mem_of_getElem? (i := 0) rfl))))) dX6_put_30 (fun H locs hP hD hS => ?_)
          exact ih.2 L (uI (uA σ 13 ((σ.1 1203)).toNatClampNeg (vp_nar .byte ((((L.1 1)).toInt8.toInt32)))) 1203 (((((uA σ 13 ((σ.1 1203)).toNatClampNeg (vp_nar .byte ((((L.1 1)).toInt8.toInt32)))).1 1203)) + 1))) r h H locs ls hP hD hS (lv_sub hl [] rfl)
      · intro L σ r h H locs ls hP hD hS hl
        rw [y_X6_put] at h
        obtain rfl := Option.some.inj h
        exact W.vret hx hb hr (fun t ht hW => ⟨⟨(), rfl, trivial, by rw [ht]; exact hP, va_K.moved hW.alike hK, hD⟩, hS.F ht⟩) hS.2.2 dX6_put_33
  exact (blk k0).1 L0 σ0 r0 h0 s.heap [] ls hP hD hS hl
/-! X1_copyBytes__a13 -/
def y_X1_copyBytes__a13 : Nat → Nat → LV → CS → Option (Int32 × CS)
  | 0, _, _, _ => none
  | k + 1, 0, L, σ => y_X1_copyBytes__a13 k 1 (lI L 6 0) σ
  | k + 1, 1, L, σ => if ((L.1 3)) ≤ ((L.1 6)) then (y_X1_copyBytes__a13 k 2 L σ) else (if ((Int32.ofNat 10400)) ≤ ((((L.1 5)) + ((L.1 6)))) then (y_X1_copyBytes__a13 k 2 L σ) else (if 0 ≤ ((L.1 1)) then (y_X1_copyBytes__a13 k 3 (lI (lI L 7 ((((L.1 2)) + ((L.1 6))))) 100 ((((L.1 5)) + ((L.1 6))))) σ) else (y_X1_copyBytes__a13 k 4 (lI (lI L 100 ((L.1 1))) 101 ((((L.1 5)) + ((L.1 6))))) σ)))
  | k + 1, 2, L, σ => some ((((L.1 5)) + ((L.1 3))), σ)
  | k + 1, 3, L, σ => if ¬ (((((((L.1 1)) + 1)) + ((((L.1 7)) >>> ((2 : Int32) &&& 31))))) < 0 ∨ (sN σ 3) ≤ ((((((L.1 1)) + 1)) + ((((L.1 7)) >>> ((2 : Int32) &&& 31))))).toNatClampNeg) then (y_X1_copyBytes__a13 k 4 (lI (lI L 100 (((((σ.2.2.1 3 ((((((L.1 1)) + 1)) + ((((L.1 7)) >>> ((2 : Int32) &&& 31))))).toNatClampNeg)).toUInt32 >>> (((((((L.1 7)) &&& 3)) <<< ((3 : Int32) &&& 31))).toUInt32 &&& Int32.toUInt32 31)).toInt32))) 101 ((L.1 100))) σ) else none
  | k + 1, 4, L, σ => if ¬ (((L.1 101)) < 0 ∨ 10400 ≤ ((L.1 101)).toNatClampNeg) then (y_X1_copyBytes__a13 k 1 (lI L 6 ((((L.1 6)) + 1))) (uA σ 13 ((L.1 101)).toNatClampNeg (vp_nar .byte ((((L.1 100)).toInt8.toInt32))))) else none
  | _ + 1, _ + 5, _, _ => none
def o_y_X1_copyBytes__a13 : List Cond := [.fieldLink RX1 11 "SetHouse$Heap" "mem" "[I"]
theorem o_y_X1_copyBytes__a13_good : o_y_X1_copyBytes__a13.all goodWord = true := by decide +kernel
def p_y_X1_copyBytes__a13 : List Cond := o_y_X1_copyBytes__a13 ++ []
theorem p_y_X1_copyBytes__a13_good : p_y_X1_copyBytes__a13.all goodWord = true := nb_all2 o_y_X1_copyBytes__a13_good rfl
def w_y_X1_copyBytes__a13 : List Cond := .code yX1_copyBytes cX1_copyBytes 8 (some .int) :: (p_y_X1_copyBytes__a13 ++ fC)
theorem w_y_X1_copyBytes__a13_good : w_y_X1_copyBytes__a13.all goodWord = true := nb_allc (by decide +kernel) (nb_all2 p_y_X1_copyBytes__a13_good fC_good)
theorem in_y_X1_copyBytes__a13_X1 : ∀ w ∈ wsX10, w ∈ w_y_X1_copyBytes__a13 := fun _ h => List.mem_cons_of_mem _ (List.mem_append_right _ (List.mem_append_right _ (List.mem_append_left _ h)))
theorem hd_y_X1_copyBytes__a13 : yX1_copyBytes.cls = RX1 ∧ yX1_copyBytes.cls ≠ "java/lang/invoke/MethodHandle" ∧ yX1_copyBytes.cls ≠ "java/lang/invoke/VarHandle" ∧ (parseMethodDescriptor yX1_copyBytes.desc).map (fun d => d.parameters.length) = some 5 := by decide +kernel
set_option maxHeartbeats 40000000 in
set_option maxRecDepth 100000 in
theorem c_y_X1_copyBytes__a13 (l : Launch) (dC : Nat → ClassId) (dI : Nat → Nat → Nat) (cy : Nat → ClassId) (a z : Nat → Nat) (k0 : Nat) (L0 : LV) (σ0 : CS) (r0 : Int32 × CS) (h0 : y_X1_copyBytes__a13 k0 0 L0 σ0 = some r0) (sz : Nat) : Met l yX1_copyBytes w_y_X1_copyBytes__a13 ({ frames := 0, cells := 0, slots := 0, locals := 0 }) (va_Pc [.ref (a 0), .int (L0.1 1), .int (L0.1 2), .int (L0.1 3), .ref (a 13), .int (L0.1 5)] (nIn (dC, dI) cy sz (vC cy a z σ0))) (va_Qi (fun (x : Int32) (_ : Unit) => x = r0.1) (fun _ t => nOut (dC, dI) cy (va_A (vC cy a z σ0) sz) (vC cy a z r0.2) t) (va_A (vC cy a z σ0) sz)) 0 0 (va_A (vC cy a z σ0) sz) := by
  refine Met.ofW (cc := cX1_copyBytes) (maxL := 8) (ret := (some .int)) (by decide) rfl ?_
  intro p e s m args below meth c s₁ B hml hv
  obtain ⟨rfl, hsz, hP, hK, hD0, hG⟩ := hv
  have hx := B.exec
  have hb := B.bytes
  have hr := B.returns
  have hts := atoms_spec (ws := w_y_X1_copyBytes__a13) B.pre
  have hown : s.vm.findClass RX1 = some m.cls := findClass_of_methodNamed B.named
  have hlocks := B.notSynchronized
  subst hsz
  have hD := hD0.self (sz := s.heap.size)
  generalize hAe : va_A (vC cy a z σ0) s.heap.size = A at hD ⊢
  have hA : ∀ q : Nat, s.heap.size ≤ q → A q := fun q h => by rw [← hAe]; exact Or.inr h
  have hS : va_S A s.heap s.heap [] := va_S.rf
  have hl := lv_entry ([.ref (a 0), .int (L0.1 1), .int (L0.1 2), .int (L0.1 3), .ref (a 13), .int (L0.1 5)]) (n := 8) (Nat.le_of_ble_eq_true rfl)
  rw [lg_entry_eq]
  generalize (lg_sl ([.ref (a 0), .int (L0.1 1), .int (L0.1 2), .int (L0.1 3), .ref (a 13), .int (L0.1 5)]) ++ List.replicate (8 - (lg_sl ([.ref (a 0), .int (L0.1 1), .int (L0.1 2), .int (L0.1 3), .ref (a 13), .int (L0.1 5)])).length) Slot.unset).toArray = ls at hl ⊢
  have hl : lv_has ls 8 [(0, .ref (a 0)), (1, .int (L0.1 1)), (2, .int (L0.1 2)), (3, .int (L0.1 3)), (4, .ref (a 13)), (5, .int (L0.1 5))] := hl
  have blk : ∀ k : Nat, (bC p l e (headSpec w_y_X1_copyBytes__a13 ({ frames := 0, cells := 0, slots := 0, locals := 0 })).room s m #[.ref (a 0), .int (L0.1 1), .int (L0.1 2), .int (L0.1 3), .ref (a 13), .int (L0.1 5)] below meth c dC dI cy a z A (kI dC dI cy a z A below #[.ref (a 0), .int (L0.1 1), .int (L0.1 2), .int (L0.1 3), .ref (a 13), .int (L0.1 5)] s) 8 (y_X1_copyBytes__a13 k 0) (fun L => [(0, .ref (a 0)), (1, .int (L.1 1)), (2, .int (L.1 2)), (3, .int (L.1 3)), (4, .ref (a 13)), (5, .int (L.1 5))]) 0 (fun L => [])) ∧ (bC p l e (headSpec w_y_X1_copyBytes__a13 ({ frames := 0, cells := 0, slots := 0, locals := 0 })).room s m #[.ref (a 0), .int (L0.1 1), .int (L0.1 2), .int (L0.1 3), .ref (a 13), .int (L0.1 5)] below meth c dC dI cy a z A (kI dC dI cy a z A below #[.ref (a 0), .int (L0.1 1), .int (L0.1 2), .int (L0.1 3), .ref (a 13), .int (L0.1 5)] s) 8 (y_X1_copyBytes__a13 k 1) (fun L => [(0, .ref (a 0)), (1, .int (L.1 1)), (2, .int (L.1 2)), (3, .int (L.1 3)), (4, .ref (a 13)), (5, .int (L.1 5)), (6, .int (L.1 6))]) 3 (fun L => [])) ∧ (bC p l e (headSpec w_y_X1_copyBytes__a13 ({ frames := 0, cells := 0, slots := 0, locals := 0 })).room s m #[.ref (a 0), .int (L0.1 1), .int (L0.1 2), .int (L0.1 3), .ref (a 13), .int (L0.1 5)] below meth c dC dI cy a z A (kI dC dI cy a z A below #[.ref (a 0), .int (L0.1 1), .int (L0.1 2), .int (L0.1 3), .ref (a 13), .int (L0.1 5)] s) 8 (y_X1_copyBytes__a13 k 2) (fun L => [(3, .int (L.1 3)), (5, .int (L.1 5))]) 69 (fun L => [])) ∧ (bC p l e (headSpec w_y_X1_copyBytes__a13 ({ frames := 0, cells := 0, slots := 0, locals := 0 })).room s m #[.ref (a 0), .int (L0.1 1), .int (L0.1 2), .int (L0.1 3), .ref (a 13), .int (L0.1 5)] below meth c dC dI cy a z A (kI dC dI cy a z A below #[.ref (a 0), .int (L0.1 1), .int (L0.1 2), .int (L0.1 3), .ref (a 13), .int (L0.1 5)] s) 8 (y_X1_copyBytes__a13 k 3) (fun L => [(0, .ref (a 0)), (1, .int (L.1 1)), (2, .int (L.1 2)), (3, .int (L.1 3)), (4, .ref (a 13)), (5, .int (L.1 5)), (6, .int (L.1 6)), (7, .int (L.1 7))]) 41 (fun L => [.int (L.1 100), .ref (a 13)])) ∧ (bC p l e (headSpec w_y_X1_copyBytes__a13 ({ frames := 0, cells := 0, slots := 0, locals := 0 })).room s m #[.ref (a 0), .int (L0.1 1), .int (L0.1 2), .int (L0.1 3), .ref (a 13), .int (L0.1 5)] below meth c dC dI cy a z A (kI dC dI cy a z A below #[.ref (a 0), .int (L0.1 1), .int (L0.1 2), .int (L0.1 3), .ref (a 13), .int (L0.1 5)] s) 8 (y_X1_copyBytes__a13 k 4) (fun L => [(0, .ref (a 0)), (1, .int (L.1 1)), (2, .int (L.1 2)), (3, .int (L.1 3)), (4, .ref (a 13)), (5, .int (L.1 5)), (6, .int (L.1 6))]) 61 (fun L => [.int (L.1 100), .int (L.1 101), .ref (a 13)])) := by
    intro k
    induction k with
    | zero => exact ⟨fun L σ r h => (by cases h), fun L σ r h => (by cases h), fun L σ r h => (by cases h), fun L σ r h => (by cases h), fun L σ r h => (by cases h)⟩
    | succ k ih =>
      refine ⟨?_, ?_, ?_, ?_, ?_⟩
      · intro L σ r h H locs ls hP hD hS hl
        rw [y_X1_copyBytes__a13] at h
        refine lv_iconst (v := 0) hx hb dX1_copyBytes_0 (by decide) ?_
        refine lv_istore (lv' := [(6, .int 0), (0, .ref (a 0)), (1, .int (L.1 1)), (2, .int (L.1 2)), (3, .int (L.1 3)), (4, .ref (a 13)), (5, .int (L.1 5))]) hx hb dX1_copyBytes_1 hl (by decide) rfl (fun ls hl => ?_)
        exact ih.2.1 (lI L 6 0) σ r h H locs ls hP hD hS (lv_sub hl [1, 2, 3, 4, 5, 6, 0] rfl)
      · intro L σ r h H locs ls hP hD hS hl
        rw [y_X1_copyBytes__a13] at h
        refine lv_iload hx hb dX1_copyBytes_3 (lv_at hl 6 rfl) ?_
        refine lv_iload_n hx hb dX1_copyBytes_5 rfl (lv_at hl 3 rfl) ?_
        refine lv_icmp_ge (tgt := 69) hx hb dX1_copyBytes_6 (by decide) (fun c1 => ?_) (fun c1 => ?_)
        · rw [if_pos c1] at h
          exact ih.2.2.1 L σ r h H locs ls hP hD hS (lv_sub hl [3, 5] rfl)
        · rw [if_neg c1] at h
          refine lv_iload hx hb dX1_copyBytes_9 (lv_at hl 5 rfl) ?_
          refine lv_iload hx hb dX1_copyBytes_11 (lv_at hl 6 rfl) ?_
          refine lv_iadd hx hb dX1_copyBytes_13 ?_
          refine lv_aload hx hb dX1_copyBytes_14 (lv_at hl 4 rfl) ?_
          refine hn_13 hx hb hK hP dX1_copyBytes_16 ?_
          refine lv_icmp_ge (tgt := 69) hx hb dX1_copyBytes_17 (by decide) (fun c2 => ?_) (fun c2 => ?_)
          · rw [if_pos c2] at h
            exact ih.2.2.1 L σ r h H locs ls hP hD hS (lv_sub hl [3, 5] rfl)
          · rw [if_neg c2] at h
            refine lv_iload_n hx hb dX1_copyBytes_20 rfl (lv_at hl 2 rfl) ?_
            refine lv_iload hx hb dX1_copyBytes_21 (lv_at hl 6 rfl) ?_
            refine lv_iadd hx hb dX1_copyBytes_23 ?_
            refine lv_istore (lv' := [(7, .int (((L.1 2)) + ((L.1 6)))), (0, .ref (a 0)), (1, .int (L.1 1)), (2, .int (L.1 2)), (3, .int (L.1 3)), (4, .ref (a 13)), (5, .int (L.1 5)), (6, .int (L.1 6))]) hx hb dX1_copyBytes_24 hl (by decide) rfl (fun ls hl => ?_)
            refine lv_aload hx hb dX1_copyBytes_26 (lv_at hl 5 rfl) ?_
            refine lv_iload hx hb dX1_copyBytes_28 (lv_at hl 6 rfl) ?_
            refine lv_iload hx hb dX1_copyBytes_30 (lv_at hl 7 rfl) ?_
            refine lv_iadd hx hb dX1_copyBytes_32 ?_
            refine lv_iload_n hx hb dX1_copyBytes_33 rfl (lv_at hl 2 rfl) ?_
            refine lv_if_ge (tgt := 41) hx hb dX1_copyBytes_34 (by decide) (fun c3 => ?_) (fun c3 => ?_)
            · rw [if_pos c3] at h
              exact ih.2.2.2.1 (lI (lI L 7 ((((L.1 2)) + ((L.1 6))))) 100 ((((L.1 5)) + ((L.1 6))))) σ r h H locs ls hP hD hS (lv_sub hl [1, 2, 3, 4, 5, 6, 7, 0] rfl)
            · rw [if_neg c3] at h
              refine lv_iload_n hx hb dX1_copyBytes_37 rfl (lv_at hl 2 rfl) ?_
              refine lv_goto (tgt := 61) hx hb dX1_copyBytes_38 (by decide) ?_
              exact ih.2.2.2.2 (lI (lI L 100 ((L.1 1))) 101 ((((L.1 5)) + ((L.1 6))))) σ r h H locs ls hP hD hS (lv_sub hl [1, 2, 3, 4, 5, 6, 7] rfl)
      · intro L σ r h H locs ls hP hD hS hl
        rw [y_X1_copyBytes__a13] at h
        refine lv_iload hx hb dX1_copyBytes_69 (lv_at hl 1 rfl) ?_
        refine lv_iload_n hx hb dX1_copyBytes_71 rfl (lv_at hl 0 rfl) ?_
        refine lv_iadd hx hb dX1_copyBytes_72 ?_
        obtain rfl := Option.some.inj h
        exact W.iret (v := (((L.1 5)) + ((L.1 3)))) hx hb hr (fun t ht hW => ⟨⟨(((L.1 5)) + ((L.1 3))), (), rfl, rfl, by rw [ht]; exact hP, va_K.moved hW.alike hK, hD⟩, hS.F ht⟩) hS.2.2 dX1_copyBytes_73
      · intro L σ r h H locs ls hP hD hS hl
        rw [y_X1_copyBytes__a13] at h
        refine lv_aload_n hx hb dX1_copyBytes_41 rfl (lv_at hl 0 rfl) ?_
        refine hg_0_0 hx hb hts in_y_X1_copyBytes__a13_X1 hown hK hP (hts _ (List.mem_cons_of_mem _ (List.mem_append_left _ (List.mem_append_left _ (List.mem_of_getElem? (i := 0) rfl))))) dX1_copyBytes_42 ?_
        refine lv_iload_n hx hb dX1_copyBytes_45 rfl (lv_at hl 1 rfl) ?_
        refine lv_iconst (v := 1) hx hb dX1_copyBytes_46 (by decide) ?_
        refine lv_iadd hx hb dX1_copyBytes_47 ?_
        refine lv_iload hx hb dX1_copyBytes_48 (lv_at hl 7 rfl) ?_
        refine lv_iconst (v := 2) hx hb dX1_copyBytes_50 (by decide) ?_
        refine lv_ishr hx hb dX1_copyBytes_51 ?_
        refine lv_iadd hx hb dX1_copyBytes_52 ?_
        obtain ⟨q1, h⟩ := kb_ite1 h
        refine hl_3 hx hb hK hP q1 dX1_copyBytes_53 ?_
        refine lv_iload hx hb dX1_copyBytes_54 (lv_at hl 7 rfl) ?_
        refine lv_iconst (v := 3) hx hb dX1_copyBytes_56 (by decide) ?_
        refine lv_iand hx hb dX1_copyBytes_57 ?_
        refine lv_iconst (v := 3) hx hb dX1_copyBytes_58 (by decide) ?_
        refine lv_ishl hx hb dX1_copyBytes_59 ?_
        refine lv_iushr (v := (((σ.2.2.1 3 ((((((L.1 1)) + 1)) + ((((L.1 7)) >>> ((2 : Int32) &&& 31))))).toNatClampNeg)).toUInt32 >>> (((((((L.1 7)) &&& 3)) <<< ((3 : Int32) &&& 31))).toUInt32 &&& Int32.toUInt32 31)).toInt32) hx hb dX1_copyBytes_60 rfl ?_
        exact ih.2.2.2.2 (lI (lI L 100 (((((σ.2.2.1 3 ((((((L.1 1)) + 1)) + ((((L.1 7)) >>> ((2 : Int32) &&& 31))))).toNatClampNeg)).toUInt32 >>> (((((((L.1 7)) &&& 3)) <<< ((3 : Int32) &&& 31))).toUInt32 &&& Int32.toUInt32 31)).toInt32))) 101 ((L.1 100))) σ r h H locs ls hP hD hS (lv_sub hl [0, 1, 2, 3, 4, 5, 6] rfl)
      · intro L σ r h H locs ls hP hD hS hl
        rw [y_X1_copyBytes__a13] at h
        refine lv_i2b (v := ((L.1 100)).toInt8.toInt32) hx hb dX1_copyBytes_61 rfl ?_
        obtain ⟨q1, h⟩ := kb_ite1 h
        refine hs_13 hx hb hK hP hD hS q1 dX1_copyBytes_62 (fun H locs hP hD hS => ?_)
        refine lv_iinc (v := ((L.1 6)) + 1) (lv' := [(6, .int (((L.1 6)) + 1)), (0, .ref (a 0)), (1, .int (L.1 1)), (2, .int (L.1 2)), (3, .int (L.1 3)), (4, .ref (a 13)), (5, .int (L.1 5))]) hx hb dX1_copyBytes_63 hl (k := 6) rfl rfl (by decide) rfl (fun ls hl => ?_)
        refine lv_goto (tgt := 3) hx hb dX1_copyBytes_66 (by decide) ?_
        exact ih.2.1 (lI L 6 ((((L.1 6)) + 1))) (uA σ 13 ((L.1 101)).toNatClampNeg (vp_nar .byte ((((L.1 100)).toInt8.toInt32)))) r h H locs ls hP hD hS (lv_sub hl [1, 2, 3, 4, 5, 6, 0] rfl)
  exact (blk k0).1 L0 σ0 r0 h0 s.heap [] ls hP hD hS hl
/-! X6_writeBytes -/
def y_X6_writeBytes : Nat → Nat → LV → CS → Option (Int32 × CS)
  | 0, _, _, _ => none
  | k + 1, 0, L, σ => oc (y_X1_length k 0 (lI lZ 1 ((L.1 1))) σ) (fun r1 => oc (y_X1_copyBytes__a13 k 0 (lI (lI (lI (lI lZ 1 ((L.1 1))) 2 0) 3 ((if ((((Int32.ofNat 10400)) - ((r1.2.1 1203)))) < r1.1 then ((((Int32.ofNat 10400)) - ((r1.2.1 1203)))) else r1.1))) 5 ((r1.2.1 1203))) r1.2) (fun r2 => some (0, (uI r2.2 1203 r2.1))))
  | _ + 1, _ + 1, _, _ => none
def o_y_X6_writeBytes : List Cond := [.fieldLink RX6 15 "SetHouse$Printer" "heap" "LSetHouse$Heap;", .methodLink RX6 68 yX1_length, .instanceMethod yX1_length, .selects RX1 yX1_length yX1_length, .initialized RX1, .fieldLink RX6 11 "SetHouse$Printer" "text" "[B", .fieldLink RX6 23 "SetHouse$Printer" "length" "I", .methodLink RX6 79 yX1_copyBytes, .instanceMethod yX1_copyBytes, .selects RX1 yX1_copyBytes yX1_copyBytes, .methodLink RX6 74 Lib.Math.min.name, .static Lib.Math.min.name, .initialized "java/lang/Math", .code Lib.Math.min.name Lib.Math.min.code 2 (some .int)]
theorem o_y_X6_writeBytes_good : o_y_X6_writeBytes.all goodWord = true := by decide +kernel
def p_y_X6_writeBytes : List Cond := o_y_X6_writeBytes ++ ((.code yX1_length cX1_length 2 (some .int) :: p_y_X1_length) ++ ((.code yX1_copyBytes cX1_copyBytes 8 (some .int) :: p_y_X1_copyBytes__a13) ++ []))
theorem p_y_X6_writeBytes_good : p_y_X6_writeBytes.all goodWord = true := nb_all2 o_y_X6_writeBytes_good (nb_all2 (nb_allc (by decide +kernel) p_y_X1_length_good) (nb_all2 (nb_allc (by decide +kernel) p_y_X1_copyBytes__a13_good) rfl))
def w_y_X6_writeBytes : List Cond := .code yX6_writeBytes cX6_writeBytes 3 none :: (p_y_X6_writeBytes ++ fC)
theorem w_y_X6_writeBytes_good : w_y_X6_writeBytes.all goodWord = true := nb_allc (by decide +kernel) (nb_all2 p_y_X6_writeBytes_good fC_good)
theorem in_y_X6_writeBytes_X6 : ∀ w ∈ wsX60, w ∈ w_y_X6_writeBytes := fun _ h => List.mem_cons_of_mem _ (List.mem_append_right _ (List.mem_append_right _ (List.mem_append_right _ (List.mem_append_right _ (List.mem_append_right _ (List.mem_append_right _ (List.mem_append_left _ h)))))))
theorem hd_y_X6_writeBytes : yX6_writeBytes.cls = RX6 ∧ yX6_writeBytes.cls ≠ "java/lang/invoke/MethodHandle" ∧ yX6_writeBytes.cls ≠ "java/lang/invoke/VarHandle" ∧ (parseMethodDescriptor yX6_writeBytes.desc).map (fun d => d.parameters.length) = some 1 := by decide +kernel
theorem gg_y_X6_writeBytes_X1_copyBytes__a13 : GoodIn w_y_X6_writeBytes w_y_X1_copyBytes__a13 := goodIn_sub (fun w h => (List.mem_cons.mp h).elim (fun e => (List.mem_cons_of_mem _ (List.mem_append_left _ (List.mem_append_right _ (List.mem_append_right _ (List.mem_append_left _ (List.mem_cons.mpr (Or.inl e)))))))) (fun h => (List.mem_append.mp h).elim (fun h => (List.mem_cons_of_mem _ (List.mem_append_left _ (List.mem_append_right _ (List.mem_append_right _ (List.mem_append_left _ (List.mem_cons_of_mem _ h))))))) (fun h => List.mem_cons_of_mem _ (List.mem_append_right _ h)))) w_y_X1_copyBytes__a13_good
theorem g_y_X6_writeBytes_X1_copyBytes__a13_V79 : GoodIn w_y_X6_writeBytes (wsV RX6 79 RX1 yX1_copyBytes w_y_X1_copyBytes__a13) := goodIn_app (nb_g4 (List.mem_cons_of_mem _ (List.mem_append_left _ (List.mem_append_left _ (List.mem_of_getElem? (i := 7) rfl)))) (List.mem_cons_of_mem _ (List.mem_append_left _ (List.mem_append_left _ (List.mem_of_getElem? (i := 8) rfl)))) (List.mem_cons_of_mem _ (List.mem_append_left _ (List.mem_append_left _ (List.mem_of_getElem? (i := 9) rfl)))) (List.mem_cons_of_mem _ (List.mem_append_left _ (List.mem_append_left _ (List.mem_of_getElem? (i := 4) rfl)))) (by decide +kernel)) gg_y_X6_writeBytes_X1_copyBytes__a13
theorem gg_y_X6_writeBytes_X1_length : GoodIn w_y_X6_writeBytes w_y_X1_length := goodIn_sub (fun w h => (List.mem_cons.mp h).elim (fun e => (List.mem_cons_of_mem _ (List.mem_append_left _ (List.mem_append_right _ (List.mem_append_left _ (List.mem_cons.mpr (Or.inl e))))))) (fun h => (List.mem_append.mp h).elim (fun h => (List.mem_cons_of_mem _ (List.mem_append_left _ (List.mem_append_right _ (List.mem_append_left _ (List.mem_cons_of_mem _ h)))))) (fun h => List.mem_cons_of_mem _ (List.mem_append_right _ h)))) w_y_X1_length_good
theorem g_y_X6_writeBytes_X1_length_V68 : GoodIn w_y_X6_writeBytes (wsV RX6 68 RX1 yX1_length w_y_X1_length) := goodIn_app (nb_g4 (List.mem_cons_of_mem _ (List.mem_append_left _ (List.mem_append_left _ (List.mem_of_getElem? (i := 1) rfl)))) (List.mem_cons_of_mem _ (List.mem_append_left _ (List.mem_append_left _ (List.mem_of_getElem? (i := 2) rfl)))) (List.mem_cons_of_mem _ (List.mem_append_left _ (List.mem_append_left _ (List.mem_of_getElem? (i := 3) rfl)))) (List.mem_cons_of_mem _ (List.mem_append_left _ (List.mem_append_left _ (List.mem_of_getElem? (i := 4) rfl)))) (by decide +kernel)) gg_y_X6_writeBytes_X1_length
set_option maxHeartbeats 40000000 in
set_option maxRecDepth 100000 in
theorem c_y_X6_writeBytes (l : Launch) (dC : Nat → ClassId) (dI : Nat → Nat → Nat) (cy : Nat → ClassId) (a z : Nat → Nat) (k0 : Nat) (L0 : LV) (σ0 : CS) (r0 : Int32 × CS) (h0 : y_X6_writeBytes k0 0 L0 σ0 = some r0) (sz : Nat) : Met l yX6_writeBytes w_y_X6_writeBytes ({ frames := 1, cells := 0, slots := 0, locals := 27 }) (va_Pc [.ref (a 12), .int (L0.1 1)] (nIn (dC, dI) cy sz (vC cy a z σ0))) (va_Qv (fun _ : Unit => True) (fun _ t => nOut (dC, dI) cy (va_A (vC cy a z σ0) sz) (vC cy a z r0.2) t) (va_A (vC cy a z σ0) sz)) 0 0 (va_A (vC cy a z σ0) sz) := by
  refine Met.ofW (cc := cX6_writeBytes) (maxL := 3) (ret := none) (by decide) rfl ?_
  intro p e s m args below meth c s₁ B hml hv
  obtain ⟨rfl, hsz, hP, hK, hD0, hG⟩ := hv
  have hx := B.exec
  have hb := B.bytes
  have hr := B.returns
  have hts := atoms_spec (ws := w_y_X6_writeBytes) B.pre
  have hown : s.vm.findClass RX6 = some m.cls := findClass_of_methodNamed B.named
  have hlocks := B.notSynchronized
  subst hsz
  have hD := hD0.self (sz := s.heap.size)
  generalize hAe : va_A (vC cy a z σ0) s.heap.size = A at hD ⊢
  have hA : ∀ q : Nat, s.heap.size ≤ q → A q := fun q h => by rw [← hAe]; exact Or.inr h
  have hS : va_S A s.heap s.heap [] := va_S.rf
  have hl := lv_entry ([.ref (a 12), .int (L0.1 1)]) (n := 3) (Nat.le_of_ble_eq_true rfl)
  rw [lg_entry_eq]
  generalize (lg_sl ([.ref (a 12), .int (L0.1 1)]) ++ List.replicate (3 - (lg_sl ([.ref (a 12), .int (L0.1 1)])).length) Slot.unset).toArray = ls at hl ⊢
  have hl : lv_has ls 3 [(0, .ref (a 12)), (1, .int (L0.1 1))] := hl
  have blk : ∀ k : Nat, (bC p l e (headSpec w_y_X6_writeBytes ({ frames := 1, cells := 0, slots := 0, locals := 27 })).room s m #[.ref (a 12), .int (L0.1 1)] below meth c dC dI cy a z A (kV dC dI cy a z A below #[.ref (a 12), .int (L0.1 1)] s) 3 (y_X6_writeBytes k 0) (fun L => [(0, .ref (a 12)), (1, .int (L.1 1))]) 0 (fun L => [])) := by
    intro k
    induction k with
    | zero => exact fun L σ r h => (by cases h)
    | succ k ih =>
      skip
      · intro L σ r h H locs ls hP hD hS hl
        rw [y_X6_writeBytes] at h
        refine lv_aload_n hx hb dX6_writeBytes_0 rfl (lv_at hl 0 rfl) ?_
        refine hg_12_0 hx hb hts in_y_X6_writeBytes_X6 hown hK hP (hts _ (List.mem_cons_of_mem _ (List.mem_append_left _ (List.mem_append_left _ (List.mem_of_getElem? (i := 0) rfl))))) dX6_writeBytes_1 ?_
        refine lv_iload_n hx hb dX6_writeBytes_4 rfl (lv_at hl 1 rfl) ?_
        obtain ⟨r1, hc1, h⟩ := oc_ex h
        refine kc_i (va_runV (As := [.int (L.1 1)]) (rest := []) ⟨hx, hb, hml, hown, hts⟩ (c_y_X1_length l dC dI cy a z k (lI lZ 1 ((L.1 1))) σ r1 hc1 H.size) (cwV 1 hts g_y_X6_writeBytes_X1_length_V68 rfl rfl rfl hd_y_X1_length ⟨Nat.le_of_ble_eq_true rfl, Nat.le_of_ble_eq_true rfl⟩) ⟨nb_blind, va_recv hK hP (ci := 1) (q0 := 0) rfl rfl, (kb_pre hK hG hP hD)⟩ rfl rfl hl.1 rfl (lv_room (Nat.le_of_ble_eq_true rfl)) dX6_writeBytes_5 ⟨Nat.le_refl _, Nat.le_refl _⟩) hA hP hD hS (fun H locs hP hD hS => ?_)
        refine lv_aload_n hx hb dX6_writeBytes_8 rfl (lv_at hl 0 rfl) ?_
        refine hg_12_2 hx hb hts in_y_X6_writeBytes_X6 hown hK hP (hts _ (List.mem_cons_of_mem _ (List.mem_append_left _ (List.mem_append_left _ (List.mem_of_getElem? (i := 5) rfl))))) dX6_writeBytes_9 ?_
        refine hn_13 hx hb hK hP dX6_writeBytes_12 ?_
        refine lv_aload_n hx hb dX6_writeBytes_13 rfl (lv_at hl 0 rfl) ?_
        refine hg_12_3 hx hb hts in_y_X6_writeBytes_X6 hown hK hP (hts _ (List.mem_cons_of_mem _ (List.mem_append_left _ (List.mem_append_left _ (List.mem_of_getElem? (i := 6) rfl))))) dX6_writeBytes_14 ?_
        refine lv_isub hx hb dX6_writeBytes_17 ?_
        refine va_mmin (x := r1.1) (y := ((((Int32.ofNat 10400)) - ((r1.2.1 1203))))) hx hb (hml.trans hl.1.symm) hown (hts _ (List.mem_cons_of_mem _ (List.mem_append_left _ (List.mem_append_left _ (List.mem_of_getElem? (i := 10) rfl))))) (hts _ (List.mem_cons_of_mem _ (List.mem_append_left _ (List.mem_append_left _ (List.mem_of_getElem? (i := 11) rfl))))) (hts _ (List.mem_cons_of_mem _ (List.mem_append_left _ (List.mem_append_left _ (List.mem_of_getElem? (i := 12) rfl))))) (hts _ (List.mem_cons_of_mem _ (List.mem_append_left _ (List.mem_append_left _ (List.mem_of_getElem? (i := 13) rfl))))) (Nat.le_of_ble_eq_true rfl) (Nat.le_of_ble_eq_true rfl)  (Nat.zero_le _) (Nat.zero_le _) dX6_writeBytes_18 ?_
        refine lv_istore_n (lv' := [(2, .int (if ((((Int32.ofNat 10400)) - ((r1.2.1 1203)))) < r1.1 then ((((Int32.ofNat 10400)) - ((r1.2.1 1203)))) else r1.1)), (0, .ref (a 12)), (1, .int (L.1 1))]) hx hb dX6_writeBytes_21 rfl hl (by decide) rfl (fun ls hl => ?_)
        refine lv_aload_n hx hb dX6_writeBytes_22 rfl (lv_at hl 1 rfl) ?_
        refine lv_aload_n hx hb dX6_writeBytes_23 rfl (lv_at hl 1 rfl) ?_
        refine hg_12_0 hx hb hts in_y_X6_writeBytes_X6 hown hK hP (hts _ (List.mem_cons_of_mem _ (List.mem_append_left _ (List.mem_append_left _ (List.mem_of_getElem? (i := 0) rfl))))) dX6_writeBytes_24 ?_
        refine lv_iload_n hx hb dX6_writeBytes_27 rfl (lv_at hl 2 rfl) ?_
        refine lv_iconst (v := 0) hx hb dX6_writeBytes_28 (by decide) ?_
        refine lv_iload_n hx hb dX6_writeBytes_29 rfl (lv_at hl 0 rfl) ?_
        refine lv_aload_n hx hb dX6_writeBytes_30 rfl (lv_at hl 1 rfl) ?_
        refine hg_12_2 hx hb hts in_y_X6_writeBytes_X6 hown hK hP (hts _ (List.mem_cons_of_mem _ (List.mem_append_left _ (List.mem_append_left _ (List.mem_of_getElem? (i := 5) rfl))))) dX6_writeBytes_31 ?_
        refine lv_aload_n hx hb dX6_writeBytes_34 rfl (lv_at hl 1 rfl) ?_
        refine hg_12_3 hx hb hts in_y_X6_writeBytes_X6 hown hK hP (hts _ (List.mem_cons_of_mem _ (List.mem_append_left _ (List.mem_append_left _ (List.mem_of_getElem? (i := 6) rfl))))) dX6_writeBytes_35 ?_
        obtain ⟨r2, hc2, h⟩ := oc_ex h
        refine kc_i (va_runV (As := [.int (L.1 1), .int 0, .int (if ((((Int32.ofNat 10400)) - ((r1.2.1 1203)))) < r1.1 then ((((Int32.ofNat 10400)) - ((r1.2.1 1203)))) else r1.1), .ref (a 13), .int (r1.2.1 1203)]) (rest := [.ref (a 12)]) ⟨hx, hb, hml, hown, hts⟩ (c_y_X1_copyBytes__a13 l dC dI cy a z k (lI (lI (lI (lI lZ 1 ((L.1 1))) 2 0) 3 ((if ((((Int32.ofNat 10400)) - ((r1.2.1 1203)))) < r1.1 then ((((Int32.ofNat 10400)) - ((r1.2.1 1203)))) else r1.1))) 5 ((r1.2.1 1203))) r1.2 r2 hc2 H.size) (cwV 5 hts g_y_X6_writeBytes_X1_copyBytes__a13_V79 rfl rfl rfl hd_y_X1_copyBytes__a13 ⟨Nat.le_of_ble_eq_true rfl, Nat.le_of_ble_eq_true rfl⟩) ⟨nb_blind, va_recv hK hP (ci := 1) (q0 := 0) rfl rfl, (kb_pre hK hG hP hD)⟩ rfl rfl hl.1 rfl (lv_room (Nat.le_of_ble_eq_true rfl)) dX6_writeBytes_38 ⟨Nat.le_refl _, Nat.le_refl _⟩) hA hP hD hS (fun H locs hP hD hS => ?_)
        refine hp_12_3 hx hb hts in_y_X6_writeBytes_X6 hown hK hP hD hS (hts _ (List.mem_cons_of_mem _ (List.mem_append_left _ (List.mem_append_left _ (List.mem_of_getElem? (i := 6) rfl))))) dX6_writeBytes_41 (fun H locs hP hD hS => ?_)
        obtain rfl := Option.some.inj h
        exact W.vret hx hb hr (fun t ht hW => ⟨⟨(), rfl, trivial, by rw [ht]; exact hP, va_K.moved hW.alike hK, hD⟩, hS.F ht⟩) hS.2.2 dX6_writeBytes_44
  exact (blk k0) L0 σ0 r0 h0 s.heap [] ls hP hD hS hl
/-! X1_makeString__a13 -/
def y_X1_makeString__a13 : Nat → Nat → LV → CS → Option (Int32 × CS)
  | 0, _, _, _ => none
  | k + 1, 0, L, σ => if 1 < ((L.1 3)) then (y_X1_makeString__a13 k 1 L σ) else (if 0 < ((L.1 3)) then (y_X1_makeString__a13 k 2 L σ) else (y_X1_makeString__a13 k 3 (lI L 100 0) σ))
  | k + 1, 1, L, σ => if ((((((L.1 3)) + 3)) >>> ((2 : Int32) &&& 31))) < 1000 then (y_X1_makeString__a13 k 4 (lI L 4 ((((((L.1 3)) + 3)) >>> ((2 : Int32) &&& 31)))) σ) else (some ((-268435451), σ))
  | k + 1, 2, L, σ => if ¬ (((L.1 2)) < 0 ∨ 10400 ≤ ((L.1 2)).toNatClampNeg) then (y_X1_makeString__a13 k 3 (lI L 100 ((((-1073741824)) ||| ((((σ.2.2.1 13 ((L.1 2)).toNatClampNeg)) &&& 255))))) σ) else none
  | k + 1, 3, L, σ => some ((L.1 100), σ)
  | k + 1, 4, L, σ => if ((1 + ((L.1 4)))) ≤ ((((Int32.ofNat (sN σ 3))) - ((σ.1 1)))) then (y_X1_makeString__a13 k 5 (lI L 5 ((σ.1 1))) σ) else (some ((-268435450), σ))
  | k + 1, 5, L, σ => oc (y_X1_header k 0 (lI (lI (lI (lI (lI lZ 0 4) 1 0) 2 ((L.1 3))) 3 ((1 + ((L.1 4))))) 4 0) (uI σ 1 ((((((L.1 5)) + 1)) + ((L.1 4)))))) (fun r1 => if ¬ (((L.1 5)) < 0 ∨ (sN r1.2 3) ≤ ((L.1 5)).toNatClampNeg) then (y_X1_makeString__a13 k 6 L (uA r1.2 3 ((L.1 5)).toNatClampNeg r1.1)) else none)
  | k + 1, 6, L, σ => y_X1_makeString__a13 k 7 (lI (lI L 6 0) 7 0) σ
  | k + 1, 7, L, σ => if ((L.1 3)) ≤ ((L.1 7)) then (y_X1_makeString__a13 k 8 L σ) else (if ¬ (((((L.1 2)) + ((L.1 7)))) < 0 ∨ 10400 ≤ ((((L.1 2)) + ((L.1 7)))).toNatClampNeg) then (if ((((((L.1 7)) &&& 3)) <<< ((3 : Int32) &&& 31))) = 24 then (y_X1_makeString__a13 k 9 (lI L 6 ((((L.1 6)) ||| ((((((σ.2.2.1 13 ((((L.1 2)) + ((L.1 7)))).toNatClampNeg)) &&& 255)) <<< (((((((L.1 7)) &&& 3)) <<< ((3 : Int32) &&& 31))) &&& 31)))))) σ) else (if ((L.1 7)) = ((((L.1 3)) - 1)) then (y_X1_makeString__a13 k 9 (lI L 6 ((((L.1 6)) ||| ((((((σ.2.2.1 13 ((((L.1 2)) + ((L.1 7)))).toNatClampNeg)) &&& 255)) <<< (((((((L.1 7)) &&& 3)) <<< ((3 : Int32) &&& 31))) &&& 31)))))) σ) else (y_X1_makeString__a13 k 10 (lI L 6 ((((L.1 6)) ||| ((((((σ.2.2.1 13 ((((L.1 2)) + ((L.1 7)))).toNatClampNeg)) &&& 255)) <<< (((((((L.1 7)) &&& 3)) <<< ((3 : Int32) &&& 31))) &&& 31)))))) σ))) else none)
  | k + 1, 8, L, σ => some ((L.1 5), σ)
  | k + 1, 9, L, σ => if ¬ (((((((L.1 5)) + 1)) + ((((L.1 7)) >>> ((2 : Int32) &&& 31))))) < 0 ∨ (sN σ 3) ≤ ((((((L.1 5)) + 1)) + ((((L.1 7)) >>> ((2 : Int32) &&& 31))))).toNatClampNeg) then (y_X1_makeString__a13 k 10 (lI L 6 0) (uA σ 3 ((((((L.1 5)) + 1)) + ((((L.1 7)) >>> ((2 : Int32) &&& 31))))).toNatClampNeg ((L.1 6)))) else none
  | k + 1, 10, L, σ => y_X1_makeString__a13 k 7 (lI L 7 ((((L.1 7)) + 1))) σ
  | _ + 1, _ + 11, _, _ => none
def o_y_X1_makeString__a13 : List Cond := [.constant RX1 52 (-268435451), .constant RX1 34 (-1073741824), .fieldLink RX1 15 "SetHouse$Heap" "top" "I", .fieldLink RX1 11 "SetHouse$Heap" "mem" "[I", .constant RX1 53 (-268435450), .methodLink RX1 29 yX1_header, .static yX1_header, .initialized RX1]
theorem o_y_X1_makeString__a13_good : o_y_X1_makeString__a13.all goodWord = true := by decide +kernel
def p_y_X1_makeString__a13 : List Cond := o_y_X1_makeString__a13 ++ ((.code yX1_header cX1_header 5 (some .int) :: p_y_X1_header) ++ [])
theorem p_y_X1_makeString__a13_good : p_y_X1_makeString__a13.all goodWord = true := nb_all2 o_y_X1_makeString__a13_good (nb_all2 (nb_allc (by decide +kernel) p_y_X1_header_good) rfl)
def w_y_X1_makeString__a13 : List Cond := .code yX1_makeString cX1_makeString 9 (some .int) :: (p_y_X1_makeString__a13 ++ fC)
theorem w_y_X1_makeString__a13_good : w_y_X1_makeString__a13.all goodWord = true := nb_allc (by decide +kernel) (nb_all2 p_y_X1_makeString__a13_good fC_good)
theorem in_y_X1_makeString__a13_X1 : ∀ w ∈ wsX10, w ∈ w_y_X1_makeString__a13 := fun _ h => List.mem_cons_of_mem _ (List.mem_append_right _ (List.mem_append_right _ (List.mem_append_left _ h)))
theorem hd_y_X1_makeString__a13 : yX1_makeString.cls = RX1 ∧ yX1_makeString.cls ≠ "java/lang/invoke/MethodHandle" ∧ yX1_makeString.cls ≠ "java/lang/invoke/VarHandle" ∧ (parseMethodDescriptor yX1_makeString.desc).map (fun d => d.parameters.length) = some 3 := by decide +kernel
theorem gg_y_X1_makeString__a13_X1_header : GoodIn w_y_X1_makeString__a13 w_y_X1_header := goodIn_sub (fun w h => (List.mem_cons.mp h).elim (fun e => (List.mem_cons_of_mem _ (List.mem_append_left _ (List.mem_append_right _ (List.mem_append_left _ (List.mem_cons.mpr (Or.inl e))))))) (fun h => (List.mem_append.mp h).elim (fun h => (List.mem_cons_of_mem _ (List.mem_append_left _ (List.mem_append_right _ (List.mem_append_left _ (List.mem_cons_of_mem _ h)))))) (fun h => List.mem_cons_of_mem _ (List.mem_append_right _ h)))) w_y_X1_header_good
theorem g_y_X1_makeString__a13_X1_header_S29 : GoodIn w_y_X1_makeString__a13 (va_wsS RX1 29 yX1_header w_y_X1_header) := goodIn_app (nb_g3 (List.mem_cons_of_mem _ (List.mem_append_left _ (List.mem_append_left _ (List.mem_of_getElem? (i := 5) rfl)))) (List.mem_cons_of_mem _ (List.mem_append_left _ (List.mem_append_left _ (List.mem_of_getElem? (i := 6) rfl)))) (List.mem_cons_of_mem _ (List.mem_append_left _ (List.mem_append_left _ (List.mem_of_getElem? (i := 7) rfl)))) (by decide +kernel)) gg_y_X1_makeString__a13_X1_header
set_option maxHeartbeats 40000000 in
set_option maxRecDepth 100000 in
theorem c_y_X1_makeString__a13 (l : Launch) (dC : Nat → ClassId) (dI : Nat → Nat → Nat) (cy : Nat → ClassId) (a z : Nat → Nat) (k0 : Nat) (L0 : LV) (σ0 : CS) (r0 : Int32 × CS) (h0 : y_X1_makeString__a13 k0 0 L0 σ0 = some r0) (sz : Nat) : Met l yX1_makeString w_y_X1_makeString__a13 ({ frames := 1, cells := 0, slots := 0, locals := 24 }) (va_Pc [.ref (a 0), .ref (a 13), .int (L0.1 2), .int (L0.1 3)] (nIn (dC, dI) cy sz (vC cy a z σ0))) (va_Qi (fun (x : Int32) (_ : Unit) => x = r0.1) (fun _ t => nOut (dC, dI) cy (va_A (vC cy a z σ0) sz) (vC cy a z r0.2) t) (va_A (vC cy a z σ0) sz)) 0 0 (va_A (vC cy a z σ0) sz) := by
  refine Met.ofW (cc := cX1_makeString) (maxL := 9) (ret := (some .int)) (by decide) rfl ?_
  intro p e s m args below meth c s₁ B hml hv
  obtain ⟨rfl, hsz, hP, hK, hD0, hG⟩ := hv
  have hx := B.exec
  have hb := B.bytes
  have hr := B.returns
  have hts := atoms_spec (ws := w_y_X1_makeString__a13) B.pre
  have hown : s.vm.findClass RX1 = some m.cls := findClass_of_methodNamed B.named
  have hlocks := B.notSynchronized
  subst hsz
  have hD := hD0.self (sz := s.heap.size)
  generalize hAe : va_A (vC cy a z σ0) s.heap.size = A at hD ⊢
  have hA : ∀ q : Nat, s.heap.size ≤ q → A q := fun q h => by rw [← hAe]; exact Or.inr h
  have hS : va_S A s.heap s.heap [] := va_S.rf
  have hl := lv_entry ([.ref (a 0), .ref (a 13), .int (L0.1 2), .int (L0.1 3)]) (n := 9) (Nat.le_of_ble_eq_true rfl)
  rw [lg_entry_eq]
  generalize (lg_sl ([.ref (a 0), .ref (a 13), .int (L0.1 2), .int (L0.1 3)]) ++ List.replicate (9 - (lg_sl ([.ref (a 0), .ref (a 13), .int (L0.1 2), .int (L0.1 3)])).length) Slot.unset).toArray = ls at hl ⊢
  have hl : lv_has ls 9 [(0, .ref (a 0)), (1, .ref (a 13)), (2, .int (L0.1 2)), (3, .int (L0.1 3))] := hl
  have blk : ∀ k : Nat, (bC p l e (headSpec w_y_X1_makeString__a13 ({ frames := 1, cells := 0, slots := 0, locals := 24 })).room s m #[.ref (a 0), .ref (a 13), .int (L0.1 2), .int (L0.1 3)] below meth c dC dI cy a z A (kI dC dI cy a z A below #[.ref (a 0), .ref (a 13), .int (L0.1 2), .int (L0.1 3)] s) 9 (y_X1_makeString__a13 k 0) (fun L => [(0, .ref (a 0)), (1, .ref (a 13)), (2, .int (L.1 2)), (3, .int (L.1 3))]) 0 (fun L => [])) ∧ (bC p l e (headSpec w_y_X1_makeString__a13 ({ frames := 1, cells := 0, slots := 0, locals := 24 })).room s m #[.ref (a 0), .ref (a 13), .int (L0.1 2), .int (L0.1 3)] below meth c dC dI cy a z A (kI dC dI cy a z A below #[.ref (a 0), .ref (a 13), .int (L0.1 2), .int (L0.1 3)] s) 9 (y_X1_makeString__a13 k 1) (fun L => [(0, .ref (a 0)), (1, .ref (a 13)), (2, .int (L.1 2)), (3, .int (L.1 3))]) 24 (fun L => [])) ∧ (bC p l e (headSpec w_y_X1_makeString__a13 ({ frames := 1, cells := 0, slots := 0, locals := 24 })).room s m #[.ref (a 0), .ref (a 13), .int (L0.1 2), .int (L0.1 3)] below meth c dC dI cy a z A (kI dC dI cy a z A below #[.ref (a 0), .ref (a 13), .int (L0.1 2), .int (L0.1 3)] s) 9 (y_X1_makeString__a13 k 2) (fun L => [(1, .ref (a 13)), (2, .int (L.1 2))]) 13 (fun L => [])) ∧ (bC p l e (headSpec w_y_X1_makeString__a13 ({ frames := 1, cells := 0, slots := 0, locals := 24 })).room s m #[.ref (a 0), .ref (a 13), .int (L0.1 2), .int (L0.1 3)] below meth c dC dI cy a z A (kI dC dI cy a z A below #[.ref (a 0), .ref (a 13), .int (L0.1 2), .int (L0.1 3)] s) 9 (y_X1_makeString__a13 k 3) (fun L => []) 23 (fun L => [.int (L.1 100)])) ∧ (bC p l e (headSpec w_y_X1_makeString__a13 ({ frames := 1, cells := 0, slots := 0, locals := 24 })).room s m #[.ref (a 0), .ref (a 13), .int (L0.1 2), .int (L0.1 3)] below meth c dC dI cy a z A (kI dC dI cy a z A below #[.ref (a 0), .ref (a 13), .int (L0.1 2), .int (L0.1 3)] s) 9 (y_X1_makeString__a13 k 4) (fun L => [(0, .ref (a 0)), (1, .ref (a 13)), (2, .int (L.1 2)), (3, .int (L.1 3)), (4, .int (L.1 4))]) 42 (fun L => [])) ∧ (bC p l e (headSpec w_y_X1_makeString__a13 ({ frames := 1, cells := 0, slots := 0, locals := 24 })).room s m #[.ref (a 0), .ref (a 13), .int (L0.1 2), .int (L0.1 3)] below meth c dC dI cy a z A (kI dC dI cy a z A below #[.ref (a 0), .ref (a 13), .int (L0.1 2), .int (L0.1 3)] s) 9 (y_X1_makeString__a13 k 5) (fun L => [(0, .ref (a 0)), (1, .ref (a 13)), (2, .int (L.1 2)), (3, .int (L.1 3)), (4, .int (L.1 4)), (5, .int (L.1 5))]) 66 (fun L => [])) ∧ (bC p l e (headSpec w_y_X1_makeString__a13 ({ frames := 1, cells := 0, slots := 0, locals := 24 })).room s m #[.ref (a 0), .ref (a 13), .int (L0.1 2), .int (L0.1 3)] below meth c dC dI cy a z A (kI dC dI cy a z A below #[.ref (a 0), .ref (a 13), .int (L0.1 2), .int (L0.1 3)] s) 9 (y_X1_makeString__a13 k 6) (fun L => [(0, .ref (a 0)), (1, .ref (a 13)), (2, .int (L.1 2)), (3, .int (L.1 3)), (5, .int (L.1 5))]) 95 (fun L => [])) ∧ (bC p l e (headSpec w_y_X1_makeString__a13 ({ frames := 1, cells := 0, slots := 0, locals := 24 })).room s m #[.ref (a 0), .ref (a 13), .int (L0.1 2), .int (L0.1 3)] below meth c dC dI cy a z A (kI dC dI cy a z A below #[.ref (a 0), .ref (a 13), .int (L0.1 2), .int (L0.1 3)] s) 9 (y_X1_makeString__a13 k 7) (fun L => [(0, .ref (a 0)), (1, .ref (a 13)), (2, .int (L.1 2)), (3, .int (L.1 3)), (5, .int (L.1 5)), (6, .int (L.1 6)), (7, .int (L.1 7))]) 101 (fun L => [])) ∧ (bC p l e (headSpec w_y_X1_makeString__a13 ({ frames := 1, cells := 0, slots := 0, locals := 24 })).room s m #[.ref (a 0), .ref (a 13), .int (L0.1 2), .int (L0.1 3)] below meth c dC dI cy a z A (kI dC dI cy a z A below #[.ref (a 0), .ref (a 13), .int (L0.1 2), .int (L0.1 3)] s) 9 (y_X1_makeString__a13 k 8) (fun L => [(5, .int (L.1 5))]) 173 (fun L => [])) ∧ (bC p l e (headSpec w_y_X1_makeString__a13 ({ frames := 1, cells := 0, slots := 0, locals := 24 })).room s m #[.ref (a 0), .ref (a 13), .int (L0.1 2), .int (L0.1 3)] below meth c dC dI cy a z A (kI dC dI cy a z A below #[.ref (a 0), .ref (a 13), .int (L0.1 2), .int (L0.1 3)] s) 9 (y_X1_makeString__a13 k 9) (fun L => [(0, .ref (a 0)), (1, .ref (a 13)), (2, .int (L.1 2)), (3, .int (L.1 3)), (5, .int (L.1 5)), (6, .int (L.1 6)), (7, .int (L.1 7))]) 148 (fun L => [])) ∧ (bC p l e (headSpec w_y_X1_makeString__a13 ({ frames := 1, cells := 0, slots := 0, locals := 24 })).room s m #[.ref (a 0), .ref (a 13), .int (L0.1 2), .int (L0.1 3)] below meth c dC dI cy a z A (kI dC dI cy a z A below #[.ref (a 0), .ref (a 13), .int (L0.1 2), .int (L0.1 3)] s) 9 (y_X1_makeString__a13 k 10) (fun L => [(0, .ref (a 0)), (1, .ref (a 13)), (2, .int (L.1 2)), (3, .int (L.1 3)), (5, .int (L.1 5)), (6, .int (L.1 6)), (7, .int (L.1 7))]) 167 (fun L => [])) := by
    intro k
    induction k with
    | zero => exact ⟨fun L σ r h => (by cases h), fun L σ r h => (by cases h), fun L σ r h => (by cases h), fun L σ r h => (by cases h), fun L σ r h => (by cases h), fun L σ r h => (by cases h), fun L σ r h => (by cases h), fun L σ r h => (by cases h), fun L σ r h => (by cases h), fun L σ r h => (by cases h), fun L σ r h => (by cases h)⟩
    | succ k ih =>
      refine ⟨?_, ?_, ?_, ?_, ?_, ?_, ?_, ?_, ?_, ?_, ?_⟩
      · intro L σ r h H locs ls hP hD hS hl
        rw [y_X1_makeString__a13] at h
        refine lv_iload_n hx hb dX1_makeString_0 rfl (lv_at hl 3 rfl) ?_
        refine lv_iconst (v := 1) hx hb dX1_makeString_1 (by decide) ?_
        refine lv_icmp_gt (tgt := 24) hx hb dX1_makeString_2 (by decide) (fun c1 => ?_) (fun c1 => ?_)
        · rw [if_pos c1] at h
          exact ih.2.1 L σ r h H locs ls hP hD hS (lv_sub hl [0, 1, 2, 3] rfl)
        · rw [if_neg c1] at h
          refine lv_iload_n hx hb dX1_makeString_5 rfl (lv_at hl 3 rfl) ?_
          refine lv_if_gt (tgt := 13) hx hb dX1_makeString_6 (by decide) (fun c2 => ?_) (fun c2 => ?_)
          · rw [if_pos c2] at h
            exact ih.2.2.1 L σ r h H locs ls hP hD hS (lv_sub hl [1, 2] rfl)
          · rw [if_neg c2] at h
            refine lv_iconst (v := 0) hx hb dX1_makeString_9 (by decide) ?_
            refine lv_goto (tgt := 23) hx hb dX1_makeString_10 (by decide) ?_
            exact ih.2.2.2.1 (lI L 100 0) σ r h H locs ls hP hD hS (lv_sub hl [] rfl)
      · intro L σ r h H locs ls hP hD hS hl
        rw [y_X1_makeString__a13] at h
        refine lv_iload_n hx hb dX1_makeString_24 rfl (lv_at hl 3 rfl) ?_
        refine lv_iconst (v := 3) hx hb dX1_makeString_25 (by decide) ?_
        refine lv_iadd hx hb dX1_makeString_26 ?_
        refine lv_iconst (v := 2) hx hb dX1_makeString_27 (by decide) ?_
        refine lv_ishr hx hb dX1_makeString_28 ?_
        refine lv_istore (lv' := [(4, .int (((((L.1 3)) + 3)) >>> ((2 : Int32) &&& 31))), (0, .ref (a 0)), (1, .ref (a 13)), (2, .int (L.1 2)), (3, .int (L.1 3))]) hx hb dX1_makeString_29 hl (by decide) rfl (fun ls hl => ?_)
        refine lv_iload hx hb dX1_makeString_31 (lv_at hl 0 rfl) ?_
        refine lv_sipush (v := 1000) hx hb dX1_makeString_33 (by decide) ?_
        refine lv_icmp_lt (tgt := 42) hx hb dX1_makeString_36 (by decide) (fun c1 => ?_) (fun c1 => ?_)
        · rw [if_pos c1] at h
          exact ih.2.2.2.2.1 (lI L 4 ((((((L.1 3)) + 3)) >>> ((2 : Int32) &&& 31)))) σ r h H locs ls hP hD hS (lv_sub hl [1, 2, 3, 4, 0] rfl)
        · rw [if_neg c1] at h
          refine lv_ldc (v := (-268435451)) hx hb hown (hts _ (List.mem_cons_of_mem _ (List.mem_append_left _ (List.mem_append_left _ (List.mem_of_getElem? (i := 0) rfl))))) dX1_makeString_39 ?_
          obtain rfl := Option.some.inj h
          exact W.iret (v := (-268435451)) hx hb hr (fun t ht hW => ⟨⟨(-268435451), (), rfl, rfl, by rw [ht]; exact hP, va_K.moved hW.alike hK, hD⟩, hS.F ht⟩) hS.2.2 dX1_makeString_41
      · intro L σ r h H locs ls hP hD hS hl
        rw [y_X1_makeString__a13] at h
        refine lv_ldc (v := (-1073741824)) hx hb hown (hts _ (List.mem_cons_of_mem _ (List.mem_append_left _ (List.mem_append_left _ (List.mem_of_getElem? (i := 1) rfl))))) dX1_makeString_13 ?_
        refine lv_aload_n hx hb dX1_makeString_15 rfl (lv_at hl 0 rfl) ?_
        refine lv_iload_n hx hb dX1_makeString_16 rfl (lv_at hl 1 rfl) ?_
        obtain ⟨q1, h⟩ := kb_ite1 h
        refine hl_13 hx hb hK hP q1 dX1_makeString_17 ?_
        refine lv_sipush (v := 255) hx hb dX1_makeString_18 (by decide) ?_
        refine lv_iand hx hb dX1_makeString_21 ?_
        refine lv_ior hx hb dX1_makeString_22 ?_
        exact ih.2.2.2.1 (lI L 100 ((((-1073741824)) ||| ((((σ.2.2.1 13 ((L.1 2)).toNatClampNeg)) &&& 255))))) σ r h H locs ls hP hD hS (lv_sub hl [] rfl)
      · intro L σ r h H locs ls hP hD hS hl
        rw [y_X1_makeString__a13] at h
        obtain rfl := Option.some.inj h
        exact W.iret (v := (L.1 100)) hx hb hr (fun t ht hW => ⟨⟨(L.1 100), (), rfl, rfl, by rw [ht]; exact hP, va_K.moved hW.alike hK, hD⟩, hS.F ht⟩) hS.2.2 dX1_makeString_23
      · intro L σ r h H locs ls hP hD hS hl
        rw [y_X1_makeString__a13] at h
        refine lv_aload_n hx hb dX1_makeString_42 rfl (lv_at hl 0 rfl) ?_
        refine hg_0_1 hx hb hts in_y_X1_makeString__a13_X1 hown hK hP (hts _ (List.mem_cons_of_mem _ (List.mem_append_left _ (List.mem_append_left _ (List.mem_of_getElem? (i := 2) rfl))))) dX1_makeString_43 ?_
        refine lv_istore (lv' := [(5, .int (σ.1 1)), (0, .ref (a 0)), (1, .ref (a 13)), (2, .int (L.1 2)), (3, .int (L.1 3)), (4, .int (L.1 4))]) hx hb dX1_makeString_46 hl (by decide) rfl (fun ls hl => ?_)
        refine lv_iconst (v := 1) hx hb dX1_makeString_48 (by decide) ?_
        refine lv_iload hx hb dX1_makeString_49 (lv_at hl 5 rfl) ?_
        refine lv_iadd hx hb dX1_makeString_51 ?_
        refine lv_aload_n hx hb dX1_makeString_52 rfl (lv_at hl 1 rfl) ?_
        refine hg_0_0 hx hb hts in_y_X1_makeString__a13_X1 hown hK hP (hts _ (List.mem_cons_of_mem _ (List.mem_append_left _ (List.mem_append_left _ (List.mem_of_getElem? (i := 3) rfl))))) dX1_makeString_53 ?_
        refine hn_3 hx hb hK hP dX1_makeString_56 ?_
        refine lv_iload hx hb dX1_makeString_57 (lv_at hl 0 rfl) ?_
        refine lv_isub hx hb dX1_makeString_59 ?_
        refine lv_icmp_le (tgt := 66) hx hb dX1_makeString_60 (by decide) (fun c1 => ?_) (fun c1 => ?_)
        · rw [if_pos c1] at h
          exact ih.2.2.2.2.2.1 (lI L 5 ((σ.1 1))) σ r h H locs ls hP hD hS (lv_sub hl [1, 2, 3, 4, 5, 0] rfl)
        · rw [if_neg c1] at h
          refine lv_ldc (v := (-268435450)) hx hb hown (hts _ (List.mem_cons_of_mem _ (List.mem_append_left _ (List.mem_append_left _ (List.mem_of_getElem? (i := 4) rfl))))) dX1_makeString_63 ?_
          obtain rfl := Option.some.inj h
          exact W.iret (v := (-268435450)) hx hb hr (fun t ht hW => ⟨⟨(-268435450), (), rfl, rfl, by rw [ht]; exact hP, va_K.moved hW.alike hK, hD⟩, hS.F ht⟩) hS.2.2 dX1_makeString_65
      · intro L σ r h H locs ls hP hD hS hl
        rw [y_X1_makeString__a13] at h
        refine lv_aload_n hx hb dX1_makeString_66 rfl (lv_at hl 0 rfl) ?_
        refine lv_iload hx hb dX1_makeString_67 (lv_at hl 5 rfl) ?_
        refine lv_iconst (v := 1) hx hb dX1_makeString_69 (by decide) ?_
        refine lv_iadd hx hb dX1_makeString_70 ?_
        refine lv_iload hx hb dX1_makeString_71 (lv_at hl 4 rfl) ?_
        refine lv_iadd hx hb dX1_makeString_73 ?_
        refine hp_0_1 hx hb hts in_y_X1_makeString__a13_X1 hown hK hP hD hS (hts _ (List.mem_cons_of_mem _ (List.mem_append_left _ (List.mem_append_left _ (List.mem_of_getElem? (i := 2) rfl))))) dX1_makeString_74 (fun H locs hP hD hS => ?_)
        refine lv_aload_n hx hb dX1_makeString_77 rfl (lv_at hl 0 rfl) ?_
        refine hg_0_0 hx hb hts in_y_X1_makeString__a13_X1 hown hK hP (hts _ (List.mem_cons_of_mem _ (List.mem_append_left _ (List.mem_append_left _ (List.mem_of_getElem? (i := 3) rfl))))) dX1_makeString_78 ?_
        refine lv_iload hx hb dX1_makeString_81 (lv_at hl 5 rfl) ?_
        refine lv_iconst (v := 4) hx hb dX1_makeString_83 (by decide) ?_
        refine lv_iconst (v := 0) hx hb dX1_makeString_84 (by decide) ?_
        refine lv_iload_n hx hb dX1_makeString_85 rfl (lv_at hl 3 rfl) ?_
        refine lv_iconst (v := 1) hx hb dX1_makeString_86 (by decide) ?_
        refine lv_iload hx hb dX1_makeString_87 (lv_at hl 4 rfl) ?_
        refine lv_iadd hx hb dX1_makeString_89 ?_
        refine lv_iconst (v := 0) hx hb dX1_makeString_90 (by decide) ?_
        obtain ⟨r1, hc1, h⟩ := oc_ex h
        refine kc_i (va_runS (As := [.int 4, .int 0, .int (L.1 3), .int (1 + ((L.1 4))), .int 0]) (rest := [.int (L.1 5), .ref (z 3)]) ⟨hx, hb, hml, hown, hts⟩ (c_y_X1_header l dC dI cy a z k (lI (lI (lI (lI (lI lZ 0 4) 1 0) 2 ((L.1 3))) 3 ((1 + ((L.1 4))))) 4 0) (uI σ 1 ((((((L.1 5)) + 1)) + ((L.1 4))))) r1 hc1 H.size) (va_cwS 5 hts g_y_X1_makeString__a13_X1_header_S29 rfl rfl rfl hd_y_X1_header ⟨Nat.le_of_ble_eq_true rfl, Nat.le_of_ble_eq_true rfl⟩) ⟨nb_blind, (kb_pre hK hG hP hD)⟩ rfl rfl hl.1 rfl (lv_room (Nat.le_of_ble_eq_true rfl)) dX1_makeString_91 ⟨Nat.le_refl _, Nat.le_refl _⟩) hA hP hD hS (fun H locs hP hD hS => ?_)
        obtain ⟨q2, h⟩ := kb_ite1 h
        refine hs_3 hx hb hK hP hD hS q2 dX1_makeString_94 (fun H locs hP hD hS => ?_)
        exact ih.2.2.2.2.2.2.1 L (uA r1.2 3 ((L.1 5)).toNatClampNeg r1.1) r h H locs ls hP hD hS (lv_sub hl [0, 1, 2, 3, 5] rfl)
      · intro L σ r h H locs ls hP hD hS hl
        rw [y_X1_makeString__a13] at h
        refine lv_iconst (v := 0) hx hb dX1_makeString_95 (by decide) ?_
        refine lv_istore (lv' := [(6, .int 0), (0, .ref (a 0)), (1, .ref (a 13)), (2, .int (L.1 2)), (3, .int (L.1 3)), (5, .int (L.1 5))]) hx hb dX1_makeString_96 hl (by decide) rfl (fun ls hl => ?_)
        refine lv_iconst (v := 0) hx hb dX1_makeString_98 (by decide) ?_
        refine lv_istore (lv' := [(7, .int 0), (6, .int 0), (0, .ref (a 0)), (1, .ref (a 13)), (2, .int (L.1 2)), (3, .int (L.1 3)), (5, .int (L.1 5))]) hx hb dX1_makeString_99 hl (by decide) rfl (fun ls hl => ?_)
        exact ih.2.2.2.2.2.2.2.1 (lI (lI L 6 0) 7 0) σ r h H locs ls hP hD hS (lv_sub hl [2, 3, 4, 5, 6, 1, 0] rfl)
      · intro L σ r h H locs ls hP hD hS hl
        rw [y_X1_makeString__a13] at h
        refine lv_iload hx hb dX1_makeString_101 (lv_at hl 6 rfl) ?_
        refine lv_iload_n hx hb dX1_makeString_103 rfl (lv_at hl 3 rfl) ?_
        refine lv_icmp_ge (tgt := 173) hx hb dX1_makeString_104 (by decide) (fun c1 => ?_) (fun c1 => ?_)
        · rw [if_pos c1] at h
          exact ih.2.2.2.2.2.2.2.2.1 L σ r h H locs ls hP hD hS (lv_sub hl [4] rfl)
        · rw [if_neg c1] at h
          refine lv_iload hx hb dX1_makeString_107 (lv_at hl 6 rfl) ?_
          refine lv_iconst (v := 3) hx hb dX1_makeString_109 (by decide) ?_
          refine lv_iand hx hb dX1_makeString_110 ?_
          refine lv_iconst (v := 3) hx hb dX1_makeString_111 (by decide) ?_
          refine lv_ishl hx hb dX1_makeString_112 ?_
          refine lv_istore (lv' := [(8, .int (((((L.1 7)) &&& 3)) <<< ((3 : Int32) &&& 31))), (0, .ref (a 0)), (1, .ref (a 13)), (2, .int (L.1 2)), (3, .int (L.1 3)), (5, .int (L.1 5)), (6, .int (L.1 6)), (7, .int (L.1 7))]) hx hb dX1_makeString_113 hl (by decide) rfl (fun ls hl => ?_)
          refine lv_iload hx hb dX1_makeString_115 (lv_at hl 6 rfl) ?_
          refine lv_aload_n hx hb dX1_makeString_117 rfl (lv_at hl 2 rfl) ?_
          refine lv_iload_n hx hb dX1_makeString_118 rfl (lv_at hl 3 rfl) ?_
          refine lv_iload hx hb dX1_makeString_119 (lv_at hl 7 rfl) ?_
          refine lv_iadd hx hb dX1_makeString_121 ?_
          obtain ⟨q2, h⟩ := kb_ite1 h
          refine hl_13 hx hb hK hP q2 dX1_makeString_122 ?_
          refine lv_sipush (v := 255) hx hb dX1_makeString_123 (by decide) ?_
          refine lv_iand hx hb dX1_makeString_126 ?_
          refine lv_iload hx hb dX1_makeString_127 (lv_at hl 0 rfl) ?_
          refine lv_ishl hx hb dX1_makeString_129 ?_
          refine lv_ior hx hb dX1_makeString_130 ?_
          refine lv_istore (lv' := [(6, .int (((L.1 6)) ||| ((((((σ.2.2.1 13 ((((L.1 2)) + ((L.1 7)))).toNatClampNeg)) &&& 255)) <<< (((((((L.1 7)) &&& 3)) <<< ((3 : Int32) &&& 31))) &&& 31))))), (8, .int (((((L.1 7)) &&& 3)) <<< ((3 : Int32) &&& 31))), (0, .ref (a 0)), (1, .ref (a 13)), (2, .int (L.1 2)), (3, .int (L.1 3)), (5, .int (L.1 5)), (7, .int (L.1 7))]) hx hb dX1_makeString_131 hl (by decide) rfl (fun ls hl => ?_)
          refine lv_iload hx hb dX1_makeString_133 (lv_at hl 1 rfl) ?_
          refine lv_bipush (v := 24) hx hb dX1_makeString_135 (by decide) ?_
          refine lv_icmp_eq (tgt := 148) hx hb dX1_makeString_137 (by decide) (fun c3 => ?_) (fun c3 => ?_)
          · rw [if_pos c3] at h
            exact ih.2.2.2.2.2.2.2.2.2.1 (lI L 6 ((((L.1 6)) ||| ((((((σ.2.2.1 13 ((((L.1 2)) + ((L.1 7)))).toNatClampNeg)) &&& 255)) <<< (((((((L.1 7)) &&& 3)) <<< ((3 : Int32) &&& 31))) &&& 31)))))) σ r h H locs ls hP hD hS (lv_sub hl [2, 3, 4, 5, 6, 0, 7] rfl)
          · rw [if_neg c3] at h
            refine lv_iload hx hb dX1_makeString_140 (lv_at hl 7 rfl) ?_
            refine lv_iload_n hx hb dX1_makeString_142 rfl (lv_at hl 5 rfl) ?_
            refine lv_iconst (v := 1) hx hb dX1_makeString_143 (by decide) ?_
            refine lv_isub hx hb dX1_makeString_144 ?_
            refine lv_icmp_ne (tgt := 167) hx hb dX1_makeString_145 (by decide) (fun c4 => ?_) (fun c4 => ?_)
            · rw [if_neg c4] at h
              exact ih.2.2.2.2.2.2.2.2.2.2 (lI L 6 ((((L.1 6)) ||| ((((((σ.2.2.1 13 ((((L.1 2)) + ((L.1 7)))).toNatClampNeg)) &&& 255)) <<< (((((((L.1 7)) &&& 3)) <<< ((3 : Int32) &&& 31))) &&& 31)))))) σ r h H locs ls hP hD hS (lv_sub hl [2, 3, 4, 5, 6, 0, 7] rfl)
            · rw [if_pos c4] at h
              exact ih.2.2.2.2.2.2.2.2.2.1 (lI L 6 ((((L.1 6)) ||| ((((((σ.2.2.1 13 ((((L.1 2)) + ((L.1 7)))).toNatClampNeg)) &&& 255)) <<< (((((((L.1 7)) &&& 3)) <<< ((3 : Int32) &&& 31))) &&& 31)))))) σ r h H locs ls hP hD hS (lv_sub hl [2, 3, 4, 5, 6, 0, 7] rfl)
      · intro L σ r h H locs ls hP hD hS hl
        rw [y_X1_makeString__a13] at h
        refine lv_iload hx hb dX1_makeString_173 (lv_at hl 0 rfl) ?_
        obtain rfl := Option.some.inj h
        exact W.iret (v := (L.1 5)) hx hb hr (fun t ht hW => ⟨⟨(L.1 5), (), rfl, rfl, by rw [ht]; exact hP, va_K.moved hW.alike hK, hD⟩, hS.F ht⟩) hS.2.2 dX1_makeString_175
      · intro L σ r h H locs ls hP hD hS hl
        rw [y_X1_makeString__a13] at h
        refine lv_aload_n hx hb dX1_makeString_148 rfl (lv_at hl 0 rfl) ?_
        refine hg_0_0 hx hb hts in_y_X1_makeString__a13_X1 hown hK hP (hts _ (List.mem_cons_of_mem _ (List.mem_append_left _ (List.mem_append_left _ (List.mem_of_getElem? (i := 3) rfl))))) dX1_makeString_149 ?_
        refine lv_iload hx hb dX1_makeString_152 (lv_at hl 4 rfl) ?_
        refine lv_iconst (v := 1) hx hb dX1_makeString_154 (by decide) ?_
        refine lv_iadd hx hb dX1_makeString_155 ?_
        refine lv_iload hx hb dX1_makeString_156 (lv_at hl 6 rfl) ?_
        refine lv_iconst (v := 2) hx hb dX1_makeString_158 (by decide) ?_
        refine lv_ishr hx hb dX1_makeString_159 ?_
        refine lv_iadd hx hb dX1_makeString_160 ?_
        refine lv_iload hx hb dX1_makeString_161 (lv_at hl 5 rfl) ?_
        obtain ⟨q1, h⟩ := kb_ite1 h
        refine hs_3 hx hb hK hP hD hS q1 dX1_makeString_163 (fun H locs hP hD hS => ?_)
        refine lv_iconst (v := 0) hx hb dX1_makeString_164 (by decide) ?_
        refine lv_istore (lv' := [(6, .int 0), (0, .ref (a 0)), (1, .ref (a 13)), (2, .int (L.1 2)), (3, .int (L.1 3)), (5, .int (L.1 5)), (7, .int (L.1 7))]) hx hb dX1_makeString_165 hl (by decide) rfl (fun ls hl => ?_)
        exact ih.2.2.2.2.2.2.2.2.2.2 (lI L 6 0) (uA σ 3 ((((((L.1 5)) + 1)) + ((((L.1 7)) >>> ((2 : Int32) &&& 31))))).toNatClampNeg ((L.1 6))) r h H locs ls hP hD hS (lv_sub hl [1, 2, 3, 4, 5, 0, 6] rfl)
      · intro L σ r h H locs ls hP hD hS hl
        rw [y_X1_makeString__a13] at h
        refine lv_iinc (v := ((L.1 7)) + 1) (lv' := [(7, .int (((L.1 7)) + 1)), (0, .ref (a 0)), (1, .ref (a 13)), (2, .int (L.1 2)), (3, .int (L.1 3)), (5, .int (L.1 5)), (6, .int (L.1 6))]) hx hb dX1_makeString_167 hl (k := 6) rfl rfl (by decide) rfl (fun ls hl => ?_)
        refine lv_goto (tgt := 101) hx hb dX1_makeString_170 (by decide) ?_
        exact ih.2.2.2.2.2.2.2.1 (lI L 7 ((((L.1 7)) + 1))) σ r h H locs ls hP hD hS (lv_sub hl [1, 2, 3, 4, 5, 6, 0] rfl)
  exact (blk k0).1 L0 σ0 r0 h0 s.heap [] ls hP hD hS hl
/-! X6_madeString -/
def y_X6_madeString : Nat → Nat → LV → CS → Option (Int32 × CS)
  | 0, _, _, _ => none
  | k + 1, 0, L, σ => oc (y_X1_makeString__a13 k 0 (lI (lI lZ 2 0) 3 ((σ.1 1203))) σ) (fun r1 => some (r1.1, r1.2))
  | _ + 1, _ + 1, _, _ => none
def o_y_X6_madeString : List Cond := [.fieldLink RX6 15 "SetHouse$Printer" "heap" "LSetHouse$Heap;", .fieldLink RX6 11 "SetHouse$Printer" "text" "[B", .fieldLink RX6 23 "SetHouse$Printer" "length" "I", .methodLink RX6 92 yX1_makeString, .instanceMethod yX1_makeString, .selects RX1 yX1_makeString yX1_makeString, .initialized RX1]
theorem o_y_X6_madeString_good : o_y_X6_madeString.all goodWord = true := by decide +kernel
def p_y_X6_madeString : List Cond := o_y_X6_madeString ++ ((.code yX1_makeString cX1_makeString 9 (some .int) :: p_y_X1_makeString__a13) ++ [])
theorem p_y_X6_madeString_good : p_y_X6_madeString.all goodWord = true := nb_all2 o_y_X6_madeString_good (nb_all2 (nb_allc (by decide +kernel) p_y_X1_makeString__a13_good) rfl)
def w_y_X6_madeString : List Cond := .code yX6_madeString cX6_madeString 1 (some .int) :: (p_y_X6_madeString ++ fC)
theorem w_y_X6_madeString_good : w_y_X6_madeString.all goodWord = true := nb_allc (by decide +kernel) (nb_all2 p_y_X6_madeString_good fC_good)
theorem in_y_X6_madeString_X6 : ∀ w ∈ wsX60, w ∈ w_y_X6_madeString := fun _ h => List.mem_cons_of_mem _ (List.mem_append_right _ (List.mem_append_right _ (List.mem_append_right _ (List.mem_append_right _ (List.mem_append_right _ (List.mem_append_right _ (List.mem_append_left _ h)))))))
theorem hd_y_X6_madeString : yX6_madeString.cls = RX6 ∧ yX6_madeString.cls ≠ "java/lang/invoke/MethodHandle" ∧ yX6_madeString.cls ≠ "java/lang/invoke/VarHandle" ∧ (parseMethodDescriptor yX6_madeString.desc).map (fun d => d.parameters.length) = some 0 := by decide +kernel
theorem gg_y_X6_madeString_X1_makeString__a13 : GoodIn w_y_X6_madeString w_y_X1_makeString__a13 := goodIn_sub (fun w h => (List.mem_cons.mp h).elim (fun e => (List.mem_cons_of_mem _ (List.mem_append_left _ (List.mem_append_right _ (List.mem_append_left _ (List.mem_cons.mpr (Or.inl e))))))) (fun h => (List.mem_append.mp h).elim (fun h => (List.mem_cons_of_mem _ (List.mem_append_left _ (List.mem_append_right _ (List.mem_append_left _ (List.mem_cons_of_mem _ h)))))) (fun h => List.mem_cons_of_mem _ (List.mem_append_right _ h)))) w_y_X1_makeString__a13_good
theorem g_y_X6_madeString_X1_makeString__a13_V92 : GoodIn w_y_X6_madeString (wsV RX6 92 RX1 yX1_makeString w_y_X1_makeString__a13) := goodIn_app (nb_g4 (List.mem_cons_of_mem _ (List.mem_append_left _ (List.mem_append_left _ (List.mem_of_getElem? (i := 3) rfl)))) (List.mem_cons_of_mem _ (List.mem_append_left _ (List.mem_append_left _ (List.mem_of_getElem? (i := 4) rfl)))) (List.mem_cons_of_mem _ (List.mem_append_left _ (List.mem_append_left _ (List.mem_of_getElem? (i := 5) rfl)))) (List.mem_cons_of_mem _ (List.mem_append_left _ (List.mem_append_left _ (List.mem_of_getElem? (i := 6) rfl)))) (by decide +kernel)) gg_y_X6_madeString_X1_makeString__a13
set_option maxHeartbeats 40000000 in
set_option maxRecDepth 100000 in
theorem c_y_X6_madeString (l : Launch) (dC : Nat → ClassId) (dI : Nat → Nat → Nat) (cy : Nat → ClassId) (a z : Nat → Nat) (k0 : Nat) (L0 : LV) (σ0 : CS) (r0 : Int32 × CS) (h0 : y_X6_madeString k0 0 L0 σ0 = some r0) (sz : Nat) : Met l yX6_madeString w_y_X6_madeString ({ frames := 2, cells := 0, slots := 0, locals := 52 }) (va_Pc [.ref (a 12)] (nIn (dC, dI) cy sz (vC cy a z σ0))) (va_Qi (fun (x : Int32) (_ : Unit) => x = r0.1) (fun _ t => nOut (dC, dI) cy (va_A (vC cy a z σ0) sz) (vC cy a z r0.2) t) (va_A (vC cy a z σ0) sz)) 0 0 (va_A (vC cy a z σ0) sz) := by
  refine Met.ofW (cc := cX6_madeString) (maxL := 1) (ret := (some .int)) (by decide) rfl ?_
  intro p e s m args below meth c s₁ B hml hv
  obtain ⟨rfl, hsz, hP, hK, hD0, hG⟩ := hv
  have hx := B.exec
  have hb := B.bytes
  have hr := B.returns
  have hts := atoms_spec (ws := w_y_X6_madeString) B.pre
  have hown : s.vm.findClass RX6 = some m.cls := findClass_of_methodNamed B.named
  have hlocks := B.notSynchronized
  subst hsz
  have hD := hD0.self (sz := s.heap.size)
  generalize hAe : va_A (vC cy a z σ0) s.heap.size = A at hD ⊢
  have hA : ∀ q : Nat, s.heap.size ≤ q → A q := fun q h => by rw [← hAe]; exact Or.inr h
  have hS : va_S A s.heap s.heap [] := va_S.rf
  have hl := lv_entry ([.ref (a 12)]) (n := 1) (Nat.le_of_ble_eq_true rfl)
  rw [lg_entry_eq]
  generalize (lg_sl ([.ref (a 12)]) ++ List.replicate (1 - (lg_sl ([.ref (a 12)])).length) Slot.unset).toArray = ls at hl ⊢
  have hl : lv_has ls 1 [(0, .ref (a 12))] := hl
  have blk : ∀ k : Nat, (bC p l e (headSpec w_y_X6_madeString ({ frames := 2, cells := 0, slots := 0, locals := 52 })).room s m #[.ref (a 12)] below meth c dC dI cy a z A (kI dC dI cy a z A below #[.ref (a 12)] s) 1 (y_X6_madeString k 0) (fun L => [(0, .ref (a 12))]) 0 (fun L => [])) := by
    intro k
    induction k with
    | zero => exact fun L σ r h => (by cases h)
    | succ k ih =>
      skip
      · intro L σ r h H locs ls hP hD hS hl
        rw [y_X6_madeString] at h
        refine lv_aload_n hx hb dX6_madeString_0 rfl (lv_at hl 0 rfl) ?_
        refine hg_12_0 hx hb hts in_y_X6_madeString_X6 hown hK hP (hts _ (List.mem_cons_of_mem _ (List.mem_append_left _ (List.mem_append_left _ (List.mem_of_getElem? (i := 0) rfl))))) dX6_madeString_1 ?_
        refine lv_aload_n hx hb dX6_madeString_4 rfl (lv_at hl 0 rfl) ?_
        refine hg_12_2 hx hb hts in_y_X6_madeString_X6 hown hK hP (hts _ (List.mem_cons_of_mem _ (List.mem_append_left _ (List.mem_append_left _ (List.mem_of_getElem? (i := 1) rfl))))) dX6_madeString_5 ?_
        refine lv_iconst (v := 0) hx hb dX6_madeString_8 (by decide) ?_
        refine lv_aload_n hx hb dX6_madeString_9 rfl (lv_at hl 0 rfl) ?_
        refine hg_12_3 hx hb hts in_y_X6_madeString_X6 hown hK hP (hts _ (List.mem_cons_of_mem _ (List.mem_append_left _ (List.mem_append_left _ (List.mem_of_getElem? (i := 2) rfl))))) dX6_madeString_10 ?_
        obtain ⟨r1, hc1, h⟩ := oc_ex h
        refine kc_i (va_runV (As := [.ref (a 13), .int 0, .int (σ.1 1203)]) (rest := []) ⟨hx, hb, hml, hown, hts⟩ (c_y_X1_makeString__a13 l dC dI cy a z k (lI (lI lZ 2 0) 3 ((σ.1 1203))) σ r1 hc1 H.size) (cwV 3 hts g_y_X6_madeString_X1_makeString__a13_V92 rfl rfl rfl hd_y_X1_makeString__a13 ⟨Nat.le_of_ble_eq_true rfl, Nat.le_of_ble_eq_true rfl⟩) ⟨nb_blind, va_recv hK hP (ci := 1) (q0 := 0) rfl rfl, (kb_pre hK hG hP hD)⟩ rfl rfl hl.1 rfl (lv_room (Nat.le_of_ble_eq_true rfl)) dX6_madeString_13 ⟨Nat.le_refl _, Nat.le_refl _⟩) hA hP hD hS (fun H locs hP hD hS => ?_)
        obtain rfl := Option.some.inj h
        exact W.iret (v := r1.1) hx hb hr (fun t ht hW => ⟨⟨r1.1, (), rfl, rfl, by rw [ht]; exact hP, va_K.moved hW.alike hK, hD⟩, hS.F ht⟩) hS.2.2 dX6_madeString_16
  exact (blk k0) L0 σ0 r0 h0 s.heap [] ls hP hD hS hl
/-! X7_openUnit__P -/
def y_X7_openUnit__P : Nat → Nat → LV → CS → Option (Int32 × CS)
  | 0, _, _, _ => none
  | k + 1, 0, L, σ => if ¬ (((L.1 1)) < 0 ∨ 42 ≤ ((L.1 1)).toNatClampNeg) then (if ¬ (((L.1 1)) < 0 ∨ 42 ≤ ((L.1 1)).toNatClampNeg) then (if ¬ (((L.1 1)) < 0 ∨ 42 ≤ ((L.1 1)).toNatClampNeg) then (y_X7_openUnit__P k 1 L (uA (uA (uA σ (pR13 (((L.2.2.1 0)))) ((L.1 1)).toNatClampNeg ((σ.1 (fP ((L.2.2.1 0)) 1)))) (pR14 (((L.2.2.1 0)))) ((L.1 1)).toNatClampNeg 0) (pR15 (((L.2.2.1 0)))) ((L.1 1)).toNatClampNeg 0)) else none) else none) else none
  | k + 1, 1, L, σ => if ¬ (((L.1 1)) < 0 ∨ 42 ≤ ((L.1 1)).toNatClampNeg) then (if ¬ (((L.1 1)) < 0 ∨ 42 ≤ ((L.1 1)).toNatClampNeg) then (if ¬ (((L.1 1)) < 0 ∨ 42 ≤ ((L.1 1)).toNatClampNeg) then (y_X7_openUnit__P k 2 L (uA (uA (uA σ (pR16 (((L.2.2.1 0)))) ((L.1 1)).toNatClampNeg 0) (pR17 (((L.2.2.1 0)))) ((L.1 1)).toNatClampNeg 0) (pR18 (((L.2.2.1 0)))) ((L.1 1)).toNatClampNeg 0)) else none) else none) else none
  | k + 1, 2, L, σ => some (0, (uI σ (fP ((L.2.2.1 0)) 19) 0))
  | _ + 1, _ + 3, _, _ => none
def o_y_X7_openUnit__P : List Cond := [.fieldLink RX7 35 "SetHouse$Program" "entries" "[I", .fieldLink RX7 53 "SetHouse$Program" "size" "I", .fieldLink RX7 38 "SetHouse$Program" "params" "[I", .fieldLink RX7 41 "SetHouse$Program" "modes" "[I", .fieldLink RX7 44 "SetHouse$Program" "variables" "[I", .fieldLink RX7 47 "SetHouse$Program" "counted" "[I", .fieldLink RX7 50 "SetHouse$Program" "frames" "[I", .fieldLink RX7 82 "SetHouse$Program" "passing" "I"]
theorem o_y_X7_openUnit__P_good : o_y_X7_openUnit__P.all goodWord = true := by decide +kernel
def p_y_X7_openUnit__P : List Cond := o_y_X7_openUnit__P ++ []
theorem p_y_X7_openUnit__P_good : p_y_X7_openUnit__P.all goodWord = true := nb_all2 o_y_X7_openUnit__P_good rfl
def w_y_X7_openUnit__P : List Cond := .code yX7_openUnit cX7_openUnit 2 none :: (p_y_X7_openUnit__P ++ fC)
theorem w_y_X7_openUnit__P_good : w_y_X7_openUnit__P.all goodWord = true := nb_allc (by decide +kernel) (nb_all2 p_y_X7_openUnit__P_good fC_good)
theorem in_y_X7_openUnit__P_X7 : ∀ w ∈ wsX70, w ∈ w_y_X7_openUnit__P := fun _ h => List.mem_cons_of_mem _ (List.mem_append_right _ (List.mem_append_right _ (List.mem_append_right _ (List.mem_append_right _ (List.mem_append_right _ (List.mem_append_right _ (List.mem_append_right _ (List.mem_append_left _ h))))))))
theorem hd_y_X7_openUnit__P : yX7_openUnit.cls = RX7 ∧ yX7_openUnit.cls ≠ "java/lang/invoke/MethodHandle" ∧ yX7_openUnit.cls ≠ "java/lang/invoke/VarHandle" ∧ (parseMethodDescriptor yX7_openUnit.desc).map (fun d => d.parameters.length) = some 1 := by decide +kernel
set_option maxHeartbeats 40000000 in
set_option maxRecDepth 100000 in
theorem c_y_X7_openUnit__P (l : Launch) (dC : Nat → ClassId) (dI : Nat → Nat → Nat) (cy : Nat → ClassId) (a z : Nat → Nat) (k0 : Nat) (L0 : LV) (σ0 : CS) (r0 : Int32 × CS) (h0 : y_X7_openUnit__P k0 0 L0 σ0 = some r0) (sz : Nat) : Met l yX7_openUnit w_y_X7_openUnit__P ({ frames := 0, cells := 0, slots := 0, locals := 0 }) (va_Pc [.ref (a (pA (L0.2.2.1 0))), .int (L0.1 1)] (nIn (dC, dI) cy sz (vC cy a z σ0))) (va_Qv (fun _ : Unit => True) (fun _ t => nOut (dC, dI) cy (va_A (vC cy a z σ0) sz) (vC cy a z r0.2) t) (va_A (vC cy a z σ0) sz)) 0 0 (va_A (vC cy a z σ0) sz) := by
  refine Met.ofW (cc := cX7_openUnit) (maxL := 2) (ret := none) (by decide) rfl ?_
  intro p e s m args below meth c s₁ B hml hv
  obtain ⟨rfl, hsz, hP, hK, hD0, hG⟩ := hv
  have hx := B.exec
  have hb := B.bytes
  have hr := B.returns
  have hts := atoms_spec (ws := w_y_X7_openUnit__P) B.pre
  have hown : s.vm.findClass RX7 = some m.cls := findClass_of_methodNamed B.named
  have hlocks := B.notSynchronized
  subst hsz
  have hD := hD0.self (sz := s.heap.size)
  generalize hAe : va_A (vC cy a z σ0) s.heap.size = A at hD ⊢
  have hA : ∀ q : Nat, s.heap.size ≤ q → A q := fun q h => by rw [← hAe]; exact Or.inr h
  have hS : va_S A s.heap s.heap [] := va_S.rf
  have hl := lv_entry ([.ref (a (pA (L0.2.2.1 0))), .int (L0.1 1)]) (n := 2) (Nat.le_of_ble_eq_true rfl)
  rw [lg_entry_eq]
  generalize (lg_sl ([.ref (a (pA (L0.2.2.1 0))), .int (L0.1 1)]) ++ List.replicate (2 - (lg_sl ([.ref (a (pA (L0.2.2.1 0))), .int (L0.1 1)])).length) Slot.unset).toArray = ls at hl ⊢
  have hl : lv_has ls 2 [(0, .ref (a (pA (L0.2.2.1 0)))), (1, .int (L0.1 1))] := hl
  have blk : ∀ k : Nat, (bC p l e (headSpec w_y_X7_openUnit__P ({ frames := 0, cells := 0, slots := 0, locals := 0 })).room s m #[.ref (a (pA (L0.2.2.1 0))), .int (L0.1 1)] below meth c dC dI cy a z A (kV dC dI cy a z A below #[.ref (a (pA (L0.2.2.1 0))), .int (L0.1 1)] s) 2 (y_X7_openUnit__P k 0) (fun L => [(0, .ref (a (pA (L.2.2.1 0)))), (1, .int (L.1 1))]) 0 (fun L => [])) ∧ (bC p l e (headSpec w_y_X7_openUnit__P ({ frames := 0, cells := 0, slots := 0, locals := 0 })).room s m #[.ref (a (pA (L0.2.2.1 0))), .int (L0.1 1)] below meth c dC dI cy a z A (kV dC dI cy a z A below #[.ref (a (pA (L0.2.2.1 0))), .int (L0.1 1)] s) 2 (y_X7_openUnit__P k 1) (fun L => [(0, .ref (a (pA (L.2.2.1 0)))), (1, .int (L.1 1))]) 24 (fun L => [])) ∧ (bC p l e (headSpec w_y_X7_openUnit__P ({ frames := 0, cells := 0, slots := 0, locals := 0 })).room s m #[.ref (a (pA (L0.2.2.1 0))), .int (L0.1 1)] below meth c dC dI cy a z A (kV dC dI cy a z A below #[.ref (a (pA (L0.2.2.1 0))), .int (L0.1 1)] s) 2 (y_X7_openUnit__P k 2) (fun L => [(0, .ref (a (pA (L.2.2.1 0))))]) 45 (fun L => [])) := by
    intro k
    induction k with
    | zero => exact ⟨fun L σ r h => (by cases h), fun L σ r h => (by cases h), fun L σ r h => (by cases h)⟩
    | succ k ih =>
      refine ⟨?_, ?_, ?_⟩
      · intro L σ r h H locs ls hP hD hS hl
        rw [y_X7_openUnit__P] at h
        refine lv_aload_n hx hb dX7_openUnit_0 rfl (lv_at hl 0 rfl) ?_
        refine hg_P_13 ((L.2.2.1 0)) hx hb hts in_y_X7_openUnit__P_X7 hown hK hP (hts _ (List.mem_cons_of_mem _ (List.mem_append_left _ (List.mem_append_left _ (List.mem_of_getElem? (i := 0) rfl))))) dX7_openUnit_1 ?_
        refine lv_iload_n hx hb dX7_openUnit_4 rfl (lv_at hl 1 rfl) ?_
        refine lv_aload_n hx hb dX7_openUnit_5 rfl (lv_at hl 0 rfl) ?_
        refine hg_P_1 ((L.2.2.1 0)) hx hb hts in_y_X7_openUnit__P_X7 hown hK hP (hts _ (List.mem_cons_of_mem _ (List.mem_append_left _ (List.mem_append_left _ (List.mem_of_getElem? (i := 1) rfl))))) dX7_openUnit_6 ?_
        obtain ⟨q1, h⟩ := kb_ite1 h
        refine hs_P13 (((L.2.2.1 0))) hx hb hK hP hD hS q1 dX7_openUnit_9 (fun H locs hP hD hS => ?_)
        refine lv_aload_n hx hb dX7_openUnit_10 rfl (lv_at hl 0 rfl) ?_
        refine hg_P_14 ((L.2.2.1 0)) hx hb hts in_y_X7_openUnit__P_X7 hown hK hP (hts _ (List.mem_cons_of_mem _ (List.mem_append_left _ (List.mem_append_left _ (List.mem_of_getElem? (i := 2) rfl))))) dX7_openUnit_11 ?_
        refine lv_iload_n hx hb dX7_openUnit_14 rfl (lv_at hl 1 rfl) ?_
        refine lv_iconst (v := 0) hx hb dX7_openUnit_15 (by decide) ?_
        obtain ⟨q2, h⟩ := kb_ite1 h
        refine hs_P14 (((L.2.2.1 0))) hx hb hK hP hD hS q2 dX7_openUnit_16 (fun H locs hP hD hS => ?_)
        refine lv_aload_n hx hb dX7_openUnit_17 rfl (lv_at hl 0 rfl) ?_
        refine hg_P_15 ((L.2.2.1 0)) hx hb hts in_y_X7_openUnit__P_X7 hown hK hP (hts _ (List.mem_cons_of_mem _ (List.mem_append_left _ (List.mem_append_left _ (List.mem_of_getElem? (i := 3) rfl))))) dX7_openUnit_18 ?_
        refine lv_iload_n hx hb dX7_openUnit_21 rfl (lv_at hl 1 rfl) ?_
        refine lv_iconst (v := 0) hx hb dX7_openUnit_22 (by decide) ?_
        obtain ⟨q3, h⟩ := kb_ite1 h
        refine hs_P15 (((L.2.2.1 0))) hx hb hK hP hD hS q3 dX7_openUnit_23 (fun H locs hP hD hS => ?_)
        exact ih.2.1 L (uA (uA (uA σ (pR13 (((L.2.2.1 0)))) ((L.1 1)).toNatClampNeg ((σ.1 (fP ((L.2.2.1 0)) 1)))) (pR14 (((L.2.2.1 0)))) ((L.1 1)).toNatClampNeg 0) (pR15 (((L.2.2.1 0)))) ((L.1 1)).toNatClampNeg 0) r h H locs ls hP hD hS (lv_sub hl [0, 1] rfl)
      · intro L σ r h H locs ls hP hD hS hl
        rw [y_X7_openUnit__P] at h
        refine lv_aload_n hx hb dX7_openUnit_24 rfl (lv_at hl 0 rfl) ?_
        refine hg_P_16 ((L.2.2.1 0)) hx hb hts in_y_X7_openUnit__P_X7 hown hK hP (hts _ (List.mem_cons_of_mem _ (List.mem_append_left _ (List.mem_append_left _ (List.mem_of_getElem? (i := 4) rfl))))) dX7_openUnit_25 ?_
        refine lv_iload_n hx hb dX7_openUnit_28 rfl (lv_at hl 1 rfl) ?_
        refine lv_iconst (v := 0) hx hb dX7_openUnit_29 (by decide) ?_
        obtain ⟨q1, h⟩ := kb_ite1 h
        refine hs_P16 (((L.2.2.1 0))) hx hb hK hP hD hS q1 dX7_openUnit_30 (fun H locs hP hD hS => ?_)
        refine lv_aload_n hx hb dX7_openUnit_31 rfl (lv_at hl 0 rfl) ?_
        refine hg_P_17 ((L.2.2.1 0)) hx hb hts in_y_X7_openUnit__P_X7 hown hK hP (hts _ (List.mem_cons_of_mem _ (List.mem_append_left _ (List.mem_append_left _ (List.mem_of_getElem? (i := 5) rfl))))) dX7_openUnit_32 ?_
        refine lv_iload_n hx hb dX7_openUnit_35 rfl (lv_at hl 1 rfl) ?_
        refine lv_iconst (v := 0) hx hb dX7_openUnit_36 (by decide) ?_
        obtain ⟨q2, h⟩ := kb_ite1 h
        refine hs_P17 (((L.2.2.1 0))) hx hb hK hP hD hS q2 dX7_openUnit_37 (fun H locs hP hD hS => ?_)
        refine lv_aload_n hx hb dX7_openUnit_38 rfl (lv_at hl 0 rfl) ?_
        refine hg_P_18 ((L.2.2.1 0)) hx hb hts in_y_X7_openUnit__P_X7 hown hK hP (hts _ (List.mem_cons_of_mem _ (List.mem_append_left _ (List.mem_append_left _ (List.mem_of_getElem? (i := 6) rfl))))) dX7_openUnit_39 ?_
        refine lv_iload_n hx hb dX7_openUnit_42 rfl (lv_at hl 1 rfl) ?_
        refine lv_iconst (v := 0) hx hb dX7_openUnit_43 (by decide) ?_
        obtain ⟨q3, h⟩ := kb_ite1 h
        refine hs_P18 (((L.2.2.1 0))) hx hb hK hP hD hS q3 dX7_openUnit_44 (fun H locs hP hD hS => ?_)
        exact ih.2.2 L (uA (uA (uA σ (pR16 (((L.2.2.1 0)))) ((L.1 1)).toNatClampNeg 0) (pR17 (((L.2.2.1 0)))) ((L.1 1)).toNatClampNeg 0) (pR18 (((L.2.2.1 0)))) ((L.1 1)).toNatClampNeg 0) r h H locs ls hP hD hS (lv_sub hl [0] rfl)
      · intro L σ r h H locs ls hP hD hS hl
        rw [y_X7_openUnit__P] at h
        refine lv_aload_n hx hb dX7_openUnit_45 rfl (lv_at hl 0 rfl) ?_
        refine lv_iconst (v := 0) hx hb dX7_openUnit_46 (by decide) ?_
        refine hp_P_19 ((L.2.2.1 0)) hx hb hts in_y_X7_openUnit__P_X7 hown hK hP hD hS (hts _ (List.mem_cons_of_mem _ (List.mem_append_left _ (List.mem_append_left _ (List.mem_of_getElem? (i := 7) rfl))))) dX7_openUnit_47 (fun H locs hP hD hS => ?_)
        obtain rfl := Option.some.inj h
        exact W.vret hx hb hr (fun t ht hW => ⟨⟨(), rfl, trivial, by rw [ht]; exact hP, va_K.moved hW.alike hK, hD⟩, hS.F ht⟩) hS.2.2 dX7_openUnit_50
  exact (blk k0).1 L0 σ0 r0 h0 s.heap [] ls hP hD hS hl
/-! X7_moveDown__P -/
def y_X7_moveDown__P : Nat → Nat → LV → CS → Option (Int32 × CS)
  | 0, _, _, _ => none
  | k + 1, 0, L, σ => if ¬ ((L.1 1)) < 0 ∧ ¬ (0 : Int32) < 0 ∧ ¬ (((uI (uI σ (fP ((L.2.2.1 0)) 1) ((((σ.1 (fP ((L.2.2.1 0)) 1))) - ((L.1 1))))) (fP ((L.2.2.1 0)) 2) (((((uI σ (fP ((L.2.2.1 0)) 1) ((((σ.1 (fP ((L.2.2.1 0)) 1))) - ((L.1 1))))).1 (fP ((L.2.2.1 0)) 2))) - ((L.1 1))))).1 (fP ((L.2.2.1 0)) 1))) < 0 ∧ ((L.1 1)).toNatClampNeg + (((uI (uI σ (fP ((L.2.2.1 0)) 1) ((((σ.1 (fP ((L.2.2.1 0)) 1))) - ((L.1 1))))) (fP ((L.2.2.1 0)) 2) (((((uI σ (fP ((L.2.2.1 0)) 1) ((((σ.1 (fP ((L.2.2.1 0)) 1))) - ((L.1 1))))).1 (fP ((L.2.2.1 0)) 2))) - ((L.1 1))))).1 (fP ((L.2.2.1 0)) 1))).toNatClampNeg ≤ (sN (uI (uI σ (fP ((L.2.2.1 0)) 1) ((((σ.1 (fP ((L.2.2.1 0)) 1))) - ((L.1 1))))) (fP ((L.2.2.1 0)) 2) (((((uI σ (fP ((L.2.2.1 0)) 1) ((((σ.1 (fP ((L.2.2.1 0)) 1))) - ((L.1 1))))).1 (fP ((L.2.2.1 0)) 2))) - ((L.1 1))))) (pR0 ((sKd (uI (uI σ (fP ((L.2.2.1 0)) 1) ((((σ.1 (fP ((L.2.2.1 0)) 1))) - ((L.1 1))))) (fP ((L.2.2.1 0)) 2) (((((uI σ (fP ((L.2.2.1 0)) 1) ((((σ.1 (fP ((L.2.2.1 0)) 1))) - ((L.1 1))))).1 (fP ((L.2.2.1 0)) 2))) - ((L.1 1))))) ((L.2.2.1 0)))))) ∧ (0 : Int32).toNatClampNeg + (((uI (uI σ (fP ((L.2.2.1 0)) 1) ((((σ.1 (fP ((L.2.2.1 0)) 1))) - ((L.1 1))))) (fP ((L.2.2.1 0)) 2) (((((uI σ (fP ((L.2.2.1 0)) 1) ((((σ.1 (fP ((L.2.2.1 0)) 1))) - ((L.1 1))))).1 (fP ((L.2.2.1 0)) 2))) - ((L.1 1))))).1 (fP ((L.2.2.1 0)) 1))).toNatClampNeg ≤ (sN (uI (uI σ (fP ((L.2.2.1 0)) 1) ((((σ.1 (fP ((L.2.2.1 0)) 1))) - ((L.1 1))))) (fP ((L.2.2.1 0)) 2) (((((uI σ (fP ((L.2.2.1 0)) 1) ((((σ.1 (fP ((L.2.2.1 0)) 1))) - ((L.1 1))))).1 (fP ((L.2.2.1 0)) 2))) - ((L.1 1))))) (pR0 ((sKd (uI (uI σ (fP ((L.2.2.1 0)) 1) ((((σ.1 (fP ((L.2.2.1 0)) 1))) - ((L.1 1))))) (fP ((L.2.2.1 0)) 2) (((((uI σ (fP ((L.2.2.1 0)) 1) ((((σ.1 (fP ((L.2.2.1 0)) 1))) - ((L.1 1))))).1 (fP ((L.2.2.1 0)) 2))) - ((L.1 1))))) ((L.2.2.1 0)))))) then (y_X7_moveDown__P k 1 L (uF (uI (uI σ (fP ((L.2.2.1 0)) 1) ((((σ.1 (fP ((L.2.2.1 0)) 1))) - ((L.1 1))))) (fP ((L.2.2.1 0)) 2) (((((uI σ (fP ((L.2.2.1 0)) 1) ((((σ.1 (fP ((L.2.2.1 0)) 1))) - ((L.1 1))))).1 (fP ((L.2.2.1 0)) 2))) - ((L.1 1))))) (pR0 ((sKd (uI (uI σ (fP ((L.2.2.1 0)) 1) ((((σ.1 (fP ((L.2.2.1 0)) 1))) - ((L.1 1))))) (fP ((L.2.2.1 0)) 2) (((((uI σ (fP ((L.2.2.1 0)) 1) ((((σ.1 (fP ((L.2.2.1 0)) 1))) - ((L.1 1))))).1 (fP ((L.2.2.1 0)) 2))) - ((L.1 1))))) ((L.2.2.1 0))))) (va_cpy ((uI (uI σ (fP ((L.2.2.1 0)) 1) ((((σ.1 (fP ((L.2.2.1 0)) 1))) - ((L.1 1))))) (fP ((L.2.2.1 0)) 2) (((((uI σ (fP ((L.2.2.1 0)) 1) ((((σ.1 (fP ((L.2.2.1 0)) 1))) - ((L.1 1))))).1 (fP ((L.2.2.1 0)) 2))) - ((L.1 1))))).2.2.1 (pR0 ((sKd (uI (uI σ (fP ((L.2.2.1 0)) 1) ((((σ.1 (fP ((L.2.2.1 0)) 1))) - ((L.1 1))))) (fP ((L.2.2.1 0)) 2) (((((uI σ (fP ((L.2.2.1 0)) 1) ((((σ.1 (fP ((L.2.2.1 0)) 1))) - ((L.1 1))))).1 (fP ((L.2.2.1 0)) 2))) - ((L.1 1))))) ((L.2.2.1 0)))))) ((uI (uI σ (fP ((L.2.2.1 0)) 1) ((((σ.1 (fP ((L.2.2.1 0)) 1))) - ((L.1 1))))) (fP ((L.2.2.1 0)) 2) (((((uI σ (fP ((L.2.2.1 0)) 1) ((((σ.1 (fP ((L.2.2.1 0)) 1))) - ((L.1 1))))).1 (fP ((L.2.2.1 0)) 2))) - ((L.1 1))))).2.2.1 (pR0 ((sKd (uI (uI σ (fP ((L.2.2.1 0)) 1) ((((σ.1 (fP ((L.2.2.1 0)) 1))) - ((L.1 1))))) (fP ((L.2.2.1 0)) 2) (((((uI σ (fP ((L.2.2.1 0)) 1) ((((σ.1 (fP ((L.2.2.1 0)) 1))) - ((L.1 1))))).1 (fP ((L.2.2.1 0)) 2))) - ((L.1 1))))) ((L.2.2.1 0)))))) ((L.1 1)).toNatClampNeg (0 : Int32).toNatClampNeg (((uI (uI σ (fP ((L.2.2.1 0)) 1) ((((σ.1 (fP ((L.2.2.1 0)) 1))) - ((L.1 1))))) (fP ((L.2.2.1 0)) 2) (((((uI σ (fP ((L.2.2.1 0)) 1) ((((σ.1 (fP ((L.2.2.1 0)) 1))) - ((L.1 1))))).1 (fP ((L.2.2.1 0)) 2))) - ((L.1 1))))).1 (fP ((L.2.2.1 0)) 1))).toNatClampNeg))) else none
  | k + 1, 1, L, σ => y_X7_moveDown__P k 2 (lI L 2 0) σ
  | k + 1, 2, L, σ => if ((σ.1 (fP ((L.2.2.1 0)) 12))) < ((L.1 2)) then (y_X7_moveDown__P k 3 L σ) else (if ¬ (((L.1 2)) < 0 ∨ 42 ≤ ((L.1 2)).toNatClampNeg) then (if ¬ (((L.1 2)) < 0 ∨ 42 ≤ ((L.1 2)).toNatClampNeg) then (y_X7_moveDown__P k 2 (lI L 2 ((((L.1 2)) + 1))) (uA σ (pR13 (((L.2.2.1 0)))) ((L.1 2)).toNatClampNeg ((((σ.2.2.1 (pR13 (((L.2.2.1 0)))) ((L.1 2)).toNatClampNeg)) - ((L.1 1)))))) else none) else none)
  | k + 1, 3, L, σ => some (0, σ)
  | _ + 1, _ + 4, _, _ => none
def o_y_X7_moveDown__P : List Cond := [.fieldLink RX7 53 "SetHouse$Program" "size" "I", .fieldLink RX7 57 "SetHouse$Program" "entry" "I", .fieldLink RX7 9 "SetHouse$Program" "code" "[I", .methodLink RX7 76 arraycopyName, .native arraycopyName, .static arraycopyName, .initialized "java/lang/System", .fieldLink RX7 69 "SetHouse$Program" "units" "I", .fieldLink RX7 35 "SetHouse$Program" "entries" "[I"]
theorem o_y_X7_moveDown__P_good : o_y_X7_moveDown__P.all goodWord = true := by decide +kernel
def p_y_X7_moveDown__P : List Cond := o_y_X7_moveDown__P ++ []
theorem p_y_X7_moveDown__P_good : p_y_X7_moveDown__P.all goodWord = true := nb_all2 o_y_X7_moveDown__P_good rfl
def w_y_X7_moveDown__P : List Cond := .code yX7_moveDown cX7_moveDown 3 none :: (p_y_X7_moveDown__P ++ fC)
theorem w_y_X7_moveDown__P_good : w_y_X7_moveDown__P.all goodWord = true := nb_allc (by decide +kernel) (nb_all2 p_y_X7_moveDown__P_good fC_good)
theorem in_y_X7_moveDown__P_X7 : ∀ w ∈ wsX70, w ∈ w_y_X7_moveDown__P := fun _ h => List.mem_cons_of_mem _ (List.mem_append_right _ (List.mem_append_right _ (List.mem_append_right _ (List.mem_append_right _ (List.mem_append_right _ (List.mem_append_right _ (List.mem_append_right _ (List.mem_append_left _ h))))))))
theorem hd_y_X7_moveDown__P : yX7_moveDown.cls = RX7 ∧ yX7_moveDown.cls ≠ "java/lang/invoke/MethodHandle" ∧ yX7_moveDown.cls ≠ "java/lang/invoke/VarHandle" ∧ (parseMethodDescriptor yX7_moveDown.desc).map (fun d => d.parameters.length) = some 1 := by decide +kernel
set_option maxHeartbeats 40000000 in
set_option maxRecDepth 100000 in
theorem c_y_X7_moveDown__P (l : Launch) (dC : Nat → ClassId) (dI : Nat → Nat → Nat) (cy : Nat → ClassId) (a z : Nat → Nat) (k0 : Nat) (L0 : LV) (σ0 : CS) (r0 : Int32 × CS) (h0 : y_X7_moveDown__P k0 0 L0 σ0 = some r0) (sz : Nat) : Met l yX7_moveDown w_y_X7_moveDown__P ({ frames := 1, cells := 0, slots := 0, locals := 60 }) (va_Pc [.ref (a (pA (L0.2.2.1 0))), .int (L0.1 1)] (nIn (dC, dI) cy sz (vC cy a z σ0))) (va_Qv (fun _ : Unit => True) (fun _ t => nOut (dC, dI) cy (va_A (vC cy a z σ0) sz) (vC cy a z r0.2) t) (va_A (vC cy a z σ0) sz)) 0 0 (va_A (vC cy a z σ0) sz) := by
  refine Met.ofW (cc := cX7_moveDown) (maxL := 3) (ret := none) (by decide) rfl ?_
  intro p e s m args below meth c s₁ B hml hv
  obtain ⟨rfl, hsz, hP, hK, hD0, hG⟩ := hv
  have hx := B.exec
  have hb := B.bytes
  have hr := B.returns
  have hts := atoms_spec (ws := w_y_X7_moveDown__P) B.pre
  have hown : s.vm.findClass RX7 = some m.cls := findClass_of_methodNamed B.named
  have hlocks := B.notSynchronized
  subst hsz
  have hD := hD0.self (sz := s.heap.size)
  generalize hAe : va_A (vC cy a z σ0) s.heap.size = A at hD ⊢
  have hA : ∀ q : Nat, s.heap.size ≤ q → A q := fun q h => by rw [← hAe]; exact Or.inr h
  have hS : va_S A s.heap s.heap [] := va_S.rf
  have hl := lv_entry ([.ref (a (pA (L0.2.2.1 0))), .int (L0.1 1)]) (n := 3) (Nat.le_of_ble_eq_true rfl)
  rw [lg_entry_eq]
  generalize (lg_sl ([.ref (a (pA (L0.2.2.1 0))), .int (L0.1 1)]) ++ List.replicate (3 - (lg_sl ([.ref (a (pA (L0.2.2.1 0))), .int (L0.1 1)])).length) Slot.unset).toArray = ls at hl ⊢
  have hl : lv_has ls 3 [(0, .ref (a (pA (L0.2.2.1 0)))), (1, .int (L0.1 1))] := hl
  have blk : ∀ k : Nat, (bC p l e (headSpec w_y_X7_moveDown__P ({ frames := 1, cells := 0, slots := 0, locals := 60 })).room s m #[.ref (a (pA (L0.2.2.1 0))), .int (L0.1 1)] below meth c dC dI cy a z A (kV dC dI cy a z A below #[.ref (a (pA (L0.2.2.1 0))), .int (L0.1 1)] s) 3 (y_X7_moveDown__P k 0) (fun L => [(0, .ref (a (pA (L.2.2.1 0)))), (1, .int (L.1 1))]) 0 (fun L => [])) ∧ (bC p l e (headSpec w_y_X7_moveDown__P ({ frames := 1, cells := 0, slots := 0, locals := 60 })).room s m #[.ref (a (pA (L0.2.2.1 0))), .int (L0.1 1)] below meth c dC dI cy a z A (kV dC dI cy a z A below #[.ref (a (pA (L0.2.2.1 0))), .int (L0.1 1)] s) 3 (y_X7_moveDown__P k 1) (fun L => [(0, .ref (a (pA (L.2.2.1 0)))), (1, .int (L.1 1))]) 37 (fun L => [])) ∧ (bC p l e (headSpec w_y_X7_moveDown__P ({ frames := 1, cells := 0, slots := 0, locals := 60 })).room s m #[.ref (a (pA (L0.2.2.1 0))), .int (L0.1 1)] below meth c dC dI cy a z A (kV dC dI cy a z A below #[.ref (a (pA (L0.2.2.1 0))), .int (L0.1 1)] s) 3 (y_X7_moveDown__P k 2) (fun L => [(0, .ref (a (pA (L.2.2.1 0)))), (1, .int (L.1 1)), (2, .int (L.1 2))]) 39 (fun L => [])) ∧ (bC p l e (headSpec w_y_X7_moveDown__P ({ frames := 1, cells := 0, slots := 0, locals := 60 })).room s m #[.ref (a (pA (L0.2.2.1 0))), .int (L0.1 1)] below meth c dC dI cy a z A (kV dC dI cy a z A below #[.ref (a (pA (L0.2.2.1 0))), .int (L0.1 1)] s) 3 (y_X7_moveDown__P k 3) (fun L => []) 67 (fun L => [])) := by
    intro k
    induction k with
    | zero => exact ⟨fun L σ r h => (by cases h), fun L σ r h => (by cases h), fun L σ r h => (by cases h), fun L σ r h => (by cases h)⟩
    | succ k ih =>
      refine ⟨?_, ?_, ?_, ?_⟩
      · intro L σ r h H locs ls hP hD hS hl
        rw [y_X7_moveDown__P] at h
        refine lv_aload_n hx hb dX7_moveDown_0 rfl (lv_at hl 0 rfl) ?_
        refine lv_aload_n hx hb dX7_moveDown_1 rfl (lv_at hl 0 rfl) ?_
        refine hg_P_1 ((L.2.2.1 0)) hx hb hts in_y_X7_moveDown__P_X7 hown hK hP (hts _ (List.mem_cons_of_mem _ (List.mem_append_left _ (List.mem_append_left _ (List.mem_of_getElem? (i := 0) rfl))))) dX7_moveDown_2 ?_
        refine lv_iload_n hx hb dX7_moveDown_5 rfl (lv_at hl 1 rfl) ?_
        refine lv_isub hx hb dX7_moveDown_6 ?_
        refine hp_P_1 ((L.2.2.1 0)) hx hb hts in_y_X7_moveDown__P_X7 hown hK hP hD hS (hts _ (List.mem_cons_of_mem _ (List.mem_append_left _ (List.mem_append_left _ (List.mem_of_getElem? (i := 0) rfl))))) dX7_moveDown_7 (fun H locs hP hD hS => ?_)
        refine lv_aload_n hx hb dX7_moveDown_10 rfl (lv_at hl 0 rfl) ?_
        refine lv_aload_n hx hb dX7_moveDown_11 rfl (lv_at hl 0 rfl) ?_
        refine hg_P_2 ((L.2.2.1 0)) hx hb hts in_y_X7_moveDown__P_X7 hown hK hP (hts _ (List.mem_cons_of_mem _ (List.mem_append_left _ (List.mem_append_left _ (List.mem_of_getElem? (i := 1) rfl))))) dX7_moveDown_12 ?_
        refine lv_iload_n hx hb dX7_moveDown_15 rfl (lv_at hl 1 rfl) ?_
        refine lv_isub hx hb dX7_moveDown_16 ?_
        refine hp_P_2 ((L.2.2.1 0)) hx hb hts in_y_X7_moveDown__P_X7 hown hK hP hD hS (hts _ (List.mem_cons_of_mem _ (List.mem_append_left _ (List.mem_append_left _ (List.mem_of_getElem? (i := 1) rfl))))) dX7_moveDown_17 (fun H locs hP hD hS => ?_)
        refine lv_aload_n hx hb dX7_moveDown_20 rfl (lv_at hl 0 rfl) ?_
        refine hg_P_0 ((L.2.2.1 0)) hx hb hts in_y_X7_moveDown__P_X7 hown hK hP (hts _ (List.mem_cons_of_mem _ (List.mem_append_left _ (List.mem_append_left _ (List.mem_of_getElem? (i := 2) rfl))))) dX7_moveDown_21 ?_
        refine lv_iload_n hx hb dX7_moveDown_24 rfl (lv_at hl 1 rfl) ?_
        refine lv_aload_n hx hb dX7_moveDown_25 rfl (lv_at hl 0 rfl) ?_
        refine hg_P_0 ((L.2.2.1 0)) hx hb hts in_y_X7_moveDown__P_X7 hown hK hP (hts _ (List.mem_cons_of_mem _ (List.mem_append_left _ (List.mem_append_left _ (List.mem_of_getElem? (i := 2) rfl))))) dX7_moveDown_26 ?_
        refine lv_iconst (v := 0) hx hb dX7_moveDown_29 (by decide) ?_
        refine lv_aload_n hx hb dX7_moveDown_30 rfl (lv_at hl 0 rfl) ?_
        refine hg_P_1 ((L.2.2.1 0)) hx hb hts in_y_X7_moveDown__P_X7 hown hK hP (hts _ (List.mem_cons_of_mem _ (List.mem_append_left _ (List.mem_append_left _ (List.mem_of_getElem? (i := 0) rfl))))) dX7_moveDown_31 ?_
        obtain ⟨q1, h⟩ := kb_ite1 h
        refine hcp_P0_P0 ((sKd (uI (uI σ (fP ((L.2.2.1 0)) 1) ((((σ.1 (fP ((L.2.2.1 0)) 1))) - ((L.1 1))))) (fP ((L.2.2.1 0)) 2) (((((uI σ (fP ((L.2.2.1 0)) 1) ((((σ.1 (fP ((L.2.2.1 0)) 1))) - ((L.1 1))))).1 (fP ((L.2.2.1 0)) 2))) - ((L.1 1))))) ((L.2.2.1 0)))) hx hb (hml.trans hl.1.symm) hown (hts _ (List.mem_cons_of_mem _ (List.mem_append_left _ (List.mem_append_left _ (List.mem_of_getElem? (i := 3) rfl))))) (hts _ (List.mem_cons_of_mem _ (List.mem_append_left _ (List.mem_append_left _ (List.mem_of_getElem? (i := 4) rfl))))) (hts _ (List.mem_cons_of_mem _ (List.mem_append_left _ (List.mem_append_left _ (List.mem_of_getElem? (i := 5) rfl))))) (hts _ (List.mem_cons_of_mem _ (List.mem_append_left _ (List.mem_append_left _ (List.mem_of_getElem? (i := 6) rfl))))) hK hP hD hS q1 (Nat.le_of_ble_eq_true rfl) (Nat.le_of_ble_eq_true rfl) dX7_moveDown_34 (fun H locs hP hD hS => ?_)
        exact ih.2.1 L (uF (uI (uI σ (fP ((L.2.2.1 0)) 1) ((((σ.1 (fP ((L.2.2.1 0)) 1))) - ((L.1 1))))) (fP ((L.2.2.1 0)) 2) (((((uI σ (fP ((L.2.2.1 0)) 1) ((((σ.1 (fP ((L.2.2.1 0)) 1))) - ((L.1 1))))).1 (fP ((L.2.2.1 0)) 2))) - ((L.1 1))))) (pR0 ((sKd (uI (uI σ (fP ((L.2.2.1 0)) 1) ((((σ.1 (fP ((L.2.2.1 0)) 1))) - ((L.1 1))))) (fP ((L.2.2.1 0)) 2) (((((uI σ (fP ((L.2.2.1 0)) 1) ((((σ.1 (fP ((L.2.2.1 0)) 1))) - ((L.1 1))))).1 (fP ((L.2.2.1 0)) 2))) - ((L.1 1))))) ((L.2.2.1 0))))) (va_cpy ((uI (uI σ (fP ((L.2.2.1 0)) 1) ((((σ.1 (fP ((L.2.2.1 0)) 1))) - ((L.1 1))))) (fP ((L.2.2.1 0)) 2) (((((uI σ (fP ((L.2.2.1 0)) 1) ((((σ.1 (fP ((L.2.2.1 0)) 1))) - ((L.1 1))))).1 (fP ((L.2.2.1 0)) 2))) - ((L.1 1))))).2.2.1 (pR0 ((sKd (uI (uI σ (fP ((L.2.2.1 0)) 1) ((((σ.1 (fP ((L.2.2.1 0)) 1))) - ((L.1 1))))) (fP ((L.2.2.1 0)) 2) (((((uI σ (fP ((L.2.2.1 0)) 1) ((((σ.1 (fP ((L.2.2.1 0)) 1))) - ((L.1 1))))).1 (fP ((L.2.2.1 0)) 2))) - ((L.1 1))))) ((L.2.2.1 0)))))) ((uI (uI σ (fP ((L.2.2.1 0)) 1) ((((σ.1 (fP ((L.2.2.1 0)) 1))) - ((L.1 1))))) (fP ((L.2.2.1 0)) 2) (((((uI σ (fP ((L.2.2.1 0)) 1) ((((σ.1 (fP ((L.2.2.1 0)) 1))) - ((L.1 1))))).1 (fP ((L.2.2.1 0)) 2))) - ((L.1 1))))).2.2.1 (pR0 ((sKd (uI (uI σ (fP ((L.2.2.1 0)) 1) ((((σ.1 (fP ((L.2.2.1 0)) 1))) - ((L.1 1))))) (fP ((L.2.2.1 0)) 2) (((((uI σ (fP ((L.2.2.1 0)) 1) ((((σ.1 (fP ((L.2.2.1 0)) 1))) - ((L.1 1))))).1 (fP ((L.2.2.1 0)) 2))) - ((L.1 1))))) ((L.2.2.1 0)))))) ((L.1 1)).toNatClampNeg (0 : Int32).toNatClampNeg (((uI (uI σ (fP ((L.2.2.1 0)) 1) ((((σ.1 (fP ((L.2.2.1 0)) 1))) - ((L.1 1))))) (fP ((L.2.2.1 0)) 2) (((((uI σ (fP ((L.2.2.1 0)) 1) ((((σ.1 (fP ((L.2.2.1 0)) 1))) - ((L.1 1))))).1 (fP ((L.2.2.1 0)) 2))) - ((L.1 1))))).1 (fP ((L.2.2.1 0)) 1))).toNatClampNeg)) r h H locs ls hP hD hS (lv_sub hl [0, 1] rfl)
      · intro L σ r h H locs ls hP hD hS hl
        rw [y_X7_moveDown__P] at h
        refine lv_iconst (v := 0) hx hb dX7_moveDown_37 (by decide) ?_
        refine lv_istore_n (lv' := [(2, .int 0), (0, .ref (a (pA (L.2.2.1 0)))), (1, .int (L.1 1))]) hx hb dX7_moveDown_38 rfl hl (by decide) rfl (fun ls hl => ?_)
        exact ih.2.2.1 (lI L 2 0) σ r h H locs ls hP hD hS (lv_sub hl [1, 2, 0] rfl)
      · intro L σ r h H locs ls hP hD hS hl
        rw [y_X7_moveDown__P] at h
        refine lv_iload_n hx hb dX7_moveDown_39 rfl (lv_at hl 2 rfl) ?_
        refine lv_aload_n hx hb dX7_moveDown_40 rfl (lv_at hl 0 rfl) ?_
        refine hg_P_12 ((L.2.2.1 0)) hx hb hts in_y_X7_moveDown__P_X7 hown hK hP (hts _ (List.mem_cons_of_mem _ (List.mem_append_left _ (List.mem_append_left _ (List.mem_of_getElem? (i := 7) rfl))))) dX7_moveDown_41 ?_
        refine lv_icmp_gt (tgt := 67) hx hb dX7_moveDown_44 (by decide) (fun c1 => ?_) (fun c1 => ?_)
        · rw [if_pos c1] at h
          exact ih.2.2.2 L σ r h H locs ls hP hD hS (lv_sub hl [] rfl)
        · rw [if_neg c1] at h
          refine lv_aload_n hx hb dX7_moveDown_47 rfl (lv_at hl 0 rfl) ?_
          refine hg_P_13 ((L.2.2.1 0)) hx hb hts in_y_X7_moveDown__P_X7 hown hK hP (hts _ (List.mem_cons_of_mem _ (List.mem_append_left _ (List.mem_append_left _ (List.mem_of_getElem? (i := 8) rfl))))) dX7_moveDown_48 ?_
          refine lv_iload_n hx hb dX7_moveDown_51 rfl (lv_at hl 2 rfl) ?_
          refine lv_aload_n hx hb dX7_moveDown_52 rfl (lv_at hl 0 rfl) ?_
          refine hg_P_13 ((L.2.2.1 0)) hx hb hts in_y_X7_moveDown__P_X7 hown hK hP (hts _ (List.mem_cons_of_mem _ (List.mem_append_left _ (List.mem_append_left _ (List.mem_of_getElem? (i := 8) rfl))))) dX7_moveDown_53 ?_
          refine lv_iload_n hx hb dX7_moveDown_56 rfl (lv_at hl 2 rfl) ?_
          obtain ⟨q2, h⟩ := kb_ite1 h
          refine hl_P13 (((L.2.2.1 0))) hx hb hK hP q2 dX7_moveDown_57 ?_
          refine lv_iload_n hx hb dX7_moveDown_58 rfl (lv_at hl 1 rfl) ?_
          refine lv_isub hx hb dX7_moveDown_59 ?_
          obtain ⟨q3, h⟩ := kb_ite1 h
          refine hs_P13 (((L.2.2.1 0))) hx hb hK hP hD hS q3 dX7_moveDown_60 (fun H locs hP hD hS => ?_)
          refine lv_iinc (v := ((L.1 2)) + 1) (lv' := [(2, .int (((L.1 2)) + 1)), (0, .ref (a (pA (L.2.2.1 0)))), (1, .int (L.1 1))]) hx hb dX7_moveDown_61 hl (k := 2) rfl rfl (by decide) rfl (fun ls hl => ?_)
          refine lv_goto (tgt := 39) hx hb dX7_moveDown_64 (by decide) ?_
          exact ih.2.2.1 (lI L 2 ((((L.1 2)) + 1))) (uA σ (pR13 (((L.2.2.1 0)))) ((L.1 2)).toNatClampNeg ((((σ.2.2.1 (pR13 (((L.2.2.1 0)))) ((L.1 2)).toNatClampNeg)) - ((L.1 1))))) r h H locs ls hP hD hS (lv_sub hl [1, 2, 0] rfl)
      · intro L σ r h H locs ls hP hD hS hl
        rw [y_X7_moveDown__P] at h
        obtain rfl := Option.some.inj h
        exact W.vret hx hb hr (fun t ht hW => ⟨⟨(), rfl, trivial, by rw [ht]; exact hP, va_K.moved hW.alike hK, hD⟩, hS.F ht⟩) hS.2.2 dX7_moveDown_67
  exact (blk k0).1 L0 σ0 r0 h0 s.heap [] ls hP hD hS hl
/-! X7_mode__P -/
def y_X7_mode__P : Nat → Nat → LV → CS → Option (Int32 × CS)
  | 0, _, _, _ => none
  | k + 1, 0, L, σ => if ¬ (((L.1 1)) < 0 ∨ 42 ≤ ((L.1 1)).toNatClampNeg) then (some ((((((σ.2.2.1 (pR15 (((L.2.2.1 0)))) ((L.1 1)).toNatClampNeg)) >>> (((2 * ((L.1 2)))) &&& 31))) &&& 3), σ)) else none
  | _ + 1, _ + 1, _, _ => none
def o_y_X7_mode__P : List Cond := [.fieldLink RX7 41 "SetHouse$Program" "modes" "[I"]
theorem o_y_X7_mode__P_good : o_y_X7_mode__P.all goodWord = true := by decide +kernel
def p_y_X7_mode__P : List Cond := o_y_X7_mode__P ++ []
theorem p_y_X7_mode__P_good : p_y_X7_mode__P.all goodWord = true := nb_all2 o_y_X7_mode__P_good rfl
def w_y_X7_mode__P : List Cond := .code yX7_mode cX7_mode 3 (some .int) :: (p_y_X7_mode__P ++ fC)
theorem w_y_X7_mode__P_good : w_y_X7_mode__P.all goodWord = true := nb_allc (by decide +kernel) (nb_all2 p_y_X7_mode__P_good fC_good)
theorem in_y_X7_mode__P_X7 : ∀ w ∈ wsX70, w ∈ w_y_X7_mode__P := fun _ h => List.mem_cons_of_mem _ (List.mem_append_right _ (List.mem_append_right _ (List.mem_append_right _ (List.mem_append_right _ (List.mem_append_right _ (List.mem_append_right _ (List.mem_append_right _ (List.mem_append_left _ h))))))))
theorem hd_y_X7_mode__P : yX7_mode.cls = RX7 ∧ yX7_mode.cls ≠ "java/lang/invoke/MethodHandle" ∧ yX7_mode.cls ≠ "java/lang/invoke/VarHandle" ∧ (parseMethodDescriptor yX7_mode.desc).map (fun d => d.parameters.length) = some 2 := by decide +kernel
set_option maxHeartbeats 40000000 in
set_option maxRecDepth 100000 in
theorem c_y_X7_mode__P (l : Launch) (dC : Nat → ClassId) (dI : Nat → Nat → Nat) (cy : Nat → ClassId) (a z : Nat → Nat) (k0 : Nat) (L0 : LV) (σ0 : CS) (r0 : Int32 × CS) (h0 : y_X7_mode__P k0 0 L0 σ0 = some r0) (sz : Nat) : Met l yX7_mode w_y_X7_mode__P ({ frames := 0, cells := 0, slots := 0, locals := 0 }) (va_Pc [.ref (a (pA (L0.2.2.1 0))), .int (L0.1 1), .int (L0.1 2)] (nIn (dC, dI) cy sz (vC cy a z σ0))) (va_Qi (fun (x : Int32) (_ : Unit) => x = r0.1) (fun _ t => nOut (dC, dI) cy (va_A (vC cy a z σ0) sz) (vC cy a z r0.2) t) (va_A (vC cy a z σ0) sz)) 0 0 (va_A (vC cy a z σ0) sz) := by
  refine Met.ofW (cc := cX7_mode) (maxL := 3) (ret := (some .int)) (by decide) rfl ?_
  intro p e s m args below meth c s₁ B hml hv
  obtain ⟨rfl, hsz, hP, hK, hD0, hG⟩ := hv
  have hx := B.exec
  have hb := B.bytes
  have hr := B.returns
  have hts := atoms_spec (ws := w_y_X7_mode__P) B.pre
  have hown : s.vm.findClass RX7 = some m.cls := findClass_of_methodNamed B.named
  have hlocks := B.notSynchronized
  subst hsz
  have hD := hD0.self (sz := s.heap.size)
  generalize hAe : va_A (vC cy a z σ0) s.heap.size = A at hD ⊢
  have hA : ∀ q : Nat, s.heap.size ≤ q → A q := fun q h => by rw [← hAe]; exact Or.inr h
  have hS : va_S A s.heap s.heap [] := va_S.rf
  have hl := lv_entry ([.ref (a (pA (L0.2.2.1 0))), .int (L0.1 1), .int (L0.1 2)]) (n := 3) (Nat.le_of_ble_eq_true rfl)
  rw [lg_entry_eq]
  generalize (lg_sl ([.ref (a (pA (L0.2.2.1 0))), .int (L0.1 1), .int (L0.1 2)]) ++ List.replicate (3 - (lg_sl ([.ref (a (pA (L0.2.2.1 0))), .int (L0.1 1), .int (L0.1 2)])).length) Slot.unset).toArray = ls at hl ⊢
  have hl : lv_has ls 3 [(0, .ref (a (pA (L0.2.2.1 0)))), (1, .int (L0.1 1)), (2, .int (L0.1 2))] := hl
  have blk : ∀ k : Nat, (bC p l e (headSpec w_y_X7_mode__P ({ frames := 0, cells := 0, slots := 0, locals := 0 })).room s m #[.ref (a (pA (L0.2.2.1 0))), .int (L0.1 1), .int (L0.1 2)] below meth c dC dI cy a z A (kI dC dI cy a z A below #[.ref (a (pA (L0.2.2.1 0))), .int (L0.1 1), .int (L0.1 2)] s) 3 (y_X7_mode__P k 0) (fun L => [(0, .ref (a (pA (L.2.2.1 0)))), (1, .int (L.1 1)), (2, .int (L.1 2))]) 0 (fun L => [])) := by
    intro k
    induction k with
    | zero => exact fun L σ r h => (by cases h)
    | succ k ih =>
      skip
      · intro L σ r h H locs ls hP hD hS hl
        rw [y_X7_mode__P] at h
        refine lv_aload_n hx hb dX7_mode_0 rfl (lv_at hl 0 rfl) ?_
        refine hg_P_15 ((L.2.2.1 0)) hx hb hts in_y_X7_mode__P_X7 hown hK hP (hts _ (List.mem_cons_of_mem _ (List.mem_append_left _ (List.mem_append_left _ (List.mem_of_getElem? (i := 0) rfl))))) dX7_mode_1 ?_
        refine lv_iload_n hx hb dX7_mode_4 rfl (lv_at hl 1 rfl) ?_
        obtain ⟨q1, h⟩ := kb_ite1 h
        refine hl_P15 (((L.2.2.1 0))) hx hb hK hP q1 dX7_mode_5 ?_
        refine lv_iconst (v := 2) hx hb dX7_mode_6 (by decide) ?_
        refine lv_iload_n hx hb dX7_mode_7 rfl (lv_at hl 2 rfl) ?_
        refine lv_imul hx hb dX7_mode_8 ?_
        refine lv_ishr hx hb dX7_mode_9 ?_
        refine lv_iconst (v := 3) hx hb dX7_mode_10 (by decide) ?_
        refine lv_iand hx hb dX7_mode_11 ?_
        obtain rfl := Option.some.inj h
        exact W.iret (v := (((((σ.2.2.1 (pR15 (((L.2.2.1 0)))) ((L.1 1)).toNatClampNeg)) >>> (((2 * ((L.1 2)))) &&& 31))) &&& 3)) hx hb hr (fun t ht hW => ⟨⟨(((((σ.2.2.1 (pR15 (((L.2.2.1 0)))) ((L.1 1)).toNatClampNeg)) >>> (((2 * ((L.1 2)))) &&& 31))) &&& 3), (), rfl, rfl, by rw [ht]; exact hP, va_K.moved hW.alike hK, hD⟩, hS.F ht⟩) hS.2.2 dX7_mode_12
  exact (blk k0) L0 σ0 r0 h0 s.heap [] ls hP hD hS hl
/-! X7_found__P -/
def y_X7_found__P : Nat → Nat → LV → CS → Option (Int32 × CS)
  | 0, _, _, _ => none
  | k + 1, 0, L, σ => y_X7_found__P k 1 (lI L 5 ((((σ.1 (fP ((L.2.2.1 0)) 11))) - 1))) σ
  | k + 1, 1, L, σ => if ((L.1 5)) < 0 then (y_X7_found__P k 2 L σ) else (if ¬ (((L.1 5)) < 0 ∨ 256 ≤ ((L.1 5)).toNatClampNeg) then (if ((nbCmp ((σ.2.2.2.1 (pR5 (((L.2.2.1 0)))) ((L.1 5)).toNatClampNeg)) ((L.2.1 1)))) = 0 then (if ¬ (((L.1 5)) < 0 ∨ 256 ≤ ((L.1 5)).toNatClampNeg) then (if ((nbCmp ((σ.2.2.2.1 (pR6 (((L.2.2.1 0)))) ((L.1 5)).toNatClampNeg)) ((L.2.1 3)))) = 0 then (if ¬ (((L.1 5)) < 0 ∨ 256 ≤ ((L.1 5)).toNatClampNeg) then (if ((σ.2.2.1 (pR10 (((L.2.2.1 0)))) ((L.1 5)).toNatClampNeg)) = 0 then (some ((L.1 5), σ)) else (y_X7_found__P k 3 L σ)) else none) else (y_X7_found__P k 3 L σ)) else none) else (y_X7_found__P k 3 L σ)) else none)
  | k + 1, 2, L, σ => some ((-1), σ)
  | k + 1, 3, L, σ => y_X7_found__P k 1 (lI L 5 ((((L.1 5)) + (-1)))) σ
  | _ + 1, _ + 4, _, _ => none
def o_y_X7_found__P : List Cond := [.fieldLink RX7 66 "SetHouse$Program" "names" "I", .fieldLink RX7 15 "SetHouse$Program" "high" "[J", .fieldLink RX7 19 "SetHouse$Program" "low" "[J", .fieldLink RX7 31 "SetHouse$Program" "hidden" "[Z"]
theorem o_y_X7_found__P_good : o_y_X7_found__P.all goodWord = true := by decide +kernel
def p_y_X7_found__P : List Cond := o_y_X7_found__P ++ []
theorem p_y_X7_found__P_good : p_y_X7_found__P.all goodWord = true := nb_all2 o_y_X7_found__P_good rfl
def w_y_X7_found__P : List Cond := .code yX7_found cX7_found 6 (some .int) :: (p_y_X7_found__P ++ fC)
theorem w_y_X7_found__P_good : w_y_X7_found__P.all goodWord = true := nb_allc (by decide +kernel) (nb_all2 p_y_X7_found__P_good fC_good)
theorem in_y_X7_found__P_X7 : ∀ w ∈ wsX70, w ∈ w_y_X7_found__P := fun _ h => List.mem_cons_of_mem _ (List.mem_append_right _ (List.mem_append_right _ (List.mem_append_right _ (List.mem_append_right _ (List.mem_append_right _ (List.mem_append_right _ (List.mem_append_right _ (List.mem_append_left _ h))))))))
theorem hd_y_X7_found__P : yX7_found.cls = RX7 ∧ yX7_found.cls ≠ "java/lang/invoke/MethodHandle" ∧ yX7_found.cls ≠ "java/lang/invoke/VarHandle" ∧ (parseMethodDescriptor yX7_found.desc).map (fun d => d.parameters.length) = some 2 := by decide +kernel
set_option maxHeartbeats 40000000 in
set_option maxRecDepth 100000 in
theorem c_y_X7_found__P (l : Launch) (dC : Nat → ClassId) (dI : Nat → Nat → Nat) (cy : Nat → ClassId) (a z : Nat → Nat) (k0 : Nat) (L0 : LV) (σ0 : CS) (r0 : Int32 × CS) (h0 : y_X7_found__P k0 0 L0 σ0 = some r0) (sz : Nat) : Met l yX7_found w_y_X7_found__P ({ frames := 0, cells := 0, slots := 0, locals := 0 }) (va_Pc [.ref (a (pA (L0.2.2.1 0))), .long (L0.2.1 1), .long (L0.2.1 3)] (nIn (dC, dI) cy sz (vC cy a z σ0))) (va_Qi (fun (x : Int32) (_ : Unit) => x = r0.1) (fun _ t => nOut (dC, dI) cy (va_A (vC cy a z σ0) sz) (vC cy a z r0.2) t) (va_A (vC cy a z σ0) sz)) 0 0 (va_A (vC cy a z σ0) sz) := by
  refine Met.ofW (cc := cX7_found) (maxL := 6) (ret := (some .int)) (by decide) rfl ?_
  intro p e s m args below meth c s₁ B hml hv
  obtain ⟨rfl, hsz, hP, hK, hD0, hG⟩ := hv
  have hx := B.exec
  have hb := B.bytes
  have hr := B.returns
  have hts := atoms_spec (ws := w_y_X7_found__P) B.pre
  have hown : s.vm.findClass RX7 = some m.cls := findClass_of_methodNamed B.named
  have hlocks := B.notSynchronized
  subst hsz
  have hD := hD0.self (sz := s.heap.size)
  generalize hAe : va_A (vC cy a z σ0) s.heap.size = A at hD ⊢
  have hA : ∀ q : Nat, s.heap.size ≤ q → A q := fun q h => by rw [← hAe]; exact Or.inr h
  have hS : va_S A s.heap s.heap [] := va_S.rf
  have hl := lv_entry ([.ref (a (pA (L0.2.2.1 0))), .long (L0.2.1 1), .long (L0.2.1 3)]) (n := 6) (Nat.le_of_ble_eq_true rfl)
  rw [lg_entry_eq]
  generalize (lg_sl ([.ref (a (pA (L0.2.2.1 0))), .long (L0.2.1 1), .long (L0.2.1 3)]) ++ List.replicate (6 - (lg_sl ([.ref (a (pA (L0.2.2.1 0))), .long (L0.2.1 1), .long (L0.2.1 3)])).length) Slot.unset).toArray = ls at hl ⊢
  have hl : lv_has ls 6 [(0, .ref (a (pA (L0.2.2.1 0)))), (1, .long (L0.2.1 1)), (3, .long (L0.2.1 3))] := hl
  have blk : ∀ k : Nat, (bC p l e (headSpec w_y_X7_found__P ({ frames := 0, cells := 0, slots := 0, locals := 0 })).room s m #[.ref (a (pA (L0.2.2.1 0))), .long (L0.2.1 1), .long (L0.2.1 3)] below meth c dC dI cy a z A (kI dC dI cy a z A below #[.ref (a (pA (L0.2.2.1 0))), .long (L0.2.1 1), .long (L0.2.1 3)] s) 6 (y_X7_found__P k 0) (fun L => [(0, .ref (a (pA (L.2.2.1 0)))), (1, .long (L.2.1 1)), (3, .long (L.2.1 3))]) 0 (fun L => [])) ∧ (bC p l e (headSpec w_y_X7_found__P ({ frames := 0, cells := 0, slots := 0, locals := 0 })).room s m #[.ref (a (pA (L0.2.2.1 0))), .long (L0.2.1 1), .long (L0.2.1 3)] below meth c dC dI cy a z A (kI dC dI cy a z A below #[.ref (a (pA (L0.2.2.1 0))), .long (L0.2.1 1), .long (L0.2.1 3)] s) 6 (y_X7_found__P k 1) (fun L => [(0, .ref (a (pA (L.2.2.1 0)))), (1, .long (L.2.1 1)), (3, .long (L.2.1 3)), (5, .int (L.1 5))]) 8 (fun L => [])) ∧ (bC p l e (headSpec w_y_X7_found__P ({ frames := 0, cells := 0, slots := 0, locals := 0 })).room s m #[.ref (a (pA (L0.2.2.1 0))), .long (L0.2.1 1), .long (L0.2.1 3)] below meth c dC dI cy a z A (kI dC dI cy a z A below #[.ref (a (pA (L0.2.2.1 0))), .long (L0.2.1 1), .long (L0.2.1 3)] s) 6 (y_X7_found__P k 2) (fun L => []) 56 (fun L => [])) ∧ (bC p l e (headSpec w_y_X7_found__P ({ frames := 0, cells := 0, slots := 0, locals := 0 })).room s m #[.ref (a (pA (L0.2.2.1 0))), .long (L0.2.1 1), .long (L0.2.1 3)] below meth c dC dI cy a z A (kI dC dI cy a z A below #[.ref (a (pA (L0.2.2.1 0))), .long (L0.2.1 1), .long (L0.2.1 3)] s) 6 (y_X7_found__P k 3) (fun L => [(0, .ref (a (pA (L.2.2.1 0)))), (1, .long (L.2.1 1)), (3, .long (L.2.1 3)), (5, .int (L.1 5))]) 50 (fun L => [])) := by
    intro k
    induction k with
    | zero => exact ⟨fun L σ r h => (by cases h), fun L σ r h => (by cases h), fun L σ r h => (by cases h), fun L σ r h => (by cases h)⟩
    | succ k ih =>
      refine ⟨?_, ?_, ?_, ?_⟩
      · intro L σ r h H locs ls hP hD hS hl
        rw [y_X7_found__P] at h
        refine lv_aload_n hx hb dX7_found_0 rfl (lv_at hl 0 rfl) ?_
        refine hg_P_11 ((L.2.2.1 0)) hx hb hts in_y_X7_found__P_X7 hown hK hP (hts _ (List.mem_cons_of_mem _ (List.mem_append_left _ (List.mem_append_left _ (List.mem_of_getElem? (i := 0) rfl))))) dX7_found_1 ?_
        refine lv_iconst (v := 1) hx hb dX7_found_4 (by decide) ?_
        refine lv_isub hx hb dX7_found_5 ?_
        refine lv_istore (lv' := [(5, .int (((σ.1 (fP ((L.2.2.1 0)) 11))) - 1)), (0, .ref (a (pA (L.2.2.1 0)))), (1, .long (L.2.1 1)), (3, .long (L.2.1 3))]) hx hb dX7_found_6 hl (by decide) rfl (fun ls hl => ?_)
        exact ih.2.1 (lI L 5 ((((σ.1 (fP ((L.2.2.1 0)) 11))) - 1))) σ r h H locs ls hP hD hS (lv_sub hl [1, 2, 3, 0] rfl)
      · intro L σ r h H locs ls hP hD hS hl
        rw [y_X7_found__P] at h
        refine lv_iload hx hb dX7_found_8 (lv_at hl 3 rfl) ?_
        refine lv_if_lt (tgt := 56) hx hb dX7_found_10 (by decide) (fun c1 => ?_) (fun c1 => ?_)
        · rw [if_pos c1] at h
          exact ih.2.2.1 L σ r h H locs ls hP hD hS (lv_sub hl [] rfl)
        · rw [if_neg c1] at h
          refine lv_aload_n hx hb dX7_found_13 rfl (lv_at hl 0 rfl) ?_
          refine hg_P_5 ((L.2.2.1 0)) hx hb hts in_y_X7_found__P_X7 hown hK hP (hts _ (List.mem_cons_of_mem _ (List.mem_append_left _ (List.mem_append_left _ (List.mem_of_getElem? (i := 1) rfl))))) dX7_found_14 ?_
          refine lv_iload hx hb dX7_found_17 (lv_at hl 3 rfl) ?_
          obtain ⟨q2, h⟩ := kb_ite1 h
          refine hl_P5 (((L.2.2.1 0))) hx hb hK hP q2 dX7_found_19 ?_
          refine lv_lload_n hx hb dX7_found_20 rfl (lv_at hl 1 rfl) ?_
          refine nb_lcmp hx hb dX7_found_21 ?_
          refine lv_if_ne (tgt := 50) hx hb dX7_found_22 (by decide) (fun c3 => ?_) (fun c3 => ?_)
          · rw [if_neg c3] at h
            exact ih.2.2.2 L σ r h H locs ls hP hD hS (lv_sub hl [0, 1, 2, 3] rfl)
          · rw [if_pos c3] at h
            refine lv_aload_n hx hb dX7_found_25 rfl (lv_at hl 0 rfl) ?_
            refine hg_P_6 ((L.2.2.1 0)) hx hb hts in_y_X7_found__P_X7 hown hK hP (hts _ (List.mem_cons_of_mem _ (List.mem_append_left _ (List.mem_append_left _ (List.mem_of_getElem? (i := 2) rfl))))) dX7_found_26 ?_
            refine lv_iload hx hb dX7_found_29 (lv_at hl 3 rfl) ?_
            obtain ⟨q4, h⟩ := kb_ite1 h
            refine hl_P6 (((L.2.2.1 0))) hx hb hK hP q4 dX7_found_31 ?_
            refine lv_lload_n hx hb dX7_found_32 rfl (lv_at hl 2 rfl) ?_
            refine nb_lcmp hx hb dX7_found_33 ?_
            refine lv_if_ne (tgt := 50) hx hb dX7_found_34 (by decide) (fun c5 => ?_) (fun c5 => ?_)
            · rw [if_neg c5] at h
              exact ih.2.2.2 L σ r h H locs ls hP hD hS (lv_sub hl [0, 1, 2, 3] rfl)
            · rw [if_pos c5] at h
              refine lv_aload_n hx hb dX7_found_37 rfl (lv_at hl 0 rfl) ?_
              refine hg_P_10 ((L.2.2.1 0)) hx hb hts in_y_X7_found__P_X7 hown hK hP (hts _ (List.mem_cons_of_mem _ (List.mem_append_left _ (List.mem_append_left _ (List.mem_of_getElem? (i := 3) rfl))))) dX7_found_38 ?_
              refine lv_iload hx hb dX7_found_41 (lv_at hl 3 rfl) ?_
              obtain ⟨q6, h⟩ := kb_ite1 h
              refine hl_P10 (((L.2.2.1 0))) hx hb hK hP q6 dX7_found_43 ?_
              refine lv_if_ne (tgt := 50) hx hb dX7_found_44 (by decide) (fun c7 => ?_) (fun c7 => ?_)
              · rw [if_neg c7] at h
                exact ih.2.2.2 L σ r h H locs ls hP hD hS (lv_sub hl [0, 1, 2, 3] rfl)
              · rw [if_pos c7] at h
                refine lv_iload hx hb dX7_found_47 (lv_at hl 3 rfl) ?_
                obtain rfl := Option.some.inj h
                exact W.iret (v := (L.1 5)) hx hb hr (fun t ht hW => ⟨⟨(L.1 5), (), rfl, rfl, by rw [ht]; exact hP, va_K.moved hW.alike hK, hD⟩, hS.F ht⟩) hS.2.2 dX7_found_49
      · intro L σ r h H locs ls hP hD hS hl
        rw [y_X7_found__P] at h
        refine lv_iconst (v := (-1)) hx hb dX7_found_56 (by decide) ?_
        obtain rfl := Option.some.inj h
        exact W.iret (v := (-1)) hx hb hr (fun t ht hW => ⟨⟨(-1), (), rfl, rfl, by rw [ht]; exact hP, va_K.moved hW.alike hK, hD⟩, hS.F ht⟩) hS.2.2 dX7_found_57
      · intro L σ r h H locs ls hP hD hS hl
        rw [y_X7_found__P] at h
        refine lv_iinc (v := ((L.1 5)) + (-1)) (lv' := [(5, .int (((L.1 5)) + (-1))), (0, .ref (a (pA (L.2.2.1 0)))), (1, .long (L.2.1 1)), (3, .long (L.2.1 3))]) hx hb dX7_found_50 hl (k := 3) rfl rfl (by decide) rfl (fun ls hl => ?_)
        refine lv_goto (tgt := 8) hx hb dX7_found_53 (by decide) ?_
        exact ih.2.1 (lI L 5 ((((L.1 5)) + (-1)))) σ r h H locs ls hP hD hS (lv_sub hl [1, 2, 3, 0] rfl)
  exact (blk k0).1 L0 σ0 r0 h0 s.heap [] ls hP hD hS hl
/-! X7_isToldFrom__P -/
def y_X7_isToldFrom__P : Nat → Nat → LV → CS → Option (Int32 × CS)
  | 0, _, _, _ => none
  | k + 1, 0, L, σ => y_X7_isToldFrom__P k 1 (lI L 6 ((L.1 1))) σ
  | k + 1, 1, L, σ => if ((σ.1 (fP ((L.2.2.1 0)) 11))) ≤ ((L.1 6)) then (y_X7_isToldFrom__P k 2 L σ) else (if ¬ (((L.1 6)) < 0 ∨ 256 ≤ ((L.1 6)).toNatClampNeg) then (if ((nbCmp ((σ.2.2.2.1 (pR5 (((L.2.2.1 0)))) ((L.1 6)).toNatClampNeg)) ((L.2.1 2)))) = 0 then (if ¬ (((L.1 6)) < 0 ∨ 256 ≤ ((L.1 6)).toNatClampNeg) then (if ((nbCmp ((σ.2.2.2.1 (pR6 (((L.2.2.1 0)))) ((L.1 6)).toNatClampNeg)) ((L.2.1 4)))) = 0 then (some (1, σ)) else (y_X7_isToldFrom__P k 3 L σ)) else none) else (y_X7_isToldFrom__P k 3 L σ)) else none)
  | k + 1, 2, L, σ => some (0, σ)
  | k + 1, 3, L, σ => y_X7_isToldFrom__P k 1 (lI L 6 ((((L.1 6)) + 1))) σ
  | _ + 1, _ + 4, _, _ => none
def o_y_X7_isToldFrom__P : List Cond := [.fieldLink RX7 66 "SetHouse$Program" "names" "I", .fieldLink RX7 15 "SetHouse$Program" "high" "[J", .fieldLink RX7 19 "SetHouse$Program" "low" "[J"]
theorem o_y_X7_isToldFrom__P_good : o_y_X7_isToldFrom__P.all goodWord = true := by decide +kernel
def p_y_X7_isToldFrom__P : List Cond := o_y_X7_isToldFrom__P ++ []
theorem p_y_X7_isToldFrom__P_good : p_y_X7_isToldFrom__P.all goodWord = true := nb_all2 o_y_X7_isToldFrom__P_good rfl
def w_y_X7_isToldFrom__P : List Cond := .code yX7_isToldFrom cX7_isToldFrom 7 (some .boolean) :: (p_y_X7_isToldFrom__P ++ fC)
theorem w_y_X7_isToldFrom__P_good : w_y_X7_isToldFrom__P.all goodWord = true := nb_allc (by decide +kernel) (nb_all2 p_y_X7_isToldFrom__P_good fC_good)
theorem in_y_X7_isToldFrom__P_X7 : ∀ w ∈ wsX70, w ∈ w_y_X7_isToldFrom__P := fun _ h => List.mem_cons_of_mem _ (List.mem_append_right _ (List.mem_append_right _ (List.mem_append_right _ (List.mem_append_right _ (List.mem_append_right _ (List.mem_append_right _ (List.mem_append_right _ (List.mem_append_left _ h))))))))
theorem hd_y_X7_isToldFrom__P : yX7_isToldFrom.cls = RX7 ∧ yX7_isToldFrom.cls ≠ "java/lang/invoke/MethodHandle" ∧ yX7_isToldFrom.cls ≠ "java/lang/invoke/VarHandle" ∧ (parseMethodDescriptor yX7_isToldFrom.desc).map (fun d => d.parameters.length) = some 3 := by decide +kernel
set_option maxHeartbeats 40000000 in
set_option maxRecDepth 100000 in
theorem c_y_X7_isToldFrom__P (l : Launch) (dC : Nat → ClassId) (dI : Nat → Nat → Nat) (cy : Nat → ClassId) (a z : Nat → Nat) (k0 : Nat) (L0 : LV) (σ0 : CS) (r0 : Int32 × CS) (h0 : y_X7_isToldFrom__P k0 0 L0 σ0 = some r0) (sz : Nat) : Met l yX7_isToldFrom w_y_X7_isToldFrom__P ({ frames := 0, cells := 0, slots := 0, locals := 0 }) (va_Pc [.ref (a (pA (L0.2.2.1 0))), .int (L0.1 1), .long (L0.2.1 2), .long (L0.2.1 4)] (nIn (dC, dI) cy sz (vC cy a z σ0))) (va_Qi (fun (x : Int32) (_ : Unit) => x = r0.1) (fun _ t => nOut (dC, dI) cy (va_A (vC cy a z σ0) sz) (vC cy a z r0.2) t) (va_A (vC cy a z σ0) sz)) 0 0 (va_A (vC cy a z σ0) sz) := by
  refine Met.ofW (cc := cX7_isToldFrom) (maxL := 7) (ret := (some .boolean)) (by decide) rfl ?_
  intro p e s m args below meth c s₁ B hml hv
  obtain ⟨rfl, hsz, hP, hK, hD0, hG⟩ := hv
  have hx := B.exec
  have hb := B.bytes
  have hr := B.returns
  have hts := atoms_spec (ws := w_y_X7_isToldFrom__P) B.pre
  have hown : s.vm.findClass RX7 = some m.cls := findClass_of_methodNamed B.named
  have hlocks := B.notSynchronized
  subst hsz
  have hD := hD0.self (sz := s.heap.size)
  generalize hAe : va_A (vC cy a z σ0) s.heap.size = A at hD ⊢
  have hA : ∀ q : Nat, s.heap.size ≤ q → A q := fun q h => by rw [← hAe]; exact Or.inr h
  have hS : va_S A s.heap s.heap [] := va_S.rf
  have hl := lv_entry ([.ref (a (pA (L0.2.2.1 0))), .int (L0.1 1), .long (L0.2.1 2), .long (L0.2.1 4)]) (n := 7) (Nat.le_of_ble_eq_true rfl)
  rw [lg_entry_eq]
  generalize (lg_sl ([.ref (a (pA (L0.2.2.1 0))), .int (L0.1 1), .long (L0.2.1 2), .long (L0.2.1 4)]) ++ List.replicate (7 - (lg_sl ([.ref (a (pA (L0.2.2.1 0))), .int (L0.1 1), .long (L0.2.1 2), .long (L0.2.1 4)])).length) Slot.unset).toArray = ls at hl ⊢
  have hl : lv_has ls 7 [(0, .ref (a (pA (L0.2.2.1 0)))), (1, .int (L0.1 1)), (2, .long (L0.2.1 2)), (4, .long (L0.2.1 4))] := hl
  have blk : ∀ k : Nat, (bC p l e (headSpec w_y_X7_isToldFrom__P ({ frames := 0, cells := 0, slots := 0, locals := 0 })).room s m #[.ref (a (pA (L0.2.2.1 0))), .int (L0.1 1), .long (L0.2.1 2), .long (L0.2.1 4)] below meth c dC dI cy a z A (kI dC dI cy a z A below #[.ref (a (pA (L0.2.2.1 0))), .int (L0.1 1), .long (L0.2.1 2), .long (L0.2.1 4)] s) 7 (y_X7_isToldFrom__P k 0) (fun L => [(0, .ref (a (pA (L.2.2.1 0)))), (1, .int (L.1 1)), (2, .long (L.2.1 2)), (4, .long (L.2.1 4))]) 0 (fun L => [])) ∧ (bC p l e (headSpec w_y_X7_isToldFrom__P ({ frames := 0, cells := 0, slots := 0, locals := 0 })).room s m #[.ref (a (pA (L0.2.2.1 0))), .int (L0.1 1), .long (L0.2.1 2), .long (L0.2.1 4)] below meth c dC dI cy a z A (kI dC dI cy a z A below #[.ref (a (pA (L0.2.2.1 0))), .int (L0.1 1), .long (L0.2.1 2), .long (L0.2.1 4)] s) 7 (y_X7_isToldFrom__P k 1) (fun L => [(0, .ref (a (pA (L.2.2.1 0)))), (2, .long (L.2.1 2)), (4, .long (L.2.1 4)), (6, .int (L.1 6))]) 3 (fun L => [])) ∧ (bC p l e (headSpec w_y_X7_isToldFrom__P ({ frames := 0, cells := 0, slots := 0, locals := 0 })).room s m #[.ref (a (pA (L0.2.2.1 0))), .int (L0.1 1), .long (L0.2.1 2), .long (L0.2.1 4)] below meth c dC dI cy a z A (kI dC dI cy a z A below #[.ref (a (pA (L0.2.2.1 0))), .int (L0.1 1), .long (L0.2.1 2), .long (L0.2.1 4)] s) 7 (y_X7_isToldFrom__P k 2) (fun L => []) 45 (fun L => [])) ∧ (bC p l e (headSpec w_y_X7_isToldFrom__P ({ frames := 0, cells := 0, slots := 0, locals := 0 })).room s m #[.ref (a (pA (L0.2.2.1 0))), .int (L0.1 1), .long (L0.2.1 2), .long (L0.2.1 4)] below meth c dC dI cy a z A (kI dC dI cy a z A below #[.ref (a (pA (L0.2.2.1 0))), .int (L0.1 1), .long (L0.2.1 2), .long (L0.2.1 4)] s) 7 (y_X7_isToldFrom__P k 3) (fun L => [(0, .ref (a (pA (L.2.2.1 0)))), (2, .long (L.2.1 2)), (4, .long (L.2.1 4)), (6, .int (L.1 6))]) 39 (fun L => [])) := by
    intro k
    induction k with
    | zero => exact ⟨fun L σ r h => (by cases h), fun L σ r h => (by cases h), fun L σ r h => (by cases h), fun L σ r h => (by cases h)⟩
    | succ k ih =>
      refine ⟨?_, ?_, ?_, ?_⟩
      · intro L σ r h H locs ls hP hD hS hl
        rw [y_X7_isToldFrom__P] at h
        refine lv_iload_n hx hb dX7_isToldFrom_0 rfl (lv_at hl 1 rfl) ?_
        refine lv_istore (lv' := [(6, .int (L.1 1)), (0, .ref (a (pA (L.2.2.1 0)))), (1, .int (L.1 1)), (2, .long (L.2.1 2)), (4, .long (L.2.1 4))]) hx hb dX7_isToldFrom_1 hl (by decide) rfl (fun ls hl => ?_)
        exact ih.2.1 (lI L 6 ((L.1 1))) σ r h H locs ls hP hD hS (lv_sub hl [1, 3, 4, 0] rfl)
      · intro L σ r h H locs ls hP hD hS hl
        rw [y_X7_isToldFrom__P] at h
        refine lv_iload hx hb dX7_isToldFrom_3 (lv_at hl 3 rfl) ?_
        refine lv_aload_n hx hb dX7_isToldFrom_5 rfl (lv_at hl 0 rfl) ?_
        refine hg_P_11 ((L.2.2.1 0)) hx hb hts in_y_X7_isToldFrom__P_X7 hown hK hP (hts _ (List.mem_cons_of_mem _ (List.mem_append_left _ (List.mem_append_left _ (List.mem_of_getElem? (i := 0) rfl))))) dX7_isToldFrom_6 ?_
        refine lv_icmp_ge (tgt := 45) hx hb dX7_isToldFrom_9 (by decide) (fun c1 => ?_) (fun c1 => ?_)
        · rw [if_pos c1] at h
          exact ih.2.2.1 L σ r h H locs ls hP hD hS (lv_sub hl [] rfl)
        · rw [if_neg c1] at h
          refine lv_aload_n hx hb dX7_isToldFrom_12 rfl (lv_at hl 0 rfl) ?_
          refine hg_P_5 ((L.2.2.1 0)) hx hb hts in_y_X7_isToldFrom__P_X7 hown hK hP (hts _ (List.mem_cons_of_mem _ (List.mem_append_left _ (List.mem_append_left _ (List.mem_of_getElem? (i := 1) rfl))))) dX7_isToldFrom_13 ?_
          refine lv_iload hx hb dX7_isToldFrom_16 (lv_at hl 3 rfl) ?_
          obtain ⟨q2, h⟩ := kb_ite1 h
          refine hl_P5 (((L.2.2.1 0))) hx hb hK hP q2 dX7_isToldFrom_18 ?_
          refine lv_lload_n hx hb dX7_isToldFrom_19 rfl (lv_at hl 1 rfl) ?_
          refine nb_lcmp hx hb dX7_isToldFrom_20 ?_
          refine lv_if_ne (tgt := 39) hx hb dX7_isToldFrom_21 (by decide) (fun c3 => ?_) (fun c3 => ?_)
          · rw [if_neg c3] at h
            exact ih.2.2.2 L σ r h H locs ls hP hD hS (lv_sub hl [0, 1, 2, 3] rfl)
          · rw [if_pos c3] at h
            refine lv_aload_n hx hb dX7_isToldFrom_24 rfl (lv_at hl 0 rfl) ?_
            refine hg_P_6 ((L.2.2.1 0)) hx hb hts in_y_X7_isToldFrom__P_X7 hown hK hP (hts _ (List.mem_cons_of_mem _ (List.mem_append_left _ (List.mem_append_left _ (List.mem_of_getElem? (i := 2) rfl))))) dX7_isToldFrom_25 ?_
            refine lv_iload hx hb dX7_isToldFrom_28 (lv_at hl 3 rfl) ?_
            obtain ⟨q4, h⟩ := kb_ite1 h
            refine hl_P6 (((L.2.2.1 0))) hx hb hK hP q4 dX7_isToldFrom_30 ?_
            refine lv_lload hx hb dX7_isToldFrom_31 (lv_at hl 2 rfl) ?_
            refine nb_lcmp hx hb dX7_isToldFrom_33 ?_
            refine lv_if_ne (tgt := 39) hx hb dX7_isToldFrom_34 (by decide) (fun c5 => ?_) (fun c5 => ?_)
            · rw [if_neg c5] at h
              exact ih.2.2.2 L σ r h H locs ls hP hD hS (lv_sub hl [0, 1, 2, 3] rfl)
            · rw [if_pos c5] at h
              refine lv_iconst (v := 1) hx hb dX7_isToldFrom_37 (by decide) ?_
              obtain rfl := Option.some.inj h
              exact W.zret (v := 1) hx hb hr rfl (fun t ht hW => ⟨⟨1, (), rfl, rfl, by rw [ht]; exact hP, va_K.moved hW.alike hK, hD⟩, hS.F ht⟩) hS.2.2 dX7_isToldFrom_38
      · intro L σ r h H locs ls hP hD hS hl
        rw [y_X7_isToldFrom__P] at h
        refine lv_iconst (v := 0) hx hb dX7_isToldFrom_45 (by decide) ?_
        obtain rfl := Option.some.inj h
        exact W.zret (v := 0) hx hb hr rfl (fun t ht hW => ⟨⟨0, (), rfl, rfl, by rw [ht]; exact hP, va_K.moved hW.alike hK, hD⟩, hS.F ht⟩) hS.2.2 dX7_isToldFrom_46
      · intro L σ r h H locs ls hP hD hS hl
        rw [y_X7_isToldFrom__P] at h
        refine lv_iinc (v := ((L.1 6)) + 1) (lv' := [(6, .int (((L.1 6)) + 1)), (0, .ref (a (pA (L.2.2.1 0)))), (2, .long (L.2.1 2)), (4, .long (L.2.1 4))]) hx hb dX7_isToldFrom_39 hl (k := 3) rfl rfl (by decide) rfl (fun ls hl => ?_)
        refine lv_goto (tgt := 3) hx hb dX7_isToldFrom_42 (by decide) ?_
        exact ih.2.1 (lI L 6 ((((L.1 6)) + 1))) σ r h H locs ls hP hD hS (lv_sub hl [1, 2, 3, 0] rfl)
  exact (blk k0).1 L0 σ0 r0 h0 s.heap [] ls hP hD hS hl
/-! X7_tell__P -/
def y_X7_tell__P : Nat → Nat → LV → CS → Option (Int32 × CS)
  | 0, _, _, _ => none
  | k + 1, 0, L, σ => if 256 ≤ ((σ.1 (fP ((L.2.2.1 0)) 11))) then (y_X7_tell__P k 1 L σ) else (if ¬ (((σ.1 (fP ((L.2.2.1 0)) 11))) < 0 ∨ 256 ≤ ((σ.1 (fP ((L.2.2.1 0)) 11))).toNatClampNeg) then (if ¬ ((((uJ σ (pR5 (((L.2.2.1 0)))) ((σ.1 (fP ((L.2.2.1 0)) 11))).toNatClampNeg ((L.2.1 1))).1 (fP ((L.2.2.1 0)) 11))) < 0 ∨ 256 ≤ (((uJ σ (pR5 (((L.2.2.1 0)))) ((σ.1 (fP ((L.2.2.1 0)) 11))).toNatClampNeg ((L.2.1 1))).1 (fP ((L.2.2.1 0)) 11))).toNatClampNeg) then (if ¬ ((((uJ (uJ σ (pR5 (((L.2.2.1 0)))) ((σ.1 (fP ((L.2.2.1 0)) 11))).toNatClampNeg ((L.2.1 1))) (pR6 (((L.2.2.1 0)))) (((uJ σ (pR5 (((L.2.2.1 0)))) ((σ.1 (fP ((L.2.2.1 0)) 11))).toNatClampNeg ((L.2.1 1))).1 (fP ((L.2.2.1 0)) 11))).toNatClampNeg ((L.2.1 3))).1 (fP ((L.2.2.1 0)) 11))) < 0 ∨ 256 ≤ (((uJ (uJ σ (pR5 (((L.2.2.1 0)))) ((σ.1 (fP ((L.2.2.1 0)) 11))).toNatClampNeg ((L.2.1 1))) (pR6 (((L.2.2.1 0)))) (((uJ σ (pR5 (((L.2.2.1 0)))) ((σ.1 (fP ((L.2.2.1 0)) 11))).toNatClampNeg ((L.2.1 1))).1 (fP ((L.2.2.1 0)) 11))).toNatClampNeg ((L.2.1 3))).1 (fP ((L.2.2.1 0)) 11))).toNatClampNeg) then (y_X7_tell__P k 2 L (uA (uJ (uJ σ (pR5 (((L.2.2.1 0)))) ((σ.1 (fP ((L.2.2.1 0)) 11))).toNatClampNeg ((L.2.1 1))) (pR6 (((L.2.2.1 0)))) (((uJ σ (pR5 (((L.2.2.1 0)))) ((σ.1 (fP ((L.2.2.1 0)) 11))).toNatClampNeg ((L.2.1 1))).1 (fP ((L.2.2.1 0)) 11))).toNatClampNeg ((L.2.1 3))) (pR7 (((L.2.2.1 0)))) (((uJ (uJ σ (pR5 (((L.2.2.1 0)))) ((σ.1 (fP ((L.2.2.1 0)) 11))).toNatClampNeg ((L.2.1 1))) (pR6 (((L.2.2.1 0)))) (((uJ σ (pR5 (((L.2.2.1 0)))) ((σ.1 (fP ((L.2.2.1 0)) 11))).toNatClampNeg ((L.2.1 1))).1 (fP ((L.2.2.1 0)) 11))).toNatClampNeg ((L.2.1 3))).1 (fP ((L.2.2.1 0)) 11))).toNatClampNeg ((L.1 5)))) else none) else none) else none)
  | k + 1, 1, L, σ => some (0, σ)
  | k + 1, 2, L, σ => if ¬ (((σ.1 (fP ((L.2.2.1 0)) 11))) < 0 ∨ 256 ≤ ((σ.1 (fP ((L.2.2.1 0)) 11))).toNatClampNeg) then (if ¬ ((((uA σ (pR8 (((L.2.2.1 0)))) ((σ.1 (fP ((L.2.2.1 0)) 11))).toNatClampNeg ((L.1 6))).1 (fP ((L.2.2.1 0)) 11))) < 0 ∨ 256 ≤ (((uA σ (pR8 (((L.2.2.1 0)))) ((σ.1 (fP ((L.2.2.1 0)) 11))).toNatClampNeg ((L.1 6))).1 (fP ((L.2.2.1 0)) 11))).toNatClampNeg) then (if ¬ ((((uA (uA σ (pR8 (((L.2.2.1 0)))) ((σ.1 (fP ((L.2.2.1 0)) 11))).toNatClampNeg ((L.1 6))) (pR9 (((L.2.2.1 0)))) (((uA σ (pR8 (((L.2.2.1 0)))) ((σ.1 (fP ((L.2.2.1 0)) 11))).toNatClampNeg ((L.1 6))).1 (fP ((L.2.2.1 0)) 11))).toNatClampNeg ((L.1 7))).1 (fP ((L.2.2.1 0)) 11))) < 0 ∨ 256 ≤ (((uA (uA σ (pR8 (((L.2.2.1 0)))) ((σ.1 (fP ((L.2.2.1 0)) 11))).toNatClampNeg ((L.1 6))) (pR9 (((L.2.2.1 0)))) (((uA σ (pR8 (((L.2.2.1 0)))) ((σ.1 (fP ((L.2.2.1 0)) 11))).toNatClampNeg ((L.1 6))).1 (fP ((L.2.2.1 0)) 11))).toNatClampNeg ((L.1 7))).1 (fP ((L.2.2.1 0)) 11))).toNatClampNeg) then (y_X7_tell__P k 3 L (uA (uA (uA σ (pR8 (((L.2.2.1 0)))) ((σ.1 (fP ((L.2.2.1 0)) 11))).toNatClampNeg ((L.1 6))) (pR9 (((L.2.2.1 0)))) (((uA σ (pR8 (((L.2.2.1 0)))) ((σ.1 (fP ((L.2.2.1 0)) 11))).toNatClampNeg ((L.1 6))).1 (fP ((L.2.2.1 0)) 11))).toNatClampNeg ((L.1 7))) (pR10 (((L.2.2.1 0)))) (((uA (uA σ (pR8 (((L.2.2.1 0)))) ((σ.1 (fP ((L.2.2.1 0)) 11))).toNatClampNeg ((L.1 6))) (pR9 (((L.2.2.1 0)))) (((uA σ (pR8 (((L.2.2.1 0)))) ((σ.1 (fP ((L.2.2.1 0)) 11))).toNatClampNeg ((L.1 6))).1 (fP ((L.2.2.1 0)) 11))).toNatClampNeg ((L.1 7))).1 (fP ((L.2.2.1 0)) 11))).toNatClampNeg (vp_nar .boolean 0))) else none) else none) else none
  | k + 1, 3, L, σ => y_X7_tell__P k 1 L (uI σ (fP ((L.2.2.1 0)) 11) ((((σ.1 (fP ((L.2.2.1 0)) 11))) + 1)))
  | _ + 1, _ + 4, _, _ => none
def o_y_X7_tell__P : List Cond := [.fieldLink RX7 66 "SetHouse$Program" "names" "I", .fieldLink RX7 15 "SetHouse$Program" "high" "[J", .fieldLink RX7 19 "SetHouse$Program" "low" "[J", .fieldLink RX7 22 "SetHouse$Program" "what" "[I", .fieldLink RX7 25 "SetHouse$Program" "owner" "[I", .fieldLink RX7 28 "SetHouse$Program" "slot" "[I", .fieldLink RX7 31 "SetHouse$Program" "hidden" "[Z"]
theorem o_y_X7_tell__P_good : o_y_X7_tell__P.all goodWord = true := by decide +kernel
def p_y_X7_tell__P : List Cond := o_y_X7_tell__P ++ []
theorem p_y_X7_tell__P_good : p_y_X7_tell__P.all goodWord = true := nb_all2 o_y_X7_tell__P_good rfl
def w_y_X7_tell__P : List Cond := .code yX7_tell cX7_tell 8 none :: (p_y_X7_tell__P ++ fC)
theorem w_y_X7_tell__P_good : w_y_X7_tell__P.all goodWord = true := nb_allc (by decide +kernel) (nb_all2 p_y_X7_tell__P_good fC_good)
theorem in_y_X7_tell__P_X7 : ∀ w ∈ wsX70, w ∈ w_y_X7_tell__P := fun _ h => List.mem_cons_of_mem _ (List.mem_append_right _ (List.mem_append_right _ (List.mem_append_right _ (List.mem_append_right _ (List.mem_append_right _ (List.mem_append_right _ (List.mem_append_right _ (List.mem_append_left _ h))))))))
theorem hd_y_X7_tell__P : yX7_tell.cls = RX7 ∧ yX7_tell.cls ≠ "java/lang/invoke/MethodHandle" ∧ yX7_tell.cls ≠ "java/lang/invoke/VarHandle" ∧ (parseMethodDescriptor yX7_tell.desc).map (fun d => d.parameters.length) = some 5 := by decide +kernel
set_option maxHeartbeats 40000000 in
set_option maxRecDepth 100000 in
theorem c_y_X7_tell__P (l : Launch) (dC : Nat → ClassId) (dI : Nat → Nat → Nat) (cy : Nat → ClassId) (a z : Nat → Nat) (k0 : Nat) (L0 : LV) (σ0 : CS) (r0 : Int32 × CS) (h0 : y_X7_tell__P k0 0 L0 σ0 = some r0) (sz : Nat) : Met l yX7_tell w_y_X7_tell__P ({ frames := 0, cells := 0, slots := 0, locals := 0 }) (va_Pc [.ref (a (pA (L0.2.2.1 0))), .long (L0.2.1 1), .long (L0.2.1 3), .int (L0.1 5), .int (L0.1 6), .int (L0.1 7)] (nIn (dC, dI) cy sz (vC cy a z σ0))) (va_Qv (fun _ : Unit => True) (fun _ t => nOut (dC, dI) cy (va_A (vC cy a z σ0) sz) (vC cy a z r0.2) t) (va_A (vC cy a z σ0) sz)) 0 0 (va_A (vC cy a z σ0) sz) := by
  refine Met.ofW (cc := cX7_tell) (maxL := 8) (ret := none) (by decide) rfl ?_
  intro p e s m args below meth c s₁ B hml hv
  obtain ⟨rfl, hsz, hP, hK, hD0, hG⟩ := hv
  have hx := B.exec
  have hb := B.bytes
  have hr := B.returns
  have hts := atoms_spec (ws := w_y_X7_tell__P) B.pre
  have hown : s.vm.findClass RX7 = some m.cls := findClass_of_methodNamed B.named
  have hlocks := B.notSynchronized
  subst hsz
  have hD := hD0.self (sz := s.heap.size)
  generalize hAe : va_A (vC cy a z σ0) s.heap.size = A at hD ⊢
  have hA : ∀ q : Nat, s.heap.size ≤ q → A q := fun q h => by rw [← hAe]; exact Or.inr h
  have hS : va_S A s.heap s.heap [] := va_S.rf
  have hl := lv_entry ([.ref (a (pA (L0.2.2.1 0))), .long (L0.2.1 1), .long (L0.2.1 3), .int (L0.1 5), .int (L0.1 6), .int (L0.1 7)]) (n := 8) (Nat.le_of_ble_eq_true rfl)
  rw [lg_entry_eq]
  generalize (lg_sl ([.ref (a (pA (L0.2.2.1 0))), .long (L0.2.1 1), .long (L0.2.1 3), .int (L0.1 5), .int (L0.1 6), .int (L0.1 7)]) ++ List.replicate (8 - (lg_sl ([.ref (a (pA (L0.2.2.1 0))), .long (L0.2.1 1), .long (L0.2.1 3), .int (L0.1 5), .int (L0.1 6), .int (L0.1 7)])).length) Slot.unset).toArray = ls at hl ⊢
  have hl : lv_has ls 8 [(0, .ref (a (pA (L0.2.2.1 0)))), (1, .long (L0.2.1 1)), (3, .long (L0.2.1 3)), (5, .int (L0.1 5)), (6, .int (L0.1 6)), (7, .int (L0.1 7))] := hl
  have blk : ∀ k : Nat, (bC p l e (headSpec w_y_X7_tell__P ({ frames := 0, cells := 0, slots := 0, locals := 0 })).room s m #[.ref (a (pA (L0.2.2.1 0))), .long (L0.2.1 1), .long (L0.2.1 3), .int (L0.1 5), .int (L0.1 6), .int (L0.1 7)] below meth c dC dI cy a z A (kV dC dI cy a z A below #[.ref (a (pA (L0.2.2.1 0))), .long (L0.2.1 1), .long (L0.2.1 3), .int (L0.1 5), .int (L0.1 6), .int (L0.1 7)] s) 8 (y_X7_tell__P k 0) (fun L => [(0, .ref (a (pA (L.2.2.1 0)))), (1, .long (L.2.1 1)), (3, .long (L.2.1 3)), (5, .int (L.1 5)), (6, .int (L.1 6)), (7, .int (L.1 7))]) 0 (fun L => [])) ∧ (bC p l e (headSpec w_y_X7_tell__P ({ frames := 0, cells := 0, slots := 0, locals := 0 })).room s m #[.ref (a (pA (L0.2.2.1 0))), .long (L0.2.1 1), .long (L0.2.1 3), .int (L0.1 5), .int (L0.1 6), .int (L0.1 7)] below meth c dC dI cy a z A (kV dC dI cy a z A below #[.ref (a (pA (L0.2.2.1 0))), .long (L0.2.1 1), .long (L0.2.1 3), .int (L0.1 5), .int (L0.1 6), .int (L0.1 7)] s) 8 (y_X7_tell__P k 1) (fun L => []) 83 (fun L => [])) ∧ (bC p l e (headSpec w_y_X7_tell__P ({ frames := 0, cells := 0, slots := 0, locals := 0 })).room s m #[.ref (a (pA (L0.2.2.1 0))), .long (L0.2.1 1), .long (L0.2.1 3), .int (L0.1 5), .int (L0.1 6), .int (L0.1 7)] below meth c dC dI cy a z A (kV dC dI cy a z A below #[.ref (a (pA (L0.2.2.1 0))), .long (L0.2.1 1), .long (L0.2.1 3), .int (L0.1 5), .int (L0.1 6), .int (L0.1 7)] s) 8 (y_X7_tell__P k 2) (fun L => [(0, .ref (a (pA (L.2.2.1 0)))), (6, .int (L.1 6)), (7, .int (L.1 7))]) 41 (fun L => [])) ∧ (bC p l e (headSpec w_y_X7_tell__P ({ frames := 0, cells := 0, slots := 0, locals := 0 })).room s m #[.ref (a (pA (L0.2.2.1 0))), .long (L0.2.1 1), .long (L0.2.1 3), .int (L0.1 5), .int (L0.1 6), .int (L0.1 7)] below meth c dC dI cy a z A (kV dC dI cy a z A below #[.ref (a (pA (L0.2.2.1 0))), .long (L0.2.1 1), .long (L0.2.1 3), .int (L0.1 5), .int (L0.1 6), .int (L0.1 7)] s) 8 (y_X7_tell__P k 3) (fun L => [(0, .ref (a (pA (L.2.2.1 0))))]) 73 (fun L => [])) := by
    intro k
    induction k with
    | zero => exact ⟨fun L σ r h => (by cases h), fun L σ r h => (by cases h), fun L σ r h => (by cases h), fun L σ r h => (by cases h)⟩
    | succ k ih =>
      refine ⟨?_, ?_, ?_, ?_⟩
      · intro L σ r h H locs ls hP hD hS hl
        rw [y_X7_tell__P] at h
        refine lv_aload_n hx hb dX7_tell_0 rfl (lv_at hl 0 rfl) ?_
        refine hg_P_11 ((L.2.2.1 0)) hx hb hts in_y_X7_tell__P_X7 hown hK hP (hts _ (List.mem_cons_of_mem _ (List.mem_append_left _ (List.mem_append_left _ (List.mem_of_getElem? (i := 0) rfl))))) dX7_tell_1 ?_
        refine lv_sipush (v := 256) hx hb dX7_tell_4 (by decide) ?_
        refine lv_icmp_ge (tgt := 83) hx hb dX7_tell_7 (by decide) (fun c1 => ?_) (fun c1 => ?_)
        · rw [if_pos c1] at h
          exact ih.2.1 L σ r h H locs ls hP hD hS (lv_sub hl [] rfl)
        · rw [if_neg c1] at h
          refine lv_aload_n hx hb dX7_tell_10 rfl (lv_at hl 0 rfl) ?_
          refine hg_P_5 ((L.2.2.1 0)) hx hb hts in_y_X7_tell__P_X7 hown hK hP (hts _ (List.mem_cons_of_mem _ (List.mem_append_left _ (List.mem_append_left _ (List.mem_of_getElem? (i := 1) rfl))))) dX7_tell_11 ?_
          refine lv_aload_n hx hb dX7_tell_14 rfl (lv_at hl 0 rfl) ?_
          refine hg_P_11 ((L.2.2.1 0)) hx hb hts in_y_X7_tell__P_X7 hown hK hP (hts _ (List.mem_cons_of_mem _ (List.mem_append_left _ (List.mem_append_left _ (List.mem_of_getElem? (i := 0) rfl))))) dX7_tell_15 ?_
          refine lv_lload_n hx hb dX7_tell_18 rfl (lv_at hl 1 rfl) ?_
          obtain ⟨q2, h⟩ := kb_ite1 h
          refine hs_P5 (((L.2.2.1 0))) hx hb hK hP hD hS q2 dX7_tell_19 (fun H locs hP hD hS => ?_)
          refine lv_aload_n hx hb dX7_tell_20 rfl (lv_at hl 0 rfl) ?_
          refine hg_P_6 ((L.2.2.1 0)) hx hb hts in_y_X7_tell__P_X7 hown hK hP (hts _ (List.mem_cons_of_mem _ (List.mem_append_left _ (List.mem_append_left _ (List.mem_of_getElem? (i := 2) rfl))))) dX7_tell_21 ?_
          refine lv_aload_n hx hb dX7_tell_24 rfl (lv_at hl 0 rfl) ?_
          refine hg_P_11 ((L.2.2.1 0)) hx hb hts in_y_X7_tell__P_X7 hown hK hP (hts _ (List.mem_cons_of_mem _ (List.mem_append_left _ (List.mem_append_left _ (List.mem_of_getElem? (i := 0) rfl))))) dX7_tell_25 ?_
          refine lv_lload_n hx hb dX7_tell_28 rfl (lv_at hl 2 rfl) ?_
          obtain ⟨q3, h⟩ := kb_ite1 h
          refine hs_P6 (((L.2.2.1 0))) hx hb hK hP hD hS q3 dX7_tell_29 (fun H locs hP hD hS => ?_)
          refine lv_aload_n hx hb dX7_tell_30 rfl (lv_at hl 0 rfl) ?_
          refine hg_P_7 ((L.2.2.1 0)) hx hb hts in_y_X7_tell__P_X7 hown hK hP (hts _ (List.mem_cons_of_mem _ (List.mem_append_left _ (List.mem_append_left _ (List.mem_of_getElem? (i := 3) rfl))))) dX7_tell_31 ?_
          refine lv_aload_n hx hb dX7_tell_34 rfl (lv_at hl 0 rfl) ?_
          refine hg_P_11 ((L.2.2.1 0)) hx hb hts in_y_X7_tell__P_X7 hown hK hP (hts _ (List.mem_cons_of_mem _ (List.mem_append_left _ (List.mem_append_left _ (List.mem_of_getElem? (i := 0) rfl))))) dX7_tell_35 ?_
          refine lv_iload hx hb dX7_tell_38 (lv_at hl 3 rfl) ?_
          obtain ⟨q4, h⟩ := kb_ite1 h
          refine hs_P7 (((L.2.2.1 0))) hx hb hK hP hD hS q4 dX7_tell_40 (fun H locs hP hD hS => ?_)
          exact ih.2.2.1 L (uA (uJ (uJ σ (pR5 (((L.2.2.1 0)))) ((σ.1 (fP ((L.2.2.1 0)) 11))).toNatClampNeg ((L.2.1 1))) (pR6 (((L.2.2.1 0)))) (((uJ σ (pR5 (((L.2.2.1 0)))) ((σ.1 (fP ((L.2.2.1 0)) 11))).toNatClampNeg ((L.2.1 1))).1 (fP ((L.2.2.1 0)) 11))).toNatClampNeg ((L.2.1 3))) (pR7 (((L.2.2.1 0)))) (((uJ (uJ σ (pR5 (((L.2.2.1 0)))) ((σ.1 (fP ((L.2.2.1 0)) 11))).toNatClampNeg ((L.2.1 1))) (pR6 (((L.2.2.1 0)))) (((uJ σ (pR5 (((L.2.2.1 0)))) ((σ.1 (fP ((L.2.2.1 0)) 11))).toNatClampNeg ((L.2.1 1))).1 (fP ((L.2.2.1 0)) 11))).toNatClampNeg ((L.2.1 3))).1 (fP ((L.2.2.1 0)) 11))).toNatClampNeg ((L.1 5))) r h H locs ls hP hD hS (lv_sub hl [0, 4, 5] rfl)
      · intro L σ r h H locs ls hP hD hS hl
        rw [y_X7_tell__P] at h
        obtain rfl := Option.some.inj h
        exact W.vret hx hb hr (fun t ht hW => ⟨⟨(), rfl, trivial, by rw [ht]; exact hP, va_K.moved hW.alike hK, hD⟩, hS.F ht⟩) hS.2.2 dX7_tell_83
      · intro L σ r h H locs ls hP hD hS hl
        rw [y_X7_tell__P] at h
        refine lv_aload_n hx hb dX7_tell_41 rfl (lv_at hl 0 rfl) ?_
        refine hg_P_8 ((L.2.2.1 0)) hx hb hts in_y_X7_tell__P_X7 hown hK hP (hts _ (List.mem_cons_of_mem _ (List.mem_append_left _ (List.mem_append_left _ (List.mem_of_getElem? (i := 4) rfl))))) dX7_tell_42 ?_
        refine lv_aload_n hx hb dX7_tell_45 rfl (lv_at hl 0 rfl) ?_
        refine hg_P_11 ((L.2.2.1 0)) hx hb hts in_y_X7_tell__P_X7 hown hK hP (hts _ (List.mem_cons_of_mem _ (List.mem_append_left _ (List.mem_append_left _ (List.mem_of_getElem? (i := 0) rfl))))) dX7_tell_46 ?_
        refine lv_iload hx hb dX7_tell_49 (lv_at hl 1 rfl) ?_
        obtain ⟨q1, h⟩ := kb_ite1 h
        refine hs_P8 (((L.2.2.1 0))) hx hb hK hP hD hS q1 dX7_tell_51 (fun H locs hP hD hS => ?_)
        refine lv_aload_n hx hb dX7_tell_52 rfl (lv_at hl 0 rfl) ?_
        refine hg_P_9 ((L.2.2.1 0)) hx hb hts in_y_X7_tell__P_X7 hown hK hP (hts _ (List.mem_cons_of_mem _ (List.mem_append_left _ (List.mem_append_left _ (List.mem_of_getElem? (i := 5) rfl))))) dX7_tell_53 ?_
        refine lv_aload_n hx hb dX7_tell_56 rfl (lv_at hl 0 rfl) ?_
        refine hg_P_11 ((L.2.2.1 0)) hx hb hts in_y_X7_tell__P_X7 hown hK hP (hts _ (List.mem_cons_of_mem _ (List.mem_append_left _ (List.mem_append_left _ (List.mem_of_getElem? (i := 0) rfl))))) dX7_tell_57 ?_
        refine lv_iload hx hb dX7_tell_60 (lv_at hl 2 rfl) ?_
        obtain ⟨q2, h⟩ := kb_ite1 h
        refine hs_P9 (((L.2.2.1 0))) hx hb hK hP hD hS q2 dX7_tell_62 (fun H locs hP hD hS => ?_)
        refine lv_aload_n hx hb dX7_tell_63 rfl (lv_at hl 0 rfl) ?_
        refine hg_P_10 ((L.2.2.1 0)) hx hb hts in_y_X7_tell__P_X7 hown hK hP (hts _ (List.mem_cons_of_mem _ (List.mem_append_left _ (List.mem_append_left _ (List.mem_of_getElem? (i := 6) rfl))))) dX7_tell_64 ?_
        refine lv_aload_n hx hb dX7_tell_67 rfl (lv_at hl 0 rfl) ?_
        refine hg_P_11 ((L.2.2.1 0)) hx hb hts in_y_X7_tell__P_X7 hown hK hP (hts _ (List.mem_cons_of_mem _ (List.mem_append_left _ (List.mem_append_left _ (List.mem_of_getElem? (i := 0) rfl))))) dX7_tell_68 ?_
        refine lv_iconst (v := 0) hx hb dX7_tell_71 (by decide) ?_
        obtain ⟨q3, h⟩ := kb_ite1 h
        refine hs_P10 (((L.2.2.1 0))) hx hb hK hP hD hS q3 dX7_tell_72 (fun H locs hP hD hS => ?_)
        exact ih.2.2.2 L (uA (uA (uA σ (pR8 (((L.2.2.1 0)))) ((σ.1 (fP ((L.2.2.1 0)) 11))).toNatClampNeg ((L.1 6))) (pR9 (((L.2.2.1 0)))) (((uA σ (pR8 (((L.2.2.1 0)))) ((σ.1 (fP ((L.2.2.1 0)) 11))).toNatClampNeg ((L.1 6))).1 (fP ((L.2.2.1 0)) 11))).toNatClampNeg ((L.1 7))) (pR10 (((L.2.2.1 0)))) (((uA (uA σ (pR8 (((L.2.2.1 0)))) ((σ.1 (fP ((L.2.2.1 0)) 11))).toNatClampNeg ((L.1 6))) (pR9 (((L.2.2.1 0)))) (((uA σ (pR8 (((L.2.2.1 0)))) ((σ.1 (fP ((L.2.2.1 0)) 11))).toNatClampNeg ((L.1 6))).1 (fP ((L.2.2.1 0)) 11))).toNatClampNeg ((L.1 7))).1 (fP ((L.2.2.1 0)) 11))).toNatClampNeg (vp_nar .boolean 0)) r h H locs ls hP hD hS (lv_sub hl [0] rfl)
      · intro L σ r h H locs ls hP hD hS hl
        rw [y_X7_tell__P] at h
        refine lv_aload_n hx hb dX7_tell_73 rfl (lv_at hl 0 rfl) ?_
        refine lv_dup hx hb dX7_tell_74 rfl ?_
        refine hg_P_11 ((L.2.2.1 0)) hx hb hts in_y_X7_tell__P_X7 hown hK hP (hts _ (List.mem_cons_of_mem _ (List.mem_append_left _ (List.mem_append_left _ (List.mem_of_getElem? (i := 0) rfl))))) dX7_tell_75 ?_
        refine lv_iconst (v := 1) hx hb dX7_tell_78 (by decide) ?_
        refine lv_iadd hx hb dX7_tell_79 ?_
        refine hp_P_11 ((L.2.2.1 0)) hx hb hts in_y_X7_tell__P_X7 hown hK hP hD hS (hts _ (List.mem_cons_of_mem _ (List.mem_append_left _ (List.mem_append_left _ (List.mem_of_getElem? (i := 0) rfl))))) dX7_tell_80 (fun H locs hP hD hS => ?_)
        exact ih.2.1 L (uI σ (fP ((L.2.2.1 0)) 11) ((((σ.1 (fP ((L.2.2.1 0)) 11))) + 1))) r h H locs ls hP hD hS (lv_sub hl [] rfl)
  exact (blk k0).1 L0 σ0 r0 h0 s.heap [] ls hP hD hS hl

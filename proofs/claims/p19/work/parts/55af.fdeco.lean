/-! X3_leavePoint -/
def f_X3_leavePoint : Nat → Nat → LV → CS → Option RS
  | 0, _, _, _ => none
  | k + 1, 0, L, σ => if ((σ.1 1912)) = 0 then (op (y_X3_fail k 0 (lI lZ 1 10) σ) (fun r2 => some ((0, 0), r2.2, (0, 0)))) else (f_X3_leavePoint k 1 L σ)
  | k + 1, 1, L, σ => if ¬ (((((((σ.1 1913)) - 6)) + 2)) < 0 ∨ (sN σ 21) ≤ ((((((σ.1 1913)) - 6)) + 2)).toNatClampNeg) then (op (y_X11_unraw k 0 (lI lZ 0 ((σ.2.2.1 21 ((((((σ.1 1913)) - 6)) + 2)).toNatClampNeg))) σ) (fun r2 => if ¬ (((((((σ.1 1913)) - 6)) + 4)) < 0 ∨ (sN r2.2 21) ≤ ((((((σ.1 1913)) - 6)) + 4)).toNatClampNeg) then (op (y_X11_unraw k 0 (lI lZ 0 ((r2.2.2.2.1 21 ((((((σ.1 1913)) - 6)) + 4)).toNatClampNeg))) r2.2) (fun r4 => f_X3_leavePoint k 2 (lI (lI (lI L 2 ((((σ.1 1913)) - 6))) 3 r2.1) 4 r4.1) (uI r4.2 1912 ((((r4.2.1 1912)) - 1))))) else none)) else none
  | k + 1, 2, L, σ => if ((L.1 1)) = 0 then (f_X3_leavePoint k 3 L (uI (uI σ 1911 ((((σ.1 1911)) - ((L.1 4))))) 1913 ((((L.1 2)) - ((L.1 3)))))) else (if ¬ (((L.1 2)) < 0 ∨ (sN (uI (uI σ 1911 ((((σ.1 1911)) - ((L.1 4))))) 1913 ((((L.1 2)) - ((L.1 3))))) 21) ≤ ((L.1 2)).toNatClampNeg) then (op (y_X11_unraw k 0 (lI lZ 0 (((uI (uI σ 1911 ((((σ.1 1911)) - ((L.1 4))))) 1913 ((((L.1 2)) - ((L.1 3))))).2.2.1 21 ((L.1 2)).toNatClampNeg))) (uI (uI σ 1911 ((((σ.1 1911)) - ((L.1 4))))) 1913 ((((L.1 2)) - ((L.1 3)))))) (fun r3 => f_X3_leavePoint k 4 (lI L 100 r3.1) r3.2)) else none)
  | k + 1, 3, L, σ => some ((0, 0), σ, (0, 0))
  | k + 1, 4, L, σ => if ¬ (((((L.1 2)) + 1)) < 0 ∨ (sN (uI σ 1900 ((L.1 100))) 21) ≤ ((((L.1 2)) + 1)).toNatClampNeg) then (op (y_X11_unraw k 0 (lI lZ 0 (((uI σ 1900 ((L.1 100))).2.2.1 21 ((((L.1 2)) + 1)).toNatClampNeg))) (uI σ 1900 ((L.1 100)))) (fun r2 => f_X3_leavePoint k 5 L (uI r2.2 1901 r2.1))) else none
  | k + 1, 5, L, σ => if ¬ (((((L.1 2)) + 3)) < 0 ∨ (sN (uI σ 1902 ((L.1 3))) 21) ≤ ((((L.1 2)) + 3)).toNatClampNeg) then (op (y_X11_unraw k 0 (lI lZ 0 (((uI σ 1902 ((L.1 3))).2.2.1 21 ((((L.1 2)) + 3)).toNatClampNeg))) (uI σ 1902 ((L.1 3)))) (fun r2 => f_X3_leavePoint k 6 L (uI r2.2 1908 r2.1))) else none
  | k + 1, 6, L, σ => if ¬ (((((L.1 2)) + 5)) < 0 ∨ (sN (uI σ 1909 ((L.1 4))) 21) ≤ ((((L.1 2)) + 5)).toNatClampNeg) then (op (y_X11_unraw k 0 (lI lZ 0 (((uI σ 1909 ((L.1 4))).2.2.1 21 ((((L.1 2)) + 5)).toNatClampNeg))) (uI σ 1909 ((L.1 4)))) (fun r2 => f_X3_leavePoint k 7 L (uI r2.2 1910 r2.1))) else none
  | k + 1, 7, L, σ => if ¬ ((((L.1 2)) - ((L.1 3)))) < 0 ∧ ¬ (0 : Int32) < 0 ∧ ¬ ((L.1 3)) < 0 ∧ ((((L.1 2)) - ((L.1 3)))).toNatClampNeg + ((L.1 3)).toNatClampNeg ≤ (sN σ 21) ∧ (0 : Int32).toNatClampNeg + ((L.1 3)).toNatClampNeg ≤ (sN σ 20) then (f_X3_leavePoint k 8 L (uF σ 20 (va_cpy (σ.2.2.1 21) (σ.2.2.1 20) ((((L.1 2)) - ((L.1 3)))).toNatClampNeg (0 : Int32).toNatClampNeg ((L.1 3)).toNatClampNeg))) else none
  | k + 1, 8, L, σ => ox (f_X3_push k 0 (lI lZ 1 ((-1879048192))) σ) (fun r1 => f_X3_leavePoint k 3 L r1.2.1)
  | _ + 1, _ + 9, _, _ => none
def o_f_X3_leavePoint : List Cond := [.fieldLink RX3 14 "SetHouse$Machine" "run" "LSetHouse$Run;", .methodLink RX3 313 yX3_fail, .instanceMethod yX3_fail, .selects RX3 yX3_fail yX3_fail, .initialized RX3, .fieldLink RX3 22 "SetHouse$Machine" "points" "[I", .initialized RX11, .static yX11_unraw, .fieldLink RX3 18 "SetHouse$Machine" "stack" "[I", .methodLink RX3 176 arraycopyName, .native arraycopyName, .static arraycopyName, .initialized "java/lang/System", .constant RX3 326 (-1879048192), .methodLink RX3 322 yX3_push, .instanceMethod yX3_push, .selects RX3 yX3_push yX3_push]
theorem o_f_X3_leavePoint_good : o_f_X3_leavePoint.all goodWord = true := by decide +kernel
def p_f_X3_leavePoint : List Cond := o_f_X3_leavePoint ++ ((.code yX3_fail cX3_fail 2 none :: p_y_X3_fail) ++ ((.code yX11_unraw cX11_unraw 1 (some .int) :: p_y_X11_unraw) ++ ((.code yX3_push cX3_push 2 none :: p_f_X3_push) ++ [])))
theorem p_f_X3_leavePoint_good : p_f_X3_leavePoint.all goodWord = true := nb_all2 o_f_X3_leavePoint_good (nb_all2 (nb_allc (by decide +kernel) p_y_X3_fail_good) (nb_all2 (nb_allc (by decide +kernel) p_y_X11_unraw_good) (nb_all2 (nb_allc (by decide +kernel) p_f_X3_push_good) rfl)))
def w_f_X3_leavePoint : List Cond := .code yX3_leavePoint cX3_leavePoint 5 none :: (p_f_X3_leavePoint ++ fC)
theorem w_f_X3_leavePoint_good : w_f_X3_leavePoint.all goodWord = true := nb_allc (by decide +kernel) (nb_all2 p_f_X3_leavePoint_good fC_good)
theorem in_f_X3_leavePoint_X3 : ∀ w ∈ wsX30, w ∈ w_f_X3_leavePoint := fun _ h => List.mem_cons_of_mem _ (List.mem_append_right _ (List.mem_append_right _ (List.mem_append_right _ (List.mem_append_right _ (List.mem_append_left _ h)))))
theorem in_f_X3_leavePoint_X8 : ∀ w ∈ wsX80, w ∈ w_f_X3_leavePoint := fun _ h => List.mem_cons_of_mem _ (List.mem_append_right _ (List.mem_append_right _ (List.mem_append_right _ (List.mem_append_right _ (List.mem_append_right _ (List.mem_append_right _ (List.mem_append_right _ (List.mem_append_right _ (List.mem_append_left _ h)))))))))
theorem hd_f_X3_leavePoint : yX3_leavePoint.cls = RX3 ∧ yX3_leavePoint.cls ≠ "java/lang/invoke/MethodHandle" ∧ yX3_leavePoint.cls ≠ "java/lang/invoke/VarHandle" ∧ (parseMethodDescriptor yX3_leavePoint.desc).map (fun d => d.parameters.length) = some 1 := by decide +kernel
theorem gg_f_X3_leavePoint_X3_push : GoodIn w_f_X3_leavePoint w_f_X3_push := goodIn_sub (fun w h => (List.mem_cons.mp h).elim (fun e => (List.mem_cons_of_mem _ (List.mem_append_left _ (List.mem_append_right _ (List.mem_append_right _ (List.mem_append_right _ (List.mem_append_left _ (List.mem_cons.mpr (Or.inl e))))))))) (fun h => (List.mem_append.mp h).elim (fun h => (List.mem_cons_of_mem _ (List.mem_append_left _ (List.mem_append_right _ (List.mem_append_right _ (List.mem_append_right _ (List.mem_append_left _ (List.mem_cons_of_mem _ h)))))))) (fun h => List.mem_cons_of_mem _ (List.mem_append_right _ h)))) w_f_X3_push_good
theorem g_f_X3_leavePoint_X3_push_V322 : GoodIn w_f_X3_leavePoint (wsV RX3 322 RX3 yX3_push w_f_X3_push) := goodIn_app (nb_g4 (List.mem_cons_of_mem _ (List.mem_append_left _ (List.mem_append_left _ (List.mem_of_getElem? (i := 14) rfl)))) (List.mem_cons_of_mem _ (List.mem_append_left _ (List.mem_append_left _ (List.mem_of_getElem? (i := 15) rfl)))) (List.mem_cons_of_mem _ (List.mem_append_left _ (List.mem_append_left _ (List.mem_of_getElem? (i := 16) rfl)))) (List.mem_cons_of_mem _ (List.mem_append_left _ (List.mem_append_left _ (List.mem_of_getElem? (i := 4) rfl)))) (by decide +kernel)) gg_f_X3_leavePoint_X3_push
theorem gg_f_X3_leavePoint_X11_unraw : GoodIn w_f_X3_leavePoint w_y_X11_unraw := goodIn_sub (fun w h => (List.mem_cons.mp h).elim (fun e => (List.mem_cons_of_mem _ (List.mem_append_left _ (List.mem_append_right _ (List.mem_append_right _ (List.mem_append_left _ (List.mem_cons.mpr (Or.inl e)))))))) (fun h => (List.mem_append.mp h).elim (fun h => (List.mem_cons_of_mem _ (List.mem_append_left _ (List.mem_append_right _ (List.mem_append_right _ (List.mem_append_left _ (List.mem_cons_of_mem _ h))))))) (fun h => List.mem_cons_of_mem _ (List.mem_append_right _ h)))) w_y_X11_unraw_good
theorem g_y_X3_leavePoint_X11_unraw_SN388 : GoodIn w_f_X3_leavePoint w_y_X11_unraw := gg_f_X3_leavePoint_X11_unraw
theorem gg_f_X3_leavePoint_X3_fail : GoodIn w_f_X3_leavePoint w_y_X3_fail := goodIn_sub (fun w h => (List.mem_cons.mp h).elim (fun e => (List.mem_cons_of_mem _ (List.mem_append_left _ (List.mem_append_right _ (List.mem_append_left _ (List.mem_cons.mpr (Or.inl e))))))) (fun h => (List.mem_append.mp h).elim (fun h => (List.mem_cons_of_mem _ (List.mem_append_left _ (List.mem_append_right _ (List.mem_append_left _ (List.mem_cons_of_mem _ h)))))) (fun h => List.mem_cons_of_mem _ (List.mem_append_right _ h)))) w_y_X3_fail_good
theorem g_y_X3_leavePoint_X3_fail_V313 : GoodIn w_f_X3_leavePoint (wsV RX3 313 RX3 yX3_fail w_y_X3_fail) := goodIn_app (nb_g4 (List.mem_cons_of_mem _ (List.mem_append_left _ (List.mem_append_left _ (List.mem_of_getElem? (i := 1) rfl)))) (List.mem_cons_of_mem _ (List.mem_append_left _ (List.mem_append_left _ (List.mem_of_getElem? (i := 2) rfl)))) (List.mem_cons_of_mem _ (List.mem_append_left _ (List.mem_append_left _ (List.mem_of_getElem? (i := 3) rfl)))) (List.mem_cons_of_mem _ (List.mem_append_left _ (List.mem_append_left _ (List.mem_of_getElem? (i := 4) rfl)))) (by decide +kernel)) gg_f_X3_leavePoint_X3_fail
set_option maxHeartbeats 40000000 in
set_option maxRecDepth 100000 in
theorem c_f_X3_leavePoint (l : Launch) (hl0 : l.stackTraces = false) (dC : Nat → ClassId) (dI : Nat → Nat → Nat) (cy : Nat → ClassId) (ek a : Nat → Nat) (k0 : Nat) (L0 : LV) (σ0 : CS) (r0 : RS) (h0 : f_X3_leavePoint k0 0 L0 σ0 = some r0) (z : Nat → Nat) (sz : Nat) : vx_Met l yX3_leavePoint w_f_X3_leavePoint ({ frames := 5, cells := r0.2.2.1, slots := r0.2.2.2, locals := 156 }) (va_Pc [.ref (a 18), .int (L0.1 1)] (nInF (dC, dI) cy ek sz (vC cy a z σ0))) (xV dC dI cy a (va_A (vC cy a z σ0) sz) [20] z r0) (xX dC dI cy a (va_A (vC cy a z σ0) sz) [20] z r0) r0.2.2.1 r0.2.2.2 (va_A (vC cy a z σ0) sz) := by
  refine vx_ofW (cc := cX3_leavePoint) (maxL := 5) (ret := none) (by decide) rfl ?_
  intro p e s m args below meth c s₁ B hml hno hv
  obtain ⟨rfl, ⟨⟨hsz, hP, hK, hD0, hG⟩, hE⟩, hT⟩ := hv
  have hx := B.exec
  have hb := B.bytes
  have hr := B.returns
  have hts := atoms_spec (ws := w_f_X3_leavePoint) B.pre
  have hown : s.vm.findClass RX3 = some m.cls := findClass_of_methodNamed B.named
  have hlocks := B.notSynchronized
  subst hsz
  have hD := hD0.self (sz := s.heap.size)
  generalize hAe : va_A (vC cy a z σ0) s.heap.size = A at hD hE hT ⊢
  have hA : ∀ q : Nat, s.heap.size ≤ q → A q := fun q h => by rw [← hAe]; exact Or.inr h
  have hS : va_S A s.heap s.heap [] := va_S.rf
  have hl := lv_entry ([.ref (a 18), .int (L0.1 1)]) (n := 5) (Nat.le_of_ble_eq_true rfl)
  rw [lg_entry_eq]
  generalize (lg_sl ([.ref (a 18), .int (L0.1 1)]) ++ List.replicate (5 - (lg_sl ([.ref (a 18), .int (L0.1 1)])).length) Slot.unset).toArray = ls at hl ⊢
  have hl : lv_has ls 5 [(0, .ref (a 18)), (1, .int (L0.1 1))] := hl
  generalize hmc : r0.2.2.1 = mc
  generalize hms : r0.2.2.2 = ms
  have blk : ∀ k : Nat, (bX p l e (headSpec w_f_X3_leavePoint ({ frames := 5, cells := mc, slots := ms, locals := 156 })).room s m #[.ref (a 18), .int (L0.1 1)] below meth c dC dI cy a A (fun r => vx_MQ below (xV dC dI cy a A [20] z r) (xX dC dI cy a A [20] z r) #[.ref (a 18), .int (L0.1 1)] s mc ms A) [20] z mc ms 5 (f_X3_leavePoint k 0) (fun z L => [(0, .ref (a 18)), (1, .int (L.1 1))]) 0 (fun z L => [])) ∧ (bX p l e (headSpec w_f_X3_leavePoint ({ frames := 5, cells := mc, slots := ms, locals := 156 })).room s m #[.ref (a 18), .int (L0.1 1)] below meth c dC dI cy a A (fun r => vx_MQ below (xV dC dI cy a A [20] z r) (xX dC dI cy a A [20] z r) #[.ref (a 18), .int (L0.1 1)] s mc ms A) [20] z mc ms 5 (f_X3_leavePoint k 1) (fun z L => [(0, .ref (a 18)), (1, .int (L.1 1))]) 17 (fun z L => [])) ∧ (bX p l e (headSpec w_f_X3_leavePoint ({ frames := 5, cells := mc, slots := ms, locals := 156 })).room s m #[.ref (a 18), .int (L0.1 1)] below meth c dC dI cy a A (fun r => vx_MQ below (xV dC dI cy a A [20] z r) (xX dC dI cy a A [20] z r) #[.ref (a 18), .int (L0.1 1)] s mc ms A) [20] z mc ms 5 (f_X3_leavePoint k 2) (fun z L => [(0, .ref (a 18)), (1, .int (L.1 1)), (2, .int (L.1 2)), (3, .int (L.1 3)), (4, .int (L.1 4))]) 66 (fun z L => [])) ∧ (bX p l e (headSpec w_f_X3_leavePoint ({ frames := 5, cells := mc, slots := ms, locals := 156 })).room s m #[.ref (a 18), .int (L0.1 1)] below meth c dC dI cy a A (fun r => vx_MQ below (xV dC dI cy a A [20] z r) (xX dC dI cy a A [20] z r) #[.ref (a 18), .int (L0.1 1)] s mc ms A) [20] z mc ms 5 (f_X3_leavePoint k 3) (fun z L => []) 207 (fun z L => [])) ∧ (bX p l e (headSpec w_f_X3_leavePoint ({ frames := 5, cells := mc, slots := ms, locals := 156 })).room s m #[.ref (a 18), .int (L0.1 1)] below meth c dC dI cy a A (fun r => vx_MQ below (xV dC dI cy a A [20] z r) (xX dC dI cy a A [20] z r) #[.ref (a 18), .int (L0.1 1)] s mc ms A) [20] z mc ms 5 (f_X3_leavePoint k 4) (fun z L => [(0, .ref (a 18)), (2, .int (L.1 2)), (3, .int (L.1 3)), (4, .int (L.1 4))]) 110 (fun z L => [.int (L.1 100), .ref (a 19)])) ∧ (bX p l e (headSpec w_f_X3_leavePoint ({ frames := 5, cells := mc, slots := ms, locals := 156 })).room s m #[.ref (a 18), .int (L0.1 1)] below meth c dC dI cy a A (fun r => vx_MQ below (xV dC dI cy a A [20] z r) (xX dC dI cy a A [20] z r) #[.ref (a 18), .int (L0.1 1)] s mc ms A) [20] z mc ms 5 (f_X3_leavePoint k 5) (fun z L => [(0, .ref (a 18)), (2, .int (L.1 2)), (3, .int (L.1 3)), (4, .int (L.1 4))]) 131 (fun z L => [])) ∧ (bX p l e (headSpec w_f_X3_leavePoint ({ frames := 5, cells := mc, slots := ms, locals := 156 })).room s m #[.ref (a 18), .int (L0.1 1)] below meth c dC dI cy a A (fun r => vx_MQ below (xV dC dI cy a A [20] z r) (xX dC dI cy a A [20] z r) #[.ref (a 18), .int (L0.1 1)] s mc ms A) [20] z mc ms 5 (f_X3_leavePoint k 6) (fun z L => [(0, .ref (a 18)), (2, .int (L.1 2)), (3, .int (L.1 3)), (4, .int (L.1 4))]) 157 (fun z L => [])) ∧ (bX p l e (headSpec w_f_X3_leavePoint ({ frames := 5, cells := mc, slots := ms, locals := 156 })).room s m #[.ref (a 18), .int (L0.1 1)] below meth c dC dI cy a A (fun r => vx_MQ below (xV dC dI cy a A [20] z r) (xX dC dI cy a A [20] z r) #[.ref (a 18), .int (L0.1 1)] s mc ms A) [20] z mc ms 5 (f_X3_leavePoint k 7) (fun z L => [(0, .ref (a 18)), (2, .int (L.1 2)), (3, .int (L.1 3))]) 184 (fun z L => [])) ∧ (bX p l e (headSpec w_f_X3_leavePoint ({ frames := 5, cells := mc, slots := ms, locals := 156 })).room s m #[.ref (a 18), .int (L0.1 1)] below meth c dC dI cy a A (fun r => vx_MQ below (xV dC dI cy a A [20] z r) (xX dC dI cy a A [20] z r) #[.ref (a 18), .int (L0.1 1)] s mc ms A) [20] z mc ms 5 (f_X3_leavePoint k 8) (fun z L => [(0, .ref (a 18))]) 200 (fun z L => [])) := by
    intro k
    induction k with
    | zero => exact ⟨fun z c1 c2 L σ r h => (by cases h), fun z c1 c2 L σ r h => (by cases h), fun z c1 c2 L σ r h => (by cases h), fun z c1 c2 L σ r h => (by cases h), fun z c1 c2 L σ r h => (by cases h), fun z c1 c2 L σ r h => (by cases h), fun z c1 c2 L σ r h => (by cases h), fun z c1 c2 L σ r h => (by cases h), fun z c1 c2 L σ r h => (by cases h)⟩
    | succ k ih =>
      refine ⟨?_, ?_, ?_, ?_, ?_, ?_, ?_, ?_, ?_⟩
      · intro z cells slots L σ r h hzk hc hs H locs ls hP hD hS hl
        rw [f_X3_leavePoint] at h
        refine lv_aload_n hx hb dX3_leavePoint_0 rfl (lv_at hl 0 rfl) ?_
        refine hg_18_5 hx hb hts in_f_X3_leavePoint_X3 hown hK hP (hts _ (List.mem_cons_of_mem _ (List.mem_append_left _ (List.mem_append_left _ (List.mem_of_getElem? (i := 0) rfl))))) dX3_leavePoint_1 ?_
        refine hg_19_12n hx hb hts in_f_X3_leavePoint_X8 hown hK hP (va_Nw.use rfl (hG.1 _ (List.mem_of_getElem? (i := 32) rfl))) dX3_leavePoint_4 ?_
        refine lv_if_ne (tgt := 17) hx hb dX3_leavePoint_7 (by decide) (fun c1 => ?_) (fun c1 => ?_)
        · rw [if_neg c1] at h
          exact ih.2.1 z _ _ L σ _ h hzk hc hs H locs ls hP hD hS (lv_sub hl [0, 1] rfl)
        · rw [if_pos c1] at h
          refine lv_aload_n hx hb dX3_leavePoint_10 rfl (lv_at hl 0 rfl) ?_
          refine lv_bipush (v := 10) hx hb dX3_leavePoint_11 (by decide) ?_
          obtain ⟨r2, hc2, h⟩ := op_ex h
          refine kc_v (va_runV (As := [.int 10]) (rest := []) ⟨hx, hb, hml, hown, hts⟩ (c_y_X3_fail l dC dI cy a z k (lI lZ 1 10) σ r2 hc2 H.size) (cwV 1 hts g_y_X3_leavePoint_X3_fail_V313 rfl rfl rfl hd_y_X3_fail ⟨Nat.le_of_ble_eq_true rfl, Nat.le_of_ble_eq_true rfl⟩) ⟨nb_blind, va_recv hK hP (ci := 3) (q0 := 18) rfl rfl, (kb_pre hK hG hP hD)⟩ rfl rfl hl.1 rfl (lv_room (Nat.le_of_ble_eq_true rfl)) dX3_leavePoint_13 ⟨(Nat.le_trans (Nat.le_add_right _ _) (Nat.le_of_eq hc)), (Nat.le_trans (Nat.le_add_right _ _) (Nat.le_of_eq hs))⟩) hA hP hD hS (fun H locs hP hD hS => ?_)
          obtain rfl := Option.some.inj h
          subst hc
          subst hs
          exact xr_v hx hb hr hK hzk hP hD hS hlocks dX3_leavePoint_16
      · intro z cells slots L σ r h hzk hc hs H locs ls hP hD hS hl
        rw [f_X3_leavePoint] at h
        refine lv_aload_n hx hb dX3_leavePoint_17 rfl (lv_at hl 0 rfl) ?_
        refine hg_18_5 hx hb hts in_f_X3_leavePoint_X3 hown hK hP (hts _ (List.mem_cons_of_mem _ (List.mem_append_left _ (List.mem_append_left _ (List.mem_of_getElem? (i := 0) rfl))))) dX3_leavePoint_18 ?_
        refine hg_19_13n hx hb hts in_f_X3_leavePoint_X8 hown hK hP (va_Nw.use rfl (hG.1 _ (List.mem_of_getElem? (i := 34) rfl))) dX3_leavePoint_21 ?_
        refine lv_bipush (v := 6) hx hb dX3_leavePoint_24 (by decide) ?_
        refine lv_isub hx hb dX3_leavePoint_26 ?_
        refine lv_istore_n (lv' := [(2, .int (((σ.1 1913)) - 6)), (0, .ref (a 18)), (1, .int (L.1 1))]) hx hb dX3_leavePoint_27 rfl hl (by decide) rfl (fun ls hl => ?_)
        refine lv_aload_n hx hb dX3_leavePoint_28 rfl (lv_at hl 1 rfl) ?_
        refine hg_18_8 hx hb hts in_f_X3_leavePoint_X3 hown hK hP (hts _ (List.mem_cons_of_mem _ (List.mem_append_left _ (List.mem_append_left _ (List.mem_of_getElem? (i := 5) rfl))))) dX3_leavePoint_29 ?_
        refine lv_iload_n hx hb dX3_leavePoint_32 rfl (lv_at hl 0 rfl) ?_
        refine lv_iconst (v := 2) hx hb dX3_leavePoint_33 (by decide) ?_
        refine lv_iadd hx hb dX3_leavePoint_34 ?_
        obtain ⟨q1, h⟩ := kr_ite1 h
        refine hl_21 hx hb hK hP q1 dX3_leavePoint_35 ?_
        obtain ⟨r2, hc2, h⟩ := op_ex h
        refine kc_i (va_runSN (As := [.int (σ.2.2.1 21 ((((((σ.1 1913)) - 6)) + 2)).toNatClampNeg)]) (rest := []) ⟨hx, hb, hml, hown, hts⟩ (c_y_X11_unraw l dC dI cy a z k (lI lZ 0 ((σ.2.2.1 21 ((((((σ.1 1913)) - 6)) + 2)).toNatClampNeg))) σ r2 hc2 H.size) ⟨va_cnB 1 hts g_y_X3_leavePoint_X11_unraw_SN388 rfl rfl rfl (hG.1 _ (List.mem_of_getElem? (i := 104) rfl)) (hts _ (List.mem_cons_of_mem _ (List.mem_append_left _ (List.mem_append_left _ (List.mem_of_getElem? (i := 6) rfl))))) hd_y_X11_unraw ⟨Nat.le_of_ble_eq_true rfl, Nat.le_of_ble_eq_true rfl⟩, (hts _ (List.mem_cons_of_mem _ (List.mem_append_left _ (List.mem_append_left _ (List.mem_of_getElem? (i := 7) rfl))))), trivial⟩ ⟨nb_blind, (kb_pre hK hG hP hD)⟩ rfl rfl hl.1 rfl (lv_room (Nat.le_of_ble_eq_true rfl)) dX3_leavePoint_36 ⟨(Nat.le_trans (Nat.le_add_right _ _) (Nat.le_of_eq hc)), (Nat.le_trans (Nat.le_add_right _ _) (Nat.le_of_eq hs))⟩) hA hP hD hS (fun H locs hP hD hS => ?_)
        refine lv_istore_n (lv' := [(3, .int r2.1), (2, .int (((σ.1 1913)) - 6)), (0, .ref (a 18)), (1, .int (L.1 1))]) hx hb dX3_leavePoint_39 rfl hl (by decide) rfl (fun ls hl => ?_)
        refine lv_aload_n hx hb dX3_leavePoint_40 rfl (lv_at hl 2 rfl) ?_
        refine hg_18_8 hx hb hts in_f_X3_leavePoint_X3 hown hK hP (hts _ (List.mem_cons_of_mem _ (List.mem_append_left _ (List.mem_append_left _ (List.mem_of_getElem? (i := 5) rfl))))) dX3_leavePoint_41 ?_
        refine lv_iload_n hx hb dX3_leavePoint_44 rfl (lv_at hl 1 rfl) ?_
        refine lv_iconst (v := 4) hx hb dX3_leavePoint_45 (by decide) ?_
        refine lv_iadd hx hb dX3_leavePoint_46 ?_
        obtain ⟨q3, h⟩ := kr_ite1 h
        refine hl_21 hx hb hK hP q3 dX3_leavePoint_47 ?_
        obtain ⟨r4, hc4, h⟩ := op_ex h
        refine kc_i (va_runSN (As := [.int (r2.2.2.2.1 21 ((((((σ.1 1913)) - 6)) + 4)).toNatClampNeg)]) (rest := []) ⟨hx, hb, hml, hown, hts⟩ (c_y_X11_unraw l dC dI cy a z k (lI lZ 0 ((r2.2.2.2.1 21 ((((((σ.1 1913)) - 6)) + 4)).toNatClampNeg))) r2.2 r4 hc4 H.size) ⟨va_cnB 1 hts g_y_X3_leavePoint_X11_unraw_SN388 rfl rfl rfl (hG.1 _ (List.mem_of_getElem? (i := 104) rfl)) (hts _ (List.mem_cons_of_mem _ (List.mem_append_left _ (List.mem_append_left _ (List.mem_of_getElem? (i := 6) rfl))))) hd_y_X11_unraw ⟨Nat.le_of_ble_eq_true rfl, Nat.le_of_ble_eq_true rfl⟩, (hts _ (List.mem_cons_of_mem _ (List.mem_append_left _ (List.mem_append_left _ (List.mem_of_getElem? (i := 7) rfl))))), trivial⟩ ⟨nb_blind, (kb_pre hK hG hP hD)⟩ rfl rfl hl.1 rfl (lv_room (Nat.le_of_ble_eq_true rfl)) dX3_leavePoint_48 ⟨(Nat.le_trans (Nat.le_add_right _ _) (Nat.le_of_eq hc)), (Nat.le_trans (Nat.le_add_right _ _) (Nat.le_of_eq hs))⟩) hA hP hD hS (fun H locs hP hD hS => ?_)
        refine lv_istore (lv' := [(4, .int r4.1), (3, .int r2.1), (2, .int (((σ.1 1913)) - 6)), (0, .ref (a 18)), (1, .int (L.1 1))]) hx hb dX3_leavePoint_51 hl (by decide) rfl (fun ls hl => ?_)
        refine lv_aload_n hx hb dX3_leavePoint_53 rfl (lv_at hl 3 rfl) ?_
        refine hg_18_5 hx hb hts in_f_X3_leavePoint_X3 hown hK hP (hts _ (List.mem_cons_of_mem _ (List.mem_append_left _ (List.mem_append_left _ (List.mem_of_getElem? (i := 0) rfl))))) dX3_leavePoint_54 ?_
        refine lv_dup hx hb dX3_leavePoint_57 rfl ?_
        refine hg_19_12n hx hb hts in_f_X3_leavePoint_X8 hown hK hP (va_Nw.use rfl (hG.1 _ (List.mem_of_getElem? (i := 32) rfl))) dX3_leavePoint_58 ?_
        refine lv_iconst (v := 1) hx hb dX3_leavePoint_61 (by decide) ?_
        refine lv_isub hx hb dX3_leavePoint_62 ?_
        refine hp_19_12n hx hb hts in_f_X3_leavePoint_X8 hown hK hP hD hS (va_Nw.use rfl (hG.1 _ (List.mem_of_getElem? (i := 32) rfl))) dX3_leavePoint_63 (fun H locs hP hD hS => ?_)
        exact ih.2.2.1 z _ _ (lI (lI (lI L 2 ((((σ.1 1913)) - 6))) 3 r2.1) 4 r4.1) (uI r4.2 1912 ((((r4.2.1 1912)) - 1))) _ h hzk hc hs H locs ls hP hD hS (lv_sub hl [3, 4, 2, 1, 0] rfl)
      · intro z cells slots L σ r h hzk hc hs H locs ls hP hD hS hl
        rw [f_X3_leavePoint] at h
        refine lv_aload_n hx hb dX3_leavePoint_66 rfl (lv_at hl 0 rfl) ?_
        refine hg_18_5 hx hb hts in_f_X3_leavePoint_X3 hown hK hP (hts _ (List.mem_cons_of_mem _ (List.mem_append_left _ (List.mem_append_left _ (List.mem_of_getElem? (i := 0) rfl))))) dX3_leavePoint_67 ?_
        refine lv_aload_n hx hb dX3_leavePoint_70 rfl (lv_at hl 0 rfl) ?_
        refine hg_18_5 hx hb hts in_f_X3_leavePoint_X3 hown hK hP (hts _ (List.mem_cons_of_mem _ (List.mem_append_left _ (List.mem_append_left _ (List.mem_of_getElem? (i := 0) rfl))))) dX3_leavePoint_71 ?_
        refine hg_19_11n hx hb hts in_f_X3_leavePoint_X8 hown hK hP (va_Nw.use rfl (hG.1 _ (List.mem_of_getElem? (i := 29) rfl))) dX3_leavePoint_74 ?_
        refine lv_iload hx hb dX3_leavePoint_77 (lv_at hl 4 rfl) ?_
        refine lv_isub hx hb dX3_leavePoint_79 ?_
        refine hp_19_11n hx hb hts in_f_X3_leavePoint_X8 hown hK hP hD hS (va_Nw.use rfl (hG.1 _ (List.mem_of_getElem? (i := 29) rfl))) dX3_leavePoint_80 (fun H locs hP hD hS => ?_)
        refine lv_aload_n hx hb dX3_leavePoint_83 rfl (lv_at hl 0 rfl) ?_
        refine hg_18_5 hx hb hts in_f_X3_leavePoint_X3 hown hK hP (hts _ (List.mem_cons_of_mem _ (List.mem_append_left _ (List.mem_append_left _ (List.mem_of_getElem? (i := 0) rfl))))) dX3_leavePoint_84 ?_
        refine lv_iload_n hx hb dX3_leavePoint_87 rfl (lv_at hl 2 rfl) ?_
        refine lv_iload_n hx hb dX3_leavePoint_88 rfl (lv_at hl 3 rfl) ?_
        refine lv_isub hx hb dX3_leavePoint_89 ?_
        refine hp_19_13n hx hb hts in_f_X3_leavePoint_X8 hown hK hP hD hS (va_Nw.use rfl (hG.1 _ (List.mem_of_getElem? (i := 34) rfl))) dX3_leavePoint_90 (fun H locs hP hD hS => ?_)
        refine lv_iload_n hx hb dX3_leavePoint_93 rfl (lv_at hl 1 rfl) ?_
        refine lv_if_eq (tgt := 207) hx hb dX3_leavePoint_94 (by decide) (fun c1 => ?_) (fun c1 => ?_)
        · rw [if_pos c1] at h
          exact ih.2.2.2.1 z _ _ L (uI (uI σ 1911 ((((σ.1 1911)) - ((L.1 4))))) 1913 ((((L.1 2)) - ((L.1 3))))) _ h hzk hc hs H locs ls hP hD hS (lv_sub hl [] rfl)
        · rw [if_neg c1] at h
          refine lv_aload_n hx hb dX3_leavePoint_97 rfl (lv_at hl 0 rfl) ?_
          refine hg_18_5 hx hb hts in_f_X3_leavePoint_X3 hown hK hP (hts _ (List.mem_cons_of_mem _ (List.mem_append_left _ (List.mem_append_left _ (List.mem_of_getElem? (i := 0) rfl))))) dX3_leavePoint_98 ?_
          refine lv_aload_n hx hb dX3_leavePoint_101 rfl (lv_at hl 0 rfl) ?_
          refine hg_18_8 hx hb hts in_f_X3_leavePoint_X3 hown hK hP (hts _ (List.mem_cons_of_mem _ (List.mem_append_left _ (List.mem_append_left _ (List.mem_of_getElem? (i := 5) rfl))))) dX3_leavePoint_102 ?_
          refine lv_iload_n hx hb dX3_leavePoint_105 rfl (lv_at hl 2 rfl) ?_
          obtain ⟨q2, h⟩ := kr_ite1 h
          refine hl_21 hx hb hK hP q2 dX3_leavePoint_106 ?_
          obtain ⟨r3, hc3, h⟩ := op_ex h
          refine kc_i (va_runSN (As := [.int ((uI (uI σ 1911 ((((σ.1 1911)) - ((L.1 4))))) 1913 ((((L.1 2)) - ((L.1 3))))).2.2.1 21 ((L.1 2)).toNatClampNeg)]) (rest := [.ref (a 19)]) ⟨hx, hb, hml, hown, hts⟩ (c_y_X11_unraw l dC dI cy a z k (lI lZ 0 (((uI (uI σ 1911 ((((σ.1 1911)) - ((L.1 4))))) 1913 ((((L.1 2)) - ((L.1 3))))).2.2.1 21 ((L.1 2)).toNatClampNeg))) (uI (uI σ 1911 ((((σ.1 1911)) - ((L.1 4))))) 1913 ((((L.1 2)) - ((L.1 3))))) r3 hc3 H.size) ⟨va_cnB 1 hts g_y_X3_leavePoint_X11_unraw_SN388 rfl rfl rfl (hG.1 _ (List.mem_of_getElem? (i := 104) rfl)) (hts _ (List.mem_cons_of_mem _ (List.mem_append_left _ (List.mem_append_left _ (List.mem_of_getElem? (i := 6) rfl))))) hd_y_X11_unraw ⟨Nat.le_of_ble_eq_true rfl, Nat.le_of_ble_eq_true rfl⟩, (hts _ (List.mem_cons_of_mem _ (List.mem_append_left _ (List.mem_append_left _ (List.mem_of_getElem? (i := 7) rfl))))), trivial⟩ ⟨nb_blind, (kb_pre hK hG hP hD)⟩ rfl rfl hl.1 rfl (lv_room (Nat.le_of_ble_eq_true rfl)) dX3_leavePoint_107 ⟨(Nat.le_trans (Nat.le_add_right _ _) (Nat.le_of_eq hc)), (Nat.le_trans (Nat.le_add_right _ _) (Nat.le_of_eq hs))⟩) hA hP hD hS (fun H locs hP hD hS => ?_)
          exact ih.2.2.2.2.1 z _ _ (lI L 100 r3.1) r3.2 _ h hzk hc hs H locs ls hP hD hS (lv_sub hl [0, 2, 3, 4] rfl)
      · intro z cells slots L σ r h hzk hc hs H locs ls hP hD hS hl
        rw [f_X3_leavePoint] at h
        obtain rfl := Option.some.inj h
        subst hc
        subst hs
        exact xr_v hx hb hr hK hzk hP hD hS hlocks dX3_leavePoint_207
      · intro z cells slots L σ r h hzk hc hs H locs ls hP hD hS hl
        rw [f_X3_leavePoint] at h
        refine hp_19_0n hx hb hts in_f_X3_leavePoint_X8 hown hK hP hD hS (va_Nw.use rfl (hG.1 _ (List.mem_of_getElem? (i := 8) rfl))) dX3_leavePoint_110 (fun H locs hP hD hS => ?_)
        refine lv_aload_n hx hb dX3_leavePoint_113 rfl (lv_at hl 0 rfl) ?_
        refine hg_18_5 hx hb hts in_f_X3_leavePoint_X3 hown hK hP (hts _ (List.mem_cons_of_mem _ (List.mem_append_left _ (List.mem_append_left _ (List.mem_of_getElem? (i := 0) rfl))))) dX3_leavePoint_114 ?_
        refine lv_aload_n hx hb dX3_leavePoint_117 rfl (lv_at hl 0 rfl) ?_
        refine hg_18_8 hx hb hts in_f_X3_leavePoint_X3 hown hK hP (hts _ (List.mem_cons_of_mem _ (List.mem_append_left _ (List.mem_append_left _ (List.mem_of_getElem? (i := 5) rfl))))) dX3_leavePoint_118 ?_
        refine lv_iload_n hx hb dX3_leavePoint_121 rfl (lv_at hl 1 rfl) ?_
        refine lv_iconst (v := 1) hx hb dX3_leavePoint_122 (by decide) ?_
        refine lv_iadd hx hb dX3_leavePoint_123 ?_
        obtain ⟨q1, h⟩ := kr_ite1 h
        refine hl_21 hx hb hK hP q1 dX3_leavePoint_124 ?_
        obtain ⟨r2, hc2, h⟩ := op_ex h
        refine kc_i (va_runSN (As := [.int ((uI σ 1900 ((L.1 100))).2.2.1 21 ((((L.1 2)) + 1)).toNatClampNeg)]) (rest := [.ref (a 19)]) ⟨hx, hb, hml, hown, hts⟩ (c_y_X11_unraw l dC dI cy a z k (lI lZ 0 (((uI σ 1900 ((L.1 100))).2.2.1 21 ((((L.1 2)) + 1)).toNatClampNeg))) (uI σ 1900 ((L.1 100))) r2 hc2 H.size) ⟨va_cnB 1 hts g_y_X3_leavePoint_X11_unraw_SN388 rfl rfl rfl (hG.1 _ (List.mem_of_getElem? (i := 104) rfl)) (hts _ (List.mem_cons_of_mem _ (List.mem_append_left _ (List.mem_append_left _ (List.mem_of_getElem? (i := 6) rfl))))) hd_y_X11_unraw ⟨Nat.le_of_ble_eq_true rfl, Nat.le_of_ble_eq_true rfl⟩, (hts _ (List.mem_cons_of_mem _ (List.mem_append_left _ (List.mem_append_left _ (List.mem_of_getElem? (i := 7) rfl))))), trivial⟩ ⟨nb_blind, (kb_pre hK hG hP hD)⟩ rfl rfl hl.1 rfl (lv_room (Nat.le_of_ble_eq_true rfl)) dX3_leavePoint_125 ⟨(Nat.le_trans (Nat.le_add_right _ _) (Nat.le_of_eq hc)), (Nat.le_trans (Nat.le_add_right _ _) (Nat.le_of_eq hs))⟩) hA hP hD hS (fun H locs hP hD hS => ?_)
        refine hp_19_1n hx hb hts in_f_X3_leavePoint_X8 hown hK hP hD hS (va_Nw.use rfl (hG.1 _ (List.mem_of_getElem? (i := 9) rfl))) dX3_leavePoint_128 (fun H locs hP hD hS => ?_)
        exact ih.2.2.2.2.2.1 z _ _ L (uI r2.2 1901 r2.1) _ h hzk hc hs H locs ls hP hD hS (lv_sub hl [0, 1, 2, 3] rfl)
      · intro z cells slots L σ r h hzk hc hs H locs ls hP hD hS hl
        rw [f_X3_leavePoint] at h
        refine lv_aload_n hx hb dX3_leavePoint_131 rfl (lv_at hl 0 rfl) ?_
        refine hg_18_5 hx hb hts in_f_X3_leavePoint_X3 hown hK hP (hts _ (List.mem_cons_of_mem _ (List.mem_append_left _ (List.mem_append_left _ (List.mem_of_getElem? (i := 0) rfl))))) dX3_leavePoint_132 ?_
        refine lv_iload_n hx hb dX3_leavePoint_135 rfl (lv_at hl 2 rfl) ?_
        refine hp_19_2n hx hb hts in_f_X3_leavePoint_X8 hown hK hP hD hS (va_Nw.use rfl (hG.1 _ (List.mem_of_getElem? (i := 10) rfl))) dX3_leavePoint_136 (fun H locs hP hD hS => ?_)
        refine lv_aload_n hx hb dX3_leavePoint_139 rfl (lv_at hl 0 rfl) ?_
        refine hg_18_5 hx hb hts in_f_X3_leavePoint_X3 hown hK hP (hts _ (List.mem_cons_of_mem _ (List.mem_append_left _ (List.mem_append_left _ (List.mem_of_getElem? (i := 0) rfl))))) dX3_leavePoint_140 ?_
        refine lv_aload_n hx hb dX3_leavePoint_143 rfl (lv_at hl 0 rfl) ?_
        refine hg_18_8 hx hb hts in_f_X3_leavePoint_X3 hown hK hP (hts _ (List.mem_cons_of_mem _ (List.mem_append_left _ (List.mem_append_left _ (List.mem_of_getElem? (i := 5) rfl))))) dX3_leavePoint_144 ?_
        refine lv_iload_n hx hb dX3_leavePoint_147 rfl (lv_at hl 1 rfl) ?_
        refine lv_iconst (v := 3) hx hb dX3_leavePoint_148 (by decide) ?_
        refine lv_iadd hx hb dX3_leavePoint_149 ?_
        obtain ⟨q1, h⟩ := kr_ite1 h
        refine hl_21 hx hb hK hP q1 dX3_leavePoint_150 ?_
        obtain ⟨r2, hc2, h⟩ := op_ex h
        refine kc_i (va_runSN (As := [.int ((uI σ 1902 ((L.1 3))).2.2.1 21 ((((L.1 2)) + 3)).toNatClampNeg)]) (rest := [.ref (a 19)]) ⟨hx, hb, hml, hown, hts⟩ (c_y_X11_unraw l dC dI cy a z k (lI lZ 0 (((uI σ 1902 ((L.1 3))).2.2.1 21 ((((L.1 2)) + 3)).toNatClampNeg))) (uI σ 1902 ((L.1 3))) r2 hc2 H.size) ⟨va_cnB 1 hts g_y_X3_leavePoint_X11_unraw_SN388 rfl rfl rfl (hG.1 _ (List.mem_of_getElem? (i := 104) rfl)) (hts _ (List.mem_cons_of_mem _ (List.mem_append_left _ (List.mem_append_left _ (List.mem_of_getElem? (i := 6) rfl))))) hd_y_X11_unraw ⟨Nat.le_of_ble_eq_true rfl, Nat.le_of_ble_eq_true rfl⟩, (hts _ (List.mem_cons_of_mem _ (List.mem_append_left _ (List.mem_append_left _ (List.mem_of_getElem? (i := 7) rfl))))), trivial⟩ ⟨nb_blind, (kb_pre hK hG hP hD)⟩ rfl rfl hl.1 rfl (lv_room (Nat.le_of_ble_eq_true rfl)) dX3_leavePoint_151 ⟨(Nat.le_trans (Nat.le_add_right _ _) (Nat.le_of_eq hc)), (Nat.le_trans (Nat.le_add_right _ _) (Nat.le_of_eq hs))⟩) hA hP hD hS (fun H locs hP hD hS => ?_)
        refine hp_19_8n hx hb hts in_f_X3_leavePoint_X8 hown hK hP hD hS (va_Nw.use rfl (hG.1 _ (List.mem_of_getElem? (i := 23) rfl))) dX3_leavePoint_154 (fun H locs hP hD hS => ?_)
        exact ih.2.2.2.2.2.2.1 z _ _ L (uI r2.2 1908 r2.1) _ h hzk hc hs H locs ls hP hD hS (lv_sub hl [0, 1, 2, 3] rfl)
      · intro z cells slots L σ r h hzk hc hs H locs ls hP hD hS hl
        rw [f_X3_leavePoint] at h
        refine lv_aload_n hx hb dX3_leavePoint_157 rfl (lv_at hl 0 rfl) ?_
        refine hg_18_5 hx hb hts in_f_X3_leavePoint_X3 hown hK hP (hts _ (List.mem_cons_of_mem _ (List.mem_append_left _ (List.mem_append_left _ (List.mem_of_getElem? (i := 0) rfl))))) dX3_leavePoint_158 ?_
        refine lv_iload hx hb dX3_leavePoint_161 (lv_at hl 3 rfl) ?_
        refine hp_19_9n hx hb hts in_f_X3_leavePoint_X8 hown hK hP hD hS (va_Nw.use rfl (hG.1 _ (List.mem_of_getElem? (i := 25) rfl))) dX3_leavePoint_163 (fun H locs hP hD hS => ?_)
        refine lv_aload_n hx hb dX3_leavePoint_166 rfl (lv_at hl 0 rfl) ?_
        refine hg_18_5 hx hb hts in_f_X3_leavePoint_X3 hown hK hP (hts _ (List.mem_cons_of_mem _ (List.mem_append_left _ (List.mem_append_left _ (List.mem_of_getElem? (i := 0) rfl))))) dX3_leavePoint_167 ?_
        refine lv_aload_n hx hb dX3_leavePoint_170 rfl (lv_at hl 0 rfl) ?_
        refine hg_18_8 hx hb hts in_f_X3_leavePoint_X3 hown hK hP (hts _ (List.mem_cons_of_mem _ (List.mem_append_left _ (List.mem_append_left _ (List.mem_of_getElem? (i := 5) rfl))))) dX3_leavePoint_171 ?_
        refine lv_iload_n hx hb dX3_leavePoint_174 rfl (lv_at hl 1 rfl) ?_
        refine lv_iconst (v := 5) hx hb dX3_leavePoint_175 (by decide) ?_
        refine lv_iadd hx hb dX3_leavePoint_176 ?_
        obtain ⟨q1, h⟩ := kr_ite1 h
        refine hl_21 hx hb hK hP q1 dX3_leavePoint_177 ?_
        obtain ⟨r2, hc2, h⟩ := op_ex h
        refine kc_i (va_runSN (As := [.int ((uI σ 1909 ((L.1 4))).2.2.1 21 ((((L.1 2)) + 5)).toNatClampNeg)]) (rest := [.ref (a 19)]) ⟨hx, hb, hml, hown, hts⟩ (c_y_X11_unraw l dC dI cy a z k (lI lZ 0 (((uI σ 1909 ((L.1 4))).2.2.1 21 ((((L.1 2)) + 5)).toNatClampNeg))) (uI σ 1909 ((L.1 4))) r2 hc2 H.size) ⟨va_cnB 1 hts g_y_X3_leavePoint_X11_unraw_SN388 rfl rfl rfl (hG.1 _ (List.mem_of_getElem? (i := 104) rfl)) (hts _ (List.mem_cons_of_mem _ (List.mem_append_left _ (List.mem_append_left _ (List.mem_of_getElem? (i := 6) rfl))))) hd_y_X11_unraw ⟨Nat.le_of_ble_eq_true rfl, Nat.le_of_ble_eq_true rfl⟩, (hts _ (List.mem_cons_of_mem _ (List.mem_append_left _ (List.mem_append_left _ (List.mem_of_getElem? (i := 7) rfl))))), trivial⟩ ⟨nb_blind, (kb_pre hK hG hP hD)⟩ rfl rfl hl.1 rfl (lv_room (Nat.le_of_ble_eq_true rfl)) dX3_leavePoint_178 ⟨(Nat.le_trans (Nat.le_add_right _ _) (Nat.le_of_eq hc)), (Nat.le_trans (Nat.le_add_right _ _) (Nat.le_of_eq hs))⟩) hA hP hD hS (fun H locs hP hD hS => ?_)
        refine hp_19_10n hx hb hts in_f_X3_leavePoint_X8 hown hK hP hD hS (va_Nw.use rfl (hG.1 _ (List.mem_of_getElem? (i := 28) rfl))) dX3_leavePoint_181 (fun H locs hP hD hS => ?_)
        exact ih.2.2.2.2.2.2.2.1 z _ _ L (uI r2.2 1910 r2.1) _ h hzk hc hs H locs ls hP hD hS (lv_sub hl [0, 1, 2] rfl)
      · intro z cells slots L σ r h hzk hc hs H locs ls hP hD hS hl
        rw [f_X3_leavePoint] at h
        refine lv_aload_n hx hb dX3_leavePoint_184 rfl (lv_at hl 0 rfl) ?_
        refine hg_18_8 hx hb hts in_f_X3_leavePoint_X3 hown hK hP (hts _ (List.mem_cons_of_mem _ (List.mem_append_left _ (List.mem_append_left _ (List.mem_of_getElem? (i := 5) rfl))))) dX3_leavePoint_185 ?_
        refine lv_iload_n hx hb dX3_leavePoint_188 rfl (lv_at hl 1 rfl) ?_
        refine lv_iload_n hx hb dX3_leavePoint_189 rfl (lv_at hl 2 rfl) ?_
        refine lv_isub hx hb dX3_leavePoint_190 ?_
        refine lv_aload_n hx hb dX3_leavePoint_191 rfl (lv_at hl 0 rfl) ?_
        refine hg_18_7 hx hb hts in_f_X3_leavePoint_X3 hown hK hP (hts _ (List.mem_cons_of_mem _ (List.mem_append_left _ (List.mem_append_left _ (List.mem_of_getElem? (i := 8) rfl))))) dX3_leavePoint_192 ?_
        refine lv_iconst (v := 0) hx hb dX3_leavePoint_195 (by decide) ?_
        refine lv_iload_n hx hb dX3_leavePoint_196 rfl (lv_at hl 2 rfl) ?_
        obtain ⟨q1, h⟩ := kr_ite1 h
        refine va_copyi (ty := .int) hx hb (hml.trans hl.1.symm) hown (hts _ (List.mem_cons_of_mem _ (List.mem_append_left _ (List.mem_append_left _ (List.mem_of_getElem? (i := 9) rfl))))) (hts _ (List.mem_cons_of_mem _ (List.mem_append_left _ (List.mem_append_left _ (List.mem_of_getElem? (i := 10) rfl))))) (hts _ (List.mem_cons_of_mem _ (List.mem_append_left _ (List.mem_append_left _ (List.mem_of_getElem? (i := 11) rfl))))) (hts _ (List.mem_cons_of_mem _ (List.mem_append_left _ (List.mem_append_left _ (List.mem_of_getElem? (i := 12) rfl))))) hK hP hD hS 21 20 1 1 rfl rfl rfl rfl rfl q1.1 q1.2.1 q1.2.2.1 q1.2.2.2.1 q1.2.2.2.2 (fun _ _ => rfl) (Nat.le_of_ble_eq_true rfl) (Nat.le_of_ble_eq_true rfl) dX3_leavePoint_197 (fun H locs hP hD hS => ?_)
        have hP : va_P (dC, dI) nCl (vC cy a z (uF σ 20 (va_cpy (σ.2.2.1 21) (σ.2.2.1 20) ((((L.1 2)) - ((L.1 3)))).toNatClampNeg (0 : Int32).toNatClampNeg ((L.1 3)).toNatClampNeg))) H := hP
        have hD : va_D A (vC cy a z (uF σ 20 (va_cpy (σ.2.2.1 21) (σ.2.2.1 20) ((((L.1 2)) - ((L.1 3)))).toNatClampNeg (0 : Int32).toNatClampNeg ((L.1 3)).toNatClampNeg))) := hD
        exact ih.2.2.2.2.2.2.2.2 z _ _ L (uF σ 20 (va_cpy (σ.2.2.1 21) (σ.2.2.1 20) ((((L.1 2)) - ((L.1 3)))).toNatClampNeg (0 : Int32).toNatClampNeg ((L.1 3)).toNatClampNeg)) _ h hzk hc hs H locs ls hP hD hS (lv_sub hl [0] rfl)
      · intro z cells slots L σ r h hzk hc hs H locs ls hP hD hS hl
        rw [f_X3_leavePoint] at h
        refine lv_aload_n hx hb dX3_leavePoint_200 rfl (lv_at hl 0 rfl) ?_
        refine lv_ldcw (v := (-1879048192)) hx hb hown (hts _ (List.mem_cons_of_mem _ (List.mem_append_left _ (List.mem_append_left _ (List.mem_of_getElem? (i := 13) rfl))))) dX3_leavePoint_201 ?_
        obtain ⟨r1, hc1, hle1, h9⟩ := ox_ex h
        clear h
        refine kx_v (vx_runV (As := [.int (-1879048192)]) (rest := []) ⟨hx, hb, hml, hown, hts⟩ (c_f_X3_push l hl0 dC dI cy ek a k (lI lZ 1 ((-1879048192))) σ r1 hc1 z H.size) (cwV 1 hts g_f_X3_leavePoint_X3_push_V322 rfl rfl rfl hd_f_X3_push ⟨Nat.le_of_ble_eq_true rfl, Nat.le_of_ble_eq_true rfl⟩) ⟨nb_blindF, va_recv hK hP (ci := 3) (q0 := 18) rfl rfl, (kx_pre hK hG hE hT hA hP hD hS)⟩ rfl rfl hl.1 rfl (lv_room (Nat.le_of_ble_eq_true rfl)) dX3_leavePoint_204 ⟨Nat.le_trans (Nat.add_le_add_left hle1.1 _) (Nat.le_of_eq hc), Nat.le_trans (Nat.add_le_add_left hle1.2 _) (Nat.le_of_eq hs)⟩) hK hA hzk hP hD hS (by decide) hno hlocks ?_
        rcases h9 with ⟨h00, y1, hny1, hy⟩ | ⟨h00, hy⟩
        · subst hy
          have h := hny1
          refine Or.inl ⟨h00, fun z H locs hz1 hzk hP hD hS => ?_⟩
          replace hc := (Nat.add_assoc _ _ _).trans hc
          replace hs := (Nat.add_assoc _ _ _).trans hs
          exact ih.2.2.2.1 z _ _ L r1.2.1 _ h hzk hc hs H locs ls hP hD hS (lv_sub hl [] rfl)
        · subst hy
          exact Or.inr ⟨h00, rfl, hc, hs⟩
  exact (blk k0).1 z 0 0 L0 σ0 r0 h0 (zk_rf _ _) ((Nat.zero_add _).trans hmc) ((Nat.zero_add _).trans hms) s.heap [] ls hP hD hS hl
/-! X3_callsAndPoints -/
def f_X3_callsAndPoints : Nat → Nat → LV → CS → Option RS
  | 0, _, _, _ => none
  | k + 1, 0, L, σ => if ((L.1 1)) = (16 : Int32) then (f_X3_callsAndPoints k 1 L σ) else (if ((L.1 1)) = (17 : Int32) then (f_X3_callsAndPoints k 2 L σ) else (if ((L.1 1)) = (18 : Int32) then (f_X3_callsAndPoints k 3 L σ) else (if ((L.1 1)) = (19 : Int32) then (f_X3_callsAndPoints k 4 L σ) else (if ((L.1 1)) = (20 : Int32) then (f_X3_callsAndPoints k 5 L σ) else (if ((L.1 1)) = (21 : Int32) then (f_X3_callsAndPoints k 6 L σ) else (if ((L.1 1)) = (22 : Int32) then (f_X3_callsAndPoints k 7 L σ) else (if ((L.1 1)) = (23 : Int32) then (f_X3_callsAndPoints k 7 L σ) else (if ((L.1 1)) = (24 : Int32) then (f_X3_callsAndPoints k 8 L σ) else (f_X3_callsAndPoints k 7 L σ)))))))))
  | k + 1, 1, L, σ => ox (f_X3_pushAll k 0 (lI (lI lZ 1 ((-268435456))) 2 4) σ) (fun r1 => f_X3_callsAndPoints k 9 L r1.2.1)
  | k + 1, 2, L, σ => ox (f_X3_callFunc k 0 (lI lZ 1 ((L.1 2))) σ) (fun r1 => f_X3_callsAndPoints k 9 L r1.2.1)
  | k + 1, 3, L, σ => ox (f_X3_endFunc k 0 lZ σ) (fun r1 => f_X3_callsAndPoints k 9 L r1.2.1)
  | k + 1, 4, L, σ => ox (f_X3_callProc k 0 (lI lZ 1 ((L.1 2))) σ) (fun r1 => f_X3_callsAndPoints k 9 L r1.2.1)
  | k + 1, 5, L, σ => op (y_X3_endProc k 0 lZ σ) (fun r1 => f_X3_callsAndPoints k 9 L r1.2)
  | k + 1, 6, L, σ => ox (f_X3_makePoint k 0 lZ σ) (fun r1 => f_X3_callsAndPoints k 9 L r1.2.1)
  | k + 1, 7, L, σ => if ((L.1 1)) = 22 then (f_X3_callsAndPoints k 11 (lI L 100 1) σ) else (f_X3_callsAndPoints k 10 L σ)
  | k + 1, 8, L, σ => op (y_X3_pop k 0 lZ σ) (fun r1 => op (y_X3_wantTruth k 0 (lI lZ 1 r1.1) r1.2) (fun r2 => if r2.1 = 0 then (f_X3_callsAndPoints k 9 L r2.2) else (if r1.1 = ((-1879048192)) then (op (y_X3_fail k 0 (lI lZ 1 8) r2.2) (fun r5 => f_X3_callsAndPoints k 9 L r5.2)) else (f_X3_callsAndPoints k 9 L r2.2))))
  | k + 1, 9, L, σ => some ((0, 0), σ, (0, 0))
  | k + 1, 10, L, σ => f_X3_callsAndPoints k 11 (lI L 100 0) σ
  | k + 1, 11, L, σ => ox (f_X3_leavePoint k 0 (lI lZ 1 ((L.1 100))) σ) (fun r1 => f_X3_callsAndPoints k 9 L r1.2.1)
  | _ + 1, _ + 12, _, _ => none
def o_f_X3_callsAndPoints : List Cond := [.constant RX3 131 (-268435456), .methodLink RX3 132 yX3_pushAll, .instanceMethod yX3_pushAll, .selects RX3 yX3_pushAll yX3_pushAll, .initialized RX3, .methodLink RX3 359 yX3_callFunc, .instanceMethod yX3_callFunc, .selects RX3 yX3_callFunc yX3_callFunc, .methodLink RX3 362 yX3_endFunc, .instanceMethod yX3_endFunc, .selects RX3 yX3_endFunc yX3_endFunc, .methodLink RX3 365 yX3_callProc, .instanceMethod yX3_callProc, .selects RX3 yX3_callProc yX3_callProc, .methodLink RX3 368 yX3_endProc, .instanceMethod yX3_endProc, .selects RX3 yX3_endProc yX3_endProc, .methodLink RX3 371 yX3_makePoint, .instanceMethod yX3_makePoint, .selects RX3 yX3_makePoint yX3_makePoint, .methodLink RX3 339 yX3_pop, .instanceMethod yX3_pop, .selects RX3 yX3_pop yX3_pop, .methodLink RX3 342 yX3_wantTruth, .instanceMethod yX3_wantTruth, .selects RX3 yX3_wantTruth yX3_wantTruth, .constant RX3 326 (-1879048192), .methodLink RX3 313 yX3_fail, .instanceMethod yX3_fail, .selects RX3 yX3_fail yX3_fail, .methodLink RX3 374 yX3_leavePoint, .instanceMethod yX3_leavePoint, .selects RX3 yX3_leavePoint yX3_leavePoint]
theorem o_f_X3_callsAndPoints_good : o_f_X3_callsAndPoints.all goodWord = true := by decide +kernel
def p_f_X3_callsAndPoints : List Cond := o_f_X3_callsAndPoints ++ ((.code yX3_pushAll cX3_pushAll 4 none :: p_f_X3_pushAll) ++ ((.code yX3_callFunc cX3_callFunc 4 none :: p_f_X3_callFunc) ++ ((.code yX3_endFunc cX3_endFunc 3 none :: p_f_X3_endFunc) ++ ((.code yX3_callProc cX3_callProc 5 none :: p_f_X3_callProc) ++ ((.code yX3_endProc cX3_endProc 5 none :: p_y_X3_endProc) ++ ((.code yX3_makePoint cX3_makePoint 2 none :: p_f_X3_makePoint) ++ ((.code yX3_pop cX3_pop 1 (some .int) :: p_y_X3_pop) ++ ((.code yX3_wantTruth cX3_wantTruth 2 (some .boolean) :: p_y_X3_wantTruth) ++ ((.code yX3_fail cX3_fail 2 none :: p_y_X3_fail) ++ ((.code yX3_leavePoint cX3_leavePoint 5 none :: p_f_X3_leavePoint) ++ []))))))))))
theorem p_f_X3_callsAndPoints_good : p_f_X3_callsAndPoints.all goodWord = true := nb_all2 o_f_X3_callsAndPoints_good (nb_all2 (nb_allc (by decide +kernel) p_f_X3_pushAll_good) (nb_all2 (nb_allc (by decide +kernel) p_f_X3_callFunc_good) (nb_all2 (nb_allc (by decide +kernel) p_f_X3_endFunc_good) (nb_all2 (nb_allc (by decide +kernel) p_f_X3_callProc_good) (nb_all2 (nb_allc (by decide +kernel) p_y_X3_endProc_good) (nb_all2 (nb_allc (by decide +kernel) p_f_X3_makePoint_good) (nb_all2 (nb_allc (by decide +kernel) p_y_X3_pop_good) (nb_all2 (nb_allc (by decide +kernel) p_y_X3_wantTruth_good) (nb_all2 (nb_allc (by decide +kernel) p_y_X3_fail_good) (nb_all2 (nb_allc (by decide +kernel) p_f_X3_leavePoint_good) rfl))))))))))
def w_f_X3_callsAndPoints : List Cond := .code yX3_callsAndPoints cX3_callsAndPoints 4 none :: (p_f_X3_callsAndPoints ++ fC)
theorem w_f_X3_callsAndPoints_good : w_f_X3_callsAndPoints.all goodWord = true := nb_allc (by decide +kernel) (nb_all2 p_f_X3_callsAndPoints_good fC_good)
theorem hd_f_X3_callsAndPoints : yX3_callsAndPoints.cls = RX3 ∧ yX3_callsAndPoints.cls ≠ "java/lang/invoke/MethodHandle" ∧ yX3_callsAndPoints.cls ≠ "java/lang/invoke/VarHandle" ∧ (parseMethodDescriptor yX3_callsAndPoints.desc).map (fun d => d.parameters.length) = some 2 := by decide +kernel
theorem gg_f_X3_callsAndPoints_X3_callFunc : GoodIn w_f_X3_callsAndPoints w_f_X3_callFunc := goodIn_sub (fun w h => (List.mem_cons.mp h).elim (fun e => (List.mem_cons_of_mem _ (List.mem_append_left _ (List.mem_append_right _ (List.mem_append_right _ (List.mem_append_left _ (List.mem_cons.mpr (Or.inl e)))))))) (fun h => (List.mem_append.mp h).elim (fun h => (List.mem_cons_of_mem _ (List.mem_append_left _ (List.mem_append_right _ (List.mem_append_right _ (List.mem_append_left _ (List.mem_cons_of_mem _ h))))))) (fun h => List.mem_cons_of_mem _ (List.mem_append_right _ h)))) w_f_X3_callFunc_good
theorem g_f_X3_callsAndPoints_X3_callFunc_V359 : GoodIn w_f_X3_callsAndPoints (wsV RX3 359 RX3 yX3_callFunc w_f_X3_callFunc) := goodIn_app (nb_g4 (List.mem_cons_of_mem _ (List.mem_append_left _ (List.mem_append_left _ (List.mem_of_getElem? (i := 5) rfl)))) (List.mem_cons_of_mem _ (List.mem_append_left _ (List.mem_append_left _ (List.mem_of_getElem? (i := 6) rfl)))) (List.mem_cons_of_mem _ (List.mem_append_left _ (List.mem_append_left _ (List.mem_of_getElem? (i := 7) rfl)))) (List.mem_cons_of_mem _ (List.mem_append_left _ (List.mem_append_left _ (List.mem_of_getElem? (i := 4) rfl)))) (by decide +kernel)) gg_f_X3_callsAndPoints_X3_callFunc
theorem gg_f_X3_callsAndPoints_X3_callProc : GoodIn w_f_X3_callsAndPoints w_f_X3_callProc := goodIn_sub (fun w h => (List.mem_cons.mp h).elim (fun e => (List.mem_cons_of_mem _ (List.mem_append_left _ (List.mem_append_right _ (List.mem_append_right _ (List.mem_append_right _ (List.mem_append_right _ (List.mem_append_left _ (List.mem_cons.mpr (Or.inl e)))))))))) (fun h => (List.mem_append.mp h).elim (fun h => (List.mem_cons_of_mem _ (List.mem_append_left _ (List.mem_append_right _ (List.mem_append_right _ (List.mem_append_right _ (List.mem_append_right _ (List.mem_append_left _ (List.mem_cons_of_mem _ h))))))))) (fun h => List.mem_cons_of_mem _ (List.mem_append_right _ h)))) w_f_X3_callProc_good
theorem g_f_X3_callsAndPoints_X3_callProc_V365 : GoodIn w_f_X3_callsAndPoints (wsV RX3 365 RX3 yX3_callProc w_f_X3_callProc) := goodIn_app (nb_g4 (List.mem_cons_of_mem _ (List.mem_append_left _ (List.mem_append_left _ (List.mem_of_getElem? (i := 11) rfl)))) (List.mem_cons_of_mem _ (List.mem_append_left _ (List.mem_append_left _ (List.mem_of_getElem? (i := 12) rfl)))) (List.mem_cons_of_mem _ (List.mem_append_left _ (List.mem_append_left _ (List.mem_of_getElem? (i := 13) rfl)))) (List.mem_cons_of_mem _ (List.mem_append_left _ (List.mem_append_left _ (List.mem_of_getElem? (i := 4) rfl)))) (by decide +kernel)) gg_f_X3_callsAndPoints_X3_callProc
theorem gg_f_X3_callsAndPoints_X3_endFunc : GoodIn w_f_X3_callsAndPoints w_f_X3_endFunc := goodIn_sub (fun w h => (List.mem_cons.mp h).elim (fun e => (List.mem_cons_of_mem _ (List.mem_append_left _ (List.mem_append_right _ (List.mem_append_right _ (List.mem_append_right _ (List.mem_append_left _ (List.mem_cons.mpr (Or.inl e))))))))) (fun h => (List.mem_append.mp h).elim (fun h => (List.mem_cons_of_mem _ (List.mem_append_left _ (List.mem_append_right _ (List.mem_append_right _ (List.mem_append_right _ (List.mem_append_left _ (List.mem_cons_of_mem _ h)))))))) (fun h => List.mem_cons_of_mem _ (List.mem_append_right _ h)))) w_f_X3_endFunc_good
theorem g_f_X3_callsAndPoints_X3_endFunc_V362 : GoodIn w_f_X3_callsAndPoints (wsV RX3 362 RX3 yX3_endFunc w_f_X3_endFunc) := goodIn_app (nb_g4 (List.mem_cons_of_mem _ (List.mem_append_left _ (List.mem_append_left _ (List.mem_of_getElem? (i := 8) rfl)))) (List.mem_cons_of_mem _ (List.mem_append_left _ (List.mem_append_left _ (List.mem_of_getElem? (i := 9) rfl)))) (List.mem_cons_of_mem _ (List.mem_append_left _ (List.mem_append_left _ (List.mem_of_getElem? (i := 10) rfl)))) (List.mem_cons_of_mem _ (List.mem_append_left _ (List.mem_append_left _ (List.mem_of_getElem? (i := 4) rfl)))) (by decide +kernel)) gg_f_X3_callsAndPoints_X3_endFunc
theorem gg_f_X3_callsAndPoints_X3_leavePoint : GoodIn w_f_X3_callsAndPoints w_f_X3_leavePoint := goodIn_sub (fun w h => (List.mem_cons.mp h).elim (fun e => (List.mem_cons_of_mem _ (List.mem_append_left _ (List.mem_append_right _ (List.mem_append_right _ (List.mem_append_right _ (List.mem_append_right _ (List.mem_append_right _ (List.mem_append_right _ (List.mem_append_right _ (List.mem_append_right _ (List.mem_append_right _ (List.mem_append_right _ (List.mem_append_left _ (List.mem_cons.mpr (Or.inl e)))))))))))))))) (fun h => (List.mem_append.mp h).elim (fun h => (List.mem_cons_of_mem _ (List.mem_append_left _ (List.mem_append_right _ (List.mem_append_right _ (List.mem_append_right _ (List.mem_append_right _ (List.mem_append_right _ (List.mem_append_right _ (List.mem_append_right _ (List.mem_append_right _ (List.mem_append_right _ (List.mem_append_right _ (List.mem_append_left _ (List.mem_cons_of_mem _ h))))))))))))))) (fun h => List.mem_cons_of_mem _ (List.mem_append_right _ h)))) w_f_X3_leavePoint_good
theorem g_f_X3_callsAndPoints_X3_leavePoint_V374 : GoodIn w_f_X3_callsAndPoints (wsV RX3 374 RX3 yX3_leavePoint w_f_X3_leavePoint) := goodIn_app (nb_g4 (List.mem_cons_of_mem _ (List.mem_append_left _ (List.mem_append_left _ (List.mem_of_getElem? (i := 30) rfl)))) (List.mem_cons_of_mem _ (List.mem_append_left _ (List.mem_append_left _ (List.mem_of_getElem? (i := 31) rfl)))) (List.mem_cons_of_mem _ (List.mem_append_left _ (List.mem_append_left _ (List.mem_of_getElem? (i := 32) rfl)))) (List.mem_cons_of_mem _ (List.mem_append_left _ (List.mem_append_left _ (List.mem_of_getElem? (i := 4) rfl)))) (by decide +kernel)) gg_f_X3_callsAndPoints_X3_leavePoint
theorem gg_f_X3_callsAndPoints_X3_makePoint : GoodIn w_f_X3_callsAndPoints w_f_X3_makePoint := goodIn_sub (fun w h => (List.mem_cons.mp h).elim (fun e => (List.mem_cons_of_mem _ (List.mem_append_left _ (List.mem_append_right _ (List.mem_append_right _ (List.mem_append_right _ (List.mem_append_right _ (List.mem_append_right _ (List.mem_append_right _ (List.mem_append_left _ (List.mem_cons.mpr (Or.inl e)))))))))))) (fun h => (List.mem_append.mp h).elim (fun h => (List.mem_cons_of_mem _ (List.mem_append_left _ (List.mem_append_right _ (List.mem_append_right _ (List.mem_append_right _ (List.mem_append_right _ (List.mem_append_right _ (List.mem_append_right _ (List.mem_append_left _ (List.mem_cons_of_mem _ h))))))))))) (fun h => List.mem_cons_of_mem _ (List.mem_append_right _ h)))) w_f_X3_makePoint_good
theorem g_f_X3_callsAndPoints_X3_makePoint_V371 : GoodIn w_f_X3_callsAndPoints (wsV RX3 371 RX3 yX3_makePoint w_f_X3_makePoint) := goodIn_app (nb_g4 (List.mem_cons_of_mem _ (List.mem_append_left _ (List.mem_append_left _ (List.mem_of_getElem? (i := 17) rfl)))) (List.mem_cons_of_mem _ (List.mem_append_left _ (List.mem_append_left _ (List.mem_of_getElem? (i := 18) rfl)))) (List.mem_cons_of_mem _ (List.mem_append_left _ (List.mem_append_left _ (List.mem_of_getElem? (i := 19) rfl)))) (List.mem_cons_of_mem _ (List.mem_append_left _ (List.mem_append_left _ (List.mem_of_getElem? (i := 4) rfl)))) (by decide +kernel)) gg_f_X3_callsAndPoints_X3_makePoint
theorem gg_f_X3_callsAndPoints_X3_pushAll : GoodIn w_f_X3_callsAndPoints w_f_X3_pushAll := goodIn_sub (fun w h => (List.mem_cons.mp h).elim (fun e => (List.mem_cons_of_mem _ (List.mem_append_left _ (List.mem_append_right _ (List.mem_append_left _ (List.mem_cons.mpr (Or.inl e))))))) (fun h => (List.mem_append.mp h).elim (fun h => (List.mem_cons_of_mem _ (List.mem_append_left _ (List.mem_append_right _ (List.mem_append_left _ (List.mem_cons_of_mem _ h)))))) (fun h => List.mem_cons_of_mem _ (List.mem_append_right _ h)))) w_f_X3_pushAll_good
theorem g_f_X3_callsAndPoints_X3_pushAll_V132 : GoodIn w_f_X3_callsAndPoints (wsV RX3 132 RX3 yX3_pushAll w_f_X3_pushAll) := goodIn_app (nb_g4 (List.mem_cons_of_mem _ (List.mem_append_left _ (List.mem_append_left _ (List.mem_of_getElem? (i := 1) rfl)))) (List.mem_cons_of_mem _ (List.mem_append_left _ (List.mem_append_left _ (List.mem_of_getElem? (i := 2) rfl)))) (List.mem_cons_of_mem _ (List.mem_append_left _ (List.mem_append_left _ (List.mem_of_getElem? (i := 3) rfl)))) (List.mem_cons_of_mem _ (List.mem_append_left _ (List.mem_append_left _ (List.mem_of_getElem? (i := 4) rfl)))) (by decide +kernel)) gg_f_X3_callsAndPoints_X3_pushAll
theorem gg_f_X3_callsAndPoints_X3_endProc : GoodIn w_f_X3_callsAndPoints w_y_X3_endProc := goodIn_sub (fun w h => (List.mem_cons.mp h).elim (fun e => (List.mem_cons_of_mem _ (List.mem_append_left _ (List.mem_append_right _ (List.mem_append_right _ (List.mem_append_right _ (List.mem_append_right _ (List.mem_append_right _ (List.mem_append_left _ (List.mem_cons.mpr (Or.inl e))))))))))) (fun h => (List.mem_append.mp h).elim (fun h => (List.mem_cons_of_mem _ (List.mem_append_left _ (List.mem_append_right _ (List.mem_append_right _ (List.mem_append_right _ (List.mem_append_right _ (List.mem_append_right _ (List.mem_append_left _ (List.mem_cons_of_mem _ h)))))))))) (fun h => List.mem_cons_of_mem _ (List.mem_append_right _ h)))) w_y_X3_endProc_good
theorem g_y_X3_callsAndPoints_X3_endProc_V368 : GoodIn w_f_X3_callsAndPoints (wsV RX3 368 RX3 yX3_endProc w_y_X3_endProc) := goodIn_app (nb_g4 (List.mem_cons_of_mem _ (List.mem_append_left _ (List.mem_append_left _ (List.mem_of_getElem? (i := 14) rfl)))) (List.mem_cons_of_mem _ (List.mem_append_left _ (List.mem_append_left _ (List.mem_of_getElem? (i := 15) rfl)))) (List.mem_cons_of_mem _ (List.mem_append_left _ (List.mem_append_left _ (List.mem_of_getElem? (i := 16) rfl)))) (List.mem_cons_of_mem _ (List.mem_append_left _ (List.mem_append_left _ (List.mem_of_getElem? (i := 4) rfl)))) (by decide +kernel)) gg_f_X3_callsAndPoints_X3_endProc
theorem gg_f_X3_callsAndPoints_X3_fail : GoodIn w_f_X3_callsAndPoints w_y_X3_fail := goodIn_sub (fun w h => (List.mem_cons.mp h).elim (fun e => (List.mem_cons_of_mem _ (List.mem_append_left _ (List.mem_append_right _ (List.mem_append_right _ (List.mem_append_right _ (List.mem_append_right _ (List.mem_append_right _ (List.mem_append_right _ (List.mem_append_right _ (List.mem_append_right _ (List.mem_append_right _ (List.mem_append_left _ (List.mem_cons.mpr (Or.inl e))))))))))))))) (fun h => (List.mem_append.mp h).elim (fun h => (List.mem_cons_of_mem _ (List.mem_append_left _ (List.mem_append_right _ (List.mem_append_right _ (List.mem_append_right _ (List.mem_append_right _ (List.mem_append_right _ (List.mem_append_right _ (List.mem_append_right _ (List.mem_append_right _ (List.mem_append_right _ (List.mem_append_left _ (List.mem_cons_of_mem _ h)))))))))))))) (fun h => List.mem_cons_of_mem _ (List.mem_append_right _ h)))) w_y_X3_fail_good
theorem g_y_X3_callsAndPoints_X3_fail_V313 : GoodIn w_f_X3_callsAndPoints (wsV RX3 313 RX3 yX3_fail w_y_X3_fail) := goodIn_app (nb_g4 (List.mem_cons_of_mem _ (List.mem_append_left _ (List.mem_append_left _ (List.mem_of_getElem? (i := 27) rfl)))) (List.mem_cons_of_mem _ (List.mem_append_left _ (List.mem_append_left _ (List.mem_of_getElem? (i := 28) rfl)))) (List.mem_cons_of_mem _ (List.mem_append_left _ (List.mem_append_left _ (List.mem_of_getElem? (i := 29) rfl)))) (List.mem_cons_of_mem _ (List.mem_append_left _ (List.mem_append_left _ (List.mem_of_getElem? (i := 4) rfl)))) (by decide +kernel)) gg_f_X3_callsAndPoints_X3_fail
theorem gg_f_X3_callsAndPoints_X3_pop : GoodIn w_f_X3_callsAndPoints w_y_X3_pop := goodIn_sub (fun w h => (List.mem_cons.mp h).elim (fun e => (List.mem_cons_of_mem _ (List.mem_append_left _ (List.mem_append_right _ (List.mem_append_right _ (List.mem_append_right _ (List.mem_append_right _ (List.mem_append_right _ (List.mem_append_right _ (List.mem_append_right _ (List.mem_append_left _ (List.mem_cons.mpr (Or.inl e))))))))))))) (fun h => (List.mem_append.mp h).elim (fun h => (List.mem_cons_of_mem _ (List.mem_append_left _ (List.mem_append_right _ (List.mem_append_right _ (List.mem_append_right _ (List.mem_append_right _ (List.mem_append_right _ (List.mem_append_right _ (List.mem_append_right _ (List.mem_append_left _ (List.mem_cons_of_mem _ h)))))))))))) (fun h => List.mem_cons_of_mem _ (List.mem_append_right _ h)))) w_y_X3_pop_good
theorem g_y_X3_callsAndPoints_X3_pop_V339 : GoodIn w_f_X3_callsAndPoints (wsV RX3 339 RX3 yX3_pop w_y_X3_pop) := goodIn_app (nb_g4 (List.mem_cons_of_mem _ (List.mem_append_left _ (List.mem_append_left _ (List.mem_of_getElem? (i := 20) rfl)))) (List.mem_cons_of_mem _ (List.mem_append_left _ (List.mem_append_left _ (List.mem_of_getElem? (i := 21) rfl)))) (List.mem_cons_of_mem _ (List.mem_append_left _ (List.mem_append_left _ (List.mem_of_getElem? (i := 22) rfl)))) (List.mem_cons_of_mem _ (List.mem_append_left _ (List.mem_append_left _ (List.mem_of_getElem? (i := 4) rfl)))) (by decide +kernel)) gg_f_X3_callsAndPoints_X3_pop
theorem gg_f_X3_callsAndPoints_X3_wantTruth : GoodIn w_f_X3_callsAndPoints w_y_X3_wantTruth := goodIn_sub (fun w h => (List.mem_cons.mp h).elim (fun e => (List.mem_cons_of_mem _ (List.mem_append_left _ (List.mem_append_right _ (List.mem_append_right _ (List.mem_append_right _ (List.mem_append_right _ (List.mem_append_right _ (List.mem_append_right _ (List.mem_append_right _ (List.mem_append_right _ (List.mem_append_left _ (List.mem_cons.mpr (Or.inl e)))))))))))))) (fun h => (List.mem_append.mp h).elim (fun h => (List.mem_cons_of_mem _ (List.mem_append_left _ (List.mem_append_right _ (List.mem_append_right _ (List.mem_append_right _ (List.mem_append_right _ (List.mem_append_right _ (List.mem_append_right _ (List.mem_append_right _ (List.mem_append_right _ (List.mem_append_left _ (List.mem_cons_of_mem _ h))))))))))))) (fun h => List.mem_cons_of_mem _ (List.mem_append_right _ h)))) w_y_X3_wantTruth_good
theorem g_y_X3_callsAndPoints_X3_wantTruth_V342 : GoodIn w_f_X3_callsAndPoints (wsV RX3 342 RX3 yX3_wantTruth w_y_X3_wantTruth) := goodIn_app (nb_g4 (List.mem_cons_of_mem _ (List.mem_append_left _ (List.mem_append_left _ (List.mem_of_getElem? (i := 23) rfl)))) (List.mem_cons_of_mem _ (List.mem_append_left _ (List.mem_append_left _ (List.mem_of_getElem? (i := 24) rfl)))) (List.mem_cons_of_mem _ (List.mem_append_left _ (List.mem_append_left _ (List.mem_of_getElem? (i := 25) rfl)))) (List.mem_cons_of_mem _ (List.mem_append_left _ (List.mem_append_left _ (List.mem_of_getElem? (i := 4) rfl)))) (by decide +kernel)) gg_f_X3_callsAndPoints_X3_wantTruth
set_option maxHeartbeats 40000000 in
set_option maxRecDepth 100000 in
theorem c_f_X3_callsAndPoints (l : Launch) (hl0 : l.stackTraces = false) (dC : Nat → ClassId) (dI : Nat → Nat → Nat) (cy : Nat → ClassId) (ek a : Nat → Nat) (k0 : Nat) (L0 : LV) (σ0 : CS) (r0 : RS) (h0 : f_X3_callsAndPoints k0 0 L0 σ0 = some r0) (z : Nat → Nat) (sz : Nat) : vx_Met l yX3_callsAndPoints w_f_X3_callsAndPoints ({ frames := 7, cells := r0.2.2.1, slots := r0.2.2.2, locals := 207 }) (va_Pc [.ref (a 18), .int (L0.1 1), .int (L0.1 2)] (nInF (dC, dI) cy ek sz (vC cy a z σ0))) (xV dC dI cy a (va_A (vC cy a z σ0) sz) [20, 21] z r0) (xX dC dI cy a (va_A (vC cy a z σ0) sz) [20, 21] z r0) r0.2.2.1 r0.2.2.2 (va_A (vC cy a z σ0) sz) := by
  refine vx_ofW (cc := cX3_callsAndPoints) (maxL := 4) (ret := none) (by decide) rfl ?_
  intro p e s m args below meth c s₁ B hml hno hv
  obtain ⟨rfl, ⟨⟨hsz, hP, hK, hD0, hG⟩, hE⟩, hT⟩ := hv
  have hx := B.exec
  have hb := B.bytes
  have hr := B.returns
  have hts := atoms_spec (ws := w_f_X3_callsAndPoints) B.pre
  have hown : s.vm.findClass RX3 = some m.cls := findClass_of_methodNamed B.named
  have hlocks := B.notSynchronized
  subst hsz
  have hD := hD0.self (sz := s.heap.size)
  generalize hAe : va_A (vC cy a z σ0) s.heap.size = A at hD hE hT ⊢
  have hA : ∀ q : Nat, s.heap.size ≤ q → A q := fun q h => by rw [← hAe]; exact Or.inr h
  have hS : va_S A s.heap s.heap [] := va_S.rf
  have hl := lv_entry ([.ref (a 18), .int (L0.1 1), .int (L0.1 2)]) (n := 4) (Nat.le_of_ble_eq_true rfl)
  rw [lg_entry_eq]
  generalize (lg_sl ([.ref (a 18), .int (L0.1 1), .int (L0.1 2)]) ++ List.replicate (4 - (lg_sl ([.ref (a 18), .int (L0.1 1), .int (L0.1 2)])).length) Slot.unset).toArray = ls at hl ⊢
  have hl : lv_has ls 4 [(0, .ref (a 18)), (1, .int (L0.1 1)), (2, .int (L0.1 2))] := hl
  generalize hmc : r0.2.2.1 = mc
  generalize hms : r0.2.2.2 = ms
  have blk : ∀ k : Nat, (bX p l e (headSpec w_f_X3_callsAndPoints ({ frames := 7, cells := mc, slots := ms, locals := 207 })).room s m #[.ref (a 18), .int (L0.1 1), .int (L0.1 2)] below meth c dC dI cy a A (fun r => vx_MQ below (xV dC dI cy a A [20, 21] z r) (xX dC dI cy a A [20, 21] z r) #[.ref (a 18), .int (L0.1 1), .int (L0.1 2)] s mc ms A) [20, 21] z mc ms 4 (f_X3_callsAndPoints k 0) (fun z L => [(0, .ref (a 18)), (1, .int (L.1 1)), (2, .int (L.1 2))]) 0 (fun z L => [])) ∧ (bX p l e (headSpec w_f_X3_callsAndPoints ({ frames := 7, cells := mc, slots := ms, locals := 207 })).room s m #[.ref (a 18), .int (L0.1 1), .int (L0.1 2)] below meth c dC dI cy a A (fun r => vx_MQ below (xV dC dI cy a A [20, 21] z r) (xX dC dI cy a A [20, 21] z r) #[.ref (a 18), .int (L0.1 1), .int (L0.1 2)] s mc ms A) [20, 21] z mc ms 4 (f_X3_callsAndPoints k 1) (fun z L => [(0, .ref (a 18))]) 52 (fun z L => [])) ∧ (bX p l e (headSpec w_f_X3_callsAndPoints ({ frames := 7, cells := mc, slots := ms, locals := 207 })).room s m #[.ref (a 18), .int (L0.1 1), .int (L0.1 2)] below meth c dC dI cy a A (fun r => vx_MQ below (xV dC dI cy a A [20, 21] z r) (xX dC dI cy a A [20, 21] z r) #[.ref (a 18), .int (L0.1 1), .int (L0.1 2)] s mc ms A) [20, 21] z mc ms 4 (f_X3_callsAndPoints k 2) (fun z L => [(0, .ref (a 18)), (2, .int (L.1 2))]) 62 (fun z L => [])) ∧ (bX p l e (headSpec w_f_X3_callsAndPoints ({ frames := 7, cells := mc, slots := ms, locals := 207 })).room s m #[.ref (a 18), .int (L0.1 1), .int (L0.1 2)] below meth c dC dI cy a A (fun r => vx_MQ below (xV dC dI cy a A [20, 21] z r) (xX dC dI cy a A [20, 21] z r) #[.ref (a 18), .int (L0.1 1), .int (L0.1 2)] s mc ms A) [20, 21] z mc ms 4 (f_X3_callsAndPoints k 3) (fun z L => [(0, .ref (a 18))]) 70 (fun z L => [])) ∧ (bX p l e (headSpec w_f_X3_callsAndPoints ({ frames := 7, cells := mc, slots := ms, locals := 207 })).room s m #[.ref (a 18), .int (L0.1 1), .int (L0.1 2)] below meth c dC dI cy a A (fun r => vx_MQ below (xV dC dI cy a A [20, 21] z r) (xX dC dI cy a A [20, 21] z r) #[.ref (a 18), .int (L0.1 1), .int (L0.1 2)] s mc ms A) [20, 21] z mc ms 4 (f_X3_callsAndPoints k 4) (fun z L => [(0, .ref (a 18)), (2, .int (L.1 2))]) 77 (fun z L => [])) ∧ (bX p l e (headSpec w_f_X3_callsAndPoints ({ frames := 7, cells := mc, slots := ms, locals := 207 })).room s m #[.ref (a 18), .int (L0.1 1), .int (L0.1 2)] below meth c dC dI cy a A (fun r => vx_MQ below (xV dC dI cy a A [20, 21] z r) (xX dC dI cy a A [20, 21] z r) #[.ref (a 18), .int (L0.1 1), .int (L0.1 2)] s mc ms A) [20, 21] z mc ms 4 (f_X3_callsAndPoints k 5) (fun z L => [(0, .ref (a 18))]) 85 (fun z L => [])) ∧ (bX p l e (headSpec w_f_X3_callsAndPoints ({ frames := 7, cells := mc, slots := ms, locals := 207 })).room s m #[.ref (a 18), .int (L0.1 1), .int (L0.1 2)] below meth c dC dI cy a A (fun r => vx_MQ below (xV dC dI cy a A [20, 21] z r) (xX dC dI cy a A [20, 21] z r) #[.ref (a 18), .int (L0.1 1), .int (L0.1 2)] s mc ms A) [20, 21] z mc ms 4 (f_X3_callsAndPoints k 6) (fun z L => [(0, .ref (a 18))]) 92 (fun z L => [])) ∧ (bX p l e (headSpec w_f_X3_callsAndPoints ({ frames := 7, cells := mc, slots := ms, locals := 207 })).room s m #[.ref (a 18), .int (L0.1 1), .int (L0.1 2)] below meth c dC dI cy a A (fun r => vx_MQ below (xV dC dI cy a A [20, 21] z r) (xX dC dI cy a A [20, 21] z r) #[.ref (a 18), .int (L0.1 1), .int (L0.1 2)] s mc ms A) [20, 21] z mc ms 4 (f_X3_callsAndPoints k 7) (fun z L => [(0, .ref (a 18)), (1, .int (L.1 1))]) 128 (fun z L => [])) ∧ (bX p l e (headSpec w_f_X3_callsAndPoints ({ frames := 7, cells := mc, slots := ms, locals := 207 })).room s m #[.ref (a 18), .int (L0.1 1), .int (L0.1 2)] below meth c dC dI cy a A (fun r => vx_MQ below (xV dC dI cy a A [20, 21] z r) (xX dC dI cy a A [20, 21] z r) #[.ref (a 18), .int (L0.1 1), .int (L0.1 2)] s mc ms A) [20, 21] z mc ms 4 (f_X3_callsAndPoints k 8) (fun z L => [(0, .ref (a 18))]) 99 (fun z L => [])) ∧ (bX p l e (headSpec w_f_X3_callsAndPoints ({ frames := 7, cells := mc, slots := ms, locals := 207 })).room s m #[.ref (a 18), .int (L0.1 1), .int (L0.1 2)] below meth c dC dI cy a A (fun r => vx_MQ below (xV dC dI cy a A [20, 21] z r) (xX dC dI cy a A [20, 21] z r) #[.ref (a 18), .int (L0.1 1), .int (L0.1 2)] s mc ms A) [20, 21] z mc ms 4 (f_X3_callsAndPoints k 9) (fun z L => []) 143 (fun z L => [])) ∧ (bX p l e (headSpec w_f_X3_callsAndPoints ({ frames := 7, cells := mc, slots := ms, locals := 207 })).room s m #[.ref (a 18), .int (L0.1 1), .int (L0.1 2)] below meth c dC dI cy a A (fun r => vx_MQ below (xV dC dI cy a A [20, 21] z r) (xX dC dI cy a A [20, 21] z r) #[.ref (a 18), .int (L0.1 1), .int (L0.1 2)] s mc ms A) [20, 21] z mc ms 4 (f_X3_callsAndPoints k 10) (fun z L => []) 139 (fun z L => [.ref (a 18)])) ∧ (bX p l e (headSpec w_f_X3_callsAndPoints ({ frames := 7, cells := mc, slots := ms, locals := 207 })).room s m #[.ref (a 18), .int (L0.1 1), .int (L0.1 2)] below meth c dC dI cy a A (fun r => vx_MQ below (xV dC dI cy a A [20, 21] z r) (xX dC dI cy a A [20, 21] z r) #[.ref (a 18), .int (L0.1 1), .int (L0.1 2)] s mc ms A) [20, 21] z mc ms 4 (f_X3_callsAndPoints k 11) (fun z L => []) 140 (fun z L => [.int (L.1 100), .ref (a 18)])) := by
    intro k
    induction k with
    | zero => exact ⟨fun z c1 c2 L σ r h => (by cases h), fun z c1 c2 L σ r h => (by cases h), fun z c1 c2 L σ r h => (by cases h), fun z c1 c2 L σ r h => (by cases h), fun z c1 c2 L σ r h => (by cases h), fun z c1 c2 L σ r h => (by cases h), fun z c1 c2 L σ r h => (by cases h), fun z c1 c2 L σ r h => (by cases h), fun z c1 c2 L σ r h => (by cases h), fun z c1 c2 L σ r h => (by cases h), fun z c1 c2 L σ r h => (by cases h), fun z c1 c2 L σ r h => (by cases h)⟩
    | succ k ih =>
      refine ⟨?_, ?_, ?_, ?_, ?_, ?_, ?_, ?_, ?_, ?_, ?_, ?_⟩
      · intro z cells slots L σ r h hzk hc hs H locs ls hP hD hS hl
        rw [f_X3_callsAndPoints] at h
        refine lv_iload_n hx hb dX3_callsAndPoints_0 rfl (lv_at hl 1 rfl) ?_
        by_cases q1 : ((L.1 1)) = (16 : Int32)
        · rw [if_pos q1] at h
          refine lv_tableIn (off := 51) (tgt := 52) hx hb dX3_callsAndPoints_1 (by rw [q1]; decide) (by rw [q1]; decide) (by rw [q1]; decide) (by decide) ?_
          exact ih.2.1 z _ _ L σ _ h hzk hc hs H locs ls hP hD hS (lv_sub hl [0] rfl)
        · rw [if_neg q1] at h
          by_cases q2 : ((L.1 1)) = (17 : Int32)
          · rw [if_pos q2] at h
            refine lv_tableIn (off := 61) (tgt := 62) hx hb dX3_callsAndPoints_1 (by rw [q2]; decide) (by rw [q2]; decide) (by rw [q2]; decide) (by decide) ?_
            exact ih.2.2.1 z _ _ L σ _ h hzk hc hs H locs ls hP hD hS (lv_sub hl [0, 2] rfl)
          · rw [if_neg q2] at h
            by_cases q3 : ((L.1 1)) = (18 : Int32)
            · rw [if_pos q3] at h
              refine lv_tableIn (off := 69) (tgt := 70) hx hb dX3_callsAndPoints_1 (by rw [q3]; decide) (by rw [q3]; decide) (by rw [q3]; decide) (by decide) ?_
              exact ih.2.2.2.1 z _ _ L σ _ h hzk hc hs H locs ls hP hD hS (lv_sub hl [0] rfl)
            · rw [if_neg q3] at h
              by_cases q4 : ((L.1 1)) = (19 : Int32)
              · rw [if_pos q4] at h
                refine lv_tableIn (off := 76) (tgt := 77) hx hb dX3_callsAndPoints_1 (by rw [q4]; decide) (by rw [q4]; decide) (by rw [q4]; decide) (by decide) ?_
                exact ih.2.2.2.2.1 z _ _ L σ _ h hzk hc hs H locs ls hP hD hS (lv_sub hl [0, 2] rfl)
              · rw [if_neg q4] at h
                by_cases q5 : ((L.1 1)) = (20 : Int32)
                · rw [if_pos q5] at h
                  refine lv_tableIn (off := 84) (tgt := 85) hx hb dX3_callsAndPoints_1 (by rw [q5]; decide) (by rw [q5]; decide) (by rw [q5]; decide) (by decide) ?_
                  exact ih.2.2.2.2.2.1 z _ _ L σ _ h hzk hc hs H locs ls hP hD hS (lv_sub hl [0] rfl)
                · rw [if_neg q5] at h
                  by_cases q6 : ((L.1 1)) = (21 : Int32)
                  · rw [if_pos q6] at h
                    refine lv_tableIn (off := 91) (tgt := 92) hx hb dX3_callsAndPoints_1 (by rw [q6]; decide) (by rw [q6]; decide) (by rw [q6]; decide) (by decide) ?_
                    exact ih.2.2.2.2.2.2.1 z _ _ L σ _ h hzk hc hs H locs ls hP hD hS (lv_sub hl [0] rfl)
                  · rw [if_neg q6] at h
                    by_cases q7 : ((L.1 1)) = (22 : Int32)
                    · rw [if_pos q7] at h
                      refine lv_tableIn (off := 127) (tgt := 128) hx hb dX3_callsAndPoints_1 (by rw [q7]; decide) (by rw [q7]; decide) (by rw [q7]; decide) (by decide) ?_
                      exact ih.2.2.2.2.2.2.2.1 z _ _ L σ _ h hzk hc hs H locs ls hP hD hS (lv_sub hl [0, 1] rfl)
                    · rw [if_neg q7] at h
                      by_cases q8 : ((L.1 1)) = (23 : Int32)
                      · rw [if_pos q8] at h
                        refine lv_tableIn (off := 127) (tgt := 128) hx hb dX3_callsAndPoints_1 (by rw [q8]; decide) (by rw [q8]; decide) (by rw [q8]; decide) (by decide) ?_
                        exact ih.2.2.2.2.2.2.2.1 z _ _ L σ _ h hzk hc hs H locs ls hP hD hS (lv_sub hl [0, 1] rfl)
                      · rw [if_neg q8] at h
                        by_cases q9 : ((L.1 1)) = (24 : Int32)
                        · rw [if_pos q9] at h
                          refine lv_tableIn (off := 98) (tgt := 99) hx hb dX3_callsAndPoints_1 (by rw [q9]; decide) (by rw [q9]; decide) (by rw [q9]; decide) (by decide) ?_
                          exact ih.2.2.2.2.2.2.2.2.1 z _ _ L σ _ h hzk hc hs H locs ls hP hD hS (lv_sub hl [0] rfl)
                        · rw [if_neg q9] at h
                          have nq1 : ¬ ((L.1 1)).toInt = 16 := nb_ti q1 rfl
                          have nq2 : ¬ ((L.1 1)).toInt = 17 := nb_ti q2 rfl
                          have nq3 : ¬ ((L.1 1)).toInt = 18 := nb_ti q3 rfl
                          have nq4 : ¬ ((L.1 1)).toInt = 19 := nb_ti q4 rfl
                          have nq5 : ¬ ((L.1 1)).toInt = 20 := nb_ti q5 rfl
                          have nq6 : ¬ ((L.1 1)).toInt = 21 := nb_ti q6 rfl
                          have nq7 : ¬ ((L.1 1)).toInt = 22 := nb_ti q7 rfl
                          have nq8 : ¬ ((L.1 1)).toInt = 23 := nb_ti q8 rfl
                          have nq9 : ¬ ((L.1 1)).toInt = 24 := nb_ti q9 rfl
                          refine lv_tableOut (tgt := 128) hx hb dX3_callsAndPoints_1 (by omega) (by decide) ?_
                          exact ih.2.2.2.2.2.2.2.1 z _ _ L σ _ h hzk hc hs H locs ls hP hD hS (lv_sub hl [0, 1] rfl)
      · intro z cells slots L σ r h hzk hc hs H locs ls hP hD hS hl
        rw [f_X3_callsAndPoints] at h
        refine lv_aload_n hx hb dX3_callsAndPoints_52 rfl (lv_at hl 0 rfl) ?_
        refine lv_ldc (v := (-268435456)) hx hb hown (hts _ (List.mem_cons_of_mem _ (List.mem_append_left _ (List.mem_append_left _ (List.mem_of_getElem? (i := 0) rfl))))) dX3_callsAndPoints_53 ?_
        refine lv_iconst (v := 4) hx hb dX3_callsAndPoints_55 (by decide) ?_
        obtain ⟨r1, hc1, hle1, h9⟩ := ox_ex h
        clear h
        refine kx_v (vx_runV (As := [.int (-268435456), .int 4]) (rest := []) ⟨hx, hb, hml, hown, hts⟩ (c_f_X3_pushAll l hl0 dC dI cy ek a k (lI (lI lZ 1 ((-268435456))) 2 4) σ r1 hc1 z H.size) (cwV 2 hts g_f_X3_callsAndPoints_X3_pushAll_V132 rfl rfl rfl hd_f_X3_pushAll ⟨Nat.le_of_ble_eq_true rfl, Nat.le_of_ble_eq_true rfl⟩) ⟨nb_blindF, va_recv hK hP (ci := 3) (q0 := 18) rfl rfl, (kx_pre hK hG hE hT hA hP hD hS)⟩ rfl rfl hl.1 rfl (lv_room (Nat.le_of_ble_eq_true rfl)) dX3_callsAndPoints_56 ⟨Nat.le_trans (Nat.add_le_add_left hle1.1 _) (Nat.le_of_eq hc), Nat.le_trans (Nat.add_le_add_left hle1.2 _) (Nat.le_of_eq hs)⟩) hK hA hzk hP hD hS (by decide) hno hlocks ?_
        rcases h9 with ⟨h00, y1, hny1, hy⟩ | ⟨h00, hy⟩
        · subst hy
          have h := hny1
          refine Or.inl ⟨h00, fun z H locs hz1 hzk hP hD hS => ?_⟩
          replace hc := (Nat.add_assoc _ _ _).trans hc
          replace hs := (Nat.add_assoc _ _ _).trans hs
          refine lv_goto (tgt := 143) hx hb dX3_callsAndPoints_59 (by decide) ?_
          exact ih.2.2.2.2.2.2.2.2.2.1 z _ _ L r1.2.1 _ h hzk hc hs H locs ls hP hD hS (lv_sub hl [] rfl)
        · subst hy
          exact Or.inr ⟨h00, rfl, hc, hs⟩
      · intro z cells slots L σ r h hzk hc hs H locs ls hP hD hS hl
        rw [f_X3_callsAndPoints] at h
        refine lv_aload_n hx hb dX3_callsAndPoints_62 rfl (lv_at hl 0 rfl) ?_
        refine lv_iload_n hx hb dX3_callsAndPoints_63 rfl (lv_at hl 1 rfl) ?_
        obtain ⟨r1, hc1, hle1, h9⟩ := ox_ex h
        clear h
        refine kx_v (vx_runV (As := [.int (L.1 2)]) (rest := []) ⟨hx, hb, hml, hown, hts⟩ (c_f_X3_callFunc l hl0 dC dI cy ek a k (lI lZ 1 ((L.1 2))) σ r1 hc1 z H.size) (cwV 1 hts g_f_X3_callsAndPoints_X3_callFunc_V359 rfl rfl rfl hd_f_X3_callFunc ⟨Nat.le_of_ble_eq_true rfl, Nat.le_of_ble_eq_true rfl⟩) ⟨nb_blindF, va_recv hK hP (ci := 3) (q0 := 18) rfl rfl, (kx_pre hK hG hE hT hA hP hD hS)⟩ rfl rfl hl.1 rfl (lv_room (Nat.le_of_ble_eq_true rfl)) dX3_callsAndPoints_64 ⟨Nat.le_trans (Nat.add_le_add_left hle1.1 _) (Nat.le_of_eq hc), Nat.le_trans (Nat.add_le_add_left hle1.2 _) (Nat.le_of_eq hs)⟩) hK hA hzk hP hD hS (by decide) hno hlocks ?_
        rcases h9 with ⟨h00, y1, hny1, hy⟩ | ⟨h00, hy⟩
        · subst hy
          have h := hny1
          refine Or.inl ⟨h00, fun z H locs hz1 hzk hP hD hS => ?_⟩
          replace hc := (Nat.add_assoc _ _ _).trans hc
          replace hs := (Nat.add_assoc _ _ _).trans hs
          refine lv_goto (tgt := 143) hx hb dX3_callsAndPoints_67 (by decide) ?_
          exact ih.2.2.2.2.2.2.2.2.2.1 z _ _ L r1.2.1 _ h hzk hc hs H locs ls hP hD hS (lv_sub hl [] rfl)
        · subst hy
          exact Or.inr ⟨h00, rfl, hc, hs⟩
      · intro z cells slots L σ r h hzk hc hs H locs ls hP hD hS hl
        rw [f_X3_callsAndPoints] at h
        refine lv_aload_n hx hb dX3_callsAndPoints_70 rfl (lv_at hl 0 rfl) ?_
        obtain ⟨r1, hc1, hle1, h9⟩ := ox_ex h
        clear h
        refine kx_v (vx_runV (As := []) (rest := []) ⟨hx, hb, hml, hown, hts⟩ (c_f_X3_endFunc l hl0 dC dI cy ek a k lZ σ r1 hc1 z H.size) (cwV 0 hts g_f_X3_callsAndPoints_X3_endFunc_V362 rfl rfl rfl hd_f_X3_endFunc ⟨Nat.le_of_ble_eq_true rfl, Nat.le_of_ble_eq_true rfl⟩) ⟨nb_blindF, va_recv hK hP (ci := 3) (q0 := 18) rfl rfl, (kx_pre hK hG hE hT hA hP hD hS)⟩ rfl rfl hl.1 rfl (lv_room (Nat.le_of_ble_eq_true rfl)) dX3_callsAndPoints_71 ⟨Nat.le_trans (Nat.add_le_add_left hle1.1 _) (Nat.le_of_eq hc), Nat.le_trans (Nat.add_le_add_left hle1.2 _) (Nat.le_of_eq hs)⟩) hK hA hzk hP hD hS (by decide) hno hlocks ?_
        rcases h9 with ⟨h00, y1, hny1, hy⟩ | ⟨h00, hy⟩
        · subst hy
          have h := hny1
          refine Or.inl ⟨h00, fun z H locs hz1 hzk hP hD hS => ?_⟩
          replace hc := (Nat.add_assoc _ _ _).trans hc
          replace hs := (Nat.add_assoc _ _ _).trans hs
          refine lv_goto (tgt := 143) hx hb dX3_callsAndPoints_74 (by decide) ?_
          exact ih.2.2.2.2.2.2.2.2.2.1 z _ _ L r1.2.1 _ h hzk hc hs H locs ls hP hD hS (lv_sub hl [] rfl)
        · subst hy
          exact Or.inr ⟨h00, rfl, hc, hs⟩
      · intro z cells slots L σ r h hzk hc hs H locs ls hP hD hS hl
        rw [f_X3_callsAndPoints] at h
        refine lv_aload_n hx hb dX3_callsAndPoints_77 rfl (lv_at hl 0 rfl) ?_
        refine lv_iload_n hx hb dX3_callsAndPoints_78 rfl (lv_at hl 1 rfl) ?_
        obtain ⟨r1, hc1, hle1, h9⟩ := ox_ex h
        clear h
        refine kx_v (vx_runV (As := [.int (L.1 2)]) (rest := []) ⟨hx, hb, hml, hown, hts⟩ (c_f_X3_callProc l hl0 dC dI cy ek a k (lI lZ 1 ((L.1 2))) σ r1 hc1 z H.size) (cwV 1 hts g_f_X3_callsAndPoints_X3_callProc_V365 rfl rfl rfl hd_f_X3_callProc ⟨Nat.le_of_ble_eq_true rfl, Nat.le_of_ble_eq_true rfl⟩) ⟨nb_blindF, va_recv hK hP (ci := 3) (q0 := 18) rfl rfl, (kx_pre hK hG hE hT hA hP hD hS)⟩ rfl rfl hl.1 rfl (lv_room (Nat.le_of_ble_eq_true rfl)) dX3_callsAndPoints_79 ⟨Nat.le_trans (Nat.add_le_add_left hle1.1 _) (Nat.le_of_eq hc), Nat.le_trans (Nat.add_le_add_left hle1.2 _) (Nat.le_of_eq hs)⟩) hK hA hzk hP hD hS (by decide) hno hlocks ?_
        rcases h9 with ⟨h00, y1, hny1, hy⟩ | ⟨h00, hy⟩
        · subst hy
          have h := hny1
          refine Or.inl ⟨h00, fun z H locs hz1 hzk hP hD hS => ?_⟩
          replace hc := (Nat.add_assoc _ _ _).trans hc
          replace hs := (Nat.add_assoc _ _ _).trans hs
          refine lv_goto (tgt := 143) hx hb dX3_callsAndPoints_82 (by decide) ?_
          exact ih.2.2.2.2.2.2.2.2.2.1 z _ _ L r1.2.1 _ h hzk hc hs H locs ls hP hD hS (lv_sub hl [] rfl)
        · subst hy
          exact Or.inr ⟨h00, rfl, hc, hs⟩
      · intro z cells slots L σ r h hzk hc hs H locs ls hP hD hS hl
        rw [f_X3_callsAndPoints] at h
        refine lv_aload_n hx hb dX3_callsAndPoints_85 rfl (lv_at hl 0 rfl) ?_
        obtain ⟨r1, hc1, h⟩ := op_ex h
        refine kc_v (va_runV (As := []) (rest := []) ⟨hx, hb, hml, hown, hts⟩ (c_y_X3_endProc l dC dI cy a z k lZ σ r1 hc1 H.size) (cwV 0 hts g_y_X3_callsAndPoints_X3_endProc_V368 rfl rfl rfl hd_y_X3_endProc ⟨Nat.le_of_ble_eq_true rfl, Nat.le_of_ble_eq_true rfl⟩) ⟨nb_blind, va_recv hK hP (ci := 3) (q0 := 18) rfl rfl, (kb_pre hK hG hP hD)⟩ rfl rfl hl.1 rfl (lv_room (Nat.le_of_ble_eq_true rfl)) dX3_callsAndPoints_86 ⟨(Nat.le_trans (Nat.le_add_right _ _) (Nat.le_of_eq hc)), (Nat.le_trans (Nat.le_add_right _ _) (Nat.le_of_eq hs))⟩) hA hP hD hS (fun H locs hP hD hS => ?_)
        refine lv_goto (tgt := 143) hx hb dX3_callsAndPoints_89 (by decide) ?_
        exact ih.2.2.2.2.2.2.2.2.2.1 z _ _ L r1.2 _ h hzk hc hs H locs ls hP hD hS (lv_sub hl [] rfl)
      · intro z cells slots L σ r h hzk hc hs H locs ls hP hD hS hl
        rw [f_X3_callsAndPoints] at h
        refine lv_aload_n hx hb dX3_callsAndPoints_92 rfl (lv_at hl 0 rfl) ?_
        obtain ⟨r1, hc1, hle1, h9⟩ := ox_ex h
        clear h
        refine kx_v (vx_runV (As := []) (rest := []) ⟨hx, hb, hml, hown, hts⟩ (c_f_X3_makePoint l hl0 dC dI cy ek a k lZ σ r1 hc1 z H.size) (cwV 0 hts g_f_X3_callsAndPoints_X3_makePoint_V371 rfl rfl rfl hd_f_X3_makePoint ⟨Nat.le_of_ble_eq_true rfl, Nat.le_of_ble_eq_true rfl⟩) ⟨nb_blindF, va_recv hK hP (ci := 3) (q0 := 18) rfl rfl, (kx_pre hK hG hE hT hA hP hD hS)⟩ rfl rfl hl.1 rfl (lv_room (Nat.le_of_ble_eq_true rfl)) dX3_callsAndPoints_93 ⟨Nat.le_trans (Nat.add_le_add_left hle1.1 _) (Nat.le_of_eq hc), Nat.le_trans (Nat.add_le_add_left hle1.2 _) (Nat.le_of_eq hs)⟩) hK hA hzk hP hD hS (by decide) hno hlocks ?_
        rcases h9 with ⟨h00, y1, hny1, hy⟩ | ⟨h00, hy⟩
        · subst hy
          have h := hny1
          refine Or.inl ⟨h00, fun z H locs hz1 hzk hP hD hS => ?_⟩
          replace hc := (Nat.add_assoc _ _ _).trans hc
          replace hs := (Nat.add_assoc _ _ _).trans hs
          refine lv_goto (tgt := 143) hx hb dX3_callsAndPoints_96 (by decide) ?_
          exact ih.2.2.2.2.2.2.2.2.2.1 z _ _ L r1.2.1 _ h hzk hc hs H locs ls hP hD hS (lv_sub hl [] rfl)
        · subst hy
          exact Or.inr ⟨h00, rfl, hc, hs⟩
      · intro z cells slots L σ r h hzk hc hs H locs ls hP hD hS hl
        rw [f_X3_callsAndPoints] at h
        refine lv_aload_n hx hb dX3_callsAndPoints_128 rfl (lv_at hl 0 rfl) ?_
        refine lv_iload_n hx hb dX3_callsAndPoints_129 rfl (lv_at hl 1 rfl) ?_
        refine lv_bipush (v := 22) hx hb dX3_callsAndPoints_130 (by decide) ?_
        refine lv_icmp_ne (tgt := 139) hx hb dX3_callsAndPoints_132 (by decide) (fun c1 => ?_) (fun c1 => ?_)
        · rw [if_neg c1] at h
          exact ih.2.2.2.2.2.2.2.2.2.2.1 z _ _ L σ _ h hzk hc hs H locs ls hP hD hS (lv_sub hl [] rfl)
        · rw [if_pos c1] at h
          refine lv_iconst (v := 1) hx hb dX3_callsAndPoints_135 (by decide) ?_
          refine lv_goto (tgt := 140) hx hb dX3_callsAndPoints_136 (by decide) ?_
          exact ih.2.2.2.2.2.2.2.2.2.2.2 z _ _ (lI L 100 1) σ _ h hzk hc hs H locs ls hP hD hS (lv_sub hl [] rfl)
      · intro z cells slots L σ r h hzk hc hs H locs ls hP hD hS hl
        rw [f_X3_callsAndPoints] at h
        refine lv_aload_n hx hb dX3_callsAndPoints_99 rfl (lv_at hl 0 rfl) ?_
        obtain ⟨r1, hc1, h⟩ := op_ex h
        refine kc_i (va_runV (As := []) (rest := []) ⟨hx, hb, hml, hown, hts⟩ (c_y_X3_pop l dC dI cy a z k lZ σ r1 hc1 H.size) (cwV 0 hts g_y_X3_callsAndPoints_X3_pop_V339 rfl rfl rfl hd_y_X3_pop ⟨Nat.le_of_ble_eq_true rfl, Nat.le_of_ble_eq_true rfl⟩) ⟨nb_blind, va_recv hK hP (ci := 3) (q0 := 18) rfl rfl, (kb_pre hK hG hP hD)⟩ rfl rfl hl.1 rfl (lv_room (Nat.le_of_ble_eq_true rfl)) dX3_callsAndPoints_100 ⟨(Nat.le_trans (Nat.le_add_right _ _) (Nat.le_of_eq hc)), (Nat.le_trans (Nat.le_add_right _ _) (Nat.le_of_eq hs))⟩) hA hP hD hS (fun H locs hP hD hS => ?_)
        refine lv_istore_n (lv' := [(3, .int r1.1), (0, .ref (a 18))]) hx hb dX3_callsAndPoints_103 rfl hl (by decide) rfl (fun ls hl => ?_)
        refine lv_aload_n hx hb dX3_callsAndPoints_104 rfl (lv_at hl 1 rfl) ?_
        refine lv_iload_n hx hb dX3_callsAndPoints_105 rfl (lv_at hl 0 rfl) ?_
        obtain ⟨r2, hc2, h⟩ := op_ex h
        refine kc_i (va_runV (As := [.int r1.1]) (rest := []) ⟨hx, hb, hml, hown, hts⟩ (c_y_X3_wantTruth l dC dI cy a z k (lI lZ 1 r1.1) r1.2 r2 hc2 H.size) (cwV 1 hts g_y_X3_callsAndPoints_X3_wantTruth_V342 rfl rfl rfl hd_y_X3_wantTruth ⟨Nat.le_of_ble_eq_true rfl, Nat.le_of_ble_eq_true rfl⟩) ⟨nb_blind, va_recv hK hP (ci := 3) (q0 := 18) rfl rfl, (kb_pre hK hG hP hD)⟩ rfl rfl hl.1 rfl (lv_room (Nat.le_of_ble_eq_true rfl)) dX3_callsAndPoints_106 ⟨(Nat.le_trans (Nat.le_add_right _ _) (Nat.le_of_eq hc)), (Nat.le_trans (Nat.le_add_right _ _) (Nat.le_of_eq hs))⟩) hA hP hD hS (fun H locs hP hD hS => ?_)
        refine lv_if_eq (tgt := 143) hx hb dX3_callsAndPoints_109 (by decide) (fun c3 => ?_) (fun c3 => ?_)
        · rw [if_pos c3] at h
          exact ih.2.2.2.2.2.2.2.2.2.1 z _ _ L r2.2 _ h hzk hc hs H locs ls hP hD hS (lv_sub hl [] rfl)
        · rw [if_neg c3] at h
          refine lv_iload_n hx hb dX3_callsAndPoints_112 rfl (lv_at hl 0 rfl) ?_
          refine lv_ldcw (v := (-1879048192)) hx hb hown (hts _ (List.mem_cons_of_mem _ (List.mem_append_left _ (List.mem_append_left _ (List.mem_of_getElem? (i := 26) rfl))))) dX3_callsAndPoints_113 ?_
          refine lv_icmp_ne (tgt := 143) hx hb dX3_callsAndPoints_116 (by decide) (fun c4 => ?_) (fun c4 => ?_)
          · rw [if_neg c4] at h
            exact ih.2.2.2.2.2.2.2.2.2.1 z _ _ L r2.2 _ h hzk hc hs H locs ls hP hD hS (lv_sub hl [] rfl)
          · rw [if_pos c4] at h
            refine lv_aload_n hx hb dX3_callsAndPoints_119 rfl (lv_at hl 1 rfl) ?_
            refine lv_bipush (v := 8) hx hb dX3_callsAndPoints_120 (by decide) ?_
            obtain ⟨r5, hc5, h⟩ := op_ex h
            refine kc_v (va_runV (As := [.int 8]) (rest := []) ⟨hx, hb, hml, hown, hts⟩ (c_y_X3_fail l dC dI cy a z k (lI lZ 1 8) r2.2 r5 hc5 H.size) (cwV 1 hts g_y_X3_callsAndPoints_X3_fail_V313 rfl rfl rfl hd_y_X3_fail ⟨Nat.le_of_ble_eq_true rfl, Nat.le_of_ble_eq_true rfl⟩) ⟨nb_blind, va_recv hK hP (ci := 3) (q0 := 18) rfl rfl, (kb_pre hK hG hP hD)⟩ rfl rfl hl.1 rfl (lv_room (Nat.le_of_ble_eq_true rfl)) dX3_callsAndPoints_122 ⟨(Nat.le_trans (Nat.le_add_right _ _) (Nat.le_of_eq hc)), (Nat.le_trans (Nat.le_add_right _ _) (Nat.le_of_eq hs))⟩) hA hP hD hS (fun H locs hP hD hS => ?_)
            refine lv_goto (tgt := 143) hx hb dX3_callsAndPoints_125 (by decide) ?_
            exact ih.2.2.2.2.2.2.2.2.2.1 z _ _ L r5.2 _ h hzk hc hs H locs ls hP hD hS (lv_sub hl [] rfl)
      · intro z cells slots L σ r h hzk hc hs H locs ls hP hD hS hl
        rw [f_X3_callsAndPoints] at h
        obtain rfl := Option.some.inj h
        subst hc
        subst hs
        exact xr_v hx hb hr hK hzk hP hD hS hlocks dX3_callsAndPoints_143
      · intro z cells slots L σ r h hzk hc hs H locs ls hP hD hS hl
        rw [f_X3_callsAndPoints] at h
        refine lv_iconst (v := 0) hx hb dX3_callsAndPoints_139 (by decide) ?_
        exact ih.2.2.2.2.2.2.2.2.2.2.2 z _ _ (lI L 100 0) σ _ h hzk hc hs H locs ls hP hD hS (lv_sub hl [] rfl)
      · intro z cells slots L σ r h hzk hc hs H locs ls hP hD hS hl
        rw [f_X3_callsAndPoints] at h
        obtain ⟨r1, hc1, hle1, h9⟩ := ox_ex h
        clear h
        refine kx_v (vx_runV (As := [.int (L.1 100)]) (rest := []) ⟨hx, hb, hml, hown, hts⟩ (c_f_X3_leavePoint l hl0 dC dI cy ek a k (lI lZ 1 ((L.1 100))) σ r1 hc1 z H.size) (cwV 1 hts g_f_X3_callsAndPoints_X3_leavePoint_V374 rfl rfl rfl hd_f_X3_leavePoint ⟨Nat.le_of_ble_eq_true rfl, Nat.le_of_ble_eq_true rfl⟩) ⟨nb_blindF, va_recv hK hP (ci := 3) (q0 := 18) rfl rfl, (kx_pre hK hG hE hT hA hP hD hS)⟩ rfl rfl hl.1 rfl (lv_room (Nat.le_of_ble_eq_true rfl)) dX3_callsAndPoints_140 ⟨Nat.le_trans (Nat.add_le_add_left hle1.1 _) (Nat.le_of_eq hc), Nat.le_trans (Nat.add_le_add_left hle1.2 _) (Nat.le_of_eq hs)⟩) hK hA hzk hP hD hS (by decide) hno hlocks ?_
        rcases h9 with ⟨h00, y1, hny1, hy⟩ | ⟨h00, hy⟩
        · subst hy
          have h := hny1
          refine Or.inl ⟨h00, fun z H locs hz1 hzk hP hD hS => ?_⟩
          replace hc := (Nat.add_assoc _ _ _).trans hc
          replace hs := (Nat.add_assoc _ _ _).trans hs
          exact ih.2.2.2.2.2.2.2.2.2.1 z _ _ L r1.2.1 _ h hzk hc hs H locs ls hP hD hS (lv_sub hl [] rfl)
        · subst hy
          exact Or.inr ⟨h00, rfl, hc, hs⟩
  exact (blk k0).1 z 0 0 L0 σ0 r0 h0 (zk_rf _ _) ((Nat.zero_add _).trans hmc) ((Nat.zero_add _).trans hms) s.heap [] ls hP hD hS hl
/-! X1_makeCopy__A0 -/
def y_X1_makeCopy__A0 : Nat → Nat → LV → CS → Option (Int32 × CS)
  | 0, _, _, _ => none
  | k + 1, 0, L, σ => if ((L.1 3)) ≤ ((((Int32.ofNat (sN σ 3))) - ((σ.1 1)))) then (y_X1_makeCopy__A0 k 1 (lI L 4 ((σ.1 1))) σ) else (some ((-268435450), σ))
  | k + 1, 1, L, σ => if ¬ ((L.1 2)) < 0 ∧ ¬ ((L.1 4)) < 0 ∧ ¬ ((L.1 3)) < 0 ∧ ((L.1 2)).toNatClampNeg + ((L.1 3)).toNatClampNeg ≤ (sN (uI σ 1 ((((L.1 4)) + ((L.1 3))))) (pR0 ((L.2.2.1 1)))) ∧ ((L.1 4)).toNatClampNeg + ((L.1 3)).toNatClampNeg ≤ (sN (uI σ 1 ((((L.1 4)) + ((L.1 3))))) 3) then (some ((L.1 4), (uF (uI σ 1 ((((L.1 4)) + ((L.1 3))))) 3 (va_cpy ((uI σ 1 ((((L.1 4)) + ((L.1 3))))).2.2.1 (pR0 ((L.2.2.1 1)))) ((uI σ 1 ((((L.1 4)) + ((L.1 3))))).2.2.1 3) ((L.1 2)).toNatClampNeg ((L.1 4)).toNatClampNeg ((L.1 3)).toNatClampNeg)))) else none
  | _ + 1, _ + 2, _, _ => none
def o_y_X1_makeCopy__A0 : List Cond := [.fieldLink RX1 15 "SetHouse$Heap" "top" "I", .fieldLink RX1 11 "SetHouse$Heap" "mem" "[I", .constant RX1 53 (-268435450), .methodLink RX1 54 arraycopyName, .native arraycopyName, .static arraycopyName, .initialized "java/lang/System"]
theorem o_y_X1_makeCopy__A0_good : o_y_X1_makeCopy__A0.all goodWord = true := by decide +kernel
def p_y_X1_makeCopy__A0 : List Cond := o_y_X1_makeCopy__A0 ++ []
theorem p_y_X1_makeCopy__A0_good : p_y_X1_makeCopy__A0.all goodWord = true := nb_all2 o_y_X1_makeCopy__A0_good rfl
def w_y_X1_makeCopy__A0 : List Cond := .code yX1_makeCopy cX1_makeCopy 5 (some .int) :: (p_y_X1_makeCopy__A0 ++ fC)
theorem w_y_X1_makeCopy__A0_good : w_y_X1_makeCopy__A0.all goodWord = true := nb_allc (by decide +kernel) (nb_all2 p_y_X1_makeCopy__A0_good fC_good)
theorem in_y_X1_makeCopy__A0_X1 : ∀ w ∈ wsX10, w ∈ w_y_X1_makeCopy__A0 := fun _ h => List.mem_cons_of_mem _ (List.mem_append_right _ (List.mem_append_right _ (List.mem_append_left _ h)))
theorem hd_y_X1_makeCopy__A0 : yX1_makeCopy.cls = RX1 ∧ yX1_makeCopy.cls ≠ "java/lang/invoke/MethodHandle" ∧ yX1_makeCopy.cls ≠ "java/lang/invoke/VarHandle" ∧ (parseMethodDescriptor yX1_makeCopy.desc).map (fun d => d.parameters.length) = some 3 := by decide +kernel
set_option maxHeartbeats 40000000 in
set_option maxRecDepth 100000 in
theorem c_y_X1_makeCopy__A0 (l : Launch) (dC : Nat → ClassId) (dI : Nat → Nat → Nat) (cy : Nat → ClassId) (a z : Nat → Nat) (k0 : Nat) (L0 : LV) (σ0 : CS) (r0 : Int32 × CS) (h0 : y_X1_makeCopy__A0 k0 0 L0 σ0 = some r0) (sz : Nat) : Met l yX1_makeCopy w_y_X1_makeCopy__A0 ({ frames := 1, cells := 0, slots := 0, locals := 60 }) (va_Pc [.ref (a 0), .ref (z (pR0 (L0.2.2.1 1))), .int (L0.1 2), .int (L0.1 3)] (nIn (dC, dI) cy sz (vC cy a z σ0))) (va_Qi (fun (x : Int32) (_ : Unit) => x = r0.1) (fun _ t => nOut (dC, dI) cy (va_A (vC cy a z σ0) sz) (vC cy a z r0.2) t) (va_A (vC cy a z σ0) sz)) 0 0 (va_A (vC cy a z σ0) sz) := by
  refine Met.ofW (cc := cX1_makeCopy) (maxL := 5) (ret := (some .int)) (by decide) rfl ?_
  intro p e s m args below meth c s₁ B hml hv
  obtain ⟨rfl, hsz, hP, hK, hD0, hG⟩ := hv
  have hx := B.exec
  have hb := B.bytes
  have hr := B.returns
  have hts := atoms_spec (ws := w_y_X1_makeCopy__A0) B.pre
  have hown : s.vm.findClass RX1 = some m.cls := findClass_of_methodNamed B.named
  have hlocks := B.notSynchronized
  subst hsz
  have hD := hD0.self (sz := s.heap.size)
  generalize hAe : va_A (vC cy a z σ0) s.heap.size = A at hD ⊢
  have hA : ∀ q : Nat, s.heap.size ≤ q → A q := fun q h => by rw [← hAe]; exact Or.inr h
  have hS : va_S A s.heap s.heap [] := va_S.rf
  have hl := lv_entry ([.ref (a 0), .ref (z (pR0 (L0.2.2.1 1))), .int (L0.1 2), .int (L0.1 3)]) (n := 5) (Nat.le_of_ble_eq_true rfl)
  rw [lg_entry_eq]
  generalize (lg_sl ([.ref (a 0), .ref (z (pR0 (L0.2.2.1 1))), .int (L0.1 2), .int (L0.1 3)]) ++ List.replicate (5 - (lg_sl ([.ref (a 0), .ref (z (pR0 (L0.2.2.1 1))), .int (L0.1 2), .int (L0.1 3)])).length) Slot.unset).toArray = ls at hl ⊢
  have hl : lv_has ls 5 [(0, .ref (a 0)), (1, .ref (z (pR0 (L0.2.2.1 1)))), (2, .int (L0.1 2)), (3, .int (L0.1 3))] := hl
  have blk : ∀ k : Nat, (bC p l e (headSpec w_y_X1_makeCopy__A0 ({ frames := 1, cells := 0, slots := 0, locals := 60 })).room s m #[.ref (a 0), .ref (z (pR0 (L0.2.2.1 1))), .int (L0.1 2), .int (L0.1 3)] below meth c dC dI cy a z A (kI dC dI cy a z A below #[.ref (a 0), .ref (z (pR0 (L0.2.2.1 1))), .int (L0.1 2), .int (L0.1 3)] s) 5 (y_X1_makeCopy__A0 k 0) (fun L => [(0, .ref (a 0)), (1, .ref (z (pR0 (L.2.2.1 1)))), (2, .int (L.1 2)), (3, .int (L.1 3))]) 0 (fun L => [])) ∧ (bC p l e (headSpec w_y_X1_makeCopy__A0 ({ frames := 1, cells := 0, slots := 0, locals := 60 })).room s m #[.ref (a 0), .ref (z (pR0 (L0.2.2.1 1))), .int (L0.1 2), .int (L0.1 3)] below meth c dC dI cy a z A (kI dC dI cy a z A below #[.ref (a 0), .ref (z (pR0 (L0.2.2.1 1))), .int (L0.1 2), .int (L0.1 3)] s) 5 (y_X1_makeCopy__A0 k 1) (fun L => [(0, .ref (a 0)), (1, .ref (z (pR0 (L.2.2.1 1)))), (2, .int (L.1 2)), (3, .int (L.1 3)), (4, .int (L.1 4))]) 21 (fun L => [])) := by
    intro k
    induction k with
    | zero => exact ⟨fun L σ r h => (by cases h), fun L σ r h => (by cases h)⟩
    | succ k ih =>
      refine ⟨?_, ?_⟩
      · intro L σ r h H locs ls hP hD hS hl
        rw [y_X1_makeCopy__A0] at h
        refine lv_aload_n hx hb dX1_makeCopy_0 rfl (lv_at hl 0 rfl) ?_
        refine hg_0_1 hx hb hts in_y_X1_makeCopy__A0_X1 hown hK hP (hts _ (List.mem_cons_of_mem _ (List.mem_append_left _ (List.mem_append_left _ (List.mem_of_getElem? (i := 0) rfl))))) dX1_makeCopy_1 ?_
        refine lv_istore (lv' := [(4, .int (σ.1 1)), (0, .ref (a 0)), (1, .ref (z (pR0 (L.2.2.1 1)))), (2, .int (L.1 2)), (3, .int (L.1 3))]) hx hb dX1_makeCopy_4 hl (by decide) rfl (fun ls hl => ?_)
        refine lv_iload_n hx hb dX1_makeCopy_6 rfl (lv_at hl 4 rfl) ?_
        refine lv_aload_n hx hb dX1_makeCopy_7 rfl (lv_at hl 1 rfl) ?_
        refine hg_0_0 hx hb hts in_y_X1_makeCopy__A0_X1 hown hK hP (hts _ (List.mem_cons_of_mem _ (List.mem_append_left _ (List.mem_append_left _ (List.mem_of_getElem? (i := 1) rfl))))) dX1_makeCopy_8 ?_
        refine hn_3 hx hb hK hP dX1_makeCopy_11 ?_
        refine lv_iload hx hb dX1_makeCopy_12 (lv_at hl 0 rfl) ?_
        refine lv_isub hx hb dX1_makeCopy_14 ?_
        refine lv_icmp_le (tgt := 21) hx hb dX1_makeCopy_15 (by decide) (fun c1 => ?_) (fun c1 => ?_)
        · rw [if_pos c1] at h
          exact ih.2 (lI L 4 ((σ.1 1))) σ r h H locs ls hP hD hS (lv_sub hl [1, 2, 3, 4, 0] rfl)
        · rw [if_neg c1] at h
          refine lv_ldc (v := (-268435450)) hx hb hown (hts _ (List.mem_cons_of_mem _ (List.mem_append_left _ (List.mem_append_left _ (List.mem_of_getElem? (i := 2) rfl))))) dX1_makeCopy_18 ?_
          obtain rfl := Option.some.inj h
          exact W.iret (v := (-268435450)) hx hb hr (fun t ht hW => ⟨⟨(-268435450), (), rfl, rfl, by rw [ht]; exact hP, va_K.moved hW.alike hK, hD⟩, hS.F ht⟩) hS.2.2 dX1_makeCopy_20
      · intro L σ r h H locs ls hP hD hS hl
        rw [y_X1_makeCopy__A0] at h
        refine lv_aload_n hx hb dX1_makeCopy_21 rfl (lv_at hl 0 rfl) ?_
        refine lv_iload hx hb dX1_makeCopy_22 (lv_at hl 4 rfl) ?_
        refine lv_iload_n hx hb dX1_makeCopy_24 rfl (lv_at hl 3 rfl) ?_
        refine lv_iadd hx hb dX1_makeCopy_25 ?_
        refine hp_0_1 hx hb hts in_y_X1_makeCopy__A0_X1 hown hK hP hD hS (hts _ (List.mem_cons_of_mem _ (List.mem_append_left _ (List.mem_append_left _ (List.mem_of_getElem? (i := 0) rfl))))) dX1_makeCopy_26 (fun H locs hP hD hS => ?_)
        refine lv_aload_n hx hb dX1_makeCopy_29 rfl (lv_at hl 1 rfl) ?_
        refine lv_iload_n hx hb dX1_makeCopy_30 rfl (lv_at hl 2 rfl) ?_
        refine lv_aload_n hx hb dX1_makeCopy_31 rfl (lv_at hl 0 rfl) ?_
        refine hg_0_0 hx hb hts in_y_X1_makeCopy__A0_X1 hown hK hP (hts _ (List.mem_cons_of_mem _ (List.mem_append_left _ (List.mem_append_left _ (List.mem_of_getElem? (i := 1) rfl))))) dX1_makeCopy_32 ?_
        refine lv_iload hx hb dX1_makeCopy_35 (lv_at hl 4 rfl) ?_
        refine lv_iload_n hx hb dX1_makeCopy_37 rfl (lv_at hl 3 rfl) ?_
        obtain ⟨q1, h⟩ := kb_ite1 h
        refine hcp_P0_3 ((L.2.2.1 1)) hx hb (hml.trans hl.1.symm) hown (hts _ (List.mem_cons_of_mem _ (List.mem_append_left _ (List.mem_append_left _ (List.mem_of_getElem? (i := 3) rfl))))) (hts _ (List.mem_cons_of_mem _ (List.mem_append_left _ (List.mem_append_left _ (List.mem_of_getElem? (i := 4) rfl))))) (hts _ (List.mem_cons_of_mem _ (List.mem_append_left _ (List.mem_append_left _ (List.mem_of_getElem? (i := 5) rfl))))) (hts _ (List.mem_cons_of_mem _ (List.mem_append_left _ (List.mem_append_left _ (List.mem_of_getElem? (i := 6) rfl))))) hK hP hD hS q1 (Nat.le_of_ble_eq_true rfl) (Nat.le_of_ble_eq_true rfl) dX1_makeCopy_38 (fun H locs hP hD hS => ?_)
        refine lv_iload hx hb dX1_makeCopy_41 (lv_at hl 4 rfl) ?_
        obtain rfl := Option.some.inj h
        exact W.iret (v := (L.1 4)) hx hb hr (fun t ht hW => ⟨⟨(L.1 4), (), rfl, rfl, by rw [ht]; exact hP, va_K.moved hW.alike hK, hD⟩, hS.F ht⟩) hS.2.2 dX1_makeCopy_43
  exact (blk k0).1 L0 σ0 r0 h0 s.heap [] ls hP hD hS hl
/-! X3_data -/
def f_X3_data : Nat → Nat → LV → CS → Option RS
  | 0, _, _, _ => none
  | k + 1, 0, L, σ => if ((L.1 1)) = (32 : Int32) then (f_X3_data k 1 L σ) else (if ((L.1 1)) = (33 : Int32) then (f_X3_data k 2 L σ) else (if ((L.1 1)) = (34 : Int32) then (f_X3_data k 3 L σ) else (if ((L.1 1)) = (35 : Int32) then (f_X3_data k 4 L σ) else (if ((L.1 1)) = (36 : Int32) then (f_X3_data k 5 L σ) else (if ((L.1 1)) = (37 : Int32) then (f_X3_data k 6 L σ) else (if ((L.1 1)) = (38 : Int32) then (f_X3_data k 7 L σ) else (if ((L.1 1)) = (39 : Int32) then (f_X3_data k 8 L σ) else (if ((L.1 1)) = (40 : Int32) then (f_X3_data k 9 L σ) else (if ((L.1 1)) = (41 : Int32) then (f_X3_data k 10 L σ) else (if ((L.1 1)) = (42 : Int32) then (f_X3_data k 11 L σ) else (f_X3_data k 9 L σ)))))))))))
  | k + 1, 1, L, σ => oP (sPr σ) (fun b1 => if ¬ (((((L.1 3)) + 1)) < 0 ∨ (sN σ (pR0 ((sKd σ b1)))) ≤ ((((L.1 3)) + 1)).toNatClampNeg) then (ox (f_X3_push k 0 (lI lZ 1 ((σ.2.2.1 (pR0 ((sKd σ b1))) ((((L.1 3)) + 1)).toNatClampNeg))) σ) (fun r3 => f_X3_data k 12 L (uI r3.2.1 1900 ((((L.1 3)) + 2))))) else none)
  | k + 1, 2, L, σ => oP (sPr σ) (fun b1 => if ¬ (((((L.1 3)) + 1)) < 0 ∨ (sN σ (pR0 ((sKd σ b1)))) ≤ ((((L.1 3)) + 1)).toNatClampNeg) then (ox (f_X3_give k 0 (lI lZ 1 ((σ.2.2.1 (pR0 ((sKd σ b1))) ((((L.1 3)) + 1)).toNatClampNeg))) σ) (fun r3 => f_X3_data k 12 L (uI r3.2.1 1900 ((((L.1 3)) + 2))))) else none)
  | k + 1, 3, L, σ => oP (sPr σ) (fun b1 => op (y_X1_makeCopy__A0 k 0 (lI (lI (lB lZ 1 ((sKd σ b1))) 2 ((((L.1 3)) + 1))) 3 ((L.1 2))) σ) (fun r2 => ox (f_X3_give k 0 (lI lZ 1 r2.1) r2.2) (fun r3 => f_X3_data k 12 L (uI r3.2.1 1900 ((((((L.1 3)) + 1)) + ((L.1 2))))))))
  | k + 1, 4, L, σ => if ¬ (((((((σ.1 1901)) + 4)) + ((L.1 2)))) < 0 ∨ (sN σ 20) ≤ ((((((σ.1 1901)) + 4)) + ((L.1 2)))).toNatClampNeg) then (ox (f_X3_push k 0 (lI lZ 1 ((σ.2.2.1 20 ((((((σ.1 1901)) + 4)) + ((L.1 2)))).toNatClampNeg))) σ) (fun r2 => f_X3_data k 12 L r2.2.1)) else none
  | k + 1, 5, L, σ => if ¬ (((4 + ((L.1 2)))) < 0 ∨ (sN σ 20) ≤ ((4 + ((L.1 2)))).toNatClampNeg) then (ox (f_X3_push k 0 (lI lZ 1 ((σ.2.2.1 20 ((4 + ((L.1 2)))).toNatClampNeg))) σ) (fun r2 => f_X3_data k 12 L r2.2.1)) else none
  | k + 1, 6, L, σ => f_X3_data k 12 L (uI σ 1902 ((((σ.1 1902)) - ((L.1 2)))))
  | k + 1, 7, L, σ => if ¬ (((((((σ.1 1902)) - 1)) - ((L.1 2)))) < 0 ∨ (sN σ 20) ≤ ((((((σ.1 1902)) - 1)) - ((L.1 2)))).toNatClampNeg) then (ox (f_X3_push k 0 (lI lZ 1 ((σ.2.2.1 20 ((((((σ.1 1902)) - 1)) - ((L.1 2)))).toNatClampNeg))) σ) (fun r2 => f_X3_data k 12 L r2.2.1)) else none
  | k + 1, 8, L, σ => if ¬ (((((σ.1 1902)) - 1)) < 0 ∨ (sN σ 20) ≤ ((((σ.1 1902)) - 1)).toNatClampNeg) then (if ¬ (((((σ.1 1902)) - 2)) < 0 ∨ (sN σ 20) ≤ ((((σ.1 1902)) - 2)).toNatClampNeg) then (if ¬ (((((σ.1 1902)) - 1)) < 0 ∨ (sN σ 20) ≤ ((((σ.1 1902)) - 1)).toNatClampNeg) then (if ¬ ((((((uA σ 20 ((((σ.1 1902)) - 1)).toNatClampNeg ((σ.2.2.1 20 ((((σ.1 1902)) - 2)).toNatClampNeg))).1 1902)) - 2)) < 0 ∨ (sN (uA σ 20 ((((σ.1 1902)) - 1)).toNatClampNeg ((σ.2.2.1 20 ((((σ.1 1902)) - 2)).toNatClampNeg))) 20) ≤ (((((uA σ 20 ((((σ.1 1902)) - 1)).toNatClampNeg ((σ.2.2.1 20 ((((σ.1 1902)) - 2)).toNatClampNeg))).1 1902)) - 2)).toNatClampNeg) then (f_X3_data k 12 L (uA (uA σ 20 ((((σ.1 1902)) - 1)).toNatClampNeg ((σ.2.2.1 20 ((((σ.1 1902)) - 2)).toNatClampNeg))) 20 (((((uA σ 20 ((((σ.1 1902)) - 1)).toNatClampNeg ((σ.2.2.1 20 ((((σ.1 1902)) - 2)).toNatClampNeg))).1 1902)) - 2)).toNatClampNeg ((σ.2.2.1 20 ((((σ.1 1902)) - 1)).toNatClampNeg)))) else none) else none) else none) else none
  | k + 1, 9, L, σ => if ¬ (((((σ.1 1902)) - 1)) < 0 ∨ (sN σ 20) ≤ ((((σ.1 1902)) - 1)).toNatClampNeg) then (op (y_X1_size k 0 (lI lZ 1 ((σ.2.2.1 20 ((((σ.1 1902)) - 1)).toNatClampNeg))) σ) (fun r2 => op (y_X3_spend k 0 (lI lZ 1 r2.1) r2.2) (fun r3 => f_X3_data k 12 L r3.2))) else none
  | k + 1, 10, L, σ => if ¬ (((((σ.1 1811)) + ((L.1 2)))) < 0 ∨ 3780 ≤ ((((σ.1 1811)) + ((L.1 2)))).toNatClampNeg) then (ox (f_X3_push k 0 (lI lZ 1 ((σ.2.2.1 23 ((((σ.1 1811)) + ((L.1 2)))).toNatClampNeg))) σ) (fun r2 => f_X3_data k 12 L r2.2.1)) else none
  | k + 1, 11, L, σ => ox (f_X3_pushAll k 0 (lI (lI lZ 1 ((-2147483648))) 2 ((L.1 2))) σ) (fun r1 => f_X3_data k 12 L r1.2.1)
  | k + 1, 12, L, σ => some ((0, 0), σ, (0, 0))
  | _ + 1, _ + 13, _, _ => none
def o_f_X3_data : List Cond := [.fieldLink RX3 58 "SetHouse$Machine" "program" "LSetHouse$Program;", .methodLink RX3 322 yX3_push, .instanceMethod yX3_push, .selects RX3 yX3_push yX3_push, .initialized RX3, .fieldLink RX3 14 "SetHouse$Machine" "run" "LSetHouse$Run;", .methodLink RX3 391 yX3_give, .instanceMethod yX3_give, .selects RX3 yX3_give yX3_give, .fieldLink RX3 39 "SetHouse$Machine" "heap" "LSetHouse$Heap;", .methodLink RX3 431 yX1_makeCopy, .instanceMethod yX1_makeCopy, .selects RX1 yX1_makeCopy yX1_makeCopy, .initialized RX1, .fieldLink RX3 18 "SetHouse$Machine" "stack" "[I", .methodLink RX3 316 yX1_size, .instanceMethod yX1_size, .selects RX1 yX1_size yX1_size, .methodLink RX3 319 yX3_spend, .instanceMethod yX3_spend, .selects RX3 yX3_spend yX3_spend, .fieldLink RX3 29 "SetHouse$Machine" "passing" "[I", .fieldLink RX3 235 "SetHouse$Machine" "passingBase" "I", .constant RX3 136 (-2147483648), .methodLink RX3 132 yX3_pushAll, .instanceMethod yX3_pushAll, .selects RX3 yX3_pushAll yX3_pushAll]
theorem o_f_X3_data_good : o_f_X3_data.all goodWord = true := by decide +kernel
def p_f_X3_data : List Cond := o_f_X3_data ++ ((.code yX3_push cX3_push 2 none :: p_f_X3_push) ++ ((.code yX3_give cX3_give 2 none :: p_f_X3_give) ++ ((.code yX1_makeCopy cX1_makeCopy 5 (some .int) :: p_y_X1_makeCopy__A0) ++ ((.code yX1_size cX1_size 3 (some .int) :: p_y_X1_size) ++ ((.code yX3_spend cX3_spend 2 none :: p_y_X3_spend) ++ ((.code yX3_pushAll cX3_pushAll 4 none :: p_f_X3_pushAll) ++ []))))))
theorem p_f_X3_data_good : p_f_X3_data.all goodWord = true := nb_all2 o_f_X3_data_good (nb_all2 (nb_allc (by decide +kernel) p_f_X3_push_good) (nb_all2 (nb_allc (by decide +kernel) p_f_X3_give_good) (nb_all2 (nb_allc (by decide +kernel) p_y_X1_makeCopy__A0_good) (nb_all2 (nb_allc (by decide +kernel) p_y_X1_size_good) (nb_all2 (nb_allc (by decide +kernel) p_y_X3_spend_good) (nb_all2 (nb_allc (by decide +kernel) p_f_X3_pushAll_good) rfl))))))
def w_f_X3_data : List Cond := .code yX3_data cX3_data 5 none :: (p_f_X3_data ++ fC)
theorem w_f_X3_data_good : w_f_X3_data.all goodWord = true := nb_allc (by decide +kernel) (nb_all2 p_f_X3_data_good fC_good)
theorem in_f_X3_data_X3 : ∀ w ∈ wsX30, w ∈ w_f_X3_data := fun _ h => List.mem_cons_of_mem _ (List.mem_append_right _ (List.mem_append_right _ (List.mem_append_right _ (List.mem_append_right _ (List.mem_append_left _ h)))))
theorem in_f_X3_data_X7 : ∀ w ∈ wsX70, w ∈ w_f_X3_data := fun _ h => List.mem_cons_of_mem _ (List.mem_append_right _ (List.mem_append_right _ (List.mem_append_right _ (List.mem_append_right _ (List.mem_append_right _ (List.mem_append_right _ (List.mem_append_right _ (List.mem_append_left _ h))))))))
theorem in_f_X3_data_X8 : ∀ w ∈ wsX80, w ∈ w_f_X3_data := fun _ h => List.mem_cons_of_mem _ (List.mem_append_right _ (List.mem_append_right _ (List.mem_append_right _ (List.mem_append_right _ (List.mem_append_right _ (List.mem_append_right _ (List.mem_append_right _ (List.mem_append_right _ (List.mem_append_left _ h)))))))))
theorem hd_f_X3_data : yX3_data.cls = RX3 ∧ yX3_data.cls ≠ "java/lang/invoke/MethodHandle" ∧ yX3_data.cls ≠ "java/lang/invoke/VarHandle" ∧ (parseMethodDescriptor yX3_data.desc).map (fun d => d.parameters.length) = some 3 := by decide +kernel
theorem gg_f_X3_data_X3_give : GoodIn w_f_X3_data w_f_X3_give := goodIn_sub (fun w h => (List.mem_cons.mp h).elim (fun e => (List.mem_cons_of_mem _ (List.mem_append_left _ (List.mem_append_right _ (List.mem_append_right _ (List.mem_append_left _ (List.mem_cons.mpr (Or.inl e)))))))) (fun h => (List.mem_append.mp h).elim (fun h => (List.mem_cons_of_mem _ (List.mem_append_left _ (List.mem_append_right _ (List.mem_append_right _ (List.mem_append_left _ (List.mem_cons_of_mem _ h))))))) (fun h => List.mem_cons_of_mem _ (List.mem_append_right _ h)))) w_f_X3_give_good
theorem g_f_X3_data_X3_give_V391 : GoodIn w_f_X3_data (wsV RX3 391 RX3 yX3_give w_f_X3_give) := goodIn_app (nb_g4 (List.mem_cons_of_mem _ (List.mem_append_left _ (List.mem_append_left _ (List.mem_of_getElem? (i := 6) rfl)))) (List.mem_cons_of_mem _ (List.mem_append_left _ (List.mem_append_left _ (List.mem_of_getElem? (i := 7) rfl)))) (List.mem_cons_of_mem _ (List.mem_append_left _ (List.mem_append_left _ (List.mem_of_getElem? (i := 8) rfl)))) (List.mem_cons_of_mem _ (List.mem_append_left _ (List.mem_append_left _ (List.mem_of_getElem? (i := 4) rfl)))) (by decide +kernel)) gg_f_X3_data_X3_give
theorem gg_f_X3_data_X3_pushAll : GoodIn w_f_X3_data w_f_X3_pushAll := goodIn_sub (fun w h => (List.mem_cons.mp h).elim (fun e => (List.mem_cons_of_mem _ (List.mem_append_left _ (List.mem_append_right _ (List.mem_append_right _ (List.mem_append_right _ (List.mem_append_right _ (List.mem_append_right _ (List.mem_append_right _ (List.mem_append_left _ (List.mem_cons.mpr (Or.inl e)))))))))))) (fun h => (List.mem_append.mp h).elim (fun h => (List.mem_cons_of_mem _ (List.mem_append_left _ (List.mem_append_right _ (List.mem_append_right _ (List.mem_append_right _ (List.mem_append_right _ (List.mem_append_right _ (List.mem_append_right _ (List.mem_append_left _ (List.mem_cons_of_mem _ h))))))))))) (fun h => List.mem_cons_of_mem _ (List.mem_append_right _ h)))) w_f_X3_pushAll_good
theorem g_f_X3_data_X3_pushAll_V132 : GoodIn w_f_X3_data (wsV RX3 132 RX3 yX3_pushAll w_f_X3_pushAll) := goodIn_app (nb_g4 (List.mem_cons_of_mem _ (List.mem_append_left _ (List.mem_append_left _ (List.mem_of_getElem? (i := 24) rfl)))) (List.mem_cons_of_mem _ (List.mem_append_left _ (List.mem_append_left _ (List.mem_of_getElem? (i := 25) rfl)))) (List.mem_cons_of_mem _ (List.mem_append_left _ (List.mem_append_left _ (List.mem_of_getElem? (i := 26) rfl)))) (List.mem_cons_of_mem _ (List.mem_append_left _ (List.mem_append_left _ (List.mem_of_getElem? (i := 4) rfl)))) (by decide +kernel)) gg_f_X3_data_X3_pushAll
theorem gg_f_X3_data_X3_push : GoodIn w_f_X3_data w_f_X3_push := goodIn_sub (fun w h => (List.mem_cons.mp h).elim (fun e => (List.mem_cons_of_mem _ (List.mem_append_left _ (List.mem_append_right _ (List.mem_append_left _ (List.mem_cons.mpr (Or.inl e))))))) (fun h => (List.mem_append.mp h).elim (fun h => (List.mem_cons_of_mem _ (List.mem_append_left _ (List.mem_append_right _ (List.mem_append_left _ (List.mem_cons_of_mem _ h)))))) (fun h => List.mem_cons_of_mem _ (List.mem_append_right _ h)))) w_f_X3_push_good
theorem g_f_X3_data_X3_push_V322 : GoodIn w_f_X3_data (wsV RX3 322 RX3 yX3_push w_f_X3_push) := goodIn_app (nb_g4 (List.mem_cons_of_mem _ (List.mem_append_left _ (List.mem_append_left _ (List.mem_of_getElem? (i := 1) rfl)))) (List.mem_cons_of_mem _ (List.mem_append_left _ (List.mem_append_left _ (List.mem_of_getElem? (i := 2) rfl)))) (List.mem_cons_of_mem _ (List.mem_append_left _ (List.mem_append_left _ (List.mem_of_getElem? (i := 3) rfl)))) (List.mem_cons_of_mem _ (List.mem_append_left _ (List.mem_append_left _ (List.mem_of_getElem? (i := 4) rfl)))) (by decide +kernel)) gg_f_X3_data_X3_push
theorem gg_f_X3_data_X1_makeCopy__A0 : GoodIn w_f_X3_data w_y_X1_makeCopy__A0 := goodIn_sub (fun w h => (List.mem_cons.mp h).elim (fun e => (List.mem_cons_of_mem _ (List.mem_append_left _ (List.mem_append_right _ (List.mem_append_right _ (List.mem_append_right _ (List.mem_append_left _ (List.mem_cons.mpr (Or.inl e))))))))) (fun h => (List.mem_append.mp h).elim (fun h => (List.mem_cons_of_mem _ (List.mem_append_left _ (List.mem_append_right _ (List.mem_append_right _ (List.mem_append_right _ (List.mem_append_left _ (List.mem_cons_of_mem _ h)))))))) (fun h => List.mem_cons_of_mem _ (List.mem_append_right _ h)))) w_y_X1_makeCopy__A0_good
theorem g_y_X3_data_X1_makeCopy__A0_V431 : GoodIn w_f_X3_data (wsV RX3 431 RX1 yX1_makeCopy w_y_X1_makeCopy__A0) := goodIn_app (nb_g4 (List.mem_cons_of_mem _ (List.mem_append_left _ (List.mem_append_left _ (List.mem_of_getElem? (i := 10) rfl)))) (List.mem_cons_of_mem _ (List.mem_append_left _ (List.mem_append_left _ (List.mem_of_getElem? (i := 11) rfl)))) (List.mem_cons_of_mem _ (List.mem_append_left _ (List.mem_append_left _ (List.mem_of_getElem? (i := 12) rfl)))) (List.mem_cons_of_mem _ (List.mem_append_left _ (List.mem_append_left _ (List.mem_of_getElem? (i := 13) rfl)))) (by decide +kernel)) gg_f_X3_data_X1_makeCopy__A0
theorem gg_f_X3_data_X1_size : GoodIn w_f_X3_data w_y_X1_size := goodIn_sub (fun w h => (List.mem_cons.mp h).elim (fun e => (List.mem_cons_of_mem _ (List.mem_append_left _ (List.mem_append_right _ (List.mem_append_right _ (List.mem_append_right _ (List.mem_append_right _ (List.mem_append_left _ (List.mem_cons.mpr (Or.inl e)))))))))) (fun h => (List.mem_append.mp h).elim (fun h => (List.mem_cons_of_mem _ (List.mem_append_left _ (List.mem_append_right _ (List.mem_append_right _ (List.mem_append_right _ (List.mem_append_right _ (List.mem_append_left _ (List.mem_cons_of_mem _ h))))))))) (fun h => List.mem_cons_of_mem _ (List.mem_append_right _ h)))) w_y_X1_size_good
theorem g_y_X3_data_X1_size_V316 : GoodIn w_f_X3_data (wsV RX3 316 RX1 yX1_size w_y_X1_size) := goodIn_app (nb_g4 (List.mem_cons_of_mem _ (List.mem_append_left _ (List.mem_append_left _ (List.mem_of_getElem? (i := 15) rfl)))) (List.mem_cons_of_mem _ (List.mem_append_left _ (List.mem_append_left _ (List.mem_of_getElem? (i := 16) rfl)))) (List.mem_cons_of_mem _ (List.mem_append_left _ (List.mem_append_left _ (List.mem_of_getElem? (i := 17) rfl)))) (List.mem_cons_of_mem _ (List.mem_append_left _ (List.mem_append_left _ (List.mem_of_getElem? (i := 13) rfl)))) (by decide +kernel)) gg_f_X3_data_X1_size
theorem gg_f_X3_data_X3_spend : GoodIn w_f_X3_data w_y_X3_spend := goodIn_sub (fun w h => (List.mem_cons.mp h).elim (fun e => (List.mem_cons_of_mem _ (List.mem_append_left _ (List.mem_append_right _ (List.mem_append_right _ (List.mem_append_right _ (List.mem_append_right _ (List.mem_append_right _ (List.mem_append_left _ (List.mem_cons.mpr (Or.inl e))))))))))) (fun h => (List.mem_append.mp h).elim (fun h => (List.mem_cons_of_mem _ (List.mem_append_left _ (List.mem_append_right _ (List.mem_append_right _ (List.mem_append_right _ (List.mem_append_right _ (List.mem_append_right _ (List.mem_append_left _ (List.mem_cons_of_mem _ h)))))))))) (fun h => List.mem_cons_of_mem _ (List.mem_append_right _ h)))) w_y_X3_spend_good
theorem g_y_X3_data_X3_spend_V319 : GoodIn w_f_X3_data (wsV RX3 319 RX3 yX3_spend w_y_X3_spend) := goodIn_app (nb_g4 (List.mem_cons_of_mem _ (List.mem_append_left _ (List.mem_append_left _ (List.mem_of_getElem? (i := 18) rfl)))) (List.mem_cons_of_mem _ (List.mem_append_left _ (List.mem_append_left _ (List.mem_of_getElem? (i := 19) rfl)))) (List.mem_cons_of_mem _ (List.mem_append_left _ (List.mem_append_left _ (List.mem_of_getElem? (i := 20) rfl)))) (List.mem_cons_of_mem _ (List.mem_append_left _ (List.mem_append_left _ (List.mem_of_getElem? (i := 4) rfl)))) (by decide +kernel)) gg_f_X3_data_X3_spend
set_option maxHeartbeats 40000000 in
set_option maxRecDepth 100000 in
theorem c_f_X3_data (l : Launch) (hl0 : l.stackTraces = false) (dC : Nat → ClassId) (dI : Nat → Nat → Nat) (cy : Nat → ClassId) (ek a : Nat → Nat) (k0 : Nat) (L0 : LV) (σ0 : CS) (r0 : RS) (h0 : f_X3_data k0 0 L0 σ0 = some r0) (z : Nat → Nat) (sz : Nat) : vx_Met l yX3_data w_f_X3_data ({ frames := 6, cells := r0.2.2.1, slots := r0.2.2.2, locals := 177 }) (va_Pc [.ref (a 18), .int (L0.1 1), .int (L0.1 2), .int (L0.1 3)] (nInF (dC, dI) cy ek sz (vC cy a z σ0))) (xV dC dI cy a (va_A (vC cy a z σ0) sz) [20] z r0) (xX dC dI cy a (va_A (vC cy a z σ0) sz) [20] z r0) r0.2.2.1 r0.2.2.2 (va_A (vC cy a z σ0) sz) := by
  refine vx_ofW (cc := cX3_data) (maxL := 5) (ret := none) (by decide) rfl ?_
  intro p e s m args below meth c s₁ B hml hno hv
  obtain ⟨rfl, ⟨⟨hsz, hP, hK, hD0, hG⟩, hE⟩, hT⟩ := hv
  have hx := B.exec
  have hb := B.bytes
  have hr := B.returns
  have hts := atoms_spec (ws := w_f_X3_data) B.pre
  have hown : s.vm.findClass RX3 = some m.cls := findClass_of_methodNamed B.named
  have hlocks := B.notSynchronized
  subst hsz
  have hD := hD0.self (sz := s.heap.size)
  generalize hAe : va_A (vC cy a z σ0) s.heap.size = A at hD hE hT ⊢
  have hA : ∀ q : Nat, s.heap.size ≤ q → A q := fun q h => by rw [← hAe]; exact Or.inr h
  have hS : va_S A s.heap s.heap [] := va_S.rf
  have hl := lv_entry ([.ref (a 18), .int (L0.1 1), .int (L0.1 2), .int (L0.1 3)]) (n := 5) (Nat.le_of_ble_eq_true rfl)
  rw [lg_entry_eq]
  generalize (lg_sl ([.ref (a 18), .int (L0.1 1), .int (L0.1 2), .int (L0.1 3)]) ++ List.replicate (5 - (lg_sl ([.ref (a 18), .int (L0.1 1), .int (L0.1 2), .int (L0.1 3)])).length) Slot.unset).toArray = ls at hl ⊢
  have hl : lv_has ls 5 [(0, .ref (a 18)), (1, .int (L0.1 1)), (2, .int (L0.1 2)), (3, .int (L0.1 3))] := hl
  generalize hmc : r0.2.2.1 = mc
  generalize hms : r0.2.2.2 = ms
  have blk : ∀ k : Nat, (bX p l e (headSpec w_f_X3_data ({ frames := 6, cells := mc, slots := ms, locals := 177 })).room s m #[.ref (a 18), .int (L0.1 1), .int (L0.1 2), .int (L0.1 3)] below meth c dC dI cy a A (fun r => vx_MQ below (xV dC dI cy a A [20] z r) (xX dC dI cy a A [20] z r) #[.ref (a 18), .int (L0.1 1), .int (L0.1 2), .int (L0.1 3)] s mc ms A) [20] z mc ms 5 (f_X3_data k 0) (fun z L => [(0, .ref (a 18)), (1, .int (L.1 1)), (2, .int (L.1 2)), (3, .int (L.1 3))]) 0 (fun z L => [])) ∧ (bX p l e (headSpec w_f_X3_data ({ frames := 6, cells := mc, slots := ms, locals := 177 })).room s m #[.ref (a 18), .int (L0.1 1), .int (L0.1 2), .int (L0.1 3)] below meth c dC dI cy a A (fun r => vx_MQ below (xV dC dI cy a A [20] z r) (xX dC dI cy a A [20] z r) #[.ref (a 18), .int (L0.1 1), .int (L0.1 2), .int (L0.1 3)] s mc ms A) [20] z mc ms 5 (f_X3_data k 1) (fun z L => [(0, .ref (a 18)), (3, .int (L.1 3))]) 60 (fun z L => [])) ∧ (bX p l e (headSpec w_f_X3_data ({ frames := 6, cells := mc, slots := ms, locals := 177 })).room s m #[.ref (a 18), .int (L0.1 1), .int (L0.1 2), .int (L0.1 3)] below meth c dC dI cy a A (fun r => vx_MQ below (xV dC dI cy a A [20] z r) (xX dC dI cy a A [20] z r) #[.ref (a 18), .int (L0.1 1), .int (L0.1 2), .int (L0.1 3)] s mc ms A) [20] z mc ms 5 (f_X3_data k 2) (fun z L => [(0, .ref (a 18)), (3, .int (L.1 3))]) 88 (fun z L => [])) ∧ (bX p l e (headSpec w_f_X3_data ({ frames := 6, cells := mc, slots := ms, locals := 177 })).room s m #[.ref (a 18), .int (L0.1 1), .int (L0.1 2), .int (L0.1 3)] below meth c dC dI cy a A (fun r => vx_MQ below (xV dC dI cy a A [20] z r) (xX dC dI cy a A [20] z r) #[.ref (a 18), .int (L0.1 1), .int (L0.1 2), .int (L0.1 3)] s mc ms A) [20] z mc ms 5 (f_X3_data k 3) (fun z L => [(0, .ref (a 18)), (2, .int (L.1 2)), (3, .int (L.1 3))]) 116 (fun z L => [])) ∧ (bX p l e (headSpec w_f_X3_data ({ frames := 6, cells := mc, slots := ms, locals := 177 })).room s m #[.ref (a 18), .int (L0.1 1), .int (L0.1 2), .int (L0.1 3)] below meth c dC dI cy a A (fun r => vx_MQ below (xV dC dI cy a A [20] z r) (xX dC dI cy a A [20] z r) #[.ref (a 18), .int (L0.1 1), .int (L0.1 2), .int (L0.1 3)] s mc ms A) [20] z mc ms 5 (f_X3_data k 4) (fun z L => [(0, .ref (a 18)), (2, .int (L.1 2))]) 153 (fun z L => [])) ∧ (bX p l e (headSpec w_f_X3_data ({ frames := 6, cells := mc, slots := ms, locals := 177 })).room s m #[.ref (a 18), .int (L0.1 1), .int (L0.1 2), .int (L0.1 3)] below meth c dC dI cy a A (fun r => vx_MQ below (xV dC dI cy a A [20] z r) (xX dC dI cy a A [20] z r) #[.ref (a 18), .int (L0.1 1), .int (L0.1 2), .int (L0.1 3)] s mc ms A) [20] z mc ms 5 (f_X3_data k 5) (fun z L => [(0, .ref (a 18)), (2, .int (L.1 2))]) 176 (fun z L => [])) ∧ (bX p l e (headSpec w_f_X3_data ({ frames := 6, cells := mc, slots := ms, locals := 177 })).room s m #[.ref (a 18), .int (L0.1 1), .int (L0.1 2), .int (L0.1 3)] below meth c dC dI cy a A (fun r => vx_MQ below (xV dC dI cy a A [20] z r) (xX dC dI cy a A [20] z r) #[.ref (a 18), .int (L0.1 1), .int (L0.1 2), .int (L0.1 3)] s mc ms A) [20] z mc ms 5 (f_X3_data k 6) (fun z L => [(0, .ref (a 18)), (2, .int (L.1 2))]) 191 (fun z L => [])) ∧ (bX p l e (headSpec w_f_X3_data ({ frames := 6, cells := mc, slots := ms, locals := 177 })).room s m #[.ref (a 18), .int (L0.1 1), .int (L0.1 2), .int (L0.1 3)] below meth c dC dI cy a A (fun r => vx_MQ below (xV dC dI cy a A [20] z r) (xX dC dI cy a A [20] z r) #[.ref (a 18), .int (L0.1 1), .int (L0.1 2), .int (L0.1 3)] s mc ms A) [20] z mc ms 5 (f_X3_data k 7) (fun z L => [(0, .ref (a 18)), (2, .int (L.1 2))]) 210 (fun z L => [])) ∧ (bX p l e (headSpec w_f_X3_data ({ frames := 6, cells := mc, slots := ms, locals := 177 })).room s m #[.ref (a 18), .int (L0.1 1), .int (L0.1 2), .int (L0.1 3)] below meth c dC dI cy a A (fun r => vx_MQ below (xV dC dI cy a A [20] z r) (xX dC dI cy a A [20] z r) #[.ref (a 18), .int (L0.1 1), .int (L0.1 2), .int (L0.1 3)] s mc ms A) [20] z mc ms 5 (f_X3_data k 8) (fun z L => [(0, .ref (a 18))]) 261 (fun z L => [])) ∧ (bX p l e (headSpec w_f_X3_data ({ frames := 6, cells := mc, slots := ms, locals := 177 })).room s m #[.ref (a 18), .int (L0.1 1), .int (L0.1 2), .int (L0.1 3)] below meth c dC dI cy a A (fun r => vx_MQ below (xV dC dI cy a A [20] z r) (xX dC dI cy a A [20] z r) #[.ref (a 18), .int (L0.1 1), .int (L0.1 2), .int (L0.1 3)] s mc ms A) [20] z mc ms 5 (f_X3_data k 9) (fun z L => [(0, .ref (a 18))]) 324 (fun z L => [])) ∧ (bX p l e (headSpec w_f_X3_data ({ frames := 6, cells := mc, slots := ms, locals := 177 })).room s m #[.ref (a 18), .int (L0.1 1), .int (L0.1 2), .int (L0.1 3)] below meth c dC dI cy a A (fun r => vx_MQ below (xV dC dI cy a A [20] z r) (xX dC dI cy a A [20] z r) #[.ref (a 18), .int (L0.1 1), .int (L0.1 2), .int (L0.1 3)] s mc ms A) [20] z mc ms 5 (f_X3_data k 10) (fun z L => [(0, .ref (a 18)), (2, .int (L.1 2))]) 233 (fun z L => [])) ∧ (bX p l e (headSpec w_f_X3_data ({ frames := 6, cells := mc, slots := ms, locals := 177 })).room s m #[.ref (a 18), .int (L0.1 1), .int (L0.1 2), .int (L0.1 3)] below meth c dC dI cy a A (fun r => vx_MQ below (xV dC dI cy a A [20] z r) (xX dC dI cy a A [20] z r) #[.ref (a 18), .int (L0.1 1), .int (L0.1 2), .int (L0.1 3)] s mc ms A) [20] z mc ms 5 (f_X3_data k 11) (fun z L => [(0, .ref (a 18)), (2, .int (L.1 2))]) 251 (fun z L => [])) ∧ (bX p l e (headSpec w_f_X3_data ({ frames := 6, cells := mc, slots := ms, locals := 177 })).room s m #[.ref (a 18), .int (L0.1 1), .int (L0.1 2), .int (L0.1 3)] below meth c dC dI cy a A (fun r => vx_MQ below (xV dC dI cy a A [20] z r) (xX dC dI cy a A [20] z r) #[.ref (a 18), .int (L0.1 1), .int (L0.1 2), .int (L0.1 3)] s mc ms A) [20] z mc ms 5 (f_X3_data k 12) (fun z L => []) 349 (fun z L => [])) := by
    intro k
    induction k with
    | zero => exact ⟨fun z c1 c2 L σ r h => (by cases h), fun z c1 c2 L σ r h => (by cases h), fun z c1 c2 L σ r h => (by cases h), fun z c1 c2 L σ r h => (by cases h), fun z c1 c2 L σ r h => (by cases h), fun z c1 c2 L σ r h => (by cases h), fun z c1 c2 L σ r h => (by cases h), fun z c1 c2 L σ r h => (by cases h), fun z c1 c2 L σ r h => (by cases h), fun z c1 c2 L σ r h => (by cases h), fun z c1 c2 L σ r h => (by cases h), fun z c1 c2 L σ r h => (by cases h), fun z c1 c2 L σ r h => (by cases h)⟩
    | succ k ih =>
      refine ⟨?_, ?_, ?_, ?_, ?_, ?_, ?_, ?_, ?_, ?_, ?_, ?_, ?_⟩
      · intro z cells slots L σ r h hzk hc hs H locs ls hP hD hS hl
        rw [f_X3_data] at h
        refine lv_iload_n hx hb dX3_data_0 rfl (lv_at hl 1 rfl) ?_
        by_cases q1 : ((L.1 1)) = (32 : Int32)
        · rw [if_pos q1] at h
          refine lv_tableIn (off := 59) (tgt := 60) hx hb dX3_data_1 (by rw [q1]; decide) (by rw [q1]; decide) (by rw [q1]; decide) (by decide) ?_
          exact ih.2.1 z _ _ L σ _ h hzk hc hs H locs ls hP hD hS (lv_sub hl [0, 3] rfl)
        · rw [if_neg q1] at h
          by_cases q2 : ((L.1 1)) = (33 : Int32)
          · rw [if_pos q2] at h
            refine lv_tableIn (off := 87) (tgt := 88) hx hb dX3_data_1 (by rw [q2]; decide) (by rw [q2]; decide) (by rw [q2]; decide) (by decide) ?_
            exact ih.2.2.1 z _ _ L σ _ h hzk hc hs H locs ls hP hD hS (lv_sub hl [0, 3] rfl)
          · rw [if_neg q2] at h
            by_cases q3 : ((L.1 1)) = (34 : Int32)
            · rw [if_pos q3] at h
              refine lv_tableIn (off := 115) (tgt := 116) hx hb dX3_data_1 (by rw [q3]; decide) (by rw [q3]; decide) (by rw [q3]; decide) (by decide) ?_
              exact ih.2.2.2.1 z _ _ L σ _ h hzk hc hs H locs ls hP hD hS (lv_sub hl [0, 2, 3] rfl)
            · rw [if_neg q3] at h
              by_cases q4 : ((L.1 1)) = (35 : Int32)
              · rw [if_pos q4] at h
                refine lv_tableIn (off := 152) (tgt := 153) hx hb dX3_data_1 (by rw [q4]; decide) (by rw [q4]; decide) (by rw [q4]; decide) (by decide) ?_
                exact ih.2.2.2.2.1 z _ _ L σ _ h hzk hc hs H locs ls hP hD hS (lv_sub hl [0, 2] rfl)
              · rw [if_neg q4] at h
                by_cases q5 : ((L.1 1)) = (36 : Int32)
                · rw [if_pos q5] at h
                  refine lv_tableIn (off := 175) (tgt := 176) hx hb dX3_data_1 (by rw [q5]; decide) (by rw [q5]; decide) (by rw [q5]; decide) (by decide) ?_
                  exact ih.2.2.2.2.2.1 z _ _ L σ _ h hzk hc hs H locs ls hP hD hS (lv_sub hl [0, 2] rfl)
                · rw [if_neg q5] at h
                  by_cases q6 : ((L.1 1)) = (37 : Int32)
                  · rw [if_pos q6] at h
                    refine lv_tableIn (off := 190) (tgt := 191) hx hb dX3_data_1 (by rw [q6]; decide) (by rw [q6]; decide) (by rw [q6]; decide) (by decide) ?_
                    exact ih.2.2.2.2.2.2.1 z _ _ L σ _ h hzk hc hs H locs ls hP hD hS (lv_sub hl [0, 2] rfl)
                  · rw [if_neg q6] at h
                    by_cases q7 : ((L.1 1)) = (38 : Int32)
                    · rw [if_pos q7] at h
                      refine lv_tableIn (off := 209) (tgt := 210) hx hb dX3_data_1 (by rw [q7]; decide) (by rw [q7]; decide) (by rw [q7]; decide) (by decide) ?_
                      exact ih.2.2.2.2.2.2.2.1 z _ _ L σ _ h hzk hc hs H locs ls hP hD hS (lv_sub hl [0, 2] rfl)
                    · rw [if_neg q7] at h
                      by_cases q8 : ((L.1 1)) = (39 : Int32)
                      · rw [if_pos q8] at h
                        refine lv_tableIn (off := 260) (tgt := 261) hx hb dX3_data_1 (by rw [q8]; decide) (by rw [q8]; decide) (by rw [q8]; decide) (by decide) ?_
                        exact ih.2.2.2.2.2.2.2.2.1 z _ _ L σ _ h hzk hc hs H locs ls hP hD hS (lv_sub hl [0] rfl)
                      · rw [if_neg q8] at h
                        by_cases q9 : ((L.1 1)) = (40 : Int32)
                        · rw [if_pos q9] at h
                          refine lv_tableIn (off := 323) (tgt := 324) hx hb dX3_data_1 (by rw [q9]; decide) (by rw [q9]; decide) (by rw [q9]; decide) (by decide) ?_
                          exact ih.2.2.2.2.2.2.2.2.2.1 z _ _ L σ _ h hzk hc hs H locs ls hP hD hS (lv_sub hl [0] rfl)
                        · rw [if_neg q9] at h
                          by_cases q10 : ((L.1 1)) = (41 : Int32)
                          · rw [if_pos q10] at h
                            refine lv_tableIn (off := 232) (tgt := 233) hx hb dX3_data_1 (by rw [q10]; decide) (by rw [q10]; decide) (by rw [q10]; decide) (by decide) ?_
                            exact ih.2.2.2.2.2.2.2.2.2.2.1 z _ _ L σ _ h hzk hc hs H locs ls hP hD hS (lv_sub hl [0, 2] rfl)
                          · rw [if_neg q10] at h
                            by_cases q11 : ((L.1 1)) = (42 : Int32)
                            · rw [if_pos q11] at h
                              refine lv_tableIn (off := 250) (tgt := 251) hx hb dX3_data_1 (by rw [q11]; decide) (by rw [q11]; decide) (by rw [q11]; decide) (by decide) ?_
                              exact ih.2.2.2.2.2.2.2.2.2.2.2.1 z _ _ L σ _ h hzk hc hs H locs ls hP hD hS (lv_sub hl [0, 2] rfl)
                            · rw [if_neg q11] at h
                              have nq1 : ¬ ((L.1 1)).toInt = 32 := nb_ti q1 rfl
                              have nq2 : ¬ ((L.1 1)).toInt = 33 := nb_ti q2 rfl
                              have nq3 : ¬ ((L.1 1)).toInt = 34 := nb_ti q3 rfl
                              have nq4 : ¬ ((L.1 1)).toInt = 35 := nb_ti q4 rfl
                              have nq5 : ¬ ((L.1 1)).toInt = 36 := nb_ti q5 rfl
                              have nq6 : ¬ ((L.1 1)).toInt = 37 := nb_ti q6 rfl
                              have nq7 : ¬ ((L.1 1)).toInt = 38 := nb_ti q7 rfl
                              have nq8 : ¬ ((L.1 1)).toInt = 39 := nb_ti q8 rfl
                              have nq9 : ¬ ((L.1 1)).toInt = 40 := nb_ti q9 rfl
                              have nq10 : ¬ ((L.1 1)).toInt = 41 := nb_ti q10 rfl
                              have nq11 : ¬ ((L.1 1)).toInt = 42 := nb_ti q11 rfl
                              refine lv_tableOut (tgt := 324) hx hb dX3_data_1 (by omega) (by decide) ?_
                              exact ih.2.2.2.2.2.2.2.2.2.1 z _ _ L σ _ h hzk hc hs H locs ls hP hD hS (lv_sub hl [0] rfl)
      · intro z cells slots L σ r h hzk hc hs H locs ls hP hD hS hl
        rw [f_X3_data] at h
        refine lv_aload_n hx hb dX3_data_60 rfl (lv_at hl 0 rfl) ?_
        refine lv_aload_n hx hb dX3_data_61 rfl (lv_at hl 0 rfl) ?_
        obtain ⟨b1, hb1, h⟩ := oP_ex h
        refine hgq_18_6 hx hb hts in_f_X3_data_X3 hown hK hP (hts _ (List.mem_cons_of_mem _ (List.mem_append_left _ (List.mem_append_left _ (List.mem_of_getElem? (i := 0) rfl))))) hb1 dX3_data_62 ?_
        refine hg_P_0n b1 hx hb hts in_f_X3_data_X7 hown hK hP (va_Nw.use rfl (hG.1 _ (List.mem_of_getElem? (i := 66) rfl))) dX3_data_65 ?_
        refine lv_iload_n hx hb dX3_data_68 rfl (lv_at hl 1 rfl) ?_
        refine lv_iconst (v := 1) hx hb dX3_data_69 (by decide) ?_
        refine lv_iadd hx hb dX3_data_70 ?_
        obtain ⟨q2, h⟩ := kr_ite1 h
        refine hl_P0 ((sKd σ b1)) hx hb hK hP q2 dX3_data_71 ?_
        obtain ⟨r3, hc3, hle3, h9⟩ := ox_ex h
        clear h
        refine kx_v (vx_runV (As := [.int (σ.2.2.1 (pR0 ((sKd σ b1))) ((((L.1 3)) + 1)).toNatClampNeg)]) (rest := []) ⟨hx, hb, hml, hown, hts⟩ (c_f_X3_push l hl0 dC dI cy ek a k (lI lZ 1 ((σ.2.2.1 (pR0 ((sKd σ b1))) ((((L.1 3)) + 1)).toNatClampNeg))) σ r3 hc3 z H.size) (cwV 1 hts g_f_X3_data_X3_push_V322 rfl rfl rfl hd_f_X3_push ⟨Nat.le_of_ble_eq_true rfl, Nat.le_of_ble_eq_true rfl⟩) ⟨nb_blindF, va_recv hK hP (ci := 3) (q0 := 18) rfl rfl, (kx_pre hK hG hE hT hA hP hD hS)⟩ rfl rfl hl.1 rfl (lv_room (Nat.le_of_ble_eq_true rfl)) dX3_data_72 ⟨Nat.le_trans (Nat.add_le_add_left hle3.1 _) (Nat.le_of_eq hc), Nat.le_trans (Nat.add_le_add_left hle3.2 _) (Nat.le_of_eq hs)⟩) hK hA hzk hP hD hS (by decide) hno hlocks ?_
        rcases h9 with ⟨h00, y3, hny3, hy⟩ | ⟨h00, hy⟩
        · subst hy
          have h := hny3
          refine Or.inl ⟨h00, fun z H locs hz3 hzk hP hD hS => ?_⟩
          replace hc := (Nat.add_assoc _ _ _).trans hc
          replace hs := (Nat.add_assoc _ _ _).trans hs
          refine lv_aload_n hx hb dX3_data_75 rfl (lv_at hl 0 rfl) ?_
          refine hg_18_5 hx hb hts in_f_X3_data_X3 hown hK hP (hts _ (List.mem_cons_of_mem _ (List.mem_append_left _ (List.mem_append_left _ (List.mem_of_getElem? (i := 5) rfl))))) dX3_data_76 ?_
          refine lv_iload_n hx hb dX3_data_79 rfl (lv_at hl 1 rfl) ?_
          refine lv_iconst (v := 2) hx hb dX3_data_80 (by decide) ?_
          refine lv_iadd hx hb dX3_data_81 ?_
          refine hp_19_0n hx hb hts in_f_X3_data_X8 hown hK hP hD hS (va_Nw.use rfl (hG.1 _ (List.mem_of_getElem? (i := 8) rfl))) dX3_data_82 (fun H locs hP hD hS => ?_)
          refine lv_goto (tgt := 349) hx hb dX3_data_85 (by decide) ?_
          exact ih.2.2.2.2.2.2.2.2.2.2.2.2 z _ _ L (uI r3.2.1 1900 ((((L.1 3)) + 2))) _ h hzk hc hs H locs ls hP hD hS (lv_sub hl [] rfl)
        · subst hy
          exact Or.inr ⟨h00, rfl, hc, hs⟩
      · intro z cells slots L σ r h hzk hc hs H locs ls hP hD hS hl
        rw [f_X3_data] at h
        refine lv_aload_n hx hb dX3_data_88 rfl (lv_at hl 0 rfl) ?_
        refine lv_aload_n hx hb dX3_data_89 rfl (lv_at hl 0 rfl) ?_
        obtain ⟨b1, hb1, h⟩ := oP_ex h
        refine hgq_18_6 hx hb hts in_f_X3_data_X3 hown hK hP (hts _ (List.mem_cons_of_mem _ (List.mem_append_left _ (List.mem_append_left _ (List.mem_of_getElem? (i := 0) rfl))))) hb1 dX3_data_90 ?_
        refine hg_P_0n b1 hx hb hts in_f_X3_data_X7 hown hK hP (va_Nw.use rfl (hG.1 _ (List.mem_of_getElem? (i := 66) rfl))) dX3_data_93 ?_
        refine lv_iload_n hx hb dX3_data_96 rfl (lv_at hl 1 rfl) ?_
        refine lv_iconst (v := 1) hx hb dX3_data_97 (by decide) ?_
        refine lv_iadd hx hb dX3_data_98 ?_
        obtain ⟨q2, h⟩ := kr_ite1 h
        refine hl_P0 ((sKd σ b1)) hx hb hK hP q2 dX3_data_99 ?_
        obtain ⟨r3, hc3, hle3, h9⟩ := ox_ex h
        clear h
        refine kx_v (vx_runV (As := [.int (σ.2.2.1 (pR0 ((sKd σ b1))) ((((L.1 3)) + 1)).toNatClampNeg)]) (rest := []) ⟨hx, hb, hml, hown, hts⟩ (c_f_X3_give l hl0 dC dI cy ek a k (lI lZ 1 ((σ.2.2.1 (pR0 ((sKd σ b1))) ((((L.1 3)) + 1)).toNatClampNeg))) σ r3 hc3 z H.size) (cwV 1 hts g_f_X3_data_X3_give_V391 rfl rfl rfl hd_f_X3_give ⟨Nat.le_of_ble_eq_true rfl, Nat.le_of_ble_eq_true rfl⟩) ⟨nb_blindF, va_recv hK hP (ci := 3) (q0 := 18) rfl rfl, (kx_pre hK hG hE hT hA hP hD hS)⟩ rfl rfl hl.1 rfl (lv_room (Nat.le_of_ble_eq_true rfl)) dX3_data_100 ⟨Nat.le_trans (Nat.add_le_add_left hle3.1 _) (Nat.le_of_eq hc), Nat.le_trans (Nat.add_le_add_left hle3.2 _) (Nat.le_of_eq hs)⟩) hK hA hzk hP hD hS (by decide) hno hlocks ?_
        rcases h9 with ⟨h00, y3, hny3, hy⟩ | ⟨h00, hy⟩
        · subst hy
          have h := hny3
          refine Or.inl ⟨h00, fun z H locs hz3 hzk hP hD hS => ?_⟩
          replace hc := (Nat.add_assoc _ _ _).trans hc
          replace hs := (Nat.add_assoc _ _ _).trans hs
          refine lv_aload_n hx hb dX3_data_103 rfl (lv_at hl 0 rfl) ?_
          refine hg_18_5 hx hb hts in_f_X3_data_X3 hown hK hP (hts _ (List.mem_cons_of_mem _ (List.mem_append_left _ (List.mem_append_left _ (List.mem_of_getElem? (i := 5) rfl))))) dX3_data_104 ?_
          refine lv_iload_n hx hb dX3_data_107 rfl (lv_at hl 1 rfl) ?_
          refine lv_iconst (v := 2) hx hb dX3_data_108 (by decide) ?_
          refine lv_iadd hx hb dX3_data_109 ?_
          refine hp_19_0n hx hb hts in_f_X3_data_X8 hown hK hP hD hS (va_Nw.use rfl (hG.1 _ (List.mem_of_getElem? (i := 8) rfl))) dX3_data_110 (fun H locs hP hD hS => ?_)
          refine lv_goto (tgt := 349) hx hb dX3_data_113 (by decide) ?_
          exact ih.2.2.2.2.2.2.2.2.2.2.2.2 z _ _ L (uI r3.2.1 1900 ((((L.1 3)) + 2))) _ h hzk hc hs H locs ls hP hD hS (lv_sub hl [] rfl)
        · subst hy
          exact Or.inr ⟨h00, rfl, hc, hs⟩
      · intro z cells slots L σ r h hzk hc hs H locs ls hP hD hS hl
        rw [f_X3_data] at h
        refine lv_aload_n hx hb dX3_data_116 rfl (lv_at hl 0 rfl) ?_
        refine lv_aload_n hx hb dX3_data_117 rfl (lv_at hl 0 rfl) ?_
        refine hg_18_0 hx hb hts in_f_X3_data_X3 hown hK hP (hts _ (List.mem_cons_of_mem _ (List.mem_append_left _ (List.mem_append_left _ (List.mem_of_getElem? (i := 9) rfl))))) dX3_data_118 ?_
        refine lv_aload_n hx hb dX3_data_121 rfl (lv_at hl 0 rfl) ?_
        obtain ⟨b1, hb1, h⟩ := oP_ex h
        refine hgq_18_6 hx hb hts in_f_X3_data_X3 hown hK hP (hts _ (List.mem_cons_of_mem _ (List.mem_append_left _ (List.mem_append_left _ (List.mem_of_getElem? (i := 0) rfl))))) hb1 dX3_data_122 ?_
        refine hg_P_0n b1 hx hb hts in_f_X3_data_X7 hown hK hP (va_Nw.use rfl (hG.1 _ (List.mem_of_getElem? (i := 66) rfl))) dX3_data_125 ?_
        refine lv_iload_n hx hb dX3_data_128 rfl (lv_at hl 2 rfl) ?_
        refine lv_iconst (v := 1) hx hb dX3_data_129 (by decide) ?_
        refine lv_iadd hx hb dX3_data_130 ?_
        refine lv_iload_n hx hb dX3_data_131 rfl (lv_at hl 1 rfl) ?_
        obtain ⟨r2, hc2, h⟩ := op_ex h
        refine kc_i (va_runV (As := [.ref (z (pR0 (sKd σ b1))), .int (((L.1 3)) + 1), .int (L.1 2)]) (rest := [.ref (a 18)]) ⟨hx, hb, hml, hown, hts⟩ (c_y_X1_makeCopy__A0 l dC dI cy a z k (lI (lI (lB lZ 1 ((sKd σ b1))) 2 ((((L.1 3)) + 1))) 3 ((L.1 2))) σ r2 hc2 H.size) (cwV 3 hts g_y_X3_data_X1_makeCopy__A0_V431 rfl rfl rfl hd_y_X1_makeCopy__A0 ⟨Nat.le_of_ble_eq_true rfl, Nat.le_of_ble_eq_true rfl⟩) ⟨nb_blind, va_recv hK hP (ci := 1) (q0 := 0) rfl rfl, (kb_pre hK hG hP hD)⟩ rfl rfl hl.1 rfl (lv_room (Nat.le_of_ble_eq_true rfl)) dX3_data_132 ⟨(Nat.le_trans (Nat.le_add_right _ _) (Nat.le_of_eq hc)), (Nat.le_trans (Nat.le_add_right _ _) (Nat.le_of_eq hs))⟩) hA hP hD hS (fun H locs hP hD hS => ?_)
        obtain ⟨r3, hc3, hle3, h9⟩ := ox_ex h
        clear h
        refine kx_v (vx_runV (As := [.int r2.1]) (rest := []) ⟨hx, hb, hml, hown, hts⟩ (c_f_X3_give l hl0 dC dI cy ek a k (lI lZ 1 r2.1) r2.2 r3 hc3 z H.size) (cwV 1 hts g_f_X3_data_X3_give_V391 rfl rfl rfl hd_f_X3_give ⟨Nat.le_of_ble_eq_true rfl, Nat.le_of_ble_eq_true rfl⟩) ⟨nb_blindF, va_recv hK hP (ci := 3) (q0 := 18) rfl rfl, (kx_pre hK hG hE hT hA hP hD hS)⟩ rfl rfl hl.1 rfl (lv_room (Nat.le_of_ble_eq_true rfl)) dX3_data_135 ⟨Nat.le_trans (Nat.add_le_add_left hle3.1 _) (Nat.le_of_eq hc), Nat.le_trans (Nat.add_le_add_left hle3.2 _) (Nat.le_of_eq hs)⟩) hK hA hzk hP hD hS (by decide) hno hlocks ?_
        rcases h9 with ⟨h00, y3, hny3, hy⟩ | ⟨h00, hy⟩
        · subst hy
          have h := hny3
          refine Or.inl ⟨h00, fun z H locs hz3 hzk hP hD hS => ?_⟩
          replace hc := (Nat.add_assoc _ _ _).trans hc
          replace hs := (Nat.add_assoc _ _ _).trans hs
          refine lv_aload_n hx hb dX3_data_138 rfl (lv_at hl 0 rfl) ?_
          refine hg_18_5 hx hb hts in_f_X3_data_X3 hown hK hP (hts _ (List.mem_cons_of_mem _ (List.mem_append_left _ (List.mem_append_left _ (List.mem_of_getElem? (i := 5) rfl))))) dX3_data_139 ?_
          refine lv_iload_n hx hb dX3_data_142 rfl (lv_at hl 2 rfl) ?_
          refine lv_iconst (v := 1) hx hb dX3_data_143 (by decide) ?_
          refine lv_iadd hx hb dX3_data_144 ?_
          refine lv_iload_n hx hb dX3_data_145 rfl (lv_at hl 1 rfl) ?_
          refine lv_iadd hx hb dX3_data_146 ?_
          refine hp_19_0n hx hb hts in_f_X3_data_X8 hown hK hP hD hS (va_Nw.use rfl (hG.1 _ (List.mem_of_getElem? (i := 8) rfl))) dX3_data_147 (fun H locs hP hD hS => ?_)
          refine lv_goto (tgt := 349) hx hb dX3_data_150 (by decide) ?_
          exact ih.2.2.2.2.2.2.2.2.2.2.2.2 z _ _ L (uI r3.2.1 1900 ((((((L.1 3)) + 1)) + ((L.1 2))))) _ h hzk hc hs H locs ls hP hD hS (lv_sub hl [] rfl)
        · subst hy
          exact Or.inr ⟨h00, rfl, hc, hs⟩
      · intro z cells slots L σ r h hzk hc hs H locs ls hP hD hS hl
        rw [f_X3_data] at h
        refine lv_aload_n hx hb dX3_data_153 rfl (lv_at hl 0 rfl) ?_
        refine lv_aload_n hx hb dX3_data_154 rfl (lv_at hl 0 rfl) ?_
        refine hg_18_7 hx hb hts in_f_X3_data_X3 hown hK hP (hts _ (List.mem_cons_of_mem _ (List.mem_append_left _ (List.mem_append_left _ (List.mem_of_getElem? (i := 14) rfl))))) dX3_data_155 ?_
        refine lv_aload_n hx hb dX3_data_158 rfl (lv_at hl 0 rfl) ?_
        refine hg_18_5 hx hb hts in_f_X3_data_X3 hown hK hP (hts _ (List.mem_cons_of_mem _ (List.mem_append_left _ (List.mem_append_left _ (List.mem_of_getElem? (i := 5) rfl))))) dX3_data_159 ?_
        refine hg_19_1n hx hb hts in_f_X3_data_X8 hown hK hP (va_Nw.use rfl (hG.1 _ (List.mem_of_getElem? (i := 9) rfl))) dX3_data_162 ?_
        refine lv_iconst (v := 4) hx hb dX3_data_165 (by decide) ?_
        refine lv_iadd hx hb dX3_data_166 ?_
        refine lv_iload_n hx hb dX3_data_167 rfl (lv_at hl 1 rfl) ?_
        refine lv_iadd hx hb dX3_data_168 ?_
        obtain ⟨q1, h⟩ := kr_ite1 h
        refine hl_20 hx hb hK hP q1 dX3_data_169 ?_
        obtain ⟨r2, hc2, hle2, h9⟩ := ox_ex h
        clear h
        refine kx_v (vx_runV (As := [.int (σ.2.2.1 20 ((((((σ.1 1901)) + 4)) + ((L.1 2)))).toNatClampNeg)]) (rest := []) ⟨hx, hb, hml, hown, hts⟩ (c_f_X3_push l hl0 dC dI cy ek a k (lI lZ 1 ((σ.2.2.1 20 ((((((σ.1 1901)) + 4)) + ((L.1 2)))).toNatClampNeg))) σ r2 hc2 z H.size) (cwV 1 hts g_f_X3_data_X3_push_V322 rfl rfl rfl hd_f_X3_push ⟨Nat.le_of_ble_eq_true rfl, Nat.le_of_ble_eq_true rfl⟩) ⟨nb_blindF, va_recv hK hP (ci := 3) (q0 := 18) rfl rfl, (kx_pre hK hG hE hT hA hP hD hS)⟩ rfl rfl hl.1 rfl (lv_room (Nat.le_of_ble_eq_true rfl)) dX3_data_170 ⟨Nat.le_trans (Nat.add_le_add_left hle2.1 _) (Nat.le_of_eq hc), Nat.le_trans (Nat.add_le_add_left hle2.2 _) (Nat.le_of_eq hs)⟩) hK hA hzk hP hD hS (by decide) hno hlocks ?_
        rcases h9 with ⟨h00, y2, hny2, hy⟩ | ⟨h00, hy⟩
        · subst hy
          have h := hny2
          refine Or.inl ⟨h00, fun z H locs hz2 hzk hP hD hS => ?_⟩
          replace hc := (Nat.add_assoc _ _ _).trans hc
          replace hs := (Nat.add_assoc _ _ _).trans hs
          refine lv_goto (tgt := 349) hx hb dX3_data_173 (by decide) ?_
          exact ih.2.2.2.2.2.2.2.2.2.2.2.2 z _ _ L r2.2.1 _ h hzk hc hs H locs ls hP hD hS (lv_sub hl [] rfl)
        · subst hy
          exact Or.inr ⟨h00, rfl, hc, hs⟩
      · intro z cells slots L σ r h hzk hc hs H locs ls hP hD hS hl
        rw [f_X3_data] at h
        refine lv_aload_n hx hb dX3_data_176 rfl (lv_at hl 0 rfl) ?_
        refine lv_aload_n hx hb dX3_data_177 rfl (lv_at hl 0 rfl) ?_
        refine hg_18_7 hx hb hts in_f_X3_data_X3 hown hK hP (hts _ (List.mem_cons_of_mem _ (List.mem_append_left _ (List.mem_append_left _ (List.mem_of_getElem? (i := 14) rfl))))) dX3_data_178 ?_
        refine lv_iconst (v := 4) hx hb dX3_data_181 (by decide) ?_
        refine lv_iload_n hx hb dX3_data_182 rfl (lv_at hl 1 rfl) ?_
        refine lv_iadd hx hb dX3_data_183 ?_
        obtain ⟨q1, h⟩ := kr_ite1 h
        refine hl_20 hx hb hK hP q1 dX3_data_184 ?_
        obtain ⟨r2, hc2, hle2, h9⟩ := ox_ex h
        clear h
        refine kx_v (vx_runV (As := [.int (σ.2.2.1 20 ((4 + ((L.1 2)))).toNatClampNeg)]) (rest := []) ⟨hx, hb, hml, hown, hts⟩ (c_f_X3_push l hl0 dC dI cy ek a k (lI lZ 1 ((σ.2.2.1 20 ((4 + ((L.1 2)))).toNatClampNeg))) σ r2 hc2 z H.size) (cwV 1 hts g_f_X3_data_X3_push_V322 rfl rfl rfl hd_f_X3_push ⟨Nat.le_of_ble_eq_true rfl, Nat.le_of_ble_eq_true rfl⟩) ⟨nb_blindF, va_recv hK hP (ci := 3) (q0 := 18) rfl rfl, (kx_pre hK hG hE hT hA hP hD hS)⟩ rfl rfl hl.1 rfl (lv_room (Nat.le_of_ble_eq_true rfl)) dX3_data_185 ⟨Nat.le_trans (Nat.add_le_add_left hle2.1 _) (Nat.le_of_eq hc), Nat.le_trans (Nat.add_le_add_left hle2.2 _) (Nat.le_of_eq hs)⟩) hK hA hzk hP hD hS (by decide) hno hlocks ?_
        rcases h9 with ⟨h00, y2, hny2, hy⟩ | ⟨h00, hy⟩
        · subst hy
          have h := hny2
          refine Or.inl ⟨h00, fun z H locs hz2 hzk hP hD hS => ?_⟩
          replace hc := (Nat.add_assoc _ _ _).trans hc
          replace hs := (Nat.add_assoc _ _ _).trans hs
          refine lv_goto (tgt := 349) hx hb dX3_data_188 (by decide) ?_
          exact ih.2.2.2.2.2.2.2.2.2.2.2.2 z _ _ L r2.2.1 _ h hzk hc hs H locs ls hP hD hS (lv_sub hl [] rfl)
        · subst hy
          exact Or.inr ⟨h00, rfl, hc, hs⟩
      · intro z cells slots L σ r h hzk hc hs H locs ls hP hD hS hl
        rw [f_X3_data] at h
        refine lv_aload_n hx hb dX3_data_191 rfl (lv_at hl 0 rfl) ?_
        refine hg_18_5 hx hb hts in_f_X3_data_X3 hown hK hP (hts _ (List.mem_cons_of_mem _ (List.mem_append_left _ (List.mem_append_left _ (List.mem_of_getElem? (i := 5) rfl))))) dX3_data_192 ?_
        refine lv_aload_n hx hb dX3_data_195 rfl (lv_at hl 0 rfl) ?_
        refine hg_18_5 hx hb hts in_f_X3_data_X3 hown hK hP (hts _ (List.mem_cons_of_mem _ (List.mem_append_left _ (List.mem_append_left _ (List.mem_of_getElem? (i := 5) rfl))))) dX3_data_196 ?_
        refine hg_19_2n hx hb hts in_f_X3_data_X8 hown hK hP (va_Nw.use rfl (hG.1 _ (List.mem_of_getElem? (i := 10) rfl))) dX3_data_199 ?_
        refine lv_iload_n hx hb dX3_data_202 rfl (lv_at hl 1 rfl) ?_
        refine lv_isub hx hb dX3_data_203 ?_
        refine hp_19_2n hx hb hts in_f_X3_data_X8 hown hK hP hD hS (va_Nw.use rfl (hG.1 _ (List.mem_of_getElem? (i := 10) rfl))) dX3_data_204 (fun H locs hP hD hS => ?_)
        refine lv_goto (tgt := 349) hx hb dX3_data_207 (by decide) ?_
        exact ih.2.2.2.2.2.2.2.2.2.2.2.2 z _ _ L (uI σ 1902 ((((σ.1 1902)) - ((L.1 2))))) _ h hzk hc hs H locs ls hP hD hS (lv_sub hl [] rfl)
      · intro z cells slots L σ r h hzk hc hs H locs ls hP hD hS hl
        rw [f_X3_data] at h
        refine lv_aload_n hx hb dX3_data_210 rfl (lv_at hl 0 rfl) ?_
        refine lv_aload_n hx hb dX3_data_211 rfl (lv_at hl 0 rfl) ?_
        refine hg_18_7 hx hb hts in_f_X3_data_X3 hown hK hP (hts _ (List.mem_cons_of_mem _ (List.mem_append_left _ (List.mem_append_left _ (List.mem_of_getElem? (i := 14) rfl))))) dX3_data_212 ?_
        refine lv_aload_n hx hb dX3_data_215 rfl (lv_at hl 0 rfl) ?_
        refine hg_18_5 hx hb hts in_f_X3_data_X3 hown hK hP (hts _ (List.mem_cons_of_mem _ (List.mem_append_left _ (List.mem_append_left _ (List.mem_of_getElem? (i := 5) rfl))))) dX3_data_216 ?_
        refine hg_19_2n hx hb hts in_f_X3_data_X8 hown hK hP (va_Nw.use rfl (hG.1 _ (List.mem_of_getElem? (i := 10) rfl))) dX3_data_219 ?_
        refine lv_iconst (v := 1) hx hb dX3_data_222 (by decide) ?_
        refine lv_isub hx hb dX3_data_223 ?_
        refine lv_iload_n hx hb dX3_data_224 rfl (lv_at hl 1 rfl) ?_
        refine lv_isub hx hb dX3_data_225 ?_
        obtain ⟨q1, h⟩ := kr_ite1 h
        refine hl_20 hx hb hK hP q1 dX3_data_226 ?_
        obtain ⟨r2, hc2, hle2, h9⟩ := ox_ex h
        clear h
        refine kx_v (vx_runV (As := [.int (σ.2.2.1 20 ((((((σ.1 1902)) - 1)) - ((L.1 2)))).toNatClampNeg)]) (rest := []) ⟨hx, hb, hml, hown, hts⟩ (c_f_X3_push l hl0 dC dI cy ek a k (lI lZ 1 ((σ.2.2.1 20 ((((((σ.1 1902)) - 1)) - ((L.1 2)))).toNatClampNeg))) σ r2 hc2 z H.size) (cwV 1 hts g_f_X3_data_X3_push_V322 rfl rfl rfl hd_f_X3_push ⟨Nat.le_of_ble_eq_true rfl, Nat.le_of_ble_eq_true rfl⟩) ⟨nb_blindF, va_recv hK hP (ci := 3) (q0 := 18) rfl rfl, (kx_pre hK hG hE hT hA hP hD hS)⟩ rfl rfl hl.1 rfl (lv_room (Nat.le_of_ble_eq_true rfl)) dX3_data_227 ⟨Nat.le_trans (Nat.add_le_add_left hle2.1 _) (Nat.le_of_eq hc), Nat.le_trans (Nat.add_le_add_left hle2.2 _) (Nat.le_of_eq hs)⟩) hK hA hzk hP hD hS (by decide) hno hlocks ?_
        rcases h9 with ⟨h00, y2, hny2, hy⟩ | ⟨h00, hy⟩
        · subst hy
          have h := hny2
          refine Or.inl ⟨h00, fun z H locs hz2 hzk hP hD hS => ?_⟩
          replace hc := (Nat.add_assoc _ _ _).trans hc
          replace hs := (Nat.add_assoc _ _ _).trans hs
          refine lv_goto (tgt := 349) hx hb dX3_data_230 (by decide) ?_
          exact ih.2.2.2.2.2.2.2.2.2.2.2.2 z _ _ L r2.2.1 _ h hzk hc hs H locs ls hP hD hS (lv_sub hl [] rfl)
        · subst hy
          exact Or.inr ⟨h00, rfl, hc, hs⟩
      · intro z cells slots L σ r h hzk hc hs H locs ls hP hD hS hl
        rw [f_X3_data] at h
        refine lv_aload_n hx hb dX3_data_261 rfl (lv_at hl 0 rfl) ?_
        refine hg_18_7 hx hb hts in_f_X3_data_X3 hown hK hP (hts _ (List.mem_cons_of_mem _ (List.mem_append_left _ (List.mem_append_left _ (List.mem_of_getElem? (i := 14) rfl))))) dX3_data_262 ?_
        refine lv_aload_n hx hb dX3_data_265 rfl (lv_at hl 0 rfl) ?_
        refine hg_18_5 hx hb hts in_f_X3_data_X3 hown hK hP (hts _ (List.mem_cons_of_mem _ (List.mem_append_left _ (List.mem_append_left _ (List.mem_of_getElem? (i := 5) rfl))))) dX3_data_266 ?_
        refine hg_19_2n hx hb hts in_f_X3_data_X8 hown hK hP (va_Nw.use rfl (hG.1 _ (List.mem_of_getElem? (i := 10) rfl))) dX3_data_269 ?_
        refine lv_iconst (v := 1) hx hb dX3_data_272 (by decide) ?_
        refine lv_isub hx hb dX3_data_273 ?_
        obtain ⟨q1, h⟩ := kr_ite1 h
        refine hl_20 hx hb hK hP q1 dX3_data_274 ?_
        refine lv_istore (lv' := [(4, .int (σ.2.2.1 20 ((((σ.1 1902)) - 1)).toNatClampNeg)), (0, .ref (a 18))]) hx hb dX3_data_275 hl (by decide) rfl (fun ls hl => ?_)
        refine lv_aload_n hx hb dX3_data_277 rfl (lv_at hl 1 rfl) ?_
        refine hg_18_7 hx hb hts in_f_X3_data_X3 hown hK hP (hts _ (List.mem_cons_of_mem _ (List.mem_append_left _ (List.mem_append_left _ (List.mem_of_getElem? (i := 14) rfl))))) dX3_data_278 ?_
        refine lv_aload_n hx hb dX3_data_281 rfl (lv_at hl 1 rfl) ?_
        refine hg_18_5 hx hb hts in_f_X3_data_X3 hown hK hP (hts _ (List.mem_cons_of_mem _ (List.mem_append_left _ (List.mem_append_left _ (List.mem_of_getElem? (i := 5) rfl))))) dX3_data_282 ?_
        refine hg_19_2n hx hb hts in_f_X3_data_X8 hown hK hP (va_Nw.use rfl (hG.1 _ (List.mem_of_getElem? (i := 10) rfl))) dX3_data_285 ?_
        refine lv_iconst (v := 1) hx hb dX3_data_288 (by decide) ?_
        refine lv_isub hx hb dX3_data_289 ?_
        refine lv_aload_n hx hb dX3_data_290 rfl (lv_at hl 1 rfl) ?_
        refine hg_18_7 hx hb hts in_f_X3_data_X3 hown hK hP (hts _ (List.mem_cons_of_mem _ (List.mem_append_left _ (List.mem_append_left _ (List.mem_of_getElem? (i := 14) rfl))))) dX3_data_291 ?_
        refine lv_aload_n hx hb dX3_data_294 rfl (lv_at hl 1 rfl) ?_
        refine hg_18_5 hx hb hts in_f_X3_data_X3 hown hK hP (hts _ (List.mem_cons_of_mem _ (List.mem_append_left _ (List.mem_append_left _ (List.mem_of_getElem? (i := 5) rfl))))) dX3_data_295 ?_
        refine hg_19_2n hx hb hts in_f_X3_data_X8 hown hK hP (va_Nw.use rfl (hG.1 _ (List.mem_of_getElem? (i := 10) rfl))) dX3_data_298 ?_
        refine lv_iconst (v := 2) hx hb dX3_data_301 (by decide) ?_
        refine lv_isub hx hb dX3_data_302 ?_
        obtain ⟨q2, h⟩ := kr_ite1 h
        refine hl_20 hx hb hK hP q2 dX3_data_303 ?_
        obtain ⟨q3, h⟩ := kr_ite1 h
        refine hs_20 hx hb hK hP hD hS q3 dX3_data_304 (fun H locs hP hD hS => ?_)
        refine lv_aload_n hx hb dX3_data_305 rfl (lv_at hl 1 rfl) ?_
        refine hg_18_7 hx hb hts in_f_X3_data_X3 hown hK hP (hts _ (List.mem_cons_of_mem _ (List.mem_append_left _ (List.mem_append_left _ (List.mem_of_getElem? (i := 14) rfl))))) dX3_data_306 ?_
        refine lv_aload_n hx hb dX3_data_309 rfl (lv_at hl 1 rfl) ?_
        refine hg_18_5 hx hb hts in_f_X3_data_X3 hown hK hP (hts _ (List.mem_cons_of_mem _ (List.mem_append_left _ (List.mem_append_left _ (List.mem_of_getElem? (i := 5) rfl))))) dX3_data_310 ?_
        refine hg_19_2n hx hb hts in_f_X3_data_X8 hown hK hP (va_Nw.use rfl (hG.1 _ (List.mem_of_getElem? (i := 10) rfl))) dX3_data_313 ?_
        refine lv_iconst (v := 2) hx hb dX3_data_316 (by decide) ?_
        refine lv_isub hx hb dX3_data_317 ?_
        refine lv_iload hx hb dX3_data_318 (lv_at hl 0 rfl) ?_
        obtain ⟨q4, h⟩ := kr_ite1 h
        refine hs_20 hx hb hK hP hD hS q4 dX3_data_320 (fun H locs hP hD hS => ?_)
        refine lv_goto (tgt := 349) hx hb dX3_data_321 (by decide) ?_
        exact ih.2.2.2.2.2.2.2.2.2.2.2.2 z _ _ L (uA (uA σ 20 ((((σ.1 1902)) - 1)).toNatClampNeg ((σ.2.2.1 20 ((((σ.1 1902)) - 2)).toNatClampNeg))) 20 (((((uA σ 20 ((((σ.1 1902)) - 1)).toNatClampNeg ((σ.2.2.1 20 ((((σ.1 1902)) - 2)).toNatClampNeg))).1 1902)) - 2)).toNatClampNeg ((σ.2.2.1 20 ((((σ.1 1902)) - 1)).toNatClampNeg))) _ h hzk hc hs H locs ls hP hD hS (lv_sub hl [] rfl)
      · intro z cells slots L σ r h hzk hc hs H locs ls hP hD hS hl
        rw [f_X3_data] at h
        refine lv_aload_n hx hb dX3_data_324 rfl (lv_at hl 0 rfl) ?_
        refine lv_aload_n hx hb dX3_data_325 rfl (lv_at hl 0 rfl) ?_
        refine hg_18_0 hx hb hts in_f_X3_data_X3 hown hK hP (hts _ (List.mem_cons_of_mem _ (List.mem_append_left _ (List.mem_append_left _ (List.mem_of_getElem? (i := 9) rfl))))) dX3_data_326 ?_
        refine lv_aload_n hx hb dX3_data_329 rfl (lv_at hl 0 rfl) ?_
        refine hg_18_7 hx hb hts in_f_X3_data_X3 hown hK hP (hts _ (List.mem_cons_of_mem _ (List.mem_append_left _ (List.mem_append_left _ (List.mem_of_getElem? (i := 14) rfl))))) dX3_data_330 ?_
        refine lv_aload_n hx hb dX3_data_333 rfl (lv_at hl 0 rfl) ?_
        refine hg_18_5 hx hb hts in_f_X3_data_X3 hown hK hP (hts _ (List.mem_cons_of_mem _ (List.mem_append_left _ (List.mem_append_left _ (List.mem_of_getElem? (i := 5) rfl))))) dX3_data_334 ?_
        refine hg_19_2n hx hb hts in_f_X3_data_X8 hown hK hP (va_Nw.use rfl (hG.1 _ (List.mem_of_getElem? (i := 10) rfl))) dX3_data_337 ?_
        refine lv_iconst (v := 1) hx hb dX3_data_340 (by decide) ?_
        refine lv_isub hx hb dX3_data_341 ?_
        obtain ⟨q1, h⟩ := kr_ite1 h
        refine hl_20 hx hb hK hP q1 dX3_data_342 ?_
        obtain ⟨r2, hc2, h⟩ := op_ex h
        refine kc_i (va_runV (As := [.int (σ.2.2.1 20 ((((σ.1 1902)) - 1)).toNatClampNeg)]) (rest := [.ref (a 18)]) ⟨hx, hb, hml, hown, hts⟩ (c_y_X1_size l dC dI cy a z k (lI lZ 1 ((σ.2.2.1 20 ((((σ.1 1902)) - 1)).toNatClampNeg))) σ r2 hc2 H.size) (cwV 1 hts g_y_X3_data_X1_size_V316 rfl rfl rfl hd_y_X1_size ⟨Nat.le_of_ble_eq_true rfl, Nat.le_of_ble_eq_true rfl⟩) ⟨nb_blind, va_recv hK hP (ci := 1) (q0 := 0) rfl rfl, (kb_pre hK hG hP hD)⟩ rfl rfl hl.1 rfl (lv_room (Nat.le_of_ble_eq_true rfl)) dX3_data_343 ⟨(Nat.le_trans (Nat.le_add_right _ _) (Nat.le_of_eq hc)), (Nat.le_trans (Nat.le_add_right _ _) (Nat.le_of_eq hs))⟩) hA hP hD hS (fun H locs hP hD hS => ?_)
        obtain ⟨r3, hc3, h⟩ := op_ex h
        refine kc_v (va_runV (As := [.int r2.1]) (rest := []) ⟨hx, hb, hml, hown, hts⟩ (c_y_X3_spend l dC dI cy a z k (lI lZ 1 r2.1) r2.2 r3 hc3 H.size) (cwV 1 hts g_y_X3_data_X3_spend_V319 rfl rfl rfl hd_y_X3_spend ⟨Nat.le_of_ble_eq_true rfl, Nat.le_of_ble_eq_true rfl⟩) ⟨nb_blind, va_recv hK hP (ci := 3) (q0 := 18) rfl rfl, (kb_pre hK hG hP hD)⟩ rfl rfl hl.1 rfl (lv_room (Nat.le_of_ble_eq_true rfl)) dX3_data_346 ⟨(Nat.le_trans (Nat.le_add_right _ _) (Nat.le_of_eq hc)), (Nat.le_trans (Nat.le_add_right _ _) (Nat.le_of_eq hs))⟩) hA hP hD hS (fun H locs hP hD hS => ?_)
        exact ih.2.2.2.2.2.2.2.2.2.2.2.2 z _ _ L r3.2 _ h hzk hc hs H locs ls hP hD hS (lv_sub hl [] rfl)
      · intro z cells slots L σ r h hzk hc hs H locs ls hP hD hS hl
        rw [f_X3_data] at h
        refine lv_aload_n hx hb dX3_data_233 rfl (lv_at hl 0 rfl) ?_
        refine lv_aload_n hx hb dX3_data_234 rfl (lv_at hl 0 rfl) ?_
        refine hg_18_10 hx hb hts in_f_X3_data_X3 hown hK hP (hts _ (List.mem_cons_of_mem _ (List.mem_append_left _ (List.mem_append_left _ (List.mem_of_getElem? (i := 21) rfl))))) dX3_data_235 ?_
        refine lv_aload_n hx hb dX3_data_238 rfl (lv_at hl 0 rfl) ?_
        refine hg_18_11 hx hb hts in_f_X3_data_X3 hown hK hP (hts _ (List.mem_cons_of_mem _ (List.mem_append_left _ (List.mem_append_left _ (List.mem_of_getElem? (i := 22) rfl))))) dX3_data_239 ?_
        refine lv_iload_n hx hb dX3_data_242 rfl (lv_at hl 1 rfl) ?_
        refine lv_iadd hx hb dX3_data_243 ?_
        obtain ⟨q1, h⟩ := kr_ite1 h
        refine hl_23 hx hb hK hP q1 dX3_data_244 ?_
        obtain ⟨r2, hc2, hle2, h9⟩ := ox_ex h
        clear h
        refine kx_v (vx_runV (As := [.int (σ.2.2.1 23 ((((σ.1 1811)) + ((L.1 2)))).toNatClampNeg)]) (rest := []) ⟨hx, hb, hml, hown, hts⟩ (c_f_X3_push l hl0 dC dI cy ek a k (lI lZ 1 ((σ.2.2.1 23 ((((σ.1 1811)) + ((L.1 2)))).toNatClampNeg))) σ r2 hc2 z H.size) (cwV 1 hts g_f_X3_data_X3_push_V322 rfl rfl rfl hd_f_X3_push ⟨Nat.le_of_ble_eq_true rfl, Nat.le_of_ble_eq_true rfl⟩) ⟨nb_blindF, va_recv hK hP (ci := 3) (q0 := 18) rfl rfl, (kx_pre hK hG hE hT hA hP hD hS)⟩ rfl rfl hl.1 rfl (lv_room (Nat.le_of_ble_eq_true rfl)) dX3_data_245 ⟨Nat.le_trans (Nat.add_le_add_left hle2.1 _) (Nat.le_of_eq hc), Nat.le_trans (Nat.add_le_add_left hle2.2 _) (Nat.le_of_eq hs)⟩) hK hA hzk hP hD hS (by decide) hno hlocks ?_
        rcases h9 with ⟨h00, y2, hny2, hy⟩ | ⟨h00, hy⟩
        · subst hy
          have h := hny2
          refine Or.inl ⟨h00, fun z H locs hz2 hzk hP hD hS => ?_⟩
          replace hc := (Nat.add_assoc _ _ _).trans hc
          replace hs := (Nat.add_assoc _ _ _).trans hs
          refine lv_goto (tgt := 349) hx hb dX3_data_248 (by decide) ?_
          exact ih.2.2.2.2.2.2.2.2.2.2.2.2 z _ _ L r2.2.1 _ h hzk hc hs H locs ls hP hD hS (lv_sub hl [] rfl)
        · subst hy
          exact Or.inr ⟨h00, rfl, hc, hs⟩
      · intro z cells slots L σ r h hzk hc hs H locs ls hP hD hS hl
        rw [f_X3_data] at h
        refine lv_aload_n hx hb dX3_data_251 rfl (lv_at hl 0 rfl) ?_
        refine lv_ldc (v := (-2147483648)) hx hb hown (hts _ (List.mem_cons_of_mem _ (List.mem_append_left _ (List.mem_append_left _ (List.mem_of_getElem? (i := 23) rfl))))) dX3_data_252 ?_
        refine lv_iload_n hx hb dX3_data_254 rfl (lv_at hl 1 rfl) ?_
        obtain ⟨r1, hc1, hle1, h9⟩ := ox_ex h
        clear h
        refine kx_v (vx_runV (As := [.int (-2147483648), .int (L.1 2)]) (rest := []) ⟨hx, hb, hml, hown, hts⟩ (c_f_X3_pushAll l hl0 dC dI cy ek a k (lI (lI lZ 1 ((-2147483648))) 2 ((L.1 2))) σ r1 hc1 z H.size) (cwV 2 hts g_f_X3_data_X3_pushAll_V132 rfl rfl rfl hd_f_X3_pushAll ⟨Nat.le_of_ble_eq_true rfl, Nat.le_of_ble_eq_true rfl⟩) ⟨nb_blindF, va_recv hK hP (ci := 3) (q0 := 18) rfl rfl, (kx_pre hK hG hE hT hA hP hD hS)⟩ rfl rfl hl.1 rfl (lv_room (Nat.le_of_ble_eq_true rfl)) dX3_data_255 ⟨Nat.le_trans (Nat.add_le_add_left hle1.1 _) (Nat.le_of_eq hc), Nat.le_trans (Nat.add_le_add_left hle1.2 _) (Nat.le_of_eq hs)⟩) hK hA hzk hP hD hS (by decide) hno hlocks ?_
        rcases h9 with ⟨h00, y1, hny1, hy⟩ | ⟨h00, hy⟩
        · subst hy
          have h := hny1
          refine Or.inl ⟨h00, fun z H locs hz1 hzk hP hD hS => ?_⟩
          replace hc := (Nat.add_assoc _ _ _).trans hc
          replace hs := (Nat.add_assoc _ _ _).trans hs
          refine lv_goto (tgt := 349) hx hb dX3_data_258 (by decide) ?_
          exact ih.2.2.2.2.2.2.2.2.2.2.2.2 z _ _ L r1.2.1 _ h hzk hc hs H locs ls hP hD hS (lv_sub hl [] rfl)
        · subst hy
          exact Or.inr ⟨h00, rfl, hc, hs⟩
      · intro z cells slots L σ r h hzk hc hs H locs ls hP hD hS hl
        rw [f_X3_data] at h
        obtain rfl := Option.some.inj h
        subst hc
        subst hs
        exact xr_v hx hb hr hK hzk hP hD hS hlocks dX3_data_349
  exact (blk k0).1 z 0 0 L0 σ0 r0 h0 (zk_rf _ _) ((Nat.zero_add _).trans hmc) ((Nat.zero_add _).trans hms) s.heap [] ls hP hD hS hl

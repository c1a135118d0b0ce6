/-! X3_gatherIntoTuple -/
def f_X3_gatherIntoTuple : Nat → Nat → LV → CS → Option RS
  | 0, _, _, _ => none
  | k + 1, 0, L, σ => if ¬ (((((σ.1 1902)) - 2)) < 0 ∨ (sN σ 20) ≤ ((((σ.1 1902)) - 2)).toNatClampNeg) then (op (y_X11_unraw k 0 (lI lZ 0 ((σ.2.2.1 20 ((((σ.1 1902)) - 2)).toNatClampNeg))) σ) (fun r2 => if ¬ (((((r2.2.1 1902)) - 1)) < 0 ∨ (sN r2.2 20) ≤ ((((r2.2.1 1902)) - 1)).toNatClampNeg) then (op (y_X11_unraw k 0 (lI lZ 0 ((r2.2.2.2.1 20 ((((r2.2.1 1902)) - 1)).toNatClampNeg))) r2.2) (fun r4 => if 2000 < r4.1 then (f_X3_gatherIntoTuple k 1 L r4.2) else (if ((L.1 1)) = ((-2147483648)) then (if r2.1 < 1000 then (f_X3_gatherIntoTuple k 2 (lI (lI L 2 r2.1) 3 r4.1) r4.2) else (f_X3_gatherIntoTuple k 1 L r4.2)) else (f_X3_gatherIntoTuple k 2 (lI (lI L 2 r2.1) 3 r4.1) r4.2)))) else none)) else none
  | k + 1, 1, L, σ => some ((0, 0), σ, (0, 0))
  | k + 1, 2, L, σ => op (y_X1_size k 0 (lI lZ 1 ((L.1 1))) σ) (fun r1 => if ((L.1 1)) = ((-2147483648)) then (f_X3_gatherIntoTuple k 3 (lI L 4 ((((L.1 3)) + r1.1))) r1.2) else (if 1000 < ((((L.1 3)) + r1.1)) then (f_X3_gatherIntoTuple k 4 L r1.2) else (if ((L.1 2)) < 1000 then (f_X3_gatherIntoTuple k 3 (lI L 4 ((((L.1 3)) + r1.1))) r1.2) else (f_X3_gatherIntoTuple k 4 L r1.2))))
  | k + 1, 3, L, σ => if ¬ (((((σ.1 1902)) - 1)) < 0 ∨ (sN σ 20) ≤ ((((σ.1 1902)) - 1)).toNatClampNeg) then (if ¬ (((((σ.1 1902)) - 2)) < 0 ∨ (sN σ 20) ≤ ((((σ.1 1902)) - 2)).toNatClampNeg) then (op (y_X11_raw k 0 (lI lZ 0 ((((L.1 2)) + 1))) (uA σ 20 ((((σ.1 1902)) - 2)).toNatClampNeg ((L.1 1)))) (fun r3 => if ¬ ((((((uA σ 20 ((((σ.1 1902)) - 2)).toNatClampNeg ((L.1 1))).1 1902)) - 1)) < 0 ∨ (sN r3.2 20) ≤ (((((uA σ 20 ((((σ.1 1902)) - 2)).toNatClampNeg ((L.1 1))).1 1902)) - 1)).toNatClampNeg) then (f_X3_gatherIntoTuple k 5 (lI L 5 ((σ.2.2.1 20 ((((σ.1 1902)) - 1)).toNatClampNeg))) (uA r3.2 20 (((((uA σ 20 ((((σ.1 1902)) - 2)).toNatClampNeg ((L.1 1))).1 1902)) - 1)).toNatClampNeg r3.1)) else none)) else none) else none
  | k + 1, 4, L, σ => op (y_X11_raw k 0 (lI lZ 0 3000) σ) (fun r1 => if ¬ (((((σ.1 1902)) - 1)) < 0 ∨ (sN r1.2 20) ≤ ((((σ.1 1902)) - 1)).toNatClampNeg) then (some ((0, 0), (uA r1.2 20 ((((σ.1 1902)) - 1)).toNatClampNeg r1.1), (0, 0))) else none)
  | k + 1, 5, L, σ => ox (f_X3_push k 0 (lI lZ 1 ((L.1 5))) σ) (fun r1 => op (y_X11_raw k 0 (lI lZ 0 ((L.1 4))) r1.2.1) (fun r2 => if ¬ (((((r1.2.1.1 1902)) - 1)) < 0 ∨ (sN r2.2 20) ≤ ((((r1.2.1.1 1902)) - 1)).toNatClampNeg) then (some ((0, 0), (uA r2.2 20 ((((r1.2.1.1 1902)) - 1)).toNatClampNeg r2.1), (0, 0))) else none))
  | _ + 1, _ + 6, _, _ => none
def o_f_X3_gatherIntoTuple : List Cond := [.fieldLink RX3 18 "SetHouse$Machine" "stack" "[I", .fieldLink RX3 14 "SetHouse$Machine" "run" "LSetHouse$Run;", .initialized RX11, .static yX11_unraw, .constant RX3 136 (-2147483648), .fieldLink RX3 39 "SetHouse$Machine" "heap" "LSetHouse$Heap;", .methodLink RX3 316 yX1_size, .instanceMethod yX1_size, .selects RX1 yX1_size yX1_size, .initialized RX1, .static yX11_raw, .methodLink RX3 322 yX3_push, .instanceMethod yX3_push, .selects RX3 yX3_push yX3_push, .initialized RX3]
theorem o_f_X3_gatherIntoTuple_good : o_f_X3_gatherIntoTuple.all goodWord = true := by decide +kernel
def p_f_X3_gatherIntoTuple : List Cond := o_f_X3_gatherIntoTuple ++ ((.code yX11_unraw cX11_unraw 1 (some .int) :: p_y_X11_unraw) ++ ((.code yX1_size cX1_size 3 (some .int) :: p_y_X1_size) ++ ((.code yX11_raw cX11_raw 1 (some .int) :: p_y_X11_raw) ++ ((.code yX3_push cX3_push 2 none :: p_f_X3_push) ++ []))))
theorem p_f_X3_gatherIntoTuple_good : p_f_X3_gatherIntoTuple.all goodWord = true := nb_all2 o_f_X3_gatherIntoTuple_good (nb_all2 (nb_allc (by decide +kernel) p_y_X11_unraw_good) (nb_all2 (nb_allc (by decide +kernel) p_y_X1_size_good) (nb_all2 (nb_allc (by decide +kernel) p_y_X11_raw_good) (nb_all2 (nb_allc (by decide +kernel) p_f_X3_push_good) rfl))))
def w_f_X3_gatherIntoTuple : List Cond := .code yX3_gatherIntoTuple cX3_gatherIntoTuple 6 none :: (p_f_X3_gatherIntoTuple ++ fC)
theorem w_f_X3_gatherIntoTuple_good : w_f_X3_gatherIntoTuple.all goodWord = true := nb_allc (by decide +kernel) (nb_all2 p_f_X3_gatherIntoTuple_good fC_good)
theorem in_f_X3_gatherIntoTuple_X3 : ∀ w ∈ wsX30, w ∈ w_f_X3_gatherIntoTuple := fun _ h => List.mem_cons_of_mem _ (List.mem_append_right _ (List.mem_append_right _ (List.mem_append_right _ (List.mem_append_right _ (List.mem_append_left _ h)))))
theorem in_f_X3_gatherIntoTuple_X8 : ∀ w ∈ wsX80, w ∈ w_f_X3_gatherIntoTuple := fun _ h => List.mem_cons_of_mem _ (List.mem_append_right _ (List.mem_append_right _ (List.mem_append_right _ (List.mem_append_right _ (List.mem_append_right _ (List.mem_append_right _ (List.mem_append_right _ (List.mem_append_right _ (List.mem_append_left _ h)))))))))
theorem hd_f_X3_gatherIntoTuple : yX3_gatherIntoTuple.cls = RX3 ∧ yX3_gatherIntoTuple.cls ≠ "java/lang/invoke/MethodHandle" ∧ yX3_gatherIntoTuple.cls ≠ "java/lang/invoke/VarHandle" ∧ (parseMethodDescriptor yX3_gatherIntoTuple.desc).map (fun d => d.parameters.length) = some 1 := by decide +kernel
theorem gg_f_X3_gatherIntoTuple_X3_push : GoodIn w_f_X3_gatherIntoTuple w_f_X3_push := goodIn_sub (fun w h => (List.mem_cons.mp h).elim (fun e => (List.mem_cons_of_mem _ (List.mem_append_left _ (List.mem_append_right _ (List.mem_append_right _ (List.mem_append_right _ (List.mem_append_right _ (List.mem_append_left _ (List.mem_cons.mpr (Or.inl e)))))))))) (fun h => (List.mem_append.mp h).elim (fun h => (List.mem_cons_of_mem _ (List.mem_append_left _ (List.mem_append_right _ (List.mem_append_right _ (List.mem_append_right _ (List.mem_append_right _ (List.mem_append_left _ (List.mem_cons_of_mem _ h))))))))) (fun h => List.mem_cons_of_mem _ (List.mem_append_right _ h)))) w_f_X3_push_good
theorem g_f_X3_gatherIntoTuple_X3_push_V322 : GoodIn w_f_X3_gatherIntoTuple (wsV RX3 322 RX3 yX3_push w_f_X3_push) := goodIn_app (nb_g4 (List.mem_cons_of_mem _ (List.mem_append_left _ (List.mem_append_left _ (List.mem_of_getElem? (i := 11) rfl)))) (List.mem_cons_of_mem _ (List.mem_append_left _ (List.mem_append_left _ (List.mem_of_getElem? (i := 12) rfl)))) (List.mem_cons_of_mem _ (List.mem_append_left _ (List.mem_append_left _ (List.mem_of_getElem? (i := 13) rfl)))) (List.mem_cons_of_mem _ (List.mem_append_left _ (List.mem_append_left _ (List.mem_of_getElem? (i := 14) rfl)))) (by decide +kernel)) gg_f_X3_gatherIntoTuple_X3_push
theorem gg_f_X3_gatherIntoTuple_X11_raw : GoodIn w_f_X3_gatherIntoTuple w_y_X11_raw := goodIn_sub (fun w h => (List.mem_cons.mp h).elim (fun e => (List.mem_cons_of_mem _ (List.mem_append_left _ (List.mem_append_right _ (List.mem_append_right _ (List.mem_append_right _ (List.mem_append_left _ (List.mem_cons.mpr (Or.inl e))))))))) (fun h => (List.mem_append.mp h).elim (fun h => (List.mem_cons_of_mem _ (List.mem_append_left _ (List.mem_append_right _ (List.mem_append_right _ (List.mem_append_right _ (List.mem_append_left _ (List.mem_cons_of_mem _ h)))))))) (fun h => List.mem_cons_of_mem _ (List.mem_append_right _ h)))) w_y_X11_raw_good
theorem g_y_X3_gatherIntoTuple_X11_raw_SN182 : GoodIn w_f_X3_gatherIntoTuple w_y_X11_raw := gg_f_X3_gatherIntoTuple_X11_raw
theorem gg_f_X3_gatherIntoTuple_X11_unraw : GoodIn w_f_X3_gatherIntoTuple w_y_X11_unraw := goodIn_sub (fun w h => (List.mem_cons.mp h).elim (fun e => (List.mem_cons_of_mem _ (List.mem_append_left _ (List.mem_append_right _ (List.mem_append_left _ (List.mem_cons.mpr (Or.inl e))))))) (fun h => (List.mem_append.mp h).elim (fun h => (List.mem_cons_of_mem _ (List.mem_append_left _ (List.mem_append_right _ (List.mem_append_left _ (List.mem_cons_of_mem _ h)))))) (fun h => List.mem_cons_of_mem _ (List.mem_append_right _ h)))) w_y_X11_unraw_good
theorem g_y_X3_gatherIntoTuple_X11_unraw_SN388 : GoodIn w_f_X3_gatherIntoTuple w_y_X11_unraw := gg_f_X3_gatherIntoTuple_X11_unraw
theorem gg_f_X3_gatherIntoTuple_X1_size : GoodIn w_f_X3_gatherIntoTuple w_y_X1_size := goodIn_sub (fun w h => (List.mem_cons.mp h).elim (fun e => (List.mem_cons_of_mem _ (List.mem_append_left _ (List.mem_append_right _ (List.mem_append_right _ (List.mem_append_left _ (List.mem_cons.mpr (Or.inl e)))))))) (fun h => (List.mem_append.mp h).elim (fun h => (List.mem_cons_of_mem _ (List.mem_append_left _ (List.mem_append_right _ (List.mem_append_right _ (List.mem_append_left _ (List.mem_cons_of_mem _ h))))))) (fun h => List.mem_cons_of_mem _ (List.mem_append_right _ h)))) w_y_X1_size_good
theorem g_y_X3_gatherIntoTuple_X1_size_V316 : GoodIn w_f_X3_gatherIntoTuple (wsV RX3 316 RX1 yX1_size w_y_X1_size) := goodIn_app (nb_g4 (List.mem_cons_of_mem _ (List.mem_append_left _ (List.mem_append_left _ (List.mem_of_getElem? (i := 6) rfl)))) (List.mem_cons_of_mem _ (List.mem_append_left _ (List.mem_append_left _ (List.mem_of_getElem? (i := 7) rfl)))) (List.mem_cons_of_mem _ (List.mem_append_left _ (List.mem_append_left _ (List.mem_of_getElem? (i := 8) rfl)))) (List.mem_cons_of_mem _ (List.mem_append_left _ (List.mem_append_left _ (List.mem_of_getElem? (i := 9) rfl)))) (by decide +kernel)) gg_f_X3_gatherIntoTuple_X1_size
set_option maxHeartbeats 40000000 in
set_option maxRecDepth 100000 in
theorem c_f_X3_gatherIntoTuple (l : Launch) (hl0 : l.stackTraces = false) (dC : Nat → ClassId) (dI : Nat → Nat → Nat) (cy : Nat → ClassId) (ek a : Nat → Nat) (k0 : Nat) (L0 : LV) (σ0 : CS) (r0 : RS) (h0 : f_X3_gatherIntoTuple k0 0 L0 σ0 = some r0) (z : Nat → Nat) (sz : Nat) : vx_Met l yX3_gatherIntoTuple w_f_X3_gatherIntoTuple ({ frames := 5, cells := r0.2.2.1, slots := r0.2.2.2, locals := 156 }) (va_Pc [.ref (a 18), .int (L0.1 1)] (nInF (dC, dI) cy ek sz (vC cy a z σ0))) (xV dC dI cy a (va_A (vC cy a z σ0) sz) [20] z r0) (xX dC dI cy a (va_A (vC cy a z σ0) sz) [20] z r0) r0.2.2.1 r0.2.2.2 (va_A (vC cy a z σ0) sz) := by
  refine vx_ofW (cc := cX3_gatherIntoTuple) (maxL := 6) (ret := none) (by decide) rfl ?_
  intro p e s m args below meth c s₁ B hml hno hv
  obtain ⟨rfl, ⟨⟨hsz, hP, hK, hD0, hG⟩, hE⟩, hT⟩ := hv
  have hx := B.exec
  have hb := B.bytes
  have hr := B.returns
  have hts := atoms_spec (ws := w_f_X3_gatherIntoTuple) B.pre
  have hown : s.vm.findClass RX3 = some m.cls := findClass_of_methodNamed B.named
  have hlocks := B.notSynchronized
  subst hsz
  have hD := hD0.self (sz := s.heap.size)
  generalize hAe : va_A (vC cy a z σ0) s.heap.size = A at hD hE hT ⊢
  have hA : ∀ q : Nat, s.heap.size ≤ q → A q := fun q h => by rw [← hAe]; exact Or.inr h
  have hS : va_S A s.heap s.heap [] := va_S.rf
  have hl := lv_entry ([.ref (a 18), .int (L0.1 1)]) (n := 6) (Nat.le_of_ble_eq_true rfl)
  rw [lg_entry_eq]
  generalize (lg_sl ([.ref (a 18), .int (L0.1 1)]) ++ List.replicate (6 - (lg_sl ([.ref (a 18), .int (L0.1 1)])).length) Slot.unset).toArray = ls at hl ⊢
  have hl : lv_has ls 6 [(0, .ref (a 18)), (1, .int (L0.1 1))] := hl
  generalize hmc : r0.2.2.1 = mc
  generalize hms : r0.2.2.2 = ms
  have blk : ∀ k : Nat, (bX p l e (headSpec w_f_X3_gatherIntoTuple ({ frames := 5, cells := mc, slots := ms, locals := 156 })).room s m #[.ref (a 18), .int (L0.1 1)] below meth c dC dI cy a A (fun r => vx_MQ below (xV dC dI cy a A [20] z r) (xX dC dI cy a A [20] z r) #[.ref (a 18), .int (L0.1 1)] s mc ms A) [20] z mc ms 6 (f_X3_gatherIntoTuple k 0) (fun z L => [(0, .ref (a 18)), (1, .int (L.1 1))]) 0 (fun z L => [])) ∧ (bX p l e (headSpec w_f_X3_gatherIntoTuple ({ frames := 5, cells := mc, slots := ms, locals := 156 })).room s m #[.ref (a 18), .int (L0.1 1)] below meth c dC dI cy a A (fun r => vx_MQ below (xV dC dI cy a A [20] z r) (xX dC dI cy a A [20] z r) #[.ref (a 18), .int (L0.1 1)] s mc ms A) [20] z mc ms 6 (f_X3_gatherIntoTuple k 1) (fun z L => []) 56 (fun z L => [])) ∧ (bX p l e (headSpec w_f_X3_gatherIntoTuple ({ frames := 5, cells := mc, slots := ms, locals := 156 })).room s m #[.ref (a 18), .int (L0.1 1)] below meth c dC dI cy a A (fun r => vx_MQ below (xV dC dI cy a A [20] z r) (xX dC dI cy a A [20] z r) #[.ref (a 18), .int (L0.1 1)] s mc ms A) [20] z mc ms 6 (f_X3_gatherIntoTuple k 2) (fun z L => [(0, .ref (a 18)), (1, .int (L.1 1)), (2, .int (L.1 2)), (3, .int (L.1 3))]) 57 (fun z L => [])) ∧ (bX p l e (headSpec w_f_X3_gatherIntoTuple ({ frames := 5, cells := mc, slots := ms, locals := 156 })).room s m #[.ref (a 18), .int (L0.1 1)] below meth c dC dI cy a A (fun r => vx_MQ below (xV dC dI cy a A [20] z r) (xX dC dI cy a A [20] z r) #[.ref (a 18), .int (L0.1 1)] s mc ms A) [20] z mc ms 6 (f_X3_gatherIntoTuple k 3) (fun z L => [(0, .ref (a 18)), (1, .int (L.1 1)), (2, .int (L.1 2)), (4, .int (L.1 4))]) 111 (fun z L => [])) ∧ (bX p l e (headSpec w_f_X3_gatherIntoTuple ({ frames := 5, cells := mc, slots := ms, locals := 156 })).room s m #[.ref (a 18), .int (L0.1 1)] below meth c dC dI cy a A (fun r => vx_MQ below (xV dC dI cy a A [20] z r) (xX dC dI cy a A [20] z r) #[.ref (a 18), .int (L0.1 1)] s mc ms A) [20] z mc ms 6 (f_X3_gatherIntoTuple k 4) (fun z L => [(0, .ref (a 18))]) 90 (fun z L => [])) ∧ (bX p l e (headSpec w_f_X3_gatherIntoTuple ({ frames := 5, cells := mc, slots := ms, locals := 156 })).room s m #[.ref (a 18), .int (L0.1 1)] below meth c dC dI cy a A (fun r => vx_MQ below (xV dC dI cy a A [20] z r) (xX dC dI cy a A [20] z r) #[.ref (a 18), .int (L0.1 1)] s mc ms A) [20] z mc ms 6 (f_X3_gatherIntoTuple k 5) (fun z L => [(0, .ref (a 18)), (4, .int (L.1 4)), (5, .int (L.1 5))]) 162 (fun z L => [])) := by
    intro k
    induction k with
    | zero => exact ⟨fun z c1 c2 L σ r h => (by cases h), fun z c1 c2 L σ r h => (by cases h), fun z c1 c2 L σ r h => (by cases h), fun z c1 c2 L σ r h => (by cases h), fun z c1 c2 L σ r h => (by cases h), fun z c1 c2 L σ r h => (by cases h)⟩
    | succ k ih =>
      refine ⟨?_, ?_, ?_, ?_, ?_, ?_⟩
      · intro z cells slots L σ r h hzk hc hs H locs ls hP hD hS hl
        rw [f_X3_gatherIntoTuple] at h
        refine lv_aload_n hx hb dX3_gatherIntoTuple_0 rfl (lv_at hl 0 rfl) ?_
        refine hg_18_7 hx hb hts in_f_X3_gatherIntoTuple_X3 hown hK hP (hts _ (List.mem_cons_of_mem _ (List.mem_append_left _ (List.mem_append_left _ (List.mem_of_getElem? (i := 0) rfl))))) dX3_gatherIntoTuple_1 ?_
        refine lv_aload_n hx hb dX3_gatherIntoTuple_4 rfl (lv_at hl 0 rfl) ?_
        refine hg_18_5 hx hb hts in_f_X3_gatherIntoTuple_X3 hown hK hP (hts _ (List.mem_cons_of_mem _ (List.mem_append_left _ (List.mem_append_left _ (List.mem_of_getElem? (i := 1) rfl))))) dX3_gatherIntoTuple_5 ?_
        refine hg_19_2n hx hb hts in_f_X3_gatherIntoTuple_X8 hown hK hP (va_Nw.use rfl (hG.1 _ (List.mem_of_getElem? (i := 10) rfl))) dX3_gatherIntoTuple_8 ?_
        refine lv_iconst (v := 2) hx hb dX3_gatherIntoTuple_11 (by decide) ?_
        refine lv_isub hx hb dX3_gatherIntoTuple_12 ?_
        obtain ⟨q1, h⟩ := kr_ite1 h
        refine hl_20 hx hb hK hP q1 dX3_gatherIntoTuple_13 ?_
        obtain ⟨r2, hc2, h⟩ := op_ex h
        refine kc_i (va_runSN (As := [.int (σ.2.2.1 20 ((((σ.1 1902)) - 2)).toNatClampNeg)]) (rest := []) ⟨hx, hb, hml, hown, hts⟩ (c_y_X11_unraw l dC dI cy a z k (lI lZ 0 ((σ.2.2.1 20 ((((σ.1 1902)) - 2)).toNatClampNeg))) σ r2 hc2 H.size) ⟨va_cnB 1 hts g_y_X3_gatherIntoTuple_X11_unraw_SN388 rfl rfl rfl (hG.1 _ (List.mem_of_getElem? (i := 104) rfl)) (hts _ (List.mem_cons_of_mem _ (List.mem_append_left _ (List.mem_append_left _ (List.mem_of_getElem? (i := 2) rfl))))) hd_y_X11_unraw ⟨Nat.le_of_ble_eq_true rfl, Nat.le_of_ble_eq_true rfl⟩, (hts _ (List.mem_cons_of_mem _ (List.mem_append_left _ (List.mem_append_left _ (List.mem_of_getElem? (i := 3) rfl))))), trivial⟩ ⟨nb_blind, (kb_pre hK hG hP hD)⟩ rfl rfl hl.1 rfl (lv_room (Nat.le_of_ble_eq_true rfl)) dX3_gatherIntoTuple_14 ⟨(Nat.le_trans (Nat.le_add_right _ _) (Nat.le_of_eq hc)), (Nat.le_trans (Nat.le_add_right _ _) (Nat.le_of_eq hs))⟩) hA hP hD hS (fun H locs hP hD hS => ?_)
        refine lv_istore_n (lv' := [(2, .int r2.1), (0, .ref (a 18)), (1, .int (L.1 1))]) hx hb dX3_gatherIntoTuple_17 rfl hl (by decide) rfl (fun ls hl => ?_)
        refine lv_aload_n hx hb dX3_gatherIntoTuple_18 rfl (lv_at hl 1 rfl) ?_
        refine hg_18_7 hx hb hts in_f_X3_gatherIntoTuple_X3 hown hK hP (hts _ (List.mem_cons_of_mem _ (List.mem_append_left _ (List.mem_append_left _ (List.mem_of_getElem? (i := 0) rfl))))) dX3_gatherIntoTuple_19 ?_
        refine lv_aload_n hx hb dX3_gatherIntoTuple_22 rfl (lv_at hl 1 rfl) ?_
        refine hg_18_5 hx hb hts in_f_X3_gatherIntoTuple_X3 hown hK hP (hts _ (List.mem_cons_of_mem _ (List.mem_append_left _ (List.mem_append_left _ (List.mem_of_getElem? (i := 1) rfl))))) dX3_gatherIntoTuple_23 ?_
        refine hg_19_2n hx hb hts in_f_X3_gatherIntoTuple_X8 hown hK hP (va_Nw.use rfl (hG.1 _ (List.mem_of_getElem? (i := 10) rfl))) dX3_gatherIntoTuple_26 ?_
        refine lv_iconst (v := 1) hx hb dX3_gatherIntoTuple_29 (by decide) ?_
        refine lv_isub hx hb dX3_gatherIntoTuple_30 ?_
        obtain ⟨q3, h⟩ := kr_ite1 h
        refine hl_20 hx hb hK hP q3 dX3_gatherIntoTuple_31 ?_
        obtain ⟨r4, hc4, h⟩ := op_ex h
        refine kc_i (va_runSN (As := [.int (r2.2.2.2.1 20 ((((r2.2.1 1902)) - 1)).toNatClampNeg)]) (rest := []) ⟨hx, hb, hml, hown, hts⟩ (c_y_X11_unraw l dC dI cy a z k (lI lZ 0 ((r2.2.2.2.1 20 ((((r2.2.1 1902)) - 1)).toNatClampNeg))) r2.2 r4 hc4 H.size) ⟨va_cnB 1 hts g_y_X3_gatherIntoTuple_X11_unraw_SN388 rfl rfl rfl (hG.1 _ (List.mem_of_getElem? (i := 104) rfl)) (hts _ (List.mem_cons_of_mem _ (List.mem_append_left _ (List.mem_append_left _ (List.mem_of_getElem? (i := 2) rfl))))) hd_y_X11_unraw ⟨Nat.le_of_ble_eq_true rfl, Nat.le_of_ble_eq_true rfl⟩, (hts _ (List.mem_cons_of_mem _ (List.mem_append_left _ (List.mem_append_left _ (List.mem_of_getElem? (i := 3) rfl))))), trivial⟩ ⟨nb_blind, (kb_pre hK hG hP hD)⟩ rfl rfl hl.1 rfl (lv_room (Nat.le_of_ble_eq_true rfl)) dX3_gatherIntoTuple_32 ⟨(Nat.le_trans (Nat.le_add_right _ _) (Nat.le_of_eq hc)), (Nat.le_trans (Nat.le_add_right _ _) (Nat.le_of_eq hs))⟩) hA hP hD hS (fun H locs hP hD hS => ?_)
        refine lv_istore_n (lv' := [(3, .int r4.1), (2, .int r2.1), (0, .ref (a 18)), (1, .int (L.1 1))]) hx hb dX3_gatherIntoTuple_35 rfl hl (by decide) rfl (fun ls hl => ?_)
        refine lv_iload_n hx hb dX3_gatherIntoTuple_36 rfl (lv_at hl 0 rfl) ?_
        refine lv_sipush (v := 2000) hx hb dX3_gatherIntoTuple_37 (by decide) ?_
        refine lv_icmp_gt (tgt := 56) hx hb dX3_gatherIntoTuple_40 (by decide) (fun c5 => ?_) (fun c5 => ?_)
        · rw [if_pos c5] at h
          exact ih.2.1 z _ _ L r4.2 _ h hzk hc hs H locs ls hP hD hS (lv_sub hl [] rfl)
        · rw [if_neg c5] at h
          refine lv_iload_n hx hb dX3_gatherIntoTuple_43 rfl (lv_at hl 3 rfl) ?_
          refine lv_ldc (v := (-2147483648)) hx hb hown (hts _ (List.mem_cons_of_mem _ (List.mem_append_left _ (List.mem_append_left _ (List.mem_of_getElem? (i := 4) rfl))))) dX3_gatherIntoTuple_44 ?_
          refine lv_icmp_ne (tgt := 57) hx hb dX3_gatherIntoTuple_46 (by decide) (fun c6 => ?_) (fun c6 => ?_)
          · rw [if_neg c6] at h
            exact ih.2.2.1 z _ _ (lI (lI L 2 r2.1) 3 r4.1) r4.2 _ h hzk hc hs H locs ls hP hD hS (lv_sub hl [2, 3, 1, 0] rfl)
          · rw [if_pos c6] at h
            refine lv_iload_n hx hb dX3_gatherIntoTuple_49 rfl (lv_at hl 1 rfl) ?_
            refine lv_sipush (v := 1000) hx hb dX3_gatherIntoTuple_50 (by decide) ?_
            refine lv_icmp_lt (tgt := 57) hx hb dX3_gatherIntoTuple_53 (by decide) (fun c7 => ?_) (fun c7 => ?_)
            · rw [if_pos c7] at h
              exact ih.2.2.1 z _ _ (lI (lI L 2 r2.1) 3 r4.1) r4.2 _ h hzk hc hs H locs ls hP hD hS (lv_sub hl [2, 3, 1, 0] rfl)
            · rw [if_neg c7] at h
              exact ih.2.1 z _ _ L r4.2 _ h hzk hc hs H locs ls hP hD hS (lv_sub hl [] rfl)
      · intro z cells slots L σ r h hzk hc hs H locs ls hP hD hS hl
        rw [f_X3_gatherIntoTuple] at h
        obtain rfl := Option.some.inj h
        subst hc
        subst hs
        exact xr_v hx hb hr hK hzk hP hD hS hlocks dX3_gatherIntoTuple_56
      · intro z cells slots L σ r h hzk hc hs H locs ls hP hD hS hl
        rw [f_X3_gatherIntoTuple] at h
        refine lv_iload_n hx hb dX3_gatherIntoTuple_57 rfl (lv_at hl 3 rfl) ?_
        refine lv_aload_n hx hb dX3_gatherIntoTuple_58 rfl (lv_at hl 0 rfl) ?_
        refine hg_18_0 hx hb hts in_f_X3_gatherIntoTuple_X3 hown hK hP (hts _ (List.mem_cons_of_mem _ (List.mem_append_left _ (List.mem_append_left _ (List.mem_of_getElem? (i := 5) rfl))))) dX3_gatherIntoTuple_59 ?_
        refine lv_iload_n hx hb dX3_gatherIntoTuple_62 rfl (lv_at hl 1 rfl) ?_
        obtain ⟨r1, hc1, h⟩ := op_ex h
        refine kc_i (va_runV (As := [.int (L.1 1)]) (rest := [.int (L.1 3)]) ⟨hx, hb, hml, hown, hts⟩ (c_y_X1_size l dC dI cy a z k (lI lZ 1 ((L.1 1))) σ r1 hc1 H.size) (cwV 1 hts g_y_X3_gatherIntoTuple_X1_size_V316 rfl rfl rfl hd_y_X1_size ⟨Nat.le_of_ble_eq_true rfl, Nat.le_of_ble_eq_true rfl⟩) ⟨nb_blind, va_recv hK hP (ci := 1) (q0 := 0) rfl rfl, (kb_pre hK hG hP hD)⟩ rfl rfl hl.1 rfl (lv_room (Nat.le_of_ble_eq_true rfl)) dX3_gatherIntoTuple_63 ⟨(Nat.le_trans (Nat.le_add_right _ _) (Nat.le_of_eq hc)), (Nat.le_trans (Nat.le_add_right _ _) (Nat.le_of_eq hs))⟩) hA hP hD hS (fun H locs hP hD hS => ?_)
        refine lv_iadd hx hb dX3_gatherIntoTuple_66 ?_
        refine lv_istore (lv' := [(4, .int (((L.1 3)) + r1.1)), (0, .ref (a 18)), (1, .int (L.1 1)), (2, .int (L.1 2)), (3, .int (L.1 3))]) hx hb dX3_gatherIntoTuple_67 hl (by decide) rfl (fun ls hl => ?_)
        refine lv_iload_n hx hb dX3_gatherIntoTuple_69 rfl (lv_at hl 2 rfl) ?_
        refine lv_ldc (v := (-2147483648)) hx hb hown (hts _ (List.mem_cons_of_mem _ (List.mem_append_left _ (List.mem_append_left _ (List.mem_of_getElem? (i := 4) rfl))))) dX3_gatherIntoTuple_70 ?_
        refine lv_icmp_eq (tgt := 111) hx hb dX3_gatherIntoTuple_72 (by decide) (fun c2 => ?_) (fun c2 => ?_)
        · rw [if_pos c2] at h
          exact ih.2.2.2.1 z _ _ (lI L 4 ((((L.1 3)) + r1.1))) r1.2 _ h hzk hc hs H locs ls hP hD hS (lv_sub hl [1, 2, 3, 0] rfl)
        · rw [if_neg c2] at h
          refine lv_iload hx hb dX3_gatherIntoTuple_75 (lv_at hl 0 rfl) ?_
          refine lv_sipush (v := 1000) hx hb dX3_gatherIntoTuple_77 (by decide) ?_
          refine lv_icmp_gt (tgt := 90) hx hb dX3_gatherIntoTuple_80 (by decide) (fun c3 => ?_) (fun c3 => ?_)
          · rw [if_pos c3] at h
            exact ih.2.2.2.2.1 z _ _ L r1.2 _ h hzk hc hs H locs ls hP hD hS (lv_sub hl [1] rfl)
          · rw [if_neg c3] at h
            refine lv_iload_n hx hb dX3_gatherIntoTuple_83 rfl (lv_at hl 3 rfl) ?_
            refine lv_sipush (v := 1000) hx hb dX3_gatherIntoTuple_84 (by decide) ?_
            refine lv_icmp_lt (tgt := 111) hx hb dX3_gatherIntoTuple_87 (by decide) (fun c4 => ?_) (fun c4 => ?_)
            · rw [if_pos c4] at h
              exact ih.2.2.2.1 z _ _ (lI L 4 ((((L.1 3)) + r1.1))) r1.2 _ h hzk hc hs H locs ls hP hD hS (lv_sub hl [1, 2, 3, 0] rfl)
            · rw [if_neg c4] at h
              exact ih.2.2.2.2.1 z _ _ L r1.2 _ h hzk hc hs H locs ls hP hD hS (lv_sub hl [1] rfl)
      · intro z cells slots L σ r h hzk hc hs H locs ls hP hD hS hl
        rw [f_X3_gatherIntoTuple] at h
        refine lv_aload_n hx hb dX3_gatherIntoTuple_111 rfl (lv_at hl 0 rfl) ?_
        refine hg_18_7 hx hb hts in_f_X3_gatherIntoTuple_X3 hown hK hP (hts _ (List.mem_cons_of_mem _ (List.mem_append_left _ (List.mem_append_left _ (List.mem_of_getElem? (i := 0) rfl))))) dX3_gatherIntoTuple_112 ?_
        refine lv_aload_n hx hb dX3_gatherIntoTuple_115 rfl (lv_at hl 0 rfl) ?_
        refine hg_18_5 hx hb hts in_f_X3_gatherIntoTuple_X3 hown hK hP (hts _ (List.mem_cons_of_mem _ (List.mem_append_left _ (List.mem_append_left _ (List.mem_of_getElem? (i := 1) rfl))))) dX3_gatherIntoTuple_116 ?_
        refine hg_19_2n hx hb hts in_f_X3_gatherIntoTuple_X8 hown hK hP (va_Nw.use rfl (hG.1 _ (List.mem_of_getElem? (i := 10) rfl))) dX3_gatherIntoTuple_119 ?_
        refine lv_iconst (v := 1) hx hb dX3_gatherIntoTuple_122 (by decide) ?_
        refine lv_isub hx hb dX3_gatherIntoTuple_123 ?_
        obtain ⟨q1, h⟩ := kr_ite1 h
        refine hl_20 hx hb hK hP q1 dX3_gatherIntoTuple_124 ?_
        refine lv_istore (lv' := [(5, .int (σ.2.2.1 20 ((((σ.1 1902)) - 1)).toNatClampNeg)), (0, .ref (a 18)), (1, .int (L.1 1)), (2, .int (L.1 2)), (4, .int (L.1 4))]) hx hb dX3_gatherIntoTuple_125 hl (by decide) rfl (fun ls hl => ?_)
        refine lv_aload_n hx hb dX3_gatherIntoTuple_127 rfl (lv_at hl 1 rfl) ?_
        refine hg_18_7 hx hb hts in_f_X3_gatherIntoTuple_X3 hown hK hP (hts _ (List.mem_cons_of_mem _ (List.mem_append_left _ (List.mem_append_left _ (List.mem_of_getElem? (i := 0) rfl))))) dX3_gatherIntoTuple_128 ?_
        refine lv_aload_n hx hb dX3_gatherIntoTuple_131 rfl (lv_at hl 1 rfl) ?_
        refine hg_18_5 hx hb hts in_f_X3_gatherIntoTuple_X3 hown hK hP (hts _ (List.mem_cons_of_mem _ (List.mem_append_left _ (List.mem_append_left _ (List.mem_of_getElem? (i := 1) rfl))))) dX3_gatherIntoTuple_132 ?_
        refine hg_19_2n hx hb hts in_f_X3_gatherIntoTuple_X8 hown hK hP (va_Nw.use rfl (hG.1 _ (List.mem_of_getElem? (i := 10) rfl))) dX3_gatherIntoTuple_135 ?_
        refine lv_iconst (v := 2) hx hb dX3_gatherIntoTuple_138 (by decide) ?_
        refine lv_isub hx hb dX3_gatherIntoTuple_139 ?_
        refine lv_iload_n hx hb dX3_gatherIntoTuple_140 rfl (lv_at hl 2 rfl) ?_
        obtain ⟨q2, h⟩ := kr_ite1 h
        refine hs_20 hx hb hK hP hD hS q2 dX3_gatherIntoTuple_141 (fun H locs hP hD hS => ?_)
        refine lv_aload_n hx hb dX3_gatherIntoTuple_142 rfl (lv_at hl 1 rfl) ?_
        refine hg_18_7 hx hb hts in_f_X3_gatherIntoTuple_X3 hown hK hP (hts _ (List.mem_cons_of_mem _ (List.mem_append_left _ (List.mem_append_left _ (List.mem_of_getElem? (i := 0) rfl))))) dX3_gatherIntoTuple_143 ?_
        refine lv_aload_n hx hb dX3_gatherIntoTuple_146 rfl (lv_at hl 1 rfl) ?_
        refine hg_18_5 hx hb hts in_f_X3_gatherIntoTuple_X3 hown hK hP (hts _ (List.mem_cons_of_mem _ (List.mem_append_left _ (List.mem_append_left _ (List.mem_of_getElem? (i := 1) rfl))))) dX3_gatherIntoTuple_147 ?_
        refine hg_19_2n hx hb hts in_f_X3_gatherIntoTuple_X8 hown hK hP (va_Nw.use rfl (hG.1 _ (List.mem_of_getElem? (i := 10) rfl))) dX3_gatherIntoTuple_150 ?_
        refine lv_iconst (v := 1) hx hb dX3_gatherIntoTuple_153 (by decide) ?_
        refine lv_isub hx hb dX3_gatherIntoTuple_154 ?_
        refine lv_iload_n hx hb dX3_gatherIntoTuple_155 rfl (lv_at hl 3 rfl) ?_
        refine lv_iconst (v := 1) hx hb dX3_gatherIntoTuple_156 (by decide) ?_
        refine lv_iadd hx hb dX3_gatherIntoTuple_157 ?_
        obtain ⟨r3, hc3, h⟩ := op_ex h
        refine kc_i (va_runSN (As := [.int (((L.1 2)) + 1)]) (rest := [.int ((((uA σ 20 ((((σ.1 1902)) - 2)).toNatClampNeg ((L.1 1))).1 1902)) - 1), .ref (z 20)]) ⟨hx, hb, hml, hown, hts⟩ (c_y_X11_raw l dC dI cy a z k (lI lZ 0 ((((L.1 2)) + 1))) (uA σ 20 ((((σ.1 1902)) - 2)).toNatClampNeg ((L.1 1))) r3 hc3 H.size) ⟨va_cnB 1 hts g_y_X3_gatherIntoTuple_X11_raw_SN182 rfl rfl rfl (hG.1 _ (List.mem_of_getElem? (i := 103) rfl)) (hts _ (List.mem_cons_of_mem _ (List.mem_append_left _ (List.mem_append_left _ (List.mem_of_getElem? (i := 2) rfl))))) hd_y_X11_raw ⟨Nat.le_of_ble_eq_true rfl, Nat.le_of_ble_eq_true rfl⟩, (hts _ (List.mem_cons_of_mem _ (List.mem_append_left _ (List.mem_append_left _ (List.mem_of_getElem? (i := 10) rfl))))), trivial⟩ ⟨nb_blind, (kb_pre hK hG hP hD)⟩ rfl rfl hl.1 rfl (lv_room (Nat.le_of_ble_eq_true rfl)) dX3_gatherIntoTuple_158 ⟨(Nat.le_trans (Nat.le_add_right _ _) (Nat.le_of_eq hc)), (Nat.le_trans (Nat.le_add_right _ _) (Nat.le_of_eq hs))⟩) hA hP hD hS (fun H locs hP hD hS => ?_)
        obtain ⟨q4, h⟩ := kr_ite1 h
        refine hs_20 hx hb hK hP hD hS q4 dX3_gatherIntoTuple_161 (fun H locs hP hD hS => ?_)
        exact ih.2.2.2.2.2 z _ _ (lI L 5 ((σ.2.2.1 20 ((((σ.1 1902)) - 1)).toNatClampNeg))) (uA r3.2 20 (((((uA σ 20 ((((σ.1 1902)) - 2)).toNatClampNeg ((L.1 1))).1 1902)) - 1)).toNatClampNeg r3.1) _ h hzk hc hs H locs ls hP hD hS (lv_sub hl [1, 4, 0] rfl)
      · intro z cells slots L σ r h hzk hc hs H locs ls hP hD hS hl
        rw [f_X3_gatherIntoTuple] at h
        refine lv_aload_n hx hb dX3_gatherIntoTuple_90 rfl (lv_at hl 0 rfl) ?_
        refine hg_18_7 hx hb hts in_f_X3_gatherIntoTuple_X3 hown hK hP (hts _ (List.mem_cons_of_mem _ (List.mem_append_left _ (List.mem_append_left _ (List.mem_of_getElem? (i := 0) rfl))))) dX3_gatherIntoTuple_91 ?_
        refine lv_aload_n hx hb dX3_gatherIntoTuple_94 rfl (lv_at hl 0 rfl) ?_
        refine hg_18_5 hx hb hts in_f_X3_gatherIntoTuple_X3 hown hK hP (hts _ (List.mem_cons_of_mem _ (List.mem_append_left _ (List.mem_append_left _ (List.mem_of_getElem? (i := 1) rfl))))) dX3_gatherIntoTuple_95 ?_
        refine hg_19_2n hx hb hts in_f_X3_gatherIntoTuple_X8 hown hK hP (va_Nw.use rfl (hG.1 _ (List.mem_of_getElem? (i := 10) rfl))) dX3_gatherIntoTuple_98 ?_
        refine lv_iconst (v := 1) hx hb dX3_gatherIntoTuple_101 (by decide) ?_
        refine lv_isub hx hb dX3_gatherIntoTuple_102 ?_
        refine lv_sipush (v := 3000) hx hb dX3_gatherIntoTuple_103 (by decide) ?_
        obtain ⟨r1, hc1, h⟩ := op_ex h
        refine kc_i (va_runSN (As := [.int 3000]) (rest := [.int (((σ.1 1902)) - 1), .ref (z 20)]) ⟨hx, hb, hml, hown, hts⟩ (c_y_X11_raw l dC dI cy a z k (lI lZ 0 3000) σ r1 hc1 H.size) ⟨va_cnB 1 hts g_y_X3_gatherIntoTuple_X11_raw_SN182 rfl rfl rfl (hG.1 _ (List.mem_of_getElem? (i := 103) rfl)) (hts _ (List.mem_cons_of_mem _ (List.mem_append_left _ (List.mem_append_left _ (List.mem_of_getElem? (i := 2) rfl))))) hd_y_X11_raw ⟨Nat.le_of_ble_eq_true rfl, Nat.le_of_ble_eq_true rfl⟩, (hts _ (List.mem_cons_of_mem _ (List.mem_append_left _ (List.mem_append_left _ (List.mem_of_getElem? (i := 10) rfl))))), trivial⟩ ⟨nb_blind, (kb_pre hK hG hP hD)⟩ rfl rfl hl.1 rfl (lv_room (Nat.le_of_ble_eq_true rfl)) dX3_gatherIntoTuple_106 ⟨(Nat.le_trans (Nat.le_add_right _ _) (Nat.le_of_eq hc)), (Nat.le_trans (Nat.le_add_right _ _) (Nat.le_of_eq hs))⟩) hA hP hD hS (fun H locs hP hD hS => ?_)
        obtain ⟨q2, h⟩ := kr_ite1 h
        refine hs_20 hx hb hK hP hD hS q2 dX3_gatherIntoTuple_109 (fun H locs hP hD hS => ?_)
        obtain rfl := Option.some.inj h
        subst hc
        subst hs
        exact xr_v hx hb hr hK hzk hP hD hS hlocks dX3_gatherIntoTuple_110
      · intro z cells slots L σ r h hzk hc hs H locs ls hP hD hS hl
        rw [f_X3_gatherIntoTuple] at h
        refine lv_aload_n hx hb dX3_gatherIntoTuple_162 rfl (lv_at hl 0 rfl) ?_
        refine lv_iload hx hb dX3_gatherIntoTuple_163 (lv_at hl 2 rfl) ?_
        obtain ⟨r1, hc1, hle1, h9⟩ := ox_ex h
        clear h
        refine kx_v (vx_runV (As := [.int (L.1 5)]) (rest := []) ⟨hx, hb, hml, hown, hts⟩ (c_f_X3_push l hl0 dC dI cy ek a k (lI lZ 1 ((L.1 5))) σ r1 hc1 z H.size) (cwV 1 hts g_f_X3_gatherIntoTuple_X3_push_V322 rfl rfl rfl hd_f_X3_push ⟨Nat.le_of_ble_eq_true rfl, Nat.le_of_ble_eq_true rfl⟩) ⟨nb_blindF, va_recv hK hP (ci := 3) (q0 := 18) rfl rfl, (kx_pre hK hG hE hT hA hP hD hS)⟩ rfl rfl hl.1 rfl (lv_room (Nat.le_of_ble_eq_true rfl)) dX3_gatherIntoTuple_165 ⟨Nat.le_trans (Nat.add_le_add_left hle1.1 _) (Nat.le_of_eq hc), Nat.le_trans (Nat.add_le_add_left hle1.2 _) (Nat.le_of_eq hs)⟩) hK hA hzk hP hD hS (by decide) hno hlocks ?_
        rcases h9 with ⟨h00, y1, hny1, hy⟩ | ⟨h00, hy⟩
        · subst hy
          have h := hny1
          refine Or.inl ⟨h00, fun z H locs hz1 hzk hP hD hS => ?_⟩
          replace hc := (Nat.add_assoc _ _ _).trans hc
          replace hs := (Nat.add_assoc _ _ _).trans hs
          refine lv_aload_n hx hb dX3_gatherIntoTuple_168 rfl (lv_at hl 0 rfl) ?_
          refine hg_18_7 hx hb hts in_f_X3_gatherIntoTuple_X3 hown hK hP (hts _ (List.mem_cons_of_mem _ (List.mem_append_left _ (List.mem_append_left _ (List.mem_of_getElem? (i := 0) rfl))))) dX3_gatherIntoTuple_169 ?_
          refine lv_aload_n hx hb dX3_gatherIntoTuple_172 rfl (lv_at hl 0 rfl) ?_
          refine hg_18_5 hx hb hts in_f_X3_gatherIntoTuple_X3 hown hK hP (hts _ (List.mem_cons_of_mem _ (List.mem_append_left _ (List.mem_append_left _ (List.mem_of_getElem? (i := 1) rfl))))) dX3_gatherIntoTuple_173 ?_
          refine hg_19_2n hx hb hts in_f_X3_gatherIntoTuple_X8 hown hK hP (va_Nw.use rfl (hG.1 _ (List.mem_of_getElem? (i := 10) rfl))) dX3_gatherIntoTuple_176 ?_
          refine lv_iconst (v := 1) hx hb dX3_gatherIntoTuple_179 (by decide) ?_
          refine lv_isub hx hb dX3_gatherIntoTuple_180 ?_
          refine lv_iload hx hb dX3_gatherIntoTuple_181 (lv_at hl 1 rfl) ?_
          obtain ⟨r2, hc2, h⟩ := op_ex h
          refine kc_i (va_runSN (As := [.int (L.1 4)]) (rest := [.int (((r1.2.1.1 1902)) - 1), .ref (z 20)]) ⟨hx, hb, hml, hown, hts⟩ (c_y_X11_raw l dC dI cy a z k (lI lZ 0 ((L.1 4))) r1.2.1 r2 hc2 H.size) ⟨va_cnB 1 hts g_y_X3_gatherIntoTuple_X11_raw_SN182 rfl rfl rfl (hG.1 _ (List.mem_of_getElem? (i := 103) rfl)) (hts _ (List.mem_cons_of_mem _ (List.mem_append_left _ (List.mem_append_left _ (List.mem_of_getElem? (i := 2) rfl))))) hd_y_X11_raw ⟨Nat.le_of_ble_eq_true rfl, Nat.le_of_ble_eq_true rfl⟩, (hts _ (List.mem_cons_of_mem _ (List.mem_append_left _ (List.mem_append_left _ (List.mem_of_getElem? (i := 10) rfl))))), trivial⟩ ⟨nb_blind, (kb_pre hK hG hP hD)⟩ rfl rfl hl.1 rfl (lv_room (Nat.le_of_ble_eq_true rfl)) dX3_gatherIntoTuple_183 ⟨(Nat.le_trans (Nat.le_add_right _ _) (Nat.le_of_eq hc)), (Nat.le_trans (Nat.le_add_right _ _) (Nat.le_of_eq hs))⟩) hA hP hD hS (fun H locs hP hD hS => ?_)
          obtain ⟨q3, h⟩ := kr_ite1 h
          refine hs_20 hx hb hK hP hD hS q3 dX3_gatherIntoTuple_186 (fun H locs hP hD hS => ?_)
          obtain rfl := Option.some.inj h
          subst hc
          subst hs
          exact xr_v hx hb hr hK hzk hP hD hS hlocks dX3_gatherIntoTuple_187
        · subst hy
          exact Or.inr ⟨h00, rfl, hc, hs⟩
  exact (blk k0).1 z 0 0 L0 σ0 r0 h0 (zk_rf _ _) ((Nat.zero_add _).trans hmc) ((Nat.zero_add _).trans hms) s.heap [] ls hP hD hS hl
/-! X3_gathered -/
def f_X3_gathered : Nat → Nat → LV → CS → Option RS
  | 0, _, _, _ => none
  | k + 1, 0, L, σ => if ¬ (((((σ.1 1902)) - 2)) < 0 ∨ (sN σ 20) ≤ ((((σ.1 1902)) - 2)).toNatClampNeg) then (op (y_X11_unraw k 0 (lI lZ 0 ((σ.2.2.1 20 ((((σ.1 1902)) - 2)).toNatClampNeg))) σ) (fun r2 => if ¬ (((((r2.2.1 1902)) - 1)) < 0 ∨ (sN r2.2 20) ≤ ((((r2.2.1 1902)) - 1)).toNatClampNeg) then (op (y_X11_unraw k 0 (lI lZ 0 ((r2.2.2.2.1 20 ((((r2.2.1 1902)) - 1)).toNatClampNeg))) r2.2) (fun r4 => f_X3_gathered k 1 (lI (lI (lI L 2 r2.1) 3 r4.1) 4 ((((((r4.2.1 1902)) - 2)) - r2.1))) (uI r4.2 1902 ((((((r4.2.1 1902)) - 2)) - r2.1))))) else none)) else none
  | k + 1, 1, L, σ => if ((L.1 1)) = 0 then (f_X3_gathered k 2 L σ) else (if ((L.1 2)) ≤ 0 then (f_X3_gathered k 2 L σ) else (if ¬ (((L.1 4)) < 0 ∨ (sN σ 20) ≤ ((L.1 4)).toNatClampNeg) then (if ((σ.2.2.1 20 ((L.1 4)).toNatClampNeg)) = ((-2147483648)) then (op (y_X3_fail k 0 (lI lZ 1 3) σ) (fun r5 => f_X3_gathered k 3 L r5.2)) else (f_X3_gathered k 2 L σ)) else none))
  | k + 1, 2, L, σ => if ((L.1 3)) ≤ 2000 then (f_X3_gathered k 4 L σ) else (op (y_X3_fail k 0 (lI lZ 1 5) σ) (fun r2 => f_X3_gathered k 3 L r2.2))
  | k + 1, 3, L, σ => some ((0, 0), σ, (0, 0))
  | k + 1, 4, L, σ => if ((L.1 1)) = 0 then (f_X3_gathered k 5 L σ) else (op (y_X1_makeRow__z20 k 0 (lI (lI (lI lZ 1 6) 3 ((L.1 4))) 4 ((L.1 2))) σ) (fun r2 => f_X3_gathered k 6 (lI L 100 r2.1) r2.2))
  | k + 1, 5, L, σ => op (y_X1_makeTuple__z20 k 0 (lI (lI lZ 2 ((L.1 4))) 3 ((L.1 2))) σ) (fun r1 => f_X3_gathered k 6 (lI L 100 r1.1) r1.2)
  | k + 1, 6, L, σ => ox (f_X3_give k 0 (lI lZ 1 ((L.1 100))) σ) (fun r1 => f_X3_gathered k 3 L r1.2.1)
  | _ + 1, _ + 7, _, _ => none
def o_f_X3_gathered : List Cond := [.fieldLink RX3 18 "SetHouse$Machine" "stack" "[I", .fieldLink RX3 14 "SetHouse$Machine" "run" "LSetHouse$Run;", .initialized RX11, .static yX11_unraw, .constant RX3 136 (-2147483648), .methodLink RX3 313 yX3_fail, .instanceMethod yX3_fail, .selects RX3 yX3_fail yX3_fail, .initialized RX3, .fieldLink RX3 39 "SetHouse$Machine" "heap" "LSetHouse$Heap;", .methodLink RX3 532 yX1_makeRow, .instanceMethod yX1_makeRow, .selects RX1 yX1_makeRow yX1_makeRow, .initialized RX1, .methodLink RX3 438 yX1_makeTuple, .instanceMethod yX1_makeTuple, .selects RX1 yX1_makeTuple yX1_makeTuple, .methodLink RX3 391 yX3_give, .instanceMethod yX3_give, .selects RX3 yX3_give yX3_give]
theorem o_f_X3_gathered_good : o_f_X3_gathered.all goodWord = true := by decide +kernel
def p_f_X3_gathered : List Cond := o_f_X3_gathered ++ ((.code yX11_unraw cX11_unraw 1 (some .int) :: p_y_X11_unraw) ++ ((.code yX3_fail cX3_fail 2 none :: p_y_X3_fail) ++ ((.code yX1_makeRow cX1_makeRow 11 (some .int) :: p_y_X1_makeRow__z20) ++ ((.code yX1_makeTuple cX1_makeTuple 6 (some .int) :: p_y_X1_makeTuple__z20) ++ ((.code yX3_give cX3_give 2 none :: p_f_X3_give) ++ [])))))
theorem p_f_X3_gathered_good : p_f_X3_gathered.all goodWord = true := nb_all2 o_f_X3_gathered_good (nb_all2 (nb_allc (by decide +kernel) p_y_X11_unraw_good) (nb_all2 (nb_allc (by decide +kernel) p_y_X3_fail_good) (nb_all2 (nb_allc (by decide +kernel) p_y_X1_makeRow__z20_good) (nb_all2 (nb_allc (by decide +kernel) p_y_X1_makeTuple__z20_good) (nb_all2 (nb_allc (by decide +kernel) p_f_X3_give_good) rfl)))))
def w_f_X3_gathered : List Cond := .code yX3_gathered cX3_gathered 5 none :: (p_f_X3_gathered ++ fC)
theorem w_f_X3_gathered_good : w_f_X3_gathered.all goodWord = true := nb_allc (by decide +kernel) (nb_all2 p_f_X3_gathered_good fC_good)
theorem in_f_X3_gathered_X3 : ∀ w ∈ wsX30, w ∈ w_f_X3_gathered := fun _ h => List.mem_cons_of_mem _ (List.mem_append_right _ (List.mem_append_right _ (List.mem_append_right _ (List.mem_append_right _ (List.mem_append_left _ h)))))
theorem in_f_X3_gathered_X8 : ∀ w ∈ wsX80, w ∈ w_f_X3_gathered := fun _ h => List.mem_cons_of_mem _ (List.mem_append_right _ (List.mem_append_right _ (List.mem_append_right _ (List.mem_append_right _ (List.mem_append_right _ (List.mem_append_right _ (List.mem_append_right _ (List.mem_append_right _ (List.mem_append_left _ h)))))))))
theorem hd_f_X3_gathered : yX3_gathered.cls = RX3 ∧ yX3_gathered.cls ≠ "java/lang/invoke/MethodHandle" ∧ yX3_gathered.cls ≠ "java/lang/invoke/VarHandle" ∧ (parseMethodDescriptor yX3_gathered.desc).map (fun d => d.parameters.length) = some 1 := by decide +kernel
theorem gg_f_X3_gathered_X3_give : GoodIn w_f_X3_gathered w_f_X3_give := goodIn_sub (fun w h => (List.mem_cons.mp h).elim (fun e => (List.mem_cons_of_mem _ (List.mem_append_left _ (List.mem_append_right _ (List.mem_append_right _ (List.mem_append_right _ (List.mem_append_right _ (List.mem_append_right _ (List.mem_append_left _ (List.mem_cons.mpr (Or.inl e))))))))))) (fun h => (List.mem_append.mp h).elim (fun h => (List.mem_cons_of_mem _ (List.mem_append_left _ (List.mem_append_right _ (List.mem_append_right _ (List.mem_append_right _ (List.mem_append_right _ (List.mem_append_right _ (List.mem_append_left _ (List.mem_cons_of_mem _ h)))))))))) (fun h => List.mem_cons_of_mem _ (List.mem_append_right _ h)))) w_f_X3_give_good
theorem g_f_X3_gathered_X3_give_V391 : GoodIn w_f_X3_gathered (wsV RX3 391 RX3 yX3_give w_f_X3_give) := goodIn_app (nb_g4 (List.mem_cons_of_mem _ (List.mem_append_left _ (List.mem_append_left _ (List.mem_of_getElem? (i := 17) rfl)))) (List.mem_cons_of_mem _ (List.mem_append_left _ (List.mem_append_left _ (List.mem_of_getElem? (i := 18) rfl)))) (List.mem_cons_of_mem _ (List.mem_append_left _ (List.mem_append_left _ (List.mem_of_getElem? (i := 19) rfl)))) (List.mem_cons_of_mem _ (List.mem_append_left _ (List.mem_append_left _ (List.mem_of_getElem? (i := 8) rfl)))) (by decide +kernel)) gg_f_X3_gathered_X3_give
theorem gg_f_X3_gathered_X11_unraw : GoodIn w_f_X3_gathered w_y_X11_unraw := goodIn_sub (fun w h => (List.mem_cons.mp h).elim (fun e => (List.mem_cons_of_mem _ (List.mem_append_left _ (List.mem_append_right _ (List.mem_append_left _ (List.mem_cons.mpr (Or.inl e))))))) (fun h => (List.mem_append.mp h).elim (fun h => (List.mem_cons_of_mem _ (List.mem_append_left _ (List.mem_append_right _ (List.mem_append_left _ (List.mem_cons_of_mem _ h)))))) (fun h => List.mem_cons_of_mem _ (List.mem_append_right _ h)))) w_y_X11_unraw_good
theorem g_y_X3_gathered_X11_unraw_SN388 : GoodIn w_f_X3_gathered w_y_X11_unraw := gg_f_X3_gathered_X11_unraw
theorem gg_f_X3_gathered_X1_makeRow__z20 : GoodIn w_f_X3_gathered w_y_X1_makeRow__z20 := goodIn_sub (fun w h => (List.mem_cons.mp h).elim (fun e => (List.mem_cons_of_mem _ (List.mem_append_left _ (List.mem_append_right _ (List.mem_append_right _ (List.mem_append_right _ (List.mem_append_left _ (List.mem_cons.mpr (Or.inl e))))))))) (fun h => (List.mem_append.mp h).elim (fun h => (List.mem_cons_of_mem _ (List.mem_append_left _ (List.mem_append_right _ (List.mem_append_right _ (List.mem_append_right _ (List.mem_append_left _ (List.mem_cons_of_mem _ h)))))))) (fun h => List.mem_cons_of_mem _ (List.mem_append_right _ h)))) w_y_X1_makeRow__z20_good
theorem g_y_X3_gathered_X1_makeRow__z20_V532 : GoodIn w_f_X3_gathered (wsV RX3 532 RX1 yX1_makeRow w_y_X1_makeRow__z20) := goodIn_app (nb_g4 (List.mem_cons_of_mem _ (List.mem_append_left _ (List.mem_append_left _ (List.mem_of_getElem? (i := 10) rfl)))) (List.mem_cons_of_mem _ (List.mem_append_left _ (List.mem_append_left _ (List.mem_of_getElem? (i := 11) rfl)))) (List.mem_cons_of_mem _ (List.mem_append_left _ (List.mem_append_left _ (List.mem_of_getElem? (i := 12) rfl)))) (List.mem_cons_of_mem _ (List.mem_append_left _ (List.mem_append_left _ (List.mem_of_getElem? (i := 13) rfl)))) (by decide +kernel)) gg_f_X3_gathered_X1_makeRow__z20
theorem gg_f_X3_gathered_X1_makeTuple__z20 : GoodIn w_f_X3_gathered w_y_X1_makeTuple__z20 := goodIn_sub (fun w h => (List.mem_cons.mp h).elim (fun e => (List.mem_cons_of_mem _ (List.mem_append_left _ (List.mem_append_right _ (List.mem_append_right _ (List.mem_append_right _ (List.mem_append_right _ (List.mem_append_left _ (List.mem_cons.mpr (Or.inl e)))))))))) (fun h => (List.mem_append.mp h).elim (fun h => (List.mem_cons_of_mem _ (List.mem_append_left _ (List.mem_append_right _ (List.mem_append_right _ (List.mem_append_right _ (List.mem_append_right _ (List.mem_append_left _ (List.mem_cons_of_mem _ h))))))))) (fun h => List.mem_cons_of_mem _ (List.mem_append_right _ h)))) w_y_X1_makeTuple__z20_good
theorem g_y_X3_gathered_X1_makeTuple__z20_V438 : GoodIn w_f_X3_gathered (wsV RX3 438 RX1 yX1_makeTuple w_y_X1_makeTuple__z20) := goodIn_app (nb_g4 (List.mem_cons_of_mem _ (List.mem_append_left _ (List.mem_append_left _ (List.mem_of_getElem? (i := 14) rfl)))) (List.mem_cons_of_mem _ (List.mem_append_left _ (List.mem_append_left _ (List.mem_of_getElem? (i := 15) rfl)))) (List.mem_cons_of_mem _ (List.mem_append_left _ (List.mem_append_left _ (List.mem_of_getElem? (i := 16) rfl)))) (List.mem_cons_of_mem _ (List.mem_append_left _ (List.mem_append_left _ (List.mem_of_getElem? (i := 13) rfl)))) (by decide +kernel)) gg_f_X3_gathered_X1_makeTuple__z20
theorem gg_f_X3_gathered_X3_fail : GoodIn w_f_X3_gathered w_y_X3_fail := goodIn_sub (fun w h => (List.mem_cons.mp h).elim (fun e => (List.mem_cons_of_mem _ (List.mem_append_left _ (List.mem_append_right _ (List.mem_append_right _ (List.mem_append_left _ (List.mem_cons.mpr (Or.inl e)))))))) (fun h => (List.mem_append.mp h).elim (fun h => (List.mem_cons_of_mem _ (List.mem_append_left _ (List.mem_append_right _ (List.mem_append_right _ (List.mem_append_left _ (List.mem_cons_of_mem _ h))))))) (fun h => List.mem_cons_of_mem _ (List.mem_append_right _ h)))) w_y_X3_fail_good
theorem g_y_X3_gathered_X3_fail_V313 : GoodIn w_f_X3_gathered (wsV RX3 313 RX3 yX3_fail w_y_X3_fail) := goodIn_app (nb_g4 (List.mem_cons_of_mem _ (List.mem_append_left _ (List.mem_append_left _ (List.mem_of_getElem? (i := 5) rfl)))) (List.mem_cons_of_mem _ (List.mem_append_left _ (List.mem_append_left _ (List.mem_of_getElem? (i := 6) rfl)))) (List.mem_cons_of_mem _ (List.mem_append_left _ (List.mem_append_left _ (List.mem_of_getElem? (i := 7) rfl)))) (List.mem_cons_of_mem _ (List.mem_append_left _ (List.mem_append_left _ (List.mem_of_getElem? (i := 8) rfl)))) (by decide +kernel)) gg_f_X3_gathered_X3_fail
set_option maxHeartbeats 40000000 in
set_option maxRecDepth 100000 in
theorem c_f_X3_gathered (l : Launch) (hl0 : l.stackTraces = false) (dC : Nat → ClassId) (dI : Nat → Nat → Nat) (cy : Nat → ClassId) (ek a : Nat → Nat) (k0 : Nat) (L0 : LV) (σ0 : CS) (r0 : RS) (h0 : f_X3_gathered k0 0 L0 σ0 = some r0) (z : Nat → Nat) (sz : Nat) : vx_Met l yX3_gathered w_f_X3_gathered ({ frames := 6, cells := r0.2.2.1, slots := r0.2.2.2, locals := 177 }) (va_Pc [.ref (a 18), .int (L0.1 1)] (nInF (dC, dI) cy ek sz (vC cy a z σ0))) (xV dC dI cy a (va_A (vC cy a z σ0) sz) [20] z r0) (xX dC dI cy a (va_A (vC cy a z σ0) sz) [20] z r0) r0.2.2.1 r0.2.2.2 (va_A (vC cy a z σ0) sz) := by
  refine vx_ofW (cc := cX3_gathered) (maxL := 5) (ret := none) (by decide) rfl ?_
  intro p e s m args below meth c s₁ B hml hno hv
  obtain ⟨rfl, ⟨⟨hsz, hP, hK, hD0, hG⟩, hE⟩, hT⟩ := hv
  have hx := B.exec
  have hb := B.bytes
  have hr := B.returns
  have hts := atoms_spec (ws := w_f_X3_gathered) B.pre
  have hown : s.vm.findClass RX3 = some m.cls := findClass_of_methodNamed B.named
  have hlocks := B.notSynchronized
  subst hsz
  have hD := hD0.self (sz := s.heap.size)
  generalize hAe : va_A (vC cy a z σ0) s.heap.size = A at hD hE hT ⊢
  have hA : ∀ q : Nat, s.heap.size ≤ q → A q := fun q h => by rw [← hAe]; exact Or.inr h
  have hS : va_S A s.heap s.heap [] := va_S.rf
  have hl := lv_entry ([.ref (a 18), .int (L0.1 1)]) (n := 5) (Nat.le_of_ble_eq_true rfl)
  rw [lg_entry_eq]
  generalize (lg_sl ([.ref (a 18), .int (L0.1 1)]) ++ List.replicate (5 - (lg_sl ([.ref (a 18), .int (L0.1 1)])).length) Slot.unset).toArray = ls at hl ⊢
  have hl : lv_has ls 5 [(0, .ref (a 18)), (1, .int (L0.1 1))] := hl
  generalize hmc : r0.2.2.1 = mc
  generalize hms : r0.2.2.2 = ms
  have blk : ∀ k : Nat, (bX p l e (headSpec w_f_X3_gathered ({ frames := 6, cells := mc, slots := ms, locals := 177 })).room s m #[.ref (a 18), .int (L0.1 1)] below meth c dC dI cy a A (fun r => vx_MQ below (xV dC dI cy a A [20] z r) (xX dC dI cy a A [20] z r) #[.ref (a 18), .int (L0.1 1)] s mc ms A) [20] z mc ms 5 (f_X3_gathered k 0) (fun z L => [(0, .ref (a 18)), (1, .int (L.1 1))]) 0 (fun z L => [])) ∧ (bX p l e (headSpec w_f_X3_gathered ({ frames := 6, cells := mc, slots := ms, locals := 177 })).room s m #[.ref (a 18), .int (L0.1 1)] below meth c dC dI cy a A (fun r => vx_MQ below (xV dC dI cy a A [20] z r) (xX dC dI cy a A [20] z r) #[.ref (a 18), .int (L0.1 1)] s mc ms A) [20] z mc ms 5 (f_X3_gathered k 1) (fun z L => [(0, .ref (a 18)), (1, .int (L.1 1)), (2, .int (L.1 2)), (3, .int (L.1 3)), (4, .int (L.1 4))]) 58 (fun z L => [])) ∧ (bX p l e (headSpec w_f_X3_gathered ({ frames := 6, cells := mc, slots := ms, locals := 177 })).room s m #[.ref (a 18), .int (L0.1 1)] below meth c dC dI cy a A (fun r => vx_MQ below (xV dC dI cy a A [20] z r) (xX dC dI cy a A [20] z r) #[.ref (a 18), .int (L0.1 1)] s mc ms A) [20] z mc ms 5 (f_X3_gathered k 2) (fun z L => [(0, .ref (a 18)), (1, .int (L.1 1)), (2, .int (L.1 2)), (3, .int (L.1 3)), (4, .int (L.1 4))]) 86 (fun z L => [])) ∧ (bX p l e (headSpec w_f_X3_gathered ({ frames := 6, cells := mc, slots := ms, locals := 177 })).room s m #[.ref (a 18), .int (L0.1 1)] below meth c dC dI cy a A (fun r => vx_MQ below (xV dC dI cy a A [20] z r) (xX dC dI cy a A [20] z r) #[.ref (a 18), .int (L0.1 1)] s mc ms A) [20] z mc ms 5 (f_X3_gathered k 3) (fun z L => []) 142 (fun z L => [])) ∧ (bX p l e (headSpec w_f_X3_gathered ({ frames := 6, cells := mc, slots := ms, locals := 177 })).room s m #[.ref (a 18), .int (L0.1 1)] below meth c dC dI cy a A (fun r => vx_MQ below (xV dC dI cy a A [20] z r) (xX dC dI cy a A [20] z r) #[.ref (a 18), .int (L0.1 1)] s mc ms A) [20] z mc ms 5 (f_X3_gathered k 4) (fun z L => [(0, .ref (a 18)), (1, .int (L.1 1)), (2, .int (L.1 2)), (4, .int (L.1 4))]) 101 (fun z L => [])) ∧ (bX p l e (headSpec w_f_X3_gathered ({ frames := 6, cells := mc, slots := ms, locals := 177 })).room s m #[.ref (a 18), .int (L0.1 1)] below meth c dC dI cy a A (fun r => vx_MQ below (xV dC dI cy a A [20] z r) (xX dC dI cy a A [20] z r) #[.ref (a 18), .int (L0.1 1)] s mc ms A) [20] z mc ms 5 (f_X3_gathered k 5) (fun z L => [(0, .ref (a 18)), (2, .int (L.1 2)), (4, .int (L.1 4))]) 125 (fun z L => [.ref (a 18)])) ∧ (bX p l e (headSpec w_f_X3_gathered ({ frames := 6, cells := mc, slots := ms, locals := 177 })).room s m #[.ref (a 18), .int (L0.1 1)] below meth c dC dI cy a A (fun r => vx_MQ below (xV dC dI cy a A [20] z r) (xX dC dI cy a A [20] z r) #[.ref (a 18), .int (L0.1 1)] s mc ms A) [20] z mc ms 5 (f_X3_gathered k 6) (fun z L => []) 139 (fun z L => [.int (L.1 100), .ref (a 18)])) := by
    intro k
    induction k with
    | zero => exact ⟨fun z c1 c2 L σ r h => (by cases h), fun z c1 c2 L σ r h => (by cases h), fun z c1 c2 L σ r h => (by cases h), fun z c1 c2 L σ r h => (by cases h), fun z c1 c2 L σ r h => (by cases h), fun z c1 c2 L σ r h => (by cases h), fun z c1 c2 L σ r h => (by cases h)⟩
    | succ k ih =>
      refine ⟨?_, ?_, ?_, ?_, ?_, ?_, ?_⟩
      · intro z cells slots L σ r h hzk hc hs H locs ls hP hD hS hl
        rw [f_X3_gathered] at h
        refine lv_aload_n hx hb dX3_gathered_0 rfl (lv_at hl 0 rfl) ?_
        refine hg_18_7 hx hb hts in_f_X3_gathered_X3 hown hK hP (hts _ (List.mem_cons_of_mem _ (List.mem_append_left _ (List.mem_append_left _ (List.mem_of_getElem? (i := 0) rfl))))) dX3_gathered_1 ?_
        refine lv_aload_n hx hb dX3_gathered_4 rfl (lv_at hl 0 rfl) ?_
        refine hg_18_5 hx hb hts in_f_X3_gathered_X3 hown hK hP (hts _ (List.mem_cons_of_mem _ (List.mem_append_left _ (List.mem_append_left _ (List.mem_of_getElem? (i := 1) rfl))))) dX3_gathered_5 ?_
        refine hg_19_2n hx hb hts in_f_X3_gathered_X8 hown hK hP (va_Nw.use rfl (hG.1 _ (List.mem_of_getElem? (i := 10) rfl))) dX3_gathered_8 ?_
        refine lv_iconst (v := 2) hx hb dX3_gathered_11 (by decide) ?_
        refine lv_isub hx hb dX3_gathered_12 ?_
        obtain ⟨q1, h⟩ := kr_ite1 h
        refine hl_20 hx hb hK hP q1 dX3_gathered_13 ?_
        obtain ⟨r2, hc2, h⟩ := op_ex h
        refine kc_i (va_runSN (As := [.int (σ.2.2.1 20 ((((σ.1 1902)) - 2)).toNatClampNeg)]) (rest := []) ⟨hx, hb, hml, hown, hts⟩ (c_y_X11_unraw l dC dI cy a z k (lI lZ 0 ((σ.2.2.1 20 ((((σ.1 1902)) - 2)).toNatClampNeg))) σ r2 hc2 H.size) ⟨va_cnB 1 hts g_y_X3_gathered_X11_unraw_SN388 rfl rfl rfl (hG.1 _ (List.mem_of_getElem? (i := 104) rfl)) (hts _ (List.mem_cons_of_mem _ (List.mem_append_left _ (List.mem_append_left _ (List.mem_of_getElem? (i := 2) rfl))))) hd_y_X11_unraw ⟨Nat.le_of_ble_eq_true rfl, Nat.le_of_ble_eq_true rfl⟩, (hts _ (List.mem_cons_of_mem _ (List.mem_append_left _ (List.mem_append_left _ (List.mem_of_getElem? (i := 3) rfl))))), trivial⟩ ⟨nb_blind, (kb_pre hK hG hP hD)⟩ rfl rfl hl.1 rfl (lv_room (Nat.le_of_ble_eq_true rfl)) dX3_gathered_14 ⟨(Nat.le_trans (Nat.le_add_right _ _) (Nat.le_of_eq hc)), (Nat.le_trans (Nat.le_add_right _ _) (Nat.le_of_eq hs))⟩) hA hP hD hS (fun H locs hP hD hS => ?_)
        refine lv_istore_n (lv' := [(2, .int r2.1), (0, .ref (a 18)), (1, .int (L.1 1))]) hx hb dX3_gathered_17 rfl hl (by decide) rfl (fun ls hl => ?_)
        refine lv_aload_n hx hb dX3_gathered_18 rfl (lv_at hl 1 rfl) ?_
        refine hg_18_7 hx hb hts in_f_X3_gathered_X3 hown hK hP (hts _ (List.mem_cons_of_mem _ (List.mem_append_left _ (List.mem_append_left _ (List.mem_of_getElem? (i := 0) rfl))))) dX3_gathered_19 ?_
        refine lv_aload_n hx hb dX3_gathered_22 rfl (lv_at hl 1 rfl) ?_
        refine hg_18_5 hx hb hts in_f_X3_gathered_X3 hown hK hP (hts _ (List.mem_cons_of_mem _ (List.mem_append_left _ (List.mem_append_left _ (List.mem_of_getElem? (i := 1) rfl))))) dX3_gathered_23 ?_
        refine hg_19_2n hx hb hts in_f_X3_gathered_X8 hown hK hP (va_Nw.use rfl (hG.1 _ (List.mem_of_getElem? (i := 10) rfl))) dX3_gathered_26 ?_
        refine lv_iconst (v := 1) hx hb dX3_gathered_29 (by decide) ?_
        refine lv_isub hx hb dX3_gathered_30 ?_
        obtain ⟨q3, h⟩ := kr_ite1 h
        refine hl_20 hx hb hK hP q3 dX3_gathered_31 ?_
        obtain ⟨r4, hc4, h⟩ := op_ex h
        refine kc_i (va_runSN (As := [.int (r2.2.2.2.1 20 ((((r2.2.1 1902)) - 1)).toNatClampNeg)]) (rest := []) ⟨hx, hb, hml, hown, hts⟩ (c_y_X11_unraw l dC dI cy a z k (lI lZ 0 ((r2.2.2.2.1 20 ((((r2.2.1 1902)) - 1)).toNatClampNeg))) r2.2 r4 hc4 H.size) ⟨va_cnB 1 hts g_y_X3_gathered_X11_unraw_SN388 rfl rfl rfl (hG.1 _ (List.mem_of_getElem? (i := 104) rfl)) (hts _ (List.mem_cons_of_mem _ (List.mem_append_left _ (List.mem_append_left _ (List.mem_of_getElem? (i := 2) rfl))))) hd_y_X11_unraw ⟨Nat.le_of_ble_eq_true rfl, Nat.le_of_ble_eq_true rfl⟩, (hts _ (List.mem_cons_of_mem _ (List.mem_append_left _ (List.mem_append_left _ (List.mem_of_getElem? (i := 3) rfl))))), trivial⟩ ⟨nb_blind, (kb_pre hK hG hP hD)⟩ rfl rfl hl.1 rfl (lv_room (Nat.le_of_ble_eq_true rfl)) dX3_gathered_32 ⟨(Nat.le_trans (Nat.le_add_right _ _) (Nat.le_of_eq hc)), (Nat.le_trans (Nat.le_add_right _ _) (Nat.le_of_eq hs))⟩) hA hP hD hS (fun H locs hP hD hS => ?_)
        refine lv_istore_n (lv' := [(3, .int r4.1), (2, .int r2.1), (0, .ref (a 18)), (1, .int (L.1 1))]) hx hb dX3_gathered_35 rfl hl (by decide) rfl (fun ls hl => ?_)
        refine lv_aload_n hx hb dX3_gathered_36 rfl (lv_at hl 2 rfl) ?_
        refine hg_18_5 hx hb hts in_f_X3_gathered_X3 hown hK hP (hts _ (List.mem_cons_of_mem _ (List.mem_append_left _ (List.mem_append_left _ (List.mem_of_getElem? (i := 1) rfl))))) dX3_gathered_37 ?_
        refine hg_19_2n hx hb hts in_f_X3_gathered_X8 hown hK hP (va_Nw.use rfl (hG.1 _ (List.mem_of_getElem? (i := 10) rfl))) dX3_gathered_40 ?_
        refine lv_iconst (v := 2) hx hb dX3_gathered_43 (by decide) ?_
        refine lv_isub hx hb dX3_gathered_44 ?_
        refine lv_iload_n hx hb dX3_gathered_45 rfl (lv_at hl 1 rfl) ?_
        refine lv_isub hx hb dX3_gathered_46 ?_
        refine lv_istore (lv' := [(4, .int (((((r4.2.1 1902)) - 2)) - r2.1)), (3, .int r4.1), (2, .int r2.1), (0, .ref (a 18)), (1, .int (L.1 1))]) hx hb dX3_gathered_47 hl (by decide) rfl (fun ls hl => ?_)
        refine lv_aload_n hx hb dX3_gathered_49 rfl (lv_at hl 3 rfl) ?_
        refine hg_18_5 hx hb hts in_f_X3_gathered_X3 hown hK hP (hts _ (List.mem_cons_of_mem _ (List.mem_append_left _ (List.mem_append_left _ (List.mem_of_getElem? (i := 1) rfl))))) dX3_gathered_50 ?_
        refine lv_iload hx hb dX3_gathered_53 (lv_at hl 0 rfl) ?_
        refine hp_19_2n hx hb hts in_f_X3_gathered_X8 hown hK hP hD hS (va_Nw.use rfl (hG.1 _ (List.mem_of_getElem? (i := 10) rfl))) dX3_gathered_55 (fun H locs hP hD hS => ?_)
        exact ih.2.1 z _ _ (lI (lI (lI L 2 r2.1) 3 r4.1) 4 ((((((r4.2.1 1902)) - 2)) - r2.1))) (uI r4.2 1902 ((((((r4.2.1 1902)) - 2)) - r2.1))) _ h hzk hc hs H locs ls hP hD hS (lv_sub hl [3, 4, 2, 1, 0] rfl)
      · intro z cells slots L σ r h hzk hc hs H locs ls hP hD hS hl
        rw [f_X3_gathered] at h
        refine lv_iload_n hx hb dX3_gathered_58 rfl (lv_at hl 1 rfl) ?_
        refine lv_if_eq (tgt := 86) hx hb dX3_gathered_59 (by decide) (fun c1 => ?_) (fun c1 => ?_)
        · rw [if_pos c1] at h
          exact ih.2.2.1 z _ _ L σ _ h hzk hc hs H locs ls hP hD hS (lv_sub hl [0, 1, 2, 3, 4] rfl)
        · rw [if_neg c1] at h
          refine lv_iload_n hx hb dX3_gathered_62 rfl (lv_at hl 2 rfl) ?_
          refine lv_if_le (tgt := 86) hx hb dX3_gathered_63 (by decide) (fun c2 => ?_) (fun c2 => ?_)
          · rw [if_pos c2] at h
            exact ih.2.2.1 z _ _ L σ _ h hzk hc hs H locs ls hP hD hS (lv_sub hl [0, 1, 2, 3, 4] rfl)
          · rw [if_neg c2] at h
            refine lv_aload_n hx hb dX3_gathered_66 rfl (lv_at hl 0 rfl) ?_
            refine hg_18_7 hx hb hts in_f_X3_gathered_X3 hown hK hP (hts _ (List.mem_cons_of_mem _ (List.mem_append_left _ (List.mem_append_left _ (List.mem_of_getElem? (i := 0) rfl))))) dX3_gathered_67 ?_
            refine lv_iload hx hb dX3_gathered_70 (lv_at hl 4 rfl) ?_
            obtain ⟨q3, h⟩ := kr_ite1 h
            refine hl_20 hx hb hK hP q3 dX3_gathered_72 ?_
            refine lv_ldc (v := (-2147483648)) hx hb hown (hts _ (List.mem_cons_of_mem _ (List.mem_append_left _ (List.mem_append_left _ (List.mem_of_getElem? (i := 4) rfl))))) dX3_gathered_73 ?_
            refine lv_icmp_ne (tgt := 86) hx hb dX3_gathered_75 (by decide) (fun c4 => ?_) (fun c4 => ?_)
            · rw [if_neg c4] at h
              exact ih.2.2.1 z _ _ L σ _ h hzk hc hs H locs ls hP hD hS (lv_sub hl [0, 1, 2, 3, 4] rfl)
            · rw [if_pos c4] at h
              refine lv_aload_n hx hb dX3_gathered_78 rfl (lv_at hl 0 rfl) ?_
              refine lv_iconst (v := 3) hx hb dX3_gathered_79 (by decide) ?_
              obtain ⟨r5, hc5, h⟩ := op_ex h
              refine kc_v (va_runV (As := [.int 3]) (rest := []) ⟨hx, hb, hml, hown, hts⟩ (c_y_X3_fail l dC dI cy a z k (lI lZ 1 3) σ r5 hc5 H.size) (cwV 1 hts g_y_X3_gathered_X3_fail_V313 rfl rfl rfl hd_y_X3_fail ⟨Nat.le_of_ble_eq_true rfl, Nat.le_of_ble_eq_true rfl⟩) ⟨nb_blind, va_recv hK hP (ci := 3) (q0 := 18) rfl rfl, (kb_pre hK hG hP hD)⟩ rfl rfl hl.1 rfl (lv_room (Nat.le_of_ble_eq_true rfl)) dX3_gathered_80 ⟨(Nat.le_trans (Nat.le_add_right _ _) (Nat.le_of_eq hc)), (Nat.le_trans (Nat.le_add_right _ _) (Nat.le_of_eq hs))⟩) hA hP hD hS (fun H locs hP hD hS => ?_)
              refine lv_goto (tgt := 142) hx hb dX3_gathered_83 (by decide) ?_
              exact ih.2.2.2.1 z _ _ L r5.2 _ h hzk hc hs H locs ls hP hD hS (lv_sub hl [] rfl)
      · intro z cells slots L σ r h hzk hc hs H locs ls hP hD hS hl
        rw [f_X3_gathered] at h
        refine lv_iload_n hx hb dX3_gathered_86 rfl (lv_at hl 3 rfl) ?_
        refine lv_sipush (v := 2000) hx hb dX3_gathered_87 (by decide) ?_
        refine lv_icmp_le (tgt := 101) hx hb dX3_gathered_90 (by decide) (fun c1 => ?_) (fun c1 => ?_)
        · rw [if_pos c1] at h
          exact ih.2.2.2.2.1 z _ _ L σ _ h hzk hc hs H locs ls hP hD hS (lv_sub hl [0, 1, 2, 4] rfl)
        · rw [if_neg c1] at h
          refine lv_aload_n hx hb dX3_gathered_93 rfl (lv_at hl 0 rfl) ?_
          refine lv_iconst (v := 5) hx hb dX3_gathered_94 (by decide) ?_
          obtain ⟨r2, hc2, h⟩ := op_ex h
          refine kc_v (va_runV (As := [.int 5]) (rest := []) ⟨hx, hb, hml, hown, hts⟩ (c_y_X3_fail l dC dI cy a z k (lI lZ 1 5) σ r2 hc2 H.size) (cwV 1 hts g_y_X3_gathered_X3_fail_V313 rfl rfl rfl hd_y_X3_fail ⟨Nat.le_of_ble_eq_true rfl, Nat.le_of_ble_eq_true rfl⟩) ⟨nb_blind, va_recv hK hP (ci := 3) (q0 := 18) rfl rfl, (kb_pre hK hG hP hD)⟩ rfl rfl hl.1 rfl (lv_room (Nat.le_of_ble_eq_true rfl)) dX3_gathered_95 ⟨(Nat.le_trans (Nat.le_add_right _ _) (Nat.le_of_eq hc)), (Nat.le_trans (Nat.le_add_right _ _) (Nat.le_of_eq hs))⟩) hA hP hD hS (fun H locs hP hD hS => ?_)
          refine lv_goto (tgt := 142) hx hb dX3_gathered_98 (by decide) ?_
          exact ih.2.2.2.1 z _ _ L r2.2 _ h hzk hc hs H locs ls hP hD hS (lv_sub hl [] rfl)
      · intro z cells slots L σ r h hzk hc hs H locs ls hP hD hS hl
        rw [f_X3_gathered] at h
        obtain rfl := Option.some.inj h
        subst hc
        subst hs
        exact xr_v hx hb hr hK hzk hP hD hS hlocks dX3_gathered_142
      · intro z cells slots L σ r h hzk hc hs H locs ls hP hD hS hl
        rw [f_X3_gathered] at h
        refine lv_aload_n hx hb dX3_gathered_101 rfl (lv_at hl 0 rfl) ?_
        refine lv_iload_n hx hb dX3_gathered_102 rfl (lv_at hl 1 rfl) ?_
        refine lv_if_eq (tgt := 125) hx hb dX3_gathered_103 (by decide) (fun c1 => ?_) (fun c1 => ?_)
        · rw [if_pos c1] at h
          exact ih.2.2.2.2.2.1 z _ _ L σ _ h hzk hc hs H locs ls hP hD hS (lv_sub hl [0, 2, 3] rfl)
        · rw [if_neg c1] at h
          refine lv_aload_n hx hb dX3_gathered_106 rfl (lv_at hl 0 rfl) ?_
          refine hg_18_0 hx hb hts in_f_X3_gathered_X3 hown hK hP (hts _ (List.mem_cons_of_mem _ (List.mem_append_left _ (List.mem_append_left _ (List.mem_of_getElem? (i := 9) rfl))))) dX3_gathered_107 ?_
          refine lv_bipush (v := 6) hx hb dX3_gathered_110 (by decide) ?_
          refine lv_aload_n hx hb dX3_gathered_112 rfl (lv_at hl 0 rfl) ?_
          refine hg_18_7 hx hb hts in_f_X3_gathered_X3 hown hK hP (hts _ (List.mem_cons_of_mem _ (List.mem_append_left _ (List.mem_append_left _ (List.mem_of_getElem? (i := 0) rfl))))) dX3_gathered_113 ?_
          refine lv_iload hx hb dX3_gathered_116 (lv_at hl 3 rfl) ?_
          refine lv_iload_n hx hb dX3_gathered_118 rfl (lv_at hl 2 rfl) ?_
          obtain ⟨r2, hc2, h⟩ := op_ex h
          refine kc_i (va_runV (As := [.int 6, .ref (z 20), .int (L.1 4), .int (L.1 2)]) (rest := [.ref (a 18)]) ⟨hx, hb, hml, hown, hts⟩ (c_y_X1_makeRow__z20 l dC dI cy a z k (lI (lI (lI lZ 1 6) 3 ((L.1 4))) 4 ((L.1 2))) σ r2 hc2 H.size) (cwV 4 hts g_y_X3_gathered_X1_makeRow__z20_V532 rfl rfl rfl hd_y_X1_makeRow__z20 ⟨Nat.le_of_ble_eq_true rfl, Nat.le_of_ble_eq_true rfl⟩) ⟨nb_blind, va_recv hK hP (ci := 1) (q0 := 0) rfl rfl, (kb_pre hK hG hP hD)⟩ rfl rfl hl.1 rfl (lv_room (Nat.le_of_ble_eq_true rfl)) dX3_gathered_119 ⟨(Nat.le_trans (Nat.le_add_right _ _) (Nat.le_of_eq hc)), (Nat.le_trans (Nat.le_add_right _ _) (Nat.le_of_eq hs))⟩) hA hP hD hS (fun H locs hP hD hS => ?_)
          refine lv_goto (tgt := 139) hx hb dX3_gathered_122 (by decide) ?_
          exact ih.2.2.2.2.2.2 z _ _ (lI L 100 r2.1) r2.2 _ h hzk hc hs H locs ls hP hD hS (lv_sub hl [] rfl)
      · intro z cells slots L σ r h hzk hc hs H locs ls hP hD hS hl
        rw [f_X3_gathered] at h
        refine lv_aload_n hx hb dX3_gathered_125 rfl (lv_at hl 0 rfl) ?_
        refine hg_18_0 hx hb hts in_f_X3_gathered_X3 hown hK hP (hts _ (List.mem_cons_of_mem _ (List.mem_append_left _ (List.mem_append_left _ (List.mem_of_getElem? (i := 9) rfl))))) dX3_gathered_126 ?_
        refine lv_aload_n hx hb dX3_gathered_129 rfl (lv_at hl 0 rfl) ?_
        refine hg_18_7 hx hb hts in_f_X3_gathered_X3 hown hK hP (hts _ (List.mem_cons_of_mem _ (List.mem_append_left _ (List.mem_append_left _ (List.mem_of_getElem? (i := 0) rfl))))) dX3_gathered_130 ?_
        refine lv_iload hx hb dX3_gathered_133 (lv_at hl 2 rfl) ?_
        refine lv_iload_n hx hb dX3_gathered_135 rfl (lv_at hl 1 rfl) ?_
        obtain ⟨r1, hc1, h⟩ := op_ex h
        refine kc_i (va_runV (As := [.ref (z 20), .int (L.1 4), .int (L.1 2)]) (rest := [.ref (a 18)]) ⟨hx, hb, hml, hown, hts⟩ (c_y_X1_makeTuple__z20 l dC dI cy a z k (lI (lI lZ 2 ((L.1 4))) 3 ((L.1 2))) σ r1 hc1 H.size) (cwV 3 hts g_y_X3_gathered_X1_makeTuple__z20_V438 rfl rfl rfl hd_y_X1_makeTuple__z20 ⟨Nat.le_of_ble_eq_true rfl, Nat.le_of_ble_eq_true rfl⟩) ⟨nb_blind, va_recv hK hP (ci := 1) (q0 := 0) rfl rfl, (kb_pre hK hG hP hD)⟩ rfl rfl hl.1 rfl (lv_room (Nat.le_of_ble_eq_true rfl)) dX3_gathered_136 ⟨(Nat.le_trans (Nat.le_add_right _ _) (Nat.le_of_eq hc)), (Nat.le_trans (Nat.le_add_right _ _) (Nat.le_of_eq hs))⟩) hA hP hD hS (fun H locs hP hD hS => ?_)
        exact ih.2.2.2.2.2.2 z _ _ (lI L 100 r1.1) r1.2 _ h hzk hc hs H locs ls hP hD hS (lv_sub hl [] rfl)
      · intro z cells slots L σ r h hzk hc hs H locs ls hP hD hS hl
        rw [f_X3_gathered] at h
        obtain ⟨r1, hc1, hle1, h9⟩ := ox_ex h
        clear h
        refine kx_v (vx_runV (As := [.int (L.1 100)]) (rest := []) ⟨hx, hb, hml, hown, hts⟩ (c_f_X3_give l hl0 dC dI cy ek a k (lI lZ 1 ((L.1 100))) σ r1 hc1 z H.size) (cwV 1 hts g_f_X3_gathered_X3_give_V391 rfl rfl rfl hd_f_X3_give ⟨Nat.le_of_ble_eq_true rfl, Nat.le_of_ble_eq_true rfl⟩) ⟨nb_blindF, va_recv hK hP (ci := 3) (q0 := 18) rfl rfl, (kx_pre hK hG hE hT hA hP hD hS)⟩ rfl rfl hl.1 rfl (lv_room (Nat.le_of_ble_eq_true rfl)) dX3_gathered_139 ⟨Nat.le_trans (Nat.add_le_add_left hle1.1 _) (Nat.le_of_eq hc), Nat.le_trans (Nat.add_le_add_left hle1.2 _) (Nat.le_of_eq hs)⟩) hK hA hzk hP hD hS (by decide) hno hlocks ?_
        rcases h9 with ⟨h00, y1, hny1, hy⟩ | ⟨h00, hy⟩
        · subst hy
          have h := hny1
          refine Or.inl ⟨h00, fun z H locs hz1 hzk hP hD hS => ?_⟩
          replace hc := (Nat.add_assoc _ _ _).trans hc
          replace hs := (Nat.add_assoc _ _ _).trans hs
          exact ih.2.2.2.1 z _ _ L r1.2.1 _ h hzk hc hs H locs ls hP hD hS (lv_sub hl [] rfl)
        · subst hy
          exact Or.inr ⟨h00, rfl, hc, hs⟩
  exact (blk k0).1 z 0 0 L0 σ0 r0 h0 (zk_rf _ _) ((Nat.zero_add _).trans hmc) ((Nat.zero_add _).trans hms) s.heap [] ls hP hD hS hl
/-! X3_gather -/
def f_X3_gather : Nat → Nat → LV → CS → Option RS
  | 0, _, _, _ => none
  | k + 1, 0, L, σ => if ((L.1 1)) = (80 : Int32) then (f_X3_gather k 1 L σ) else (if ((L.1 1)) = (81 : Int32) then (f_X3_gather k 2 L σ) else (if ((L.1 1)) = (82 : Int32) then (f_X3_gather k 3 L σ) else (if ((L.1 1)) = (83 : Int32) then (f_X3_gather k 4 L σ) else (if ((L.1 1)) = (84 : Int32) then (f_X3_gather k 4 L σ) else (if ((L.1 1)) = (85 : Int32) then (f_X3_gather k 5 L σ) else (if ((L.1 1)) = (86 : Int32) then (f_X3_gather k 6 L σ) else (f_X3_gather k 4 L σ)))))))
  | k + 1, 1, L, σ => op (y_X11_raw k 0 (lI lZ 0 0) σ) (fun r1 => ox (f_X3_push k 0 (lI lZ 1 r1.1) r1.2) (fun r2 => op (y_X11_raw k 0 (lI lZ 0 1) r2.2.1) (fun r3 => ox (f_X3_push k 0 (lI lZ 1 r3.1) r3.2) (fun r4 => f_X3_gather k 7 L r4.2.1))))
  | k + 1, 2, L, σ => op (y_X3_pop k 0 lZ σ) (fun r1 => if ((L.1 2)) = 0 then (f_X3_gather k 8 (lI L 100 r1.1) r1.2) else (f_X3_gather k 9 (lI (lI L 100 1) 101 r1.1) r1.2))
  | k + 1, 3, L, σ => op (y_X3_pop k 0 lZ σ) (fun r1 => ox (f_X3_gatherIntoTuple k 0 (lI lZ 1 r1.1) r1.2) (fun r2 => f_X3_gather k 7 L r2.2.1))
  | k + 1, 4, L, σ => if ((L.1 1)) = 83 then (f_X3_gather k 11 (lI L 100 1) σ) else (f_X3_gather k 10 L σ)
  | k + 1, 5, L, σ => ox (f_X3_joinSet k 0 (lI lZ 1 ((L.1 2))) σ) (fun r1 => f_X3_gather k 7 L r1.2.1)
  | k + 1, 6, L, σ => ox (f_X3_joinTuple k 0 (lI lZ 1 ((L.1 2))) σ) (fun r1 => f_X3_gather k 7 L r1.2.1)
  | k + 1, 7, L, σ => some ((0, 0), σ, (0, 0))
  | k + 1, 8, L, σ => f_X3_gather k 9 (lI (lI L 100 0) 101 ((L.1 100))) σ
  | k + 1, 9, L, σ => ox (f_X3_gatherIntoSet k 0 (lI (lI lZ 1 ((L.1 101))) 2 ((L.1 100))) σ) (fun r1 => f_X3_gather k 7 L r1.2.1)
  | k + 1, 10, L, σ => f_X3_gather k 11 (lI L 100 0) σ
  | k + 1, 11, L, σ => ox (f_X3_gathered k 0 (lI lZ 1 ((L.1 100))) σ) (fun r1 => f_X3_gather k 7 L r1.2.1)
  | _ + 1, _ + 12, _, _ => none
def o_f_X3_gather : List Cond := [.initialized RX11, .static yX11_raw, .methodLink RX3 322 yX3_push, .instanceMethod yX3_push, .selects RX3 yX3_push yX3_push, .initialized RX3, .methodLink RX3 339 yX3_pop, .instanceMethod yX3_pop, .selects RX3 yX3_pop yX3_pop, .methodLink RX3 526 yX3_gatherIntoTuple, .instanceMethod yX3_gatherIntoTuple, .selects RX3 yX3_gatherIntoTuple yX3_gatherIntoTuple, .methodLink RX3 516 yX3_joinSet, .instanceMethod yX3_joinSet, .selects RX3 yX3_joinSet yX3_joinSet, .methodLink RX3 519 yX3_joinTuple, .instanceMethod yX3_joinTuple, .selects RX3 yX3_joinTuple yX3_joinTuple, .methodLink RX3 522 yX3_gatherIntoSet, .instanceMethod yX3_gatherIntoSet, .selects RX3 yX3_gatherIntoSet yX3_gatherIntoSet, .methodLink RX3 529 yX3_gathered, .instanceMethod yX3_gathered, .selects RX3 yX3_gathered yX3_gathered]
theorem o_f_X3_gather_good : o_f_X3_gather.all goodWord = true := by decide +kernel
def p_f_X3_gather : List Cond := o_f_X3_gather ++ ((.code yX11_raw cX11_raw 1 (some .int) :: p_y_X11_raw) ++ ((.code yX3_push cX3_push 2 none :: p_f_X3_push) ++ ((.code yX3_pop cX3_pop 1 (some .int) :: p_y_X3_pop) ++ ((.code yX3_gatherIntoTuple cX3_gatherIntoTuple 6 none :: p_f_X3_gatherIntoTuple) ++ ((.code yX3_joinSet cX3_joinSet 8 none :: p_f_X3_joinSet) ++ ((.code yX3_joinTuple cX3_joinTuple 5 none :: p_f_X3_joinTuple) ++ ((.code yX3_gatherIntoSet cX3_gatherIntoSet 6 none :: p_f_X3_gatherIntoSet) ++ ((.code yX3_gathered cX3_gathered 5 none :: p_f_X3_gathered) ++ []))))))))
theorem p_f_X3_gather_good : p_f_X3_gather.all goodWord = true := nb_all2 o_f_X3_gather_good (nb_all2 (nb_allc (by decide +kernel) p_y_X11_raw_good) (nb_all2 (nb_allc (by decide +kernel) p_f_X3_push_good) (nb_all2 (nb_allc (by decide +kernel) p_y_X3_pop_good) (nb_all2 (nb_allc (by decide +kernel) p_f_X3_gatherIntoTuple_good) (nb_all2 (nb_allc (by decide +kernel) p_f_X3_joinSet_good) (nb_all2 (nb_allc (by decide +kernel) p_f_X3_joinTuple_good) (nb_all2 (nb_allc (by decide +kernel) p_f_X3_gatherIntoSet_good) (nb_all2 (nb_allc (by decide +kernel) p_f_X3_gathered_good) rfl))))))))
def w_f_X3_gather : List Cond := .code yX3_gather cX3_gather 3 none :: (p_f_X3_gather ++ fC)
theorem w_f_X3_gather_good : w_f_X3_gather.all goodWord = true := nb_allc (by decide +kernel) (nb_all2 p_f_X3_gather_good fC_good)
theorem hd_f_X3_gather : yX3_gather.cls = RX3 ∧ yX3_gather.cls ≠ "java/lang/invoke/MethodHandle" ∧ yX3_gather.cls ≠ "java/lang/invoke/VarHandle" ∧ (parseMethodDescriptor yX3_gather.desc).map (fun d => d.parameters.length) = some 2 := by decide +kernel
theorem gg_f_X3_gather_X3_gatherIntoSet : GoodIn w_f_X3_gather w_f_X3_gatherIntoSet := goodIn_sub (fun w h => (List.mem_cons.mp h).elim (fun e => (List.mem_cons_of_mem _ (List.mem_append_left _ (List.mem_append_right _ (List.mem_append_right _ (List.mem_append_right _ (List.mem_append_right _ (List.mem_append_right _ (List.mem_append_right _ (List.mem_append_right _ (List.mem_append_left _ (List.mem_cons.mpr (Or.inl e))))))))))))) (fun h => (List.mem_append.mp h).elim (fun h => (List.mem_cons_of_mem _ (List.mem_append_left _ (List.mem_append_right _ (List.mem_append_right _ (List.mem_append_right _ (List.mem_append_right _ (List.mem_append_right _ (List.mem_append_right _ (List.mem_append_right _ (List.mem_append_left _ (List.mem_cons_of_mem _ h)))))))))))) (fun h => List.mem_cons_of_mem _ (List.mem_append_right _ h)))) w_f_X3_gatherIntoSet_good
theorem g_f_X3_gather_X3_gatherIntoSet_V522 : GoodIn w_f_X3_gather (wsV RX3 522 RX3 yX3_gatherIntoSet w_f_X3_gatherIntoSet) := goodIn_app (nb_g4 (List.mem_cons_of_mem _ (List.mem_append_left _ (List.mem_append_left _ (List.mem_of_getElem? (i := 18) rfl)))) (List.mem_cons_of_mem _ (List.mem_append_left _ (List.mem_append_left _ (List.mem_of_getElem? (i := 19) rfl)))) (List.mem_cons_of_mem _ (List.mem_append_left _ (List.mem_append_left _ (List.mem_of_getElem? (i := 20) rfl)))) (List.mem_cons_of_mem _ (List.mem_append_left _ (List.mem_append_left _ (List.mem_of_getElem? (i := 5) rfl)))) (by decide +kernel)) gg_f_X3_gather_X3_gatherIntoSet
theorem gg_f_X3_gather_X3_gatherIntoTuple : GoodIn w_f_X3_gather w_f_X3_gatherIntoTuple := goodIn_sub (fun w h => (List.mem_cons.mp h).elim (fun e => (List.mem_cons_of_mem _ (List.mem_append_left _ (List.mem_append_right _ (List.mem_append_right _ (List.mem_append_right _ (List.mem_append_right _ (List.mem_append_left _ (List.mem_cons.mpr (Or.inl e)))))))))) (fun h => (List.mem_append.mp h).elim (fun h => (List.mem_cons_of_mem _ (List.mem_append_left _ (List.mem_append_right _ (List.mem_append_right _ (List.mem_append_right _ (List.mem_append_right _ (List.mem_append_left _ (List.mem_cons_of_mem _ h))))))))) (fun h => List.mem_cons_of_mem _ (List.mem_append_right _ h)))) w_f_X3_gatherIntoTuple_good
theorem g_f_X3_gather_X3_gatherIntoTuple_V526 : GoodIn w_f_X3_gather (wsV RX3 526 RX3 yX3_gatherIntoTuple w_f_X3_gatherIntoTuple) := goodIn_app (nb_g4 (List.mem_cons_of_mem _ (List.mem_append_left _ (List.mem_append_left _ (List.mem_of_getElem? (i := 9) rfl)))) (List.mem_cons_of_mem _ (List.mem_append_left _ (List.mem_append_left _ (List.mem_of_getElem? (i := 10) rfl)))) (List.mem_cons_of_mem _ (List.mem_append_left _ (List.mem_append_left _ (List.mem_of_getElem? (i := 11) rfl)))) (List.mem_cons_of_mem _ (List.mem_append_left _ (List.mem_append_left _ (List.mem_of_getElem? (i := 5) rfl)))) (by decide +kernel)) gg_f_X3_gather_X3_gatherIntoTuple
theorem gg_f_X3_gather_X3_gathered : GoodIn w_f_X3_gather w_f_X3_gathered := goodIn_sub (fun w h => (List.mem_cons.mp h).elim (fun e => (List.mem_cons_of_mem _ (List.mem_append_left _ (List.mem_append_right _ (List.mem_append_right _ (List.mem_append_right _ (List.mem_append_right _ (List.mem_append_right _ (List.mem_append_right _ (List.mem_append_right _ (List.mem_append_right _ (List.mem_append_left _ (List.mem_cons.mpr (Or.inl e)))))))))))))) (fun h => (List.mem_append.mp h).elim (fun h => (List.mem_cons_of_mem _ (List.mem_append_left _ (List.mem_append_right _ (List.mem_append_right _ (List.mem_append_right _ (List.mem_append_right _ (List.mem_append_right _ (List.mem_append_right _ (List.mem_append_right _ (List.mem_append_right _ (List.mem_append_left _ (List.mem_cons_of_mem _ h))))))))))))) (fun h => List.mem_cons_of_mem _ (List.mem_append_right _ h)))) w_f_X3_gathered_good
theorem g_f_X3_gather_X3_gathered_V529 : GoodIn w_f_X3_gather (wsV RX3 529 RX3 yX3_gathered w_f_X3_gathered) := goodIn_app (nb_g4 (List.mem_cons_of_mem _ (List.mem_append_left _ (List.mem_append_left _ (List.mem_of_getElem? (i := 21) rfl)))) (List.mem_cons_of_mem _ (List.mem_append_left _ (List.mem_append_left _ (List.mem_of_getElem? (i := 22) rfl)))) (List.mem_cons_of_mem _ (List.mem_append_left _ (List.mem_append_left _ (List.mem_of_getElem? (i := 23) rfl)))) (List.mem_cons_of_mem _ (List.mem_append_left _ (List.mem_append_left _ (List.mem_of_getElem? (i := 5) rfl)))) (by decide +kernel)) gg_f_X3_gather_X3_gathered
theorem gg_f_X3_gather_X3_joinSet : GoodIn w_f_X3_gather w_f_X3_joinSet := goodIn_sub (fun w h => (List.mem_cons.mp h).elim (fun e => (List.mem_cons_of_mem _ (List.mem_append_left _ (List.mem_append_right _ (List.mem_append_right _ (List.mem_append_right _ (List.mem_append_right _ (List.mem_append_right _ (List.mem_append_left _ (List.mem_cons.mpr (Or.inl e))))))))))) (fun h => (List.mem_append.mp h).elim (fun h => (List.mem_cons_of_mem _ (List.mem_append_left _ (List.mem_append_right _ (List.mem_append_right _ (List.mem_append_right _ (List.mem_append_right _ (List.mem_append_right _ (List.mem_append_left _ (List.mem_cons_of_mem _ h)))))))))) (fun h => List.mem_cons_of_mem _ (List.mem_append_right _ h)))) w_f_X3_joinSet_good
theorem g_f_X3_gather_X3_joinSet_V516 : GoodIn w_f_X3_gather (wsV RX3 516 RX3 yX3_joinSet w_f_X3_joinSet) := goodIn_app (nb_g4 (List.mem_cons_of_mem _ (List.mem_append_left _ (List.mem_append_left _ (List.mem_of_getElem? (i := 12) rfl)))) (List.mem_cons_of_mem _ (List.mem_append_left _ (List.mem_append_left _ (List.mem_of_getElem? (i := 13) rfl)))) (List.mem_cons_of_mem _ (List.mem_append_left _ (List.mem_append_left _ (List.mem_of_getElem? (i := 14) rfl)))) (List.mem_cons_of_mem _ (List.mem_append_left _ (List.mem_append_left _ (List.mem_of_getElem? (i := 5) rfl)))) (by decide +kernel)) gg_f_X3_gather_X3_joinSet
theorem gg_f_X3_gather_X3_joinTuple : GoodIn w_f_X3_gather w_f_X3_joinTuple := goodIn_sub (fun w h => (List.mem_cons.mp h).elim (fun e => (List.mem_cons_of_mem _ (List.mem_append_left _ (List.mem_append_right _ (List.mem_append_right _ (List.mem_append_right _ (List.mem_append_right _ (List.mem_append_right _ (List.mem_append_right _ (List.mem_append_left _ (List.mem_cons.mpr (Or.inl e)))))))))))) (fun h => (List.mem_append.mp h).elim (fun h => (List.mem_cons_of_mem _ (List.mem_append_left _ (List.mem_append_right _ (List.mem_append_right _ (List.mem_append_right _ (List.mem_append_right _ (List.mem_append_right _ (List.mem_append_right _ (List.mem_append_left _ (List.mem_cons_of_mem _ h))))))))))) (fun h => List.mem_cons_of_mem _ (List.mem_append_right _ h)))) w_f_X3_joinTuple_good
theorem g_f_X3_gather_X3_joinTuple_V519 : GoodIn w_f_X3_gather (wsV RX3 519 RX3 yX3_joinTuple w_f_X3_joinTuple) := goodIn_app (nb_g4 (List.mem_cons_of_mem _ (List.mem_append_left _ (List.mem_append_left _ (List.mem_of_getElem? (i := 15) rfl)))) (List.mem_cons_of_mem _ (List.mem_append_left _ (List.mem_append_left _ (List.mem_of_getElem? (i := 16) rfl)))) (List.mem_cons_of_mem _ (List.mem_append_left _ (List.mem_append_left _ (List.mem_of_getElem? (i := 17) rfl)))) (List.mem_cons_of_mem _ (List.mem_append_left _ (List.mem_append_left _ (List.mem_of_getElem? (i := 5) rfl)))) (by decide +kernel)) gg_f_X3_gather_X3_joinTuple
theorem gg_f_X3_gather_X3_push : GoodIn w_f_X3_gather w_f_X3_push := goodIn_sub (fun w h => (List.mem_cons.mp h).elim (fun e => (List.mem_cons_of_mem _ (List.mem_append_left _ (List.mem_append_right _ (List.mem_append_right _ (List.mem_append_left _ (List.mem_cons.mpr (Or.inl e)))))))) (fun h => (List.mem_append.mp h).elim (fun h => (List.mem_cons_of_mem _ (List.mem_append_left _ (List.mem_append_right _ (List.mem_append_right _ (List.mem_append_left _ (List.mem_cons_of_mem _ h))))))) (fun h => List.mem_cons_of_mem _ (List.mem_append_right _ h)))) w_f_X3_push_good
theorem g_f_X3_gather_X3_push_V322 : GoodIn w_f_X3_gather (wsV RX3 322 RX3 yX3_push w_f_X3_push) := goodIn_app (nb_g4 (List.mem_cons_of_mem _ (List.mem_append_left _ (List.mem_append_left _ (List.mem_of_getElem? (i := 2) rfl)))) (List.mem_cons_of_mem _ (List.mem_append_left _ (List.mem_append_left _ (List.mem_of_getElem? (i := 3) rfl)))) (List.mem_cons_of_mem _ (List.mem_append_left _ (List.mem_append_left _ (List.mem_of_getElem? (i := 4) rfl)))) (List.mem_cons_of_mem _ (List.mem_append_left _ (List.mem_append_left _ (List.mem_of_getElem? (i := 5) rfl)))) (by decide +kernel)) gg_f_X3_gather_X3_push
theorem gg_f_X3_gather_X11_raw : GoodIn w_f_X3_gather w_y_X11_raw := goodIn_sub (fun w h => (List.mem_cons.mp h).elim (fun e => (List.mem_cons_of_mem _ (List.mem_append_left _ (List.mem_append_right _ (List.mem_append_left _ (List.mem_cons.mpr (Or.inl e))))))) (fun h => (List.mem_append.mp h).elim (fun h => (List.mem_cons_of_mem _ (List.mem_append_left _ (List.mem_append_right _ (List.mem_append_left _ (List.mem_cons_of_mem _ h)))))) (fun h => List.mem_cons_of_mem _ (List.mem_append_right _ h)))) w_y_X11_raw_good
theorem g_y_X3_gather_X11_raw_SN182 : GoodIn w_f_X3_gather w_y_X11_raw := gg_f_X3_gather_X11_raw
theorem gg_f_X3_gather_X3_pop : GoodIn w_f_X3_gather w_y_X3_pop := goodIn_sub (fun w h => (List.mem_cons.mp h).elim (fun e => (List.mem_cons_of_mem _ (List.mem_append_left _ (List.mem_append_right _ (List.mem_append_right _ (List.mem_append_right _ (List.mem_append_left _ (List.mem_cons.mpr (Or.inl e))))))))) (fun h => (List.mem_append.mp h).elim (fun h => (List.mem_cons_of_mem _ (List.mem_append_left _ (List.mem_append_right _ (List.mem_append_right _ (List.mem_append_right _ (List.mem_append_left _ (List.mem_cons_of_mem _ h)))))))) (fun h => List.mem_cons_of_mem _ (List.mem_append_right _ h)))) w_y_X3_pop_good
theorem g_y_X3_gather_X3_pop_V339 : GoodIn w_f_X3_gather (wsV RX3 339 RX3 yX3_pop w_y_X3_pop) := goodIn_app (nb_g4 (List.mem_cons_of_mem _ (List.mem_append_left _ (List.mem_append_left _ (List.mem_of_getElem? (i := 6) rfl)))) (List.mem_cons_of_mem _ (List.mem_append_left _ (List.mem_append_left _ (List.mem_of_getElem? (i := 7) rfl)))) (List.mem_cons_of_mem _ (List.mem_append_left _ (List.mem_append_left _ (List.mem_of_getElem? (i := 8) rfl)))) (List.mem_cons_of_mem _ (List.mem_append_left _ (List.mem_append_left _ (List.mem_of_getElem? (i := 5) rfl)))) (by decide +kernel)) gg_f_X3_gather_X3_pop
set_option maxHeartbeats 40000000 in
set_option maxRecDepth 100000 in
theorem c_f_X3_gather (l : Launch) (hl0 : l.stackTraces = false) (dC : Nat → ClassId) (dI : Nat → Nat → Nat) (cy : Nat → ClassId) (ek a : Nat → Nat) (k0 : Nat) (L0 : LV) (σ0 : CS) (r0 : RS) (h0 : f_X3_gather k0 0 L0 σ0 = some r0) (z : Nat → Nat) (sz : Nat) : vx_Met l yX3_gather w_f_X3_gather ({ frames := 65, cells := r0.2.2.1, slots := r0.2.2.2, locals := 1816 }) (va_Pc [.ref (a 18), .int (L0.1 1), .int (L0.1 2)] (nInF (dC, dI) cy ek sz (vC cy a z σ0))) (xV dC dI cy a (va_A (vC cy a z σ0) sz) [20] z r0) (xX dC dI cy a (va_A (vC cy a z σ0) sz) [20] z r0) r0.2.2.1 r0.2.2.2 (va_A (vC cy a z σ0) sz) := by
  refine vx_ofW (cc := cX3_gather) (maxL := 3) (ret := none) (by decide) rfl ?_
  intro p e s m args below meth c s₁ B hml hno hv
  obtain ⟨rfl, ⟨⟨hsz, hP, hK, hD0, hG⟩, hE⟩, hT⟩ := hv
  have hx := B.exec
  have hb := B.bytes
  have hr := B.returns
  have hts := atoms_spec (ws := w_f_X3_gather) B.pre
  have hown : s.vm.findClass RX3 = some m.cls := findClass_of_methodNamed B.named
  have hlocks := B.notSynchronized
  subst hsz
  have hD := hD0.self (sz := s.heap.size)
  generalize hAe : va_A (vC cy a z σ0) s.heap.size = A at hD hE hT ⊢
  have hA : ∀ q : Nat, s.heap.size ≤ q → A q := fun q h => by rw [← hAe]; exact Or.inr h
  have hS : va_S A s.heap s.heap [] := va_S.rf
  have hl := lv_entry ([.ref (a 18), .int (L0.1 1), .int (L0.1 2)]) (n := 3) (Nat.le_of_ble_eq_true rfl)
  rw [lg_entry_eq]
  generalize (lg_sl ([.ref (a 18), .int (L0.1 1), .int (L0.1 2)]) ++ List.replicate (3 - (lg_sl ([.ref (a 18), .int (L0.1 1), .int (L0.1 2)])).length) Slot.unset).toArray = ls at hl ⊢
  have hl : lv_has ls 3 [(0, .ref (a 18)), (1, .int (L0.1 1)), (2, .int (L0.1 2))] := hl
  generalize hmc : r0.2.2.1 = mc
  generalize hms : r0.2.2.2 = ms
  have blk : ∀ k : Nat, (bX p l e (headSpec w_f_X3_gather ({ frames := 65, cells := mc, slots := ms, locals := 1816 })).room s m #[.ref (a 18), .int (L0.1 1), .int (L0.1 2)] below meth c dC dI cy a A (fun r => vx_MQ below (xV dC dI cy a A [20] z r) (xX dC dI cy a A [20] z r) #[.ref (a 18), .int (L0.1 1), .int (L0.1 2)] s mc ms A) [20] z mc ms 3 (f_X3_gather k 0) (fun z L => [(0, .ref (a 18)), (1, .int (L.1 1)), (2, .int (L.1 2))]) 0 (fun z L => [])) ∧ (bX p l e (headSpec w_f_X3_gather ({ frames := 65, cells := mc, slots := ms, locals := 1816 })).room s m #[.ref (a 18), .int (L0.1 1), .int (L0.1 2)] below meth c dC dI cy a A (fun r => vx_MQ below (xV dC dI cy a A [20] z r) (xX dC dI cy a A [20] z r) #[.ref (a 18), .int (L0.1 1), .int (L0.1 2)] s mc ms A) [20] z mc ms 3 (f_X3_gather k 1) (fun z L => [(0, .ref (a 18))]) 44 (fun z L => [])) ∧ (bX p l e (headSpec w_f_X3_gather ({ frames := 65, cells := mc, slots := ms, locals := 1816 })).room s m #[.ref (a 18), .int (L0.1 1), .int (L0.1 2)] below meth c dC dI cy a A (fun r => vx_MQ below (xV dC dI cy a A [20] z r) (xX dC dI cy a A [20] z r) #[.ref (a 18), .int (L0.1 1), .int (L0.1 2)] s mc ms A) [20] z mc ms 3 (f_X3_gather k 2) (fun z L => [(0, .ref (a 18)), (2, .int (L.1 2))]) 79 (fun z L => [])) ∧ (bX p l e (headSpec w_f_X3_gather ({ frames := 65, cells := mc, slots := ms, locals := 1816 })).room s m #[.ref (a 18), .int (L0.1 1), .int (L0.1 2)] below meth c dC dI cy a A (fun r => vx_MQ below (xV dC dI cy a A [20] z r) (xX dC dI cy a A [20] z r) #[.ref (a 18), .int (L0.1 1), .int (L0.1 2)] s mc ms A) [20] z mc ms 3 (f_X3_gather k 3) (fun z L => [(0, .ref (a 18))]) 99 (fun z L => [])) ∧ (bX p l e (headSpec w_f_X3_gather ({ frames := 65, cells := mc, slots := ms, locals := 1816 })).room s m #[.ref (a 18), .int (L0.1 1), .int (L0.1 2)] below meth c dC dI cy a A (fun r => vx_MQ below (xV dC dI cy a A [20] z r) (xX dC dI cy a A [20] z r) #[.ref (a 18), .int (L0.1 1), .int (L0.1 2)] s mc ms A) [20] z mc ms 3 (f_X3_gather k 4) (fun z L => [(0, .ref (a 18)), (1, .int (L.1 1))]) 110 (fun z L => [])) ∧ (bX p l e (headSpec w_f_X3_gather ({ frames := 65, cells := mc, slots := ms, locals := 1816 })).room s m #[.ref (a 18), .int (L0.1 1), .int (L0.1 2)] below meth c dC dI cy a A (fun r => vx_MQ below (xV dC dI cy a A [20] z r) (xX dC dI cy a A [20] z r) #[.ref (a 18), .int (L0.1 1), .int (L0.1 2)] s mc ms A) [20] z mc ms 3 (f_X3_gather k 5) (fun z L => [(0, .ref (a 18)), (2, .int (L.1 2))]) 63 (fun z L => [])) ∧ (bX p l e (headSpec w_f_X3_gather ({ frames := 65, cells := mc, slots := ms, locals := 1816 })).room s m #[.ref (a 18), .int (L0.1 1), .int (L0.1 2)] below meth c dC dI cy a A (fun r => vx_MQ below (xV dC dI cy a A [20] z r) (xX dC dI cy a A [20] z r) #[.ref (a 18), .int (L0.1 1), .int (L0.1 2)] s mc ms A) [20] z mc ms 3 (f_X3_gather k 6) (fun z L => [(0, .ref (a 18)), (2, .int (L.1 2))]) 71 (fun z L => [])) ∧ (bX p l e (headSpec w_f_X3_gather ({ frames := 65, cells := mc, slots := ms, locals := 1816 })).room s m #[.ref (a 18), .int (L0.1 1), .int (L0.1 2)] below meth c dC dI cy a A (fun r => vx_MQ below (xV dC dI cy a A [20] z r) (xX dC dI cy a A [20] z r) #[.ref (a 18), .int (L0.1 1), .int (L0.1 2)] s mc ms A) [20] z mc ms 3 (f_X3_gather k 7) (fun z L => []) 125 (fun z L => [])) ∧ (bX p l e (headSpec w_f_X3_gather ({ frames := 65, cells := mc, slots := ms, locals := 1816 })).room s m #[.ref (a 18), .int (L0.1 1), .int (L0.1 2)] below meth c dC dI cy a A (fun r => vx_MQ below (xV dC dI cy a A [20] z r) (xX dC dI cy a A [20] z r) #[.ref (a 18), .int (L0.1 1), .int (L0.1 2)] s mc ms A) [20] z mc ms 3 (f_X3_gather k 8) (fun z L => []) 92 (fun z L => [.int (L.1 100), .ref (a 18)])) ∧ (bX p l e (headSpec w_f_X3_gather ({ frames := 65, cells := mc, slots := ms, locals := 1816 })).room s m #[.ref (a 18), .int (L0.1 1), .int (L0.1 2)] below meth c dC dI cy a A (fun r => vx_MQ below (xV dC dI cy a A [20] z r) (xX dC dI cy a A [20] z r) #[.ref (a 18), .int (L0.1 1), .int (L0.1 2)] s mc ms A) [20] z mc ms 3 (f_X3_gather k 9) (fun z L => []) 93 (fun z L => [.int (L.1 100), .int (L.1 101), .ref (a 18)])) ∧ (bX p l e (headSpec w_f_X3_gather ({ frames := 65, cells := mc, slots := ms, locals := 1816 })).room s m #[.ref (a 18), .int (L0.1 1), .int (L0.1 2)] below meth c dC dI cy a A (fun r => vx_MQ below (xV dC dI cy a A [20] z r) (xX dC dI cy a A [20] z r) #[.ref (a 18), .int (L0.1 1), .int (L0.1 2)] s mc ms A) [20] z mc ms 3 (f_X3_gather k 10) (fun z L => []) 121 (fun z L => [.ref (a 18)])) ∧ (bX p l e (headSpec w_f_X3_gather ({ frames := 65, cells := mc, slots := ms, locals := 1816 })).room s m #[.ref (a 18), .int (L0.1 1), .int (L0.1 2)] below meth c dC dI cy a A (fun r => vx_MQ below (xV dC dI cy a A [20] z r) (xX dC dI cy a A [20] z r) #[.ref (a 18), .int (L0.1 1), .int (L0.1 2)] s mc ms A) [20] z mc ms 3 (f_X3_gather k 11) (fun z L => []) 122 (fun z L => [.int (L.1 100), .ref (a 18)])) := by
    intro k
    induction k with
    | zero => exact ⟨fun z c1 c2 L σ r h => (by cases h), fun z c1 c2 L σ r h => (by cases h), fun z c1 c2 L σ r h => (by cases h), fun z c1 c2 L σ r h => (by cases h), fun z c1 c2 L σ r h => (by cases h), fun z c1 c2 L σ r h => (by cases h), fun z c1 c2 L σ r h => (by cases h), fun z c1 c2 L σ r h => (by cases h), fun z c1 c2 L σ r h => (by cases h), fun z c1 c2 L σ r h => (by cases h), fun z c1 c2 L σ r h => (by cases h), fun z c1 c2 L σ r h => (by cases h)⟩
    | succ k ih =>
      refine ⟨?_, ?_, ?_, ?_, ?_, ?_, ?_, ?_, ?_, ?_, ?_, ?_⟩
      · intro z cells slots L σ r h hzk hc hs H locs ls hP hD hS hl
        rw [f_X3_gather] at h
        refine lv_iload_n hx hb dX3_gather_0 rfl (lv_at hl 1 rfl) ?_
        by_cases q1 : ((L.1 1)) = (80 : Int32)
        · rw [if_pos q1] at h
          refine lv_tableIn (off := 43) (tgt := 44) hx hb dX3_gather_1 (by rw [q1]; decide) (by rw [q1]; decide) (by rw [q1]; decide) (by decide) ?_
          exact ih.2.1 z _ _ L σ _ h hzk hc hs H locs ls hP hD hS (lv_sub hl [0] rfl)
        · rw [if_neg q1] at h
          by_cases q2 : ((L.1 1)) = (81 : Int32)
          · rw [if_pos q2] at h
            refine lv_tableIn (off := 78) (tgt := 79) hx hb dX3_gather_1 (by rw [q2]; decide) (by rw [q2]; decide) (by rw [q2]; decide) (by decide) ?_
            exact ih.2.2.1 z _ _ L σ _ h hzk hc hs H locs ls hP hD hS (lv_sub hl [0, 2] rfl)
          · rw [if_neg q2] at h
            by_cases q3 : ((L.1 1)) = (82 : Int32)
            · rw [if_pos q3] at h
              refine lv_tableIn (off := 98) (tgt := 99) hx hb dX3_gather_1 (by rw [q3]; decide) (by rw [q3]; decide) (by rw [q3]; decide) (by decide) ?_
              exact ih.2.2.2.1 z _ _ L σ _ h hzk hc hs H locs ls hP hD hS (lv_sub hl [0] rfl)
            · rw [if_neg q3] at h
              by_cases q4 : ((L.1 1)) = (83 : Int32)
              · rw [if_pos q4] at h
                refine lv_tableIn (off := 109) (tgt := 110) hx hb dX3_gather_1 (by rw [q4]; decide) (by rw [q4]; decide) (by rw [q4]; decide) (by decide) ?_
                exact ih.2.2.2.2.1 z _ _ L σ _ h hzk hc hs H locs ls hP hD hS (lv_sub hl [0, 1] rfl)
              · rw [if_neg q4] at h
                by_cases q5 : ((L.1 1)) = (84 : Int32)
                · rw [if_pos q5] at h
                  refine lv_tableIn (off := 109) (tgt := 110) hx hb dX3_gather_1 (by rw [q5]; decide) (by rw [q5]; decide) (by rw [q5]; decide) (by decide) ?_
                  exact ih.2.2.2.2.1 z _ _ L σ _ h hzk hc hs H locs ls hP hD hS (lv_sub hl [0, 1] rfl)
                · rw [if_neg q5] at h
                  by_cases q6 : ((L.1 1)) = (85 : Int32)
                  · rw [if_pos q6] at h
                    refine lv_tableIn (off := 62) (tgt := 63) hx hb dX3_gather_1 (by rw [q6]; decide) (by rw [q6]; decide) (by rw [q6]; decide) (by decide) ?_
                    exact ih.2.2.2.2.2.1 z _ _ L σ _ h hzk hc hs H locs ls hP hD hS (lv_sub hl [0, 2] rfl)
                  · rw [if_neg q6] at h
                    by_cases q7 : ((L.1 1)) = (86 : Int32)
                    · rw [if_pos q7] at h
                      refine lv_tableIn (off := 70) (tgt := 71) hx hb dX3_gather_1 (by rw [q7]; decide) (by rw [q7]; decide) (by rw [q7]; decide) (by decide) ?_
                      exact ih.2.2.2.2.2.2.1 z _ _ L σ _ h hzk hc hs H locs ls hP hD hS (lv_sub hl [0, 2] rfl)
                    · rw [if_neg q7] at h
                      have nq1 : ¬ ((L.1 1)).toInt = 80 := nb_ti q1 rfl
                      have nq2 : ¬ ((L.1 1)).toInt = 81 := nb_ti q2 rfl
                      have nq3 : ¬ ((L.1 1)).toInt = 82 := nb_ti q3 rfl
                      have nq4 : ¬ ((L.1 1)).toInt = 83 := nb_ti q4 rfl
                      have nq5 : ¬ ((L.1 1)).toInt = 84 := nb_ti q5 rfl
                      have nq6 : ¬ ((L.1 1)).toInt = 85 := nb_ti q6 rfl
                      have nq7 : ¬ ((L.1 1)).toInt = 86 := nb_ti q7 rfl
                      refine lv_tableOut (tgt := 110) hx hb dX3_gather_1 (by omega) (by decide) ?_
                      exact ih.2.2.2.2.1 z _ _ L σ _ h hzk hc hs H locs ls hP hD hS (lv_sub hl [0, 1] rfl)
      · intro z cells slots L σ r h hzk hc hs H locs ls hP hD hS hl
        rw [f_X3_gather] at h
        refine lv_aload_n hx hb dX3_gather_44 rfl (lv_at hl 0 rfl) ?_
        refine lv_iconst (v := 0) hx hb dX3_gather_45 (by decide) ?_
        obtain ⟨r1, hc1, h⟩ := op_ex h
        refine kc_i (va_runSN (As := [.int 0]) (rest := [.ref (a 18)]) ⟨hx, hb, hml, hown, hts⟩ (c_y_X11_raw l dC dI cy a z k (lI lZ 0 0) σ r1 hc1 H.size) ⟨va_cnB 1 hts g_y_X3_gather_X11_raw_SN182 rfl rfl rfl (hG.1 _ (List.mem_of_getElem? (i := 103) rfl)) (hts _ (List.mem_cons_of_mem _ (List.mem_append_left _ (List.mem_append_left _ (List.mem_of_getElem? (i := 0) rfl))))) hd_y_X11_raw ⟨Nat.le_of_ble_eq_true rfl, Nat.le_of_ble_eq_true rfl⟩, (hts _ (List.mem_cons_of_mem _ (List.mem_append_left _ (List.mem_append_left _ (List.mem_of_getElem? (i := 1) rfl))))), trivial⟩ ⟨nb_blind, (kb_pre hK hG hP hD)⟩ rfl rfl hl.1 rfl (lv_room (Nat.le_of_ble_eq_true rfl)) dX3_gather_46 ⟨(Nat.le_trans (Nat.le_add_right _ _) (Nat.le_of_eq hc)), (Nat.le_trans (Nat.le_add_right _ _) (Nat.le_of_eq hs))⟩) hA hP hD hS (fun H locs hP hD hS => ?_)
        obtain ⟨r2, hc2, hle2, h9⟩ := ox_ex h
        clear h
        refine kx_v (vx_runV (As := [.int r1.1]) (rest := []) ⟨hx, hb, hml, hown, hts⟩ (c_f_X3_push l hl0 dC dI cy ek a k (lI lZ 1 r1.1) r1.2 r2 hc2 z H.size) (cwV 1 hts g_f_X3_gather_X3_push_V322 rfl rfl rfl hd_f_X3_push ⟨Nat.le_of_ble_eq_true rfl, Nat.le_of_ble_eq_true rfl⟩) ⟨nb_blindF, va_recv hK hP (ci := 3) (q0 := 18) rfl rfl, (kx_pre hK hG hE hT hA hP hD hS)⟩ rfl rfl hl.1 rfl (lv_room (Nat.le_of_ble_eq_true rfl)) dX3_gather_49 ⟨Nat.le_trans (Nat.add_le_add_left hle2.1 _) (Nat.le_of_eq hc), Nat.le_trans (Nat.add_le_add_left hle2.2 _) (Nat.le_of_eq hs)⟩) hK hA hzk hP hD hS (by decide) hno hlocks ?_
        rcases h9 with ⟨h00, y2, hny2, hy⟩ | ⟨h00, hy⟩
        · subst hy
          have h := hny2
          refine Or.inl ⟨h00, fun z H locs hz2 hzk hP hD hS => ?_⟩
          replace hc := (Nat.add_assoc _ _ _).trans hc
          replace hs := (Nat.add_assoc _ _ _).trans hs
          refine lv_aload_n hx hb dX3_gather_52 rfl (lv_at hl 0 rfl) ?_
          refine lv_iconst (v := 1) hx hb dX3_gather_53 (by decide) ?_
          obtain ⟨r3, hc3, h⟩ := op_ex h
          refine kc_i (va_runSN (As := [.int 1]) (rest := [.ref (a 18)]) ⟨hx, hb, hml, hown, hts⟩ (c_y_X11_raw l dC dI cy a z k (lI lZ 0 1) r2.2.1 r3 hc3 H.size) ⟨va_cnB 1 hts g_y_X3_gather_X11_raw_SN182 rfl rfl rfl (hG.1 _ (List.mem_of_getElem? (i := 103) rfl)) (hts _ (List.mem_cons_of_mem _ (List.mem_append_left _ (List.mem_append_left _ (List.mem_of_getElem? (i := 0) rfl))))) hd_y_X11_raw ⟨Nat.le_of_ble_eq_true rfl, Nat.le_of_ble_eq_true rfl⟩, (hts _ (List.mem_cons_of_mem _ (List.mem_append_left _ (List.mem_append_left _ (List.mem_of_getElem? (i := 1) rfl))))), trivial⟩ ⟨nb_blind, (kb_pre hK hG hP hD)⟩ rfl rfl hl.1 rfl (lv_room (Nat.le_of_ble_eq_true rfl)) dX3_gather_54 ⟨(Nat.le_trans (Nat.le_add_right _ _) (Nat.le_of_eq hc)), (Nat.le_trans (Nat.le_add_right _ _) (Nat.le_of_eq hs))⟩) hA hP hD hS (fun H locs hP hD hS => ?_)
          obtain ⟨r4, hc4, hle4, h9⟩ := ox_ex h
          clear h
          refine kx_v (r := y2) (vx_runV (As := [.int r3.1]) (rest := []) ⟨hx, hb, hml, hown, hts⟩ (c_f_X3_push l hl0 dC dI cy ek a k (lI lZ 1 r3.1) r3.2 r4 hc4 z H.size) (cwV 1 hts g_f_X3_gather_X3_push_V322 rfl rfl rfl hd_f_X3_push ⟨Nat.le_of_ble_eq_true rfl, Nat.le_of_ble_eq_true rfl⟩) ⟨nb_blindF, va_recv hK hP (ci := 3) (q0 := 18) rfl rfl, (kx_pre hK hG hE hT hA hP hD hS)⟩ rfl rfl hl.1 rfl (lv_room (Nat.le_of_ble_eq_true rfl)) dX3_gather_57 ⟨Nat.le_trans (Nat.add_le_add_left hle4.1 _) (Nat.le_of_eq hc), Nat.le_trans (Nat.add_le_add_left hle4.2 _) (Nat.le_of_eq hs)⟩) hK hA hzk hP hD hS (by decide) hno hlocks ?_
          rcases h9 with ⟨h00, y4, hny4, hy⟩ | ⟨h00, hy⟩
          · subst hy
            have h := hny4
            refine Or.inl ⟨h00, fun z H locs hz4 hzk hP hD hS => ?_⟩
            replace hc := (Nat.add_assoc _ _ _).trans hc
            replace hs := (Nat.add_assoc _ _ _).trans hs
            refine lv_goto (tgt := 125) hx hb dX3_gather_60 (by decide) ?_
            exact ih.2.2.2.2.2.2.2.1 z _ _ L r4.2.1 _ h hzk hc hs H locs ls hP hD hS (lv_sub hl [] rfl)
          · subst hy
            exact Or.inr ⟨h00, rfl, hc, hs⟩
        · subst hy
          exact Or.inr ⟨h00, rfl, hc, hs⟩
      · intro z cells slots L σ r h hzk hc hs H locs ls hP hD hS hl
        rw [f_X3_gather] at h
        refine lv_aload_n hx hb dX3_gather_79 rfl (lv_at hl 0 rfl) ?_
        refine lv_aload_n hx hb dX3_gather_80 rfl (lv_at hl 0 rfl) ?_
        obtain ⟨r1, hc1, h⟩ := op_ex h
        refine kc_i (va_runV (As := []) (rest := [.ref (a 18)]) ⟨hx, hb, hml, hown, hts⟩ (c_y_X3_pop l dC dI cy a z k lZ σ r1 hc1 H.size) (cwV 0 hts g_y_X3_gather_X3_pop_V339 rfl rfl rfl hd_y_X3_pop ⟨Nat.le_of_ble_eq_true rfl, Nat.le_of_ble_eq_true rfl⟩) ⟨nb_blind, va_recv hK hP (ci := 3) (q0 := 18) rfl rfl, (kb_pre hK hG hP hD)⟩ rfl rfl hl.1 rfl (lv_room (Nat.le_of_ble_eq_true rfl)) dX3_gather_81 ⟨(Nat.le_trans (Nat.le_add_right _ _) (Nat.le_of_eq hc)), (Nat.le_trans (Nat.le_add_right _ _) (Nat.le_of_eq hs))⟩) hA hP hD hS (fun H locs hP hD hS => ?_)
        refine lv_iload_n hx hb dX3_gather_84 rfl (lv_at hl 1 rfl) ?_
        refine lv_if_eq (tgt := 92) hx hb dX3_gather_85 (by decide) (fun c2 => ?_) (fun c2 => ?_)
        · rw [if_pos c2] at h
          exact ih.2.2.2.2.2.2.2.2.1 z _ _ (lI L 100 r1.1) r1.2 _ h hzk hc hs H locs ls hP hD hS (lv_sub hl [] rfl)
        · rw [if_neg c2] at h
          refine lv_iconst (v := 1) hx hb dX3_gather_88 (by decide) ?_
          refine lv_goto (tgt := 93) hx hb dX3_gather_89 (by decide) ?_
          exact ih.2.2.2.2.2.2.2.2.2.1 z _ _ (lI (lI L 100 1) 101 r1.1) r1.2 _ h hzk hc hs H locs ls hP hD hS (lv_sub hl [] rfl)
      · intro z cells slots L σ r h hzk hc hs H locs ls hP hD hS hl
        rw [f_X3_gather] at h
        refine lv_aload_n hx hb dX3_gather_99 rfl (lv_at hl 0 rfl) ?_
        refine lv_aload_n hx hb dX3_gather_100 rfl (lv_at hl 0 rfl) ?_
        obtain ⟨r1, hc1, h⟩ := op_ex h
        refine kc_i (va_runV (As := []) (rest := [.ref (a 18)]) ⟨hx, hb, hml, hown, hts⟩ (c_y_X3_pop l dC dI cy a z k lZ σ r1 hc1 H.size) (cwV 0 hts g_y_X3_gather_X3_pop_V339 rfl rfl rfl hd_y_X3_pop ⟨Nat.le_of_ble_eq_true rfl, Nat.le_of_ble_eq_true rfl⟩) ⟨nb_blind, va_recv hK hP (ci := 3) (q0 := 18) rfl rfl, (kb_pre hK hG hP hD)⟩ rfl rfl hl.1 rfl (lv_room (Nat.le_of_ble_eq_true rfl)) dX3_gather_101 ⟨(Nat.le_trans (Nat.le_add_right _ _) (Nat.le_of_eq hc)), (Nat.le_trans (Nat.le_add_right _ _) (Nat.le_of_eq hs))⟩) hA hP hD hS (fun H locs hP hD hS => ?_)
        obtain ⟨r2, hc2, hle2, h9⟩ := ox_ex h
        clear h
        refine kx_v (vx_runV (As := [.int r1.1]) (rest := []) ⟨hx, hb, hml, hown, hts⟩ (c_f_X3_gatherIntoTuple l hl0 dC dI cy ek a k (lI lZ 1 r1.1) r1.2 r2 hc2 z H.size) (cwV 1 hts g_f_X3_gather_X3_gatherIntoTuple_V526 rfl rfl rfl hd_f_X3_gatherIntoTuple ⟨Nat.le_of_ble_eq_true rfl, Nat.le_of_ble_eq_true rfl⟩) ⟨nb_blindF, va_recv hK hP (ci := 3) (q0 := 18) rfl rfl, (kx_pre hK hG hE hT hA hP hD hS)⟩ rfl rfl hl.1 rfl (lv_room (Nat.le_of_ble_eq_true rfl)) dX3_gather_104 ⟨Nat.le_trans (Nat.add_le_add_left hle2.1 _) (Nat.le_of_eq hc), Nat.le_trans (Nat.add_le_add_left hle2.2 _) (Nat.le_of_eq hs)⟩) hK hA hzk hP hD hS (by decide) hno hlocks ?_
        rcases h9 with ⟨h00, y2, hny2, hy⟩ | ⟨h00, hy⟩
        · subst hy
          have h := hny2
          refine Or.inl ⟨h00, fun z H locs hz2 hzk hP hD hS => ?_⟩
          replace hc := (Nat.add_assoc _ _ _).trans hc
          replace hs := (Nat.add_assoc _ _ _).trans hs
          refine lv_goto (tgt := 125) hx hb dX3_gather_107 (by decide) ?_
          exact ih.2.2.2.2.2.2.2.1 z _ _ L r2.2.1 _ h hzk hc hs H locs ls hP hD hS (lv_sub hl [] rfl)
        · subst hy
          exact Or.inr ⟨h00, rfl, hc, hs⟩
      · intro z cells slots L σ r h hzk hc hs H locs ls hP hD hS hl
        rw [f_X3_gather] at h
        refine lv_aload_n hx hb dX3_gather_110 rfl (lv_at hl 0 rfl) ?_
        refine lv_iload_n hx hb dX3_gather_111 rfl (lv_at hl 1 rfl) ?_
        refine lv_bipush (v := 83) hx hb dX3_gather_112 (by decide) ?_
        refine lv_icmp_ne (tgt := 121) hx hb dX3_gather_114 (by decide) (fun c1 => ?_) (fun c1 => ?_)
        · rw [if_neg c1] at h
          exact ih.2.2.2.2.2.2.2.2.2.2.1 z _ _ L σ _ h hzk hc hs H locs ls hP hD hS (lv_sub hl [] rfl)
        · rw [if_pos c1] at h
          refine lv_iconst (v := 1) hx hb dX3_gather_117 (by decide) ?_
          refine lv_goto (tgt := 122) hx hb dX3_gather_118 (by decide) ?_
          exact ih.2.2.2.2.2.2.2.2.2.2.2 z _ _ (lI L 100 1) σ _ h hzk hc hs H locs ls hP hD hS (lv_sub hl [] rfl)
      · intro z cells slots L σ r h hzk hc hs H locs ls hP hD hS hl
        rw [f_X3_gather] at h
        refine lv_aload_n hx hb dX3_gather_63 rfl (lv_at hl 0 rfl) ?_
        refine lv_iload_n hx hb dX3_gather_64 rfl (lv_at hl 1 rfl) ?_
        obtain ⟨r1, hc1, hle1, h9⟩ := ox_ex h
        clear h
        refine kx_v (vx_runV (As := [.int (L.1 2)]) (rest := []) ⟨hx, hb, hml, hown, hts⟩ (c_f_X3_joinSet l hl0 dC dI cy ek a k (lI lZ 1 ((L.1 2))) σ r1 hc1 z H.size) (cwV 1 hts g_f_X3_gather_X3_joinSet_V516 rfl rfl rfl hd_f_X3_joinSet ⟨Nat.le_of_ble_eq_true rfl, Nat.le_of_ble_eq_true rfl⟩) ⟨nb_blindF, va_recv hK hP (ci := 3) (q0 := 18) rfl rfl, (kx_pre hK hG hE hT hA hP hD hS)⟩ rfl rfl hl.1 rfl (lv_room (Nat.le_of_ble_eq_true rfl)) dX3_gather_65 ⟨Nat.le_trans (Nat.add_le_add_left hle1.1 _) (Nat.le_of_eq hc), Nat.le_trans (Nat.add_le_add_left hle1.2 _) (Nat.le_of_eq hs)⟩) hK hA hzk hP hD hS (by decide) hno hlocks ?_
        rcases h9 with ⟨h00, y1, hny1, hy⟩ | ⟨h00, hy⟩
        · subst hy
          have h := hny1
          refine Or.inl ⟨h00, fun z H locs hz1 hzk hP hD hS => ?_⟩
          replace hc := (Nat.add_assoc _ _ _).trans hc
          replace hs := (Nat.add_assoc _ _ _).trans hs
          refine lv_goto (tgt := 125) hx hb dX3_gather_68 (by decide) ?_
          exact ih.2.2.2.2.2.2.2.1 z _ _ L r1.2.1 _ h hzk hc hs H locs ls hP hD hS (lv_sub hl [] rfl)
        · subst hy
          exact Or.inr ⟨h00, rfl, hc, hs⟩
      · intro z cells slots L σ r h hzk hc hs H locs ls hP hD hS hl
        rw [f_X3_gather] at h
        refine lv_aload_n hx hb dX3_gather_71 rfl (lv_at hl 0 rfl) ?_
        refine lv_iload_n hx hb dX3_gather_72 rfl (lv_at hl 1 rfl) ?_
        obtain ⟨r1, hc1, hle1, h9⟩ := ox_ex h
        clear h
        refine kx_v (vx_runV (As := [.int (L.1 2)]) (rest := []) ⟨hx, hb, hml, hown, hts⟩ (c_f_X3_joinTuple l hl0 dC dI cy ek a k (lI lZ 1 ((L.1 2))) σ r1 hc1 z H.size) (cwV 1 hts g_f_X3_gather_X3_joinTuple_V519 rfl rfl rfl hd_f_X3_joinTuple ⟨Nat.le_of_ble_eq_true rfl, Nat.le_of_ble_eq_true rfl⟩) ⟨nb_blindF, va_recv hK hP (ci := 3) (q0 := 18) rfl rfl, (kx_pre hK hG hE hT hA hP hD hS)⟩ rfl rfl hl.1 rfl (lv_room (Nat.le_of_ble_eq_true rfl)) dX3_gather_73 ⟨Nat.le_trans (Nat.add_le_add_left hle1.1 _) (Nat.le_of_eq hc), Nat.le_trans (Nat.add_le_add_left hle1.2 _) (Nat.le_of_eq hs)⟩) hK hA hzk hP hD hS (by decide) hno hlocks ?_
        rcases h9 with ⟨h00, y1, hny1, hy⟩ | ⟨h00, hy⟩
        · subst hy
          have h := hny1
          refine Or.inl ⟨h00, fun z H locs hz1 hzk hP hD hS => ?_⟩
          replace hc := (Nat.add_assoc _ _ _).trans hc
          replace hs := (Nat.add_assoc _ _ _).trans hs
          refine lv_goto (tgt := 125) hx hb dX3_gather_76 (by decide) ?_
          exact ih.2.2.2.2.2.2.2.1 z _ _ L r1.2.1 _ h hzk hc hs H locs ls hP hD hS (lv_sub hl [] rfl)
        · subst hy
          exact Or.inr ⟨h00, rfl, hc, hs⟩
      · intro z cells slots L σ r h hzk hc hs H locs ls hP hD hS hl
        rw [f_X3_gather] at h
        obtain rfl := Option.some.inj h
        subst hc
        subst hs
        exact xr_v hx hb hr hK hzk hP hD hS hlocks dX3_gather_125
      · intro z cells slots L σ r h hzk hc hs H locs ls hP hD hS hl
        rw [f_X3_gather] at h
        refine lv_iconst (v := 0) hx hb dX3_gather_92 (by decide) ?_
        exact ih.2.2.2.2.2.2.2.2.2.1 z _ _ (lI (lI L 100 0) 101 ((L.1 100))) σ _ h hzk hc hs H locs ls hP hD hS (lv_sub hl [] rfl)
      · intro z cells slots L σ r h hzk hc hs H locs ls hP hD hS hl
        rw [f_X3_gather] at h
        obtain ⟨r1, hc1, hle1, h9⟩ := ox_ex h
        clear h
        refine kx_v (vx_runV (As := [.int (L.1 101), .int (L.1 100)]) (rest := []) ⟨hx, hb, hml, hown, hts⟩ (c_f_X3_gatherIntoSet l hl0 dC dI cy ek a k (lI (lI lZ 1 ((L.1 101))) 2 ((L.1 100))) σ r1 hc1 z H.size) (cwV 2 hts g_f_X3_gather_X3_gatherIntoSet_V522 rfl rfl rfl hd_f_X3_gatherIntoSet ⟨Nat.le_of_ble_eq_true rfl, Nat.le_of_ble_eq_true rfl⟩) ⟨nb_blindF, va_recv hK hP (ci := 3) (q0 := 18) rfl rfl, (kx_pre hK hG hE hT hA hP hD hS)⟩ rfl rfl hl.1 rfl (lv_room (Nat.le_of_ble_eq_true rfl)) dX3_gather_93 ⟨Nat.le_trans (Nat.add_le_add_left hle1.1 _) (Nat.le_of_eq hc), Nat.le_trans (Nat.add_le_add_left hle1.2 _) (Nat.le_of_eq hs)⟩) hK hA hzk hP hD hS (by decide) hno hlocks ?_
        rcases h9 with ⟨h00, y1, hny1, hy⟩ | ⟨h00, hy⟩
        · subst hy
          have h := hny1
          refine Or.inl ⟨h00, fun z H locs hz1 hzk hP hD hS => ?_⟩
          replace hc := (Nat.add_assoc _ _ _).trans hc
          replace hs := (Nat.add_assoc _ _ _).trans hs
          refine lv_goto (tgt := 125) hx hb dX3_gather_96 (by decide) ?_
          exact ih.2.2.2.2.2.2.2.1 z _ _ L r1.2.1 _ h hzk hc hs H locs ls hP hD hS (lv_sub hl [] rfl)
        · subst hy
          exact Or.inr ⟨h00, rfl, hc, hs⟩
      · intro z cells slots L σ r h hzk hc hs H locs ls hP hD hS hl
        rw [f_X3_gather] at h
        refine lv_iconst (v := 0) hx hb dX3_gather_121 (by decide) ?_
        exact ih.2.2.2.2.2.2.2.2.2.2.2 z _ _ (lI L 100 0) σ _ h hzk hc hs H locs ls hP hD hS (lv_sub hl [] rfl)
      · intro z cells slots L σ r h hzk hc hs H locs ls hP hD hS hl
        rw [f_X3_gather] at h
        obtain ⟨r1, hc1, hle1, h9⟩ := ox_ex h
        clear h
        refine kx_v (vx_runV (As := [.int (L.1 100)]) (rest := []) ⟨hx, hb, hml, hown, hts⟩ (c_f_X3_gathered l hl0 dC dI cy ek a k (lI lZ 1 ((L.1 100))) σ r1 hc1 z H.size) (cwV 1 hts g_f_X3_gather_X3_gathered_V529 rfl rfl rfl hd_f_X3_gathered ⟨Nat.le_of_ble_eq_true rfl, Nat.le_of_ble_eq_true rfl⟩) ⟨nb_blindF, va_recv hK hP (ci := 3) (q0 := 18) rfl rfl, (kx_pre hK hG hE hT hA hP hD hS)⟩ rfl rfl hl.1 rfl (lv_room (Nat.le_of_ble_eq_true rfl)) dX3_gather_122 ⟨Nat.le_trans (Nat.add_le_add_left hle1.1 _) (Nat.le_of_eq hc), Nat.le_trans (Nat.add_le_add_left hle1.2 _) (Nat.le_of_eq hs)⟩) hK hA hzk hP hD hS (by decide) hno hlocks ?_
        rcases h9 with ⟨h00, y1, hny1, hy⟩ | ⟨h00, hy⟩
        · subst hy
          have h := hny1
          refine Or.inl ⟨h00, fun z H locs hz1 hzk hP hD hS => ?_⟩
          replace hc := (Nat.add_assoc _ _ _).trans hc
          replace hs := (Nat.add_assoc _ _ _).trans hs
          exact ih.2.2.2.2.2.2.2.1 z _ _ L r1.2.1 _ h hzk hc hs H locs ls hP hD hS (lv_sub hl [] rfl)
        · subst hy
          exact Or.inr ⟨h00, rfl, hc, hs⟩
  exact (blk k0).1 z 0 0 L0 σ0 r0 h0 (zk_rf _ _) ((Nat.zero_add _).trans hmc) ((Nat.zero_add _).trans hms) s.heap [] ls hP hD hS hl
/-! X3_takeFrom -/
def f_X3_takeFrom : Nat → Nat → LV → CS → Option RS
  | 0, _, _, _ => none
  | k + 1, 0, L, σ => if ¬ (((((σ.1 1902)) - 1)) < 0 ∨ (sN σ 20) ≤ ((((σ.1 1902)) - 1)).toNatClampNeg) then (op (y_X1_kind k 0 (lI lZ 1 ((σ.2.2.1 20 ((((σ.1 1902)) - 1)).toNatClampNeg))) σ) (fun r2 => if ((L.1 1)) = 0 then (if r2.1 = 6 then (f_X3_takeFrom k 2 (lI L 3 ((σ.2.2.1 20 ((((σ.1 1902)) - 1)).toNatClampNeg))) r2.2) else (f_X3_takeFrom k 3 L r2.2)) else (f_X3_takeFrom k 1 (lI (lI L 3 ((σ.2.2.1 20 ((((σ.1 1902)) - 1)).toNatClampNeg))) 4 r2.1) r2.2))) else none
  | k + 1, 1, L, σ => if ((L.1 4)) = 5 then (f_X3_takeFrom k 2 L σ) else (if ((L.1 4)) = 4 then (f_X3_takeFrom k 2 L σ) else (f_X3_takeFrom k 3 L σ))
  | k + 1, 2, L, σ => op (y_X1_length k 0 (lI lZ 1 ((L.1 3))) σ) (fun r1 => if r1.1 = 0 then (if ¬ (((((r1.2.1 1902)) - 1)) < 0 ∨ (sN r1.2 20) ≤ ((((r1.2.1 1902)) - 1)).toNatClampNeg) then (ox (f_X3_push k 0 (lI lZ 1 ((-2147483648))) (uA r1.2 20 ((((r1.2.1 1902)) - 1)).toNatClampNeg ((-2147483648)))) (fun r4 => oP (sPr r4.2.1) (fun b5 => if ¬ (((((L.1 2)) + 1)) < 0 ∨ (sN r4.2.1 (pR0 ((sKd r4.2.1 b5)))) ≤ ((((L.1 2)) + 1)).toNatClampNeg) then (some ((0, 0), (uI r4.2.1 1900 ((((L.1 2)) + ((r4.2.1.2.2.1 (pR0 ((sKd r4.2.1 b5))) ((((L.1 2)) + 1)).toNatClampNeg))))), (0, 0))) else none))) else none) else (f_X3_takeFrom k 4 (lI L 5 r1.1) r1.2))
  | k + 1, 3, L, σ => op (y_X3_fail k 0 (lI lZ 1 1) σ) (fun r1 => some ((0, 0), r1.2, (0, 0)))
  | k + 1, 4, L, σ => if ((L.1 1)) = 2 then (f_X3_takeFrom k 6 (lI (lI (lI L 100 ((((L.1 5)) - 1))) 101 ((L.1 3))) 103 ((((σ.1 1902)) - 1))) σ) else (f_X3_takeFrom k 5 (lI (lI L 100 ((L.1 3))) 102 ((((σ.1 1902)) - 1))) σ)
  | k + 1, 5, L, σ => f_X3_takeFrom k 6 (lI (lI (lI L 100 0) 101 ((L.1 100))) 103 ((L.1 102))) σ
  | k + 1, 6, L, σ => op (y_X1_taken k 0 (lI (lI lZ 1 ((L.1 101))) 2 ((L.1 100))) σ) (fun r1 => if ¬ (((L.1 103)) < 0 ∨ (sN r1.2 20) ≤ ((L.1 103)).toNatClampNeg) then (op (y_X0_remainder k 0 (lI (lI lZ 1 ((L.1 3))) 2 ((L.1 1))) (uI (uA r1.2 20 ((L.1 103)).toNatClampNeg r1.1) 1900 ((((L.1 2)) + 2)))) (fun r3 => ox (f_X3_give k 0 (lI lZ 1 r3.1) r3.2) (fun r4 => some ((0, 0), r4.2.1, (0, 0))))) else none)
  | _ + 1, _ + 7, _, _ => none
def o_f_X3_takeFrom : List Cond := [.fieldLink RX3 18 "SetHouse$Machine" "stack" "[I", .fieldLink RX3 14 "SetHouse$Machine" "run" "LSetHouse$Run;", .fieldLink RX3 39 "SetHouse$Machine" "heap" "LSetHouse$Heap;", .methodLink RX3 396 yX1_kind, .instanceMethod yX1_kind, .selects RX1 yX1_kind yX1_kind, .initialized RX1, .methodLink RX3 399 yX1_length, .instanceMethod yX1_length, .selects RX1 yX1_length yX1_length, .constant RX3 136 (-2147483648), .methodLink RX3 322 yX3_push, .instanceMethod yX3_push, .selects RX3 yX3_push yX3_push, .initialized RX3, .fieldLink RX3 58 "SetHouse$Machine" "program" "LSetHouse$Program;", .methodLink RX3 313 yX3_fail, .instanceMethod yX3_fail, .selects RX3 yX3_fail yX3_fail, .methodLink RX3 473 yX1_taken, .instanceMethod yX1_taken, .selects RX1 yX1_taken yX1_taken, .fieldLink RX3 47 "SetHouse$Machine" "algebra" "LSetHouse$Algebra;", .methodLink RX3 551 yX0_remainder, .instanceMethod yX0_remainder, .selects RX0 yX0_remainder yX0_remainder, .initialized RX0, .methodLink RX3 391 yX3_give, .instanceMethod yX3_give, .selects RX3 yX3_give yX3_give]
theorem o_f_X3_takeFrom_good : o_f_X3_takeFrom.all goodWord = true := by decide +kernel
def p_f_X3_takeFrom : List Cond := o_f_X3_takeFrom ++ ((.code yX1_kind cX1_kind 2 (some .int) :: p_y_X1_kind) ++ ((.code yX1_length cX1_length 2 (some .int) :: p_y_X1_length) ++ ((.code yX3_push cX3_push 2 none :: p_f_X3_push) ++ ((.code yX3_fail cX3_fail 2 none :: p_y_X3_fail) ++ ((.code yX1_taken cX1_taken 3 (some .int) :: p_y_X1_taken) ++ ((.code yX0_remainder cX0_remainder 7 (some .int) :: p_y_X0_remainder) ++ ((.code yX3_give cX3_give 2 none :: p_f_X3_give) ++ [])))))))
theorem p_f_X3_takeFrom_good : p_f_X3_takeFrom.all goodWord = true := nb_all2 o_f_X3_takeFrom_good (nb_all2 (nb_allc (by decide +kernel) p_y_X1_kind_good) (nb_all2 (nb_allc (by decide +kernel) p_y_X1_length_good) (nb_all2 (nb_allc (by decide +kernel) p_f_X3_push_good) (nb_all2 (nb_allc (by decide +kernel) p_y_X3_fail_good) (nb_all2 (nb_allc (by decide +kernel) p_y_X1_taken_good) (nb_all2 (nb_allc (by decide +kernel) p_y_X0_remainder_good) (nb_all2 (nb_allc (by decide +kernel) p_f_X3_give_good) rfl)))))))
def w_f_X3_takeFrom : List Cond := .code yX3_takeFrom cX3_takeFrom 6 none :: (p_f_X3_takeFrom ++ fC)
theorem w_f_X3_takeFrom_good : w_f_X3_takeFrom.all goodWord = true := nb_allc (by decide +kernel) (nb_all2 p_f_X3_takeFrom_good fC_good)
theorem in_f_X3_takeFrom_X3 : ∀ w ∈ wsX30, w ∈ w_f_X3_takeFrom := fun _ h => List.mem_cons_of_mem _ (List.mem_append_right _ (List.mem_append_right _ (List.mem_append_right _ (List.mem_append_right _ (List.mem_append_left _ h)))))
theorem in_f_X3_takeFrom_X7 : ∀ w ∈ wsX70, w ∈ w_f_X3_takeFrom := fun _ h => List.mem_cons_of_mem _ (List.mem_append_right _ (List.mem_append_right _ (List.mem_append_right _ (List.mem_append_right _ (List.mem_append_right _ (List.mem_append_right _ (List.mem_append_right _ (List.mem_append_left _ h))))))))
theorem in_f_X3_takeFrom_X8 : ∀ w ∈ wsX80, w ∈ w_f_X3_takeFrom := fun _ h => List.mem_cons_of_mem _ (List.mem_append_right _ (List.mem_append_right _ (List.mem_append_right _ (List.mem_append_right _ (List.mem_append_right _ (List.mem_append_right _ (List.mem_append_right _ (List.mem_append_right _ (List.mem_append_left _ h)))))))))
theorem hd_f_X3_takeFrom : yX3_takeFrom.cls = RX3 ∧ yX3_takeFrom.cls ≠ "java/lang/invoke/MethodHandle" ∧ yX3_takeFrom.cls ≠ "java/lang/invoke/VarHandle" ∧ (parseMethodDescriptor yX3_takeFrom.desc).map (fun d => d.parameters.length) = some 2 := by decide +kernel
theorem gg_f_X3_takeFrom_X3_give : GoodIn w_f_X3_takeFrom w_f_X3_give := goodIn_sub (fun w h => (List.mem_cons.mp h).elim (fun e => (List.mem_cons_of_mem _ (List.mem_append_left _ (List.mem_append_right _ (List.mem_append_right _ (List.mem_append_right _ (List.mem_append_right _ (List.mem_append_right _ (List.mem_append_right _ (List.mem_append_right _ (List.mem_append_left _ (List.mem_cons.mpr (Or.inl e))))))))))))) (fun h => (List.mem_append.mp h).elim (fun h => (List.mem_cons_of_mem _ (List.mem_append_left _ (List.mem_append_right _ (List.mem_append_right _ (List.mem_append_right _ (List.mem_append_right _ (List.mem_append_right _ (List.mem_append_right _ (List.mem_append_right _ (List.mem_append_left _ (List.mem_cons_of_mem _ h)))))))))))) (fun h => List.mem_cons_of_mem _ (List.mem_append_right _ h)))) w_f_X3_give_good
theorem g_f_X3_takeFrom_X3_give_V391 : GoodIn w_f_X3_takeFrom (wsV RX3 391 RX3 yX3_give w_f_X3_give) := goodIn_app (nb_g4 (List.mem_cons_of_mem _ (List.mem_append_left _ (List.mem_append_left _ (List.mem_of_getElem? (i := 27) rfl)))) (List.mem_cons_of_mem _ (List.mem_append_left _ (List.mem_append_left _ (List.mem_of_getElem? (i := 28) rfl)))) (List.mem_cons_of_mem _ (List.mem_append_left _ (List.mem_append_left _ (List.mem_of_getElem? (i := 29) rfl)))) (List.mem_cons_of_mem _ (List.mem_append_left _ (List.mem_append_left _ (List.mem_of_getElem? (i := 14) rfl)))) (by decide +kernel)) gg_f_X3_takeFrom_X3_give
theorem gg_f_X3_takeFrom_X3_push : GoodIn w_f_X3_takeFrom w_f_X3_push := goodIn_sub (fun w h => (List.mem_cons.mp h).elim (fun e => (List.mem_cons_of_mem _ (List.mem_append_left _ (List.mem_append_right _ (List.mem_append_right _ (List.mem_append_right _ (List.mem_append_left _ (List.mem_cons.mpr (Or.inl e))))))))) (fun h => (List.mem_append.mp h).elim (fun h => (List.mem_cons_of_mem _ (List.mem_append_left _ (List.mem_append_right _ (List.mem_append_right _ (List.mem_append_right _ (List.mem_append_left _ (List.mem_cons_of_mem _ h)))))))) (fun h => List.mem_cons_of_mem _ (List.mem_append_right _ h)))) w_f_X3_push_good
theorem g_f_X3_takeFrom_X3_push_V322 : GoodIn w_f_X3_takeFrom (wsV RX3 322 RX3 yX3_push w_f_X3_push) := goodIn_app (nb_g4 (List.mem_cons_of_mem _ (List.mem_append_left _ (List.mem_append_left _ (List.mem_of_getElem? (i := 11) rfl)))) (List.mem_cons_of_mem _ (List.mem_append_left _ (List.mem_append_left _ (List.mem_of_getElem? (i := 12) rfl)))) (List.mem_cons_of_mem _ (List.mem_append_left _ (List.mem_append_left _ (List.mem_of_getElem? (i := 13) rfl)))) (List.mem_cons_of_mem _ (List.mem_append_left _ (List.mem_append_left _ (List.mem_of_getElem? (i := 14) rfl)))) (by decide +kernel)) gg_f_X3_takeFrom_X3_push
theorem gg_f_X3_takeFrom_X0_remainder : GoodIn w_f_X3_takeFrom w_y_X0_remainder := goodIn_sub (fun w h => (List.mem_cons.mp h).elim (fun e => (List.mem_cons_of_mem _ (List.mem_append_left _ (List.mem_append_right _ (List.mem_append_right _ (List.mem_append_right _ (List.mem_append_right _ (List.mem_append_right _ (List.mem_append_right _ (List.mem_append_left _ (List.mem_cons.mpr (Or.inl e)))))))))))) (fun h => (List.mem_append.mp h).elim (fun h => (List.mem_cons_of_mem _ (List.mem_append_left _ (List.mem_append_right _ (List.mem_append_right _ (List.mem_append_right _ (List.mem_append_right _ (List.mem_append_right _ (List.mem_append_right _ (List.mem_append_left _ (List.mem_cons_of_mem _ h))))))))))) (fun h => List.mem_cons_of_mem _ (List.mem_append_right _ h)))) w_y_X0_remainder_good
theorem g_y_X3_takeFrom_X0_remainder_V551 : GoodIn w_f_X3_takeFrom (wsV RX3 551 RX0 yX0_remainder w_y_X0_remainder) := goodIn_app (nb_g4 (List.mem_cons_of_mem _ (List.mem_append_left _ (List.mem_append_left _ (List.mem_of_getElem? (i := 23) rfl)))) (List.mem_cons_of_mem _ (List.mem_append_left _ (List.mem_append_left _ (List.mem_of_getElem? (i := 24) rfl)))) (List.mem_cons_of_mem _ (List.mem_append_left _ (List.mem_append_left _ (List.mem_of_getElem? (i := 25) rfl)))) (List.mem_cons_of_mem _ (List.mem_append_left _ (List.mem_append_left _ (List.mem_of_getElem? (i := 26) rfl)))) (by decide +kernel)) gg_f_X3_takeFrom_X0_remainder
theorem gg_f_X3_takeFrom_X1_kind : GoodIn w_f_X3_takeFrom w_y_X1_kind := goodIn_sub (fun w h => (List.mem_cons.mp h).elim (fun e => (List.mem_cons_of_mem _ (List.mem_append_left _ (List.mem_append_right _ (List.mem_append_left _ (List.mem_cons.mpr (Or.inl e))))))) (fun h => (List.mem_append.mp h).elim (fun h => (List.mem_cons_of_mem _ (List.mem_append_left _ (List.mem_append_right _ (List.mem_append_left _ (List.mem_cons_of_mem _ h)))))) (fun h => List.mem_cons_of_mem _ (List.mem_append_right _ h)))) w_y_X1_kind_good
theorem g_y_X3_takeFrom_X1_kind_V396 : GoodIn w_f_X3_takeFrom (wsV RX3 396 RX1 yX1_kind w_y_X1_kind) := goodIn_app (nb_g4 (List.mem_cons_of_mem _ (List.mem_append_left _ (List.mem_append_left _ (List.mem_of_getElem? (i := 3) rfl)))) (List.mem_cons_of_mem _ (List.mem_append_left _ (List.mem_append_left _ (List.mem_of_getElem? (i := 4) rfl)))) (List.mem_cons_of_mem _ (List.mem_append_left _ (List.mem_append_left _ (List.mem_of_getElem? (i := 5) rfl)))) (List.mem_cons_of_mem _ (List.mem_append_left _ (List.mem_append_left _ (List.mem_of_getElem? (i := 6) rfl)))) (by decide +kernel)) gg_f_X3_takeFrom_X1_kind
theorem gg_f_X3_takeFrom_X1_length : GoodIn w_f_X3_takeFrom w_y_X1_length := goodIn_sub (fun w h => (List.mem_cons.mp h).elim (fun e => (List.mem_cons_of_mem _ (List.mem_append_left _ (List.mem_append_right _ (List.mem_append_right _ (List.mem_append_left _ (List.mem_cons.mpr (Or.inl e)))))))) (fun h => (List.mem_append.mp h).elim (fun h => (List.mem_cons_of_mem _ (List.mem_append_left _ (List.mem_append_right _ (List.mem_append_right _ (List.mem_append_left _ (List.mem_cons_of_mem _ h))))))) (fun h => List.mem_cons_of_mem _ (List.mem_append_right _ h)))) w_y_X1_length_good
theorem g_y_X3_takeFrom_X1_length_V399 : GoodIn w_f_X3_takeFrom (wsV RX3 399 RX1 yX1_length w_y_X1_length) := goodIn_app (nb_g4 (List.mem_cons_of_mem _ (List.mem_append_left _ (List.mem_append_left _ (List.mem_of_getElem? (i := 7) rfl)))) (List.mem_cons_of_mem _ (List.mem_append_left _ (List.mem_append_left _ (List.mem_of_getElem? (i := 8) rfl)))) (List.mem_cons_of_mem _ (List.mem_append_left _ (List.mem_append_left _ (List.mem_of_getElem? (i := 9) rfl)))) (List.mem_cons_of_mem _ (List.mem_append_left _ (List.mem_append_left _ (List.mem_of_getElem? (i := 6) rfl)))) (by decide +kernel)) gg_f_X3_takeFrom_X1_length
theorem gg_f_X3_takeFrom_X1_taken : GoodIn w_f_X3_takeFrom w_y_X1_taken := goodIn_sub (fun w h => (List.mem_cons.mp h).elim (fun e => (List.mem_cons_of_mem _ (List.mem_append_left _ (List.mem_append_right _ (List.mem_append_right _ (List.mem_append_right _ (List.mem_append_right _ (List.mem_append_right _ (List.mem_append_left _ (List.mem_cons.mpr (Or.inl e))))))))))) (fun h => (List.mem_append.mp h).elim (fun h => (List.mem_cons_of_mem _ (List.mem_append_left _ (List.mem_append_right _ (List.mem_append_right _ (List.mem_append_right _ (List.mem_append_right _ (List.mem_append_right _ (List.mem_append_left _ (List.mem_cons_of_mem _ h)))))))))) (fun h => List.mem_cons_of_mem _ (List.mem_append_right _ h)))) w_y_X1_taken_good
theorem g_y_X3_takeFrom_X1_taken_V473 : GoodIn w_f_X3_takeFrom (wsV RX3 473 RX1 yX1_taken w_y_X1_taken) := goodIn_app (nb_g4 (List.mem_cons_of_mem _ (List.mem_append_left _ (List.mem_append_left _ (List.mem_of_getElem? (i := 19) rfl)))) (List.mem_cons_of_mem _ (List.mem_append_left _ (List.mem_append_left _ (List.mem_of_getElem? (i := 20) rfl)))) (List.mem_cons_of_mem _ (List.mem_append_left _ (List.mem_append_left _ (List.mem_of_getElem? (i := 21) rfl)))) (List.mem_cons_of_mem _ (List.mem_append_left _ (List.mem_append_left _ (List.mem_of_getElem? (i := 6) rfl)))) (by decide +kernel)) gg_f_X3_takeFrom_X1_taken
theorem gg_f_X3_takeFrom_X3_fail : GoodIn w_f_X3_takeFrom w_y_X3_fail := goodIn_sub (fun w h => (List.mem_cons.mp h).elim (fun e => (List.mem_cons_of_mem _ (List.mem_append_left _ (List.mem_append_right _ (List.mem_append_right _ (List.mem_append_right _ (List.mem_append_right _ (List.mem_append_left _ (List.mem_cons.mpr (Or.inl e)))))))))) (fun h => (List.mem_append.mp h).elim (fun h => (List.mem_cons_of_mem _ (List.mem_append_left _ (List.mem_append_right _ (List.mem_append_right _ (List.mem_append_right _ (List.mem_append_right _ (List.mem_append_left _ (List.mem_cons_of_mem _ h))))))))) (fun h => List.mem_cons_of_mem _ (List.mem_append_right _ h)))) w_y_X3_fail_good
theorem g_y_X3_takeFrom_X3_fail_V313 : GoodIn w_f_X3_takeFrom (wsV RX3 313 RX3 yX3_fail w_y_X3_fail) := goodIn_app (nb_g4 (List.mem_cons_of_mem _ (List.mem_append_left _ (List.mem_append_left _ (List.mem_of_getElem? (i := 16) rfl)))) (List.mem_cons_of_mem _ (List.mem_append_left _ (List.mem_append_left _ (List.mem_of_getElem? (i := 17) rfl)))) (List.mem_cons_of_mem _ (List.mem_append_left _ (List.mem_append_left _ (List.mem_of_getElem? (i := 18) rfl)))) (List.mem_cons_of_mem _ (List.mem_append_left _ (List.mem_append_left _ (List.mem_of_getElem? (i := 14) rfl)))) (by decide +kernel)) gg_f_X3_takeFrom_X3_fail
set_option maxHeartbeats 40000000 in
set_option maxRecDepth 100000 in
theorem c_f_X3_takeFrom (l : Launch) (hl0 : l.stackTraces = false) (dC : Nat → ClassId) (dI : Nat → Nat → Nat) (cy : Nat → ClassId) (ek a : Nat → Nat) (k0 : Nat) (L0 : LV) (σ0 : CS) (r0 : RS) (h0 : f_X3_takeFrom k0 0 L0 σ0 = some r0) (z : Nat → Nat) (sz : Nat) : vx_Met l yX3_takeFrom w_f_X3_takeFrom ({ frames := 6, cells := r0.2.2.1, slots := r0.2.2.2, locals := 177 }) (va_Pc [.ref (a 18), .int (L0.1 1), .int (L0.1 2)] (nInF (dC, dI) cy ek sz (vC cy a z σ0))) (xV dC dI cy a (va_A (vC cy a z σ0) sz) [20] z r0) (xX dC dI cy a (va_A (vC cy a z σ0) sz) [20] z r0) r0.2.2.1 r0.2.2.2 (va_A (vC cy a z σ0) sz) := by
  refine vx_ofW (cc := cX3_takeFrom) (maxL := 6) (ret := none) (by decide) rfl ?_
  intro p e s m args below meth c s₁ B hml hno hv
  obtain ⟨rfl, ⟨⟨hsz, hP, hK, hD0, hG⟩, hE⟩, hT⟩ := hv
  have hx := B.exec
  have hb := B.bytes
  have hr := B.returns
  have hts := atoms_spec (ws := w_f_X3_takeFrom) B.pre
  have hown : s.vm.findClass RX3 = some m.cls := findClass_of_methodNamed B.named
  have hlocks := B.notSynchronized
  subst hsz
  have hD := hD0.self (sz := s.heap.size)
  generalize hAe : va_A (vC cy a z σ0) s.heap.size = A at hD hE hT ⊢
  have hA : ∀ q : Nat, s.heap.size ≤ q → A q := fun q h => by rw [← hAe]; exact Or.inr h
  have hS : va_S A s.heap s.heap [] := va_S.rf
  have hl := lv_entry ([.ref (a 18), .int (L0.1 1), .int (L0.1 2)]) (n := 6) (Nat.le_of_ble_eq_true rfl)
  rw [lg_entry_eq]
  generalize (lg_sl ([.ref (a 18), .int (L0.1 1), .int (L0.1 2)]) ++ List.replicate (6 - (lg_sl ([.ref (a 18), .int (L0.1 1), .int (L0.1 2)])).length) Slot.unset).toArray = ls at hl ⊢
  have hl : lv_has ls 6 [(0, .ref (a 18)), (1, .int (L0.1 1)), (2, .int (L0.1 2))] := hl
  generalize hmc : r0.2.2.1 = mc
  generalize hms : r0.2.2.2 = ms
  have blk : ∀ k : Nat, (bX p l e (headSpec w_f_X3_takeFrom ({ frames := 6, cells := mc, slots := ms, locals := 177 })).room s m #[.ref (a 18), .int (L0.1 1), .int (L0.1 2)] below meth c dC dI cy a A (fun r => vx_MQ below (xV dC dI cy a A [20] z r) (xX dC dI cy a A [20] z r) #[.ref (a 18), .int (L0.1 1), .int (L0.1 2)] s mc ms A) [20] z mc ms 6 (f_X3_takeFrom k 0) (fun z L => [(0, .ref (a 18)), (1, .int (L.1 1)), (2, .int (L.1 2))]) 0 (fun z L => [])) ∧ (bX p l e (headSpec w_f_X3_takeFrom ({ frames := 6, cells := mc, slots := ms, locals := 177 })).room s m #[.ref (a 18), .int (L0.1 1), .int (L0.1 2)] below meth c dC dI cy a A (fun r => vx_MQ below (xV dC dI cy a A [20] z r) (xX dC dI cy a A [20] z r) #[.ref (a 18), .int (L0.1 1), .int (L0.1 2)] s mc ms A) [20] z mc ms 6 (f_X3_takeFrom k 1) (fun z L => [(0, .ref (a 18)), (1, .int (L.1 1)), (2, .int (L.1 2)), (3, .int (L.1 3)), (4, .int (L.1 4))]) 39 (fun z L => [])) ∧ (bX p l e (headSpec w_f_X3_takeFrom ({ frames := 6, cells := mc, slots := ms, locals := 177 })).room s m #[.ref (a 18), .int (L0.1 1), .int (L0.1 2)] below meth c dC dI cy a A (fun r => vx_MQ below (xV dC dI cy a A [20] z r) (xX dC dI cy a A [20] z r) #[.ref (a 18), .int (L0.1 1), .int (L0.1 2)] s mc ms A) [20] z mc ms 6 (f_X3_takeFrom k 2) (fun z L => [(0, .ref (a 18)), (1, .int (L.1 1)), (2, .int (L.1 2)), (3, .int (L.1 3))]) 57 (fun z L => [])) ∧ (bX p l e (headSpec w_f_X3_takeFrom ({ frames := 6, cells := mc, slots := ms, locals := 177 })).room s m #[.ref (a 18), .int (L0.1 1), .int (L0.1 2)] below meth c dC dI cy a A (fun r => vx_MQ below (xV dC dI cy a A [20] z r) (xX dC dI cy a A [20] z r) #[.ref (a 18), .int (L0.1 1), .int (L0.1 2)] s mc ms A) [20] z mc ms 6 (f_X3_takeFrom k 3) (fun z L => [(0, .ref (a 18))]) 51 (fun z L => [])) ∧ (bX p l e (headSpec w_f_X3_takeFrom ({ frames := 6, cells := mc, slots := ms, locals := 177 })).room s m #[.ref (a 18), .int (L0.1 1), .int (L0.1 2)] below meth c dC dI cy a A (fun r => vx_MQ below (xV dC dI cy a A [20] z r) (xX dC dI cy a A [20] z r) #[.ref (a 18), .int (L0.1 1), .int (L0.1 2)] s mc ms A) [20] z mc ms 6 (f_X3_takeFrom k 4) (fun z L => [(0, .ref (a 18)), (1, .int (L.1 1)), (2, .int (L.1 2)), (3, .int (L.1 3)), (5, .int (L.1 5))]) 115 (fun z L => [])) ∧ (bX p l e (headSpec w_f_X3_takeFrom ({ frames := 6, cells := mc, slots := ms, locals := 177 })).room s m #[.ref (a 18), .int (L0.1 1), .int (L0.1 2)] below meth c dC dI cy a A (fun r => vx_MQ below (xV dC dI cy a A [20] z r) (xX dC dI cy a A [20] z r) #[.ref (a 18), .int (L0.1 1), .int (L0.1 2)] s mc ms A) [20] z mc ms 6 (f_X3_takeFrom k 5) (fun z L => [(0, .ref (a 18)), (1, .int (L.1 1)), (2, .int (L.1 2)), (3, .int (L.1 3))]) 145 (fun z L => [.int (L.1 100), .ref (a 0), .int (L.1 102), .ref (z 20)])) ∧ (bX p l e (headSpec w_f_X3_takeFrom ({ frames := 6, cells := mc, slots := ms, locals := 177 })).room s m #[.ref (a 18), .int (L0.1 1), .int (L0.1 2)] below meth c dC dI cy a A (fun r => vx_MQ below (xV dC dI cy a A [20] z r) (xX dC dI cy a A [20] z r) #[.ref (a 18), .int (L0.1 1), .int (L0.1 2)] s mc ms A) [20] z mc ms 6 (f_X3_takeFrom k 6) (fun z L => [(0, .ref (a 18)), (1, .int (L.1 1)), (2, .int (L.1 2)), (3, .int (L.1 3))]) 146 (fun z L => [.int (L.1 100), .int (L.1 101), .ref (a 0), .int (L.1 103), .ref (z 20)])) := by
    intro k
    induction k with
    | zero => exact ⟨fun z c1 c2 L σ r h => (by cases h), fun z c1 c2 L σ r h => (by cases h), fun z c1 c2 L σ r h => (by cases h), fun z c1 c2 L σ r h => (by cases h), fun z c1 c2 L σ r h => (by cases h), fun z c1 c2 L σ r h => (by cases h), fun z c1 c2 L σ r h => (by cases h)⟩
    | succ k ih =>
      refine ⟨?_, ?_, ?_, ?_, ?_, ?_, ?_⟩
      · intro z cells slots L σ r h hzk hc hs H locs ls hP hD hS hl
        rw [f_X3_takeFrom] at h
        refine lv_aload_n hx hb dX3_takeFrom_0 rfl (lv_at hl 0 rfl) ?_
        refine hg_18_7 hx hb hts in_f_X3_takeFrom_X3 hown hK hP (hts _ (List.mem_cons_of_mem _ (List.mem_append_left _ (List.mem_append_left _ (List.mem_of_getElem? (i := 0) rfl))))) dX3_takeFrom_1 ?_
        refine lv_aload_n hx hb dX3_takeFrom_4 rfl (lv_at hl 0 rfl) ?_
        refine hg_18_5 hx hb hts in_f_X3_takeFrom_X3 hown hK hP (hts _ (List.mem_cons_of_mem _ (List.mem_append_left _ (List.mem_append_left _ (List.mem_of_getElem? (i := 1) rfl))))) dX3_takeFrom_5 ?_
        refine hg_19_2n hx hb hts in_f_X3_takeFrom_X8 hown hK hP (va_Nw.use rfl (hG.1 _ (List.mem_of_getElem? (i := 10) rfl))) dX3_takeFrom_8 ?_
        refine lv_iconst (v := 1) hx hb dX3_takeFrom_11 (by decide) ?_
        refine lv_isub hx hb dX3_takeFrom_12 ?_
        obtain ⟨q1, h⟩ := kr_ite1 h
        refine hl_20 hx hb hK hP q1 dX3_takeFrom_13 ?_
        refine lv_istore_n (lv' := [(3, .int (σ.2.2.1 20 ((((σ.1 1902)) - 1)).toNatClampNeg)), (0, .ref (a 18)), (1, .int (L.1 1)), (2, .int (L.1 2))]) hx hb dX3_takeFrom_14 rfl hl (by decide) rfl (fun ls hl => ?_)
        refine lv_aload_n hx hb dX3_takeFrom_15 rfl (lv_at hl 1 rfl) ?_
        refine hg_18_0 hx hb hts in_f_X3_takeFrom_X3 hown hK hP (hts _ (List.mem_cons_of_mem _ (List.mem_append_left _ (List.mem_append_left _ (List.mem_of_getElem? (i := 2) rfl))))) dX3_takeFrom_16 ?_
        refine lv_iload_n hx hb dX3_takeFrom_19 rfl (lv_at hl 0 rfl) ?_
        obtain ⟨r2, hc2, h⟩ := op_ex h
        refine kc_i (va_runV (As := [.int (σ.2.2.1 20 ((((σ.1 1902)) - 1)).toNatClampNeg)]) (rest := []) ⟨hx, hb, hml, hown, hts⟩ (c_y_X1_kind l dC dI cy a z k (lI lZ 1 ((σ.2.2.1 20 ((((σ.1 1902)) - 1)).toNatClampNeg))) σ r2 hc2 H.size) (cwV 1 hts g_y_X3_takeFrom_X1_kind_V396 rfl rfl rfl hd_y_X1_kind ⟨Nat.le_of_ble_eq_true rfl, Nat.le_of_ble_eq_true rfl⟩) ⟨nb_blind, va_recv hK hP (ci := 1) (q0 := 0) rfl rfl, (kb_pre hK hG hP hD)⟩ rfl rfl hl.1 rfl (lv_room (Nat.le_of_ble_eq_true rfl)) dX3_takeFrom_20 ⟨(Nat.le_trans (Nat.le_add_right _ _) (Nat.le_of_eq hc)), (Nat.le_trans (Nat.le_add_right _ _) (Nat.le_of_eq hs))⟩) hA hP hD hS (fun H locs hP hD hS => ?_)
        refine lv_istore (lv' := [(4, .int r2.1), (3, .int (σ.2.2.1 20 ((((σ.1 1902)) - 1)).toNatClampNeg)), (0, .ref (a 18)), (1, .int (L.1 1)), (2, .int (L.1 2))]) hx hb dX3_takeFrom_23 hl (by decide) rfl (fun ls hl => ?_)
        refine lv_iload_n hx hb dX3_takeFrom_25 rfl (lv_at hl 3 rfl) ?_
        refine lv_if_ne (tgt := 39) hx hb dX3_takeFrom_26 (by decide) (fun c3 => ?_) (fun c3 => ?_)
        · rw [if_neg c3] at h
          exact ih.2.1 z _ _ (lI (lI L 3 ((σ.2.2.1 20 ((((σ.1 1902)) - 1)).toNatClampNeg))) 4 r2.1) r2.2 _ h hzk hc hs H locs ls hP hD hS (lv_sub hl [2, 3, 4, 1, 0] rfl)
        · rw [if_pos c3] at h
          refine lv_iload hx hb dX3_takeFrom_29 (lv_at hl 0 rfl) ?_
          refine lv_bipush (v := 6) hx hb dX3_takeFrom_31 (by decide) ?_
          refine lv_icmp_eq (tgt := 57) hx hb dX3_takeFrom_33 (by decide) (fun c4 => ?_) (fun c4 => ?_)
          · rw [if_pos c4] at h
            exact ih.2.2.1 z _ _ (lI L 3 ((σ.2.2.1 20 ((((σ.1 1902)) - 1)).toNatClampNeg))) r2.2 _ h hzk hc hs H locs ls hP hD hS (lv_sub hl [2, 3, 4, 1] rfl)
          · rw [if_neg c4] at h
            refine lv_goto (tgt := 51) hx hb dX3_takeFrom_36 (by decide) ?_
            exact ih.2.2.2.1 z _ _ L r2.2 _ h hzk hc hs H locs ls hP hD hS (lv_sub hl [2] rfl)
      · intro z cells slots L σ r h hzk hc hs H locs ls hP hD hS hl
        rw [f_X3_takeFrom] at h
        refine lv_iload hx hb dX3_takeFrom_39 (lv_at hl 4 rfl) ?_
        refine lv_iconst (v := 5) hx hb dX3_takeFrom_41 (by decide) ?_
        refine lv_icmp_eq (tgt := 57) hx hb dX3_takeFrom_42 (by decide) (fun c1 => ?_) (fun c1 => ?_)
        · rw [if_pos c1] at h
          exact ih.2.2.1 z _ _ L σ _ h hzk hc hs H locs ls hP hD hS (lv_sub hl [0, 1, 2, 3] rfl)
        · rw [if_neg c1] at h
          refine lv_iload hx hb dX3_takeFrom_45 (lv_at hl 4 rfl) ?_
          refine lv_iconst (v := 4) hx hb dX3_takeFrom_47 (by decide) ?_
          refine lv_icmp_eq (tgt := 57) hx hb dX3_takeFrom_48 (by decide) (fun c2 => ?_) (fun c2 => ?_)
          · rw [if_pos c2] at h
            exact ih.2.2.1 z _ _ L σ _ h hzk hc hs H locs ls hP hD hS (lv_sub hl [0, 1, 2, 3] rfl)
          · rw [if_neg c2] at h
            exact ih.2.2.2.1 z _ _ L σ _ h hzk hc hs H locs ls hP hD hS (lv_sub hl [0] rfl)
      · intro z cells slots L σ r h hzk hc hs H locs ls hP hD hS hl
        rw [f_X3_takeFrom] at h
        refine lv_aload_n hx hb dX3_takeFrom_57 rfl (lv_at hl 0 rfl) ?_
        refine hg_18_0 hx hb hts in_f_X3_takeFrom_X3 hown hK hP (hts _ (List.mem_cons_of_mem _ (List.mem_append_left _ (List.mem_append_left _ (List.mem_of_getElem? (i := 2) rfl))))) dX3_takeFrom_58 ?_
        refine lv_iload_n hx hb dX3_takeFrom_61 rfl (lv_at hl 3 rfl) ?_
        obtain ⟨r1, hc1, h⟩ := op_ex h
        refine kc_i (va_runV (As := [.int (L.1 3)]) (rest := []) ⟨hx, hb, hml, hown, hts⟩ (c_y_X1_length l dC dI cy a z k (lI lZ 1 ((L.1 3))) σ r1 hc1 H.size) (cwV 1 hts g_y_X3_takeFrom_X1_length_V399 rfl rfl rfl hd_y_X1_length ⟨Nat.le_of_ble_eq_true rfl, Nat.le_of_ble_eq_true rfl⟩) ⟨nb_blind, va_recv hK hP (ci := 1) (q0 := 0) rfl rfl, (kb_pre hK hG hP hD)⟩ rfl rfl hl.1 rfl (lv_room (Nat.le_of_ble_eq_true rfl)) dX3_takeFrom_62 ⟨(Nat.le_trans (Nat.le_add_right _ _) (Nat.le_of_eq hc)), (Nat.le_trans (Nat.le_add_right _ _) (Nat.le_of_eq hs))⟩) hA hP hD hS (fun H locs hP hD hS => ?_)
        refine lv_istore (lv' := [(5, .int r1.1), (0, .ref (a 18)), (1, .int (L.1 1)), (2, .int (L.1 2)), (3, .int (L.1 3))]) hx hb dX3_takeFrom_65 hl (by decide) rfl (fun ls hl => ?_)
        refine lv_iload hx hb dX3_takeFrom_67 (lv_at hl 0 rfl) ?_
        refine lv_if_ne (tgt := 115) hx hb dX3_takeFrom_69 (by decide) (fun c2 => ?_) (fun c2 => ?_)
        · rw [if_neg c2] at h
          exact ih.2.2.2.2.1 z _ _ (lI L 5 r1.1) r1.2 _ h hzk hc hs H locs ls hP hD hS (lv_sub hl [1, 2, 3, 4, 0] rfl)
        · rw [if_pos c2] at h
          refine lv_aload_n hx hb dX3_takeFrom_72 rfl (lv_at hl 1 rfl) ?_
          refine hg_18_7 hx hb hts in_f_X3_takeFrom_X3 hown hK hP (hts _ (List.mem_cons_of_mem _ (List.mem_append_left _ (List.mem_append_left _ (List.mem_of_getElem? (i := 0) rfl))))) dX3_takeFrom_73 ?_
          refine lv_aload_n hx hb dX3_takeFrom_76 rfl (lv_at hl 1 rfl) ?_
          refine hg_18_5 hx hb hts in_f_X3_takeFrom_X3 hown hK hP (hts _ (List.mem_cons_of_mem _ (List.mem_append_left _ (List.mem_append_left _ (List.mem_of_getElem? (i := 1) rfl))))) dX3_takeFrom_77 ?_
          refine hg_19_2n hx hb hts in_f_X3_takeFrom_X8 hown hK hP (va_Nw.use rfl (hG.1 _ (List.mem_of_getElem? (i := 10) rfl))) dX3_takeFrom_80 ?_
          refine lv_iconst (v := 1) hx hb dX3_takeFrom_83 (by decide) ?_
          refine lv_isub hx hb dX3_takeFrom_84 ?_
          refine lv_ldc (v := (-2147483648)) hx hb hown (hts _ (List.mem_cons_of_mem _ (List.mem_append_left _ (List.mem_append_left _ (List.mem_of_getElem? (i := 10) rfl))))) dX3_takeFrom_85 ?_
          obtain ⟨q3, h⟩ := kr_ite1 h
          refine hs_20 hx hb hK hP hD hS q3 dX3_takeFrom_87 (fun H locs hP hD hS => ?_)
          refine lv_aload_n hx hb dX3_takeFrom_88 rfl (lv_at hl 1 rfl) ?_
          refine lv_ldc (v := (-2147483648)) hx hb hown (hts _ (List.mem_cons_of_mem _ (List.mem_append_left _ (List.mem_append_left _ (List.mem_of_getElem? (i := 10) rfl))))) dX3_takeFrom_89 ?_
          obtain ⟨r4, hc4, hle4, h9⟩ := ox_ex h
          clear h
          refine kx_v (vx_runV (As := [.int (-2147483648)]) (rest := []) ⟨hx, hb, hml, hown, hts⟩ (c_f_X3_push l hl0 dC dI cy ek a k (lI lZ 1 ((-2147483648))) (uA r1.2 20 ((((r1.2.1 1902)) - 1)).toNatClampNeg ((-2147483648))) r4 hc4 z H.size) (cwV 1 hts g_f_X3_takeFrom_X3_push_V322 rfl rfl rfl hd_f_X3_push ⟨Nat.le_of_ble_eq_true rfl, Nat.le_of_ble_eq_true rfl⟩) ⟨nb_blindF, va_recv hK hP (ci := 3) (q0 := 18) rfl rfl, (kx_pre hK hG hE hT hA hP hD hS)⟩ rfl rfl hl.1 rfl (lv_room (Nat.le_of_ble_eq_true rfl)) dX3_takeFrom_91 ⟨Nat.le_trans (Nat.add_le_add_left hle4.1 _) (Nat.le_of_eq hc), Nat.le_trans (Nat.add_le_add_left hle4.2 _) (Nat.le_of_eq hs)⟩) hK hA hzk hP hD hS (by decide) hno hlocks ?_
          rcases h9 with ⟨h00, y4, hny4, hy⟩ | ⟨h00, hy⟩
          · subst hy
            have h := hny4
            refine Or.inl ⟨h00, fun z H locs hz4 hzk hP hD hS => ?_⟩
            replace hc := (Nat.add_assoc _ _ _).trans hc
            replace hs := (Nat.add_assoc _ _ _).trans hs
            refine lv_aload_n hx hb dX3_takeFrom_94 rfl (lv_at hl 1 rfl) ?_
            refine hg_18_5 hx hb hts in_f_X3_takeFrom_X3 hown hK hP (hts _ (List.mem_cons_of_mem _ (List.mem_append_left _ (List.mem_append_left _ (List.mem_of_getElem? (i := 1) rfl))))) dX3_takeFrom_95 ?_
            refine lv_iload_n hx hb dX3_takeFrom_98 rfl (lv_at hl 3 rfl) ?_
            refine lv_aload_n hx hb dX3_takeFrom_99 rfl (lv_at hl 1 rfl) ?_
            obtain ⟨b5, hb5, h⟩ := oP_ex h
            refine hgq_18_6 hx hb hts in_f_X3_takeFrom_X3 hown hK hP (hts _ (List.mem_cons_of_mem _ (List.mem_append_left _ (List.mem_append_left _ (List.mem_of_getElem? (i := 15) rfl))))) hb5 dX3_takeFrom_100 ?_
            refine hg_P_0n b5 hx hb hts in_f_X3_takeFrom_X7 hown hK hP (va_Nw.use rfl (hG.1 _ (List.mem_of_getElem? (i := 66) rfl))) dX3_takeFrom_103 ?_
            refine lv_iload_n hx hb dX3_takeFrom_106 rfl (lv_at hl 3 rfl) ?_
            refine lv_iconst (v := 1) hx hb dX3_takeFrom_107 (by decide) ?_
            refine lv_iadd hx hb dX3_takeFrom_108 ?_
            obtain ⟨q6, h⟩ := kr_ite1 h
            refine hl_P0 ((sKd r4.2.1 b5)) hx hb hK hP q6 dX3_takeFrom_109 ?_
            refine lv_iadd hx hb dX3_takeFrom_110 ?_
            refine hp_19_0n hx hb hts in_f_X3_takeFrom_X8 hown hK hP hD hS (va_Nw.use rfl (hG.1 _ (List.mem_of_getElem? (i := 8) rfl))) dX3_takeFrom_111 (fun H locs hP hD hS => ?_)
            obtain rfl := Option.some.inj h
            subst hc
            subst hs
            exact xr_v hx hb hr hK hzk hP hD hS hlocks dX3_takeFrom_114
          · subst hy
            exact Or.inr ⟨h00, rfl, hc, hs⟩
      · intro z cells slots L σ r h hzk hc hs H locs ls hP hD hS hl
        rw [f_X3_takeFrom] at h
        refine lv_aload_n hx hb dX3_takeFrom_51 rfl (lv_at hl 0 rfl) ?_
        refine lv_iconst (v := 1) hx hb dX3_takeFrom_52 (by decide) ?_
        obtain ⟨r1, hc1, h⟩ := op_ex h
        refine kc_v (va_runV (As := [.int 1]) (rest := []) ⟨hx, hb, hml, hown, hts⟩ (c_y_X3_fail l dC dI cy a z k (lI lZ 1 1) σ r1 hc1 H.size) (cwV 1 hts g_y_X3_takeFrom_X3_fail_V313 rfl rfl rfl hd_y_X3_fail ⟨Nat.le_of_ble_eq_true rfl, Nat.le_of_ble_eq_true rfl⟩) ⟨nb_blind, va_recv hK hP (ci := 3) (q0 := 18) rfl rfl, (kb_pre hK hG hP hD)⟩ rfl rfl hl.1 rfl (lv_room (Nat.le_of_ble_eq_true rfl)) dX3_takeFrom_53 ⟨(Nat.le_trans (Nat.le_add_right _ _) (Nat.le_of_eq hc)), (Nat.le_trans (Nat.le_add_right _ _) (Nat.le_of_eq hs))⟩) hA hP hD hS (fun H locs hP hD hS => ?_)
        obtain rfl := Option.some.inj h
        subst hc
        subst hs
        exact xr_v hx hb hr hK hzk hP hD hS hlocks dX3_takeFrom_56
      · intro z cells slots L σ r h hzk hc hs H locs ls hP hD hS hl
        rw [f_X3_takeFrom] at h
        refine lv_aload_n hx hb dX3_takeFrom_115 rfl (lv_at hl 0 rfl) ?_
        refine hg_18_7 hx hb hts in_f_X3_takeFrom_X3 hown hK hP (hts _ (List.mem_cons_of_mem _ (List.mem_append_left _ (List.mem_append_left _ (List.mem_of_getElem? (i := 0) rfl))))) dX3_takeFrom_116 ?_
        refine lv_aload_n hx hb dX3_takeFrom_119 rfl (lv_at hl 0 rfl) ?_
        refine hg_18_5 hx hb hts in_f_X3_takeFrom_X3 hown hK hP (hts _ (List.mem_cons_of_mem _ (List.mem_append_left _ (List.mem_append_left _ (List.mem_of_getElem? (i := 1) rfl))))) dX3_takeFrom_120 ?_
        refine hg_19_2n hx hb hts in_f_X3_takeFrom_X8 hown hK hP (va_Nw.use rfl (hG.1 _ (List.mem_of_getElem? (i := 10) rfl))) dX3_takeFrom_123 ?_
        refine lv_iconst (v := 1) hx hb dX3_takeFrom_126 (by decide) ?_
        refine lv_isub hx hb dX3_takeFrom_127 ?_
        refine lv_aload_n hx hb dX3_takeFrom_128 rfl (lv_at hl 0 rfl) ?_
        refine hg_18_0 hx hb hts in_f_X3_takeFrom_X3 hown hK hP (hts _ (List.mem_cons_of_mem _ (List.mem_append_left _ (List.mem_append_left _ (List.mem_of_getElem? (i := 2) rfl))))) dX3_takeFrom_129 ?_
        refine lv_iload_n hx hb dX3_takeFrom_132 rfl (lv_at hl 3 rfl) ?_
        refine lv_iload_n hx hb dX3_takeFrom_133 rfl (lv_at hl 1 rfl) ?_
        refine lv_iconst (v := 2) hx hb dX3_takeFrom_134 (by decide) ?_
        refine lv_icmp_ne (tgt := 145) hx hb dX3_takeFrom_135 (by decide) (fun c1 => ?_) (fun c1 => ?_)
        · rw [if_neg c1] at h
          exact ih.2.2.2.2.2.1 z _ _ (lI (lI L 100 ((L.1 3))) 102 ((((σ.1 1902)) - 1))) σ _ h hzk hc hs H locs ls hP hD hS (lv_sub hl [0, 1, 2, 3] rfl)
        · rw [if_pos c1] at h
          refine lv_iload hx hb dX3_takeFrom_138 (lv_at hl 4 rfl) ?_
          refine lv_iconst (v := 1) hx hb dX3_takeFrom_140 (by decide) ?_
          refine lv_isub hx hb dX3_takeFrom_141 ?_
          refine lv_goto (tgt := 146) hx hb dX3_takeFrom_142 (by decide) ?_
          exact ih.2.2.2.2.2.2 z _ _ (lI (lI (lI L 100 ((((L.1 5)) - 1))) 101 ((L.1 3))) 103 ((((σ.1 1902)) - 1))) σ _ h hzk hc hs H locs ls hP hD hS (lv_sub hl [0, 1, 2, 3] rfl)
      · intro z cells slots L σ r h hzk hc hs H locs ls hP hD hS hl
        rw [f_X3_takeFrom] at h
        refine lv_iconst (v := 0) hx hb dX3_takeFrom_145 (by decide) ?_
        exact ih.2.2.2.2.2.2 z _ _ (lI (lI (lI L 100 0) 101 ((L.1 100))) 103 ((L.1 102))) σ _ h hzk hc hs H locs ls hP hD hS (lv_sub hl [0, 1, 2, 3] rfl)
      · intro z cells slots L σ r h hzk hc hs H locs ls hP hD hS hl
        rw [f_X3_takeFrom] at h
        obtain ⟨r1, hc1, h⟩ := op_ex h
        refine kc_i (va_runV (As := [.int (L.1 101), .int (L.1 100)]) (rest := [.int (L.1 103), .ref (z 20)]) ⟨hx, hb, hml, hown, hts⟩ (c_y_X1_taken l dC dI cy a z k (lI (lI lZ 1 ((L.1 101))) 2 ((L.1 100))) σ r1 hc1 H.size) (cwV 2 hts g_y_X3_takeFrom_X1_taken_V473 rfl rfl rfl hd_y_X1_taken ⟨Nat.le_of_ble_eq_true rfl, Nat.le_of_ble_eq_true rfl⟩) ⟨nb_blind, va_recv hK hP (ci := 1) (q0 := 0) rfl rfl, (kb_pre hK hG hP hD)⟩ rfl rfl hl.1 rfl (lv_room (Nat.le_of_ble_eq_true rfl)) dX3_takeFrom_146 ⟨(Nat.le_trans (Nat.le_add_right _ _) (Nat.le_of_eq hc)), (Nat.le_trans (Nat.le_add_right _ _) (Nat.le_of_eq hs))⟩) hA hP hD hS (fun H locs hP hD hS => ?_)
        obtain ⟨q2, h⟩ := kr_ite1 h
        refine hs_20 hx hb hK hP hD hS q2 dX3_takeFrom_149 (fun H locs hP hD hS => ?_)
        refine lv_aload_n hx hb dX3_takeFrom_150 rfl (lv_at hl 0 rfl) ?_
        refine hg_18_5 hx hb hts in_f_X3_takeFrom_X3 hown hK hP (hts _ (List.mem_cons_of_mem _ (List.mem_append_left _ (List.mem_append_left _ (List.mem_of_getElem? (i := 1) rfl))))) dX3_takeFrom_151 ?_
        refine lv_iload_n hx hb dX3_takeFrom_154 rfl (lv_at hl 2 rfl) ?_
        refine lv_iconst (v := 2) hx hb dX3_takeFrom_155 (by decide) ?_
        refine lv_iadd hx hb dX3_takeFrom_156 ?_
        refine hp_19_0n hx hb hts in_f_X3_takeFrom_X8 hown hK hP hD hS (va_Nw.use rfl (hG.1 _ (List.mem_of_getElem? (i := 8) rfl))) dX3_takeFrom_157 (fun H locs hP hD hS => ?_)
        refine lv_aload_n hx hb dX3_takeFrom_160 rfl (lv_at hl 0 rfl) ?_
        refine lv_aload_n hx hb dX3_takeFrom_161 rfl (lv_at hl 0 rfl) ?_
        refine hg_18_2 hx hb hts in_f_X3_takeFrom_X3 hown hK hP (hts _ (List.mem_cons_of_mem _ (List.mem_append_left _ (List.mem_append_left _ (List.mem_of_getElem? (i := 22) rfl))))) dX3_takeFrom_162 ?_
        refine lv_iload_n hx hb dX3_takeFrom_165 rfl (lv_at hl 3 rfl) ?_
        refine lv_iload_n hx hb dX3_takeFrom_166 rfl (lv_at hl 1 rfl) ?_
        obtain ⟨r3, hc3, h⟩ := op_ex h
        refine kc_i (va_runV (As := [.int (L.1 3), .int (L.1 1)]) (rest := [.ref (a 18)]) ⟨hx, hb, hml, hown, hts⟩ (c_y_X0_remainder l dC dI cy a z k (lI (lI lZ 1 ((L.1 3))) 2 ((L.1 1))) (uI (uA r1.2 20 ((L.1 103)).toNatClampNeg r1.1) 1900 ((((L.1 2)) + 2))) r3 hc3 H.size) (cwV 2 hts g_y_X3_takeFrom_X0_remainder_V551 rfl rfl rfl hd_y_X0_remainder ⟨Nat.le_of_ble_eq_true rfl, Nat.le_of_ble_eq_true rfl⟩) ⟨nb_blind, va_recv hK hP (ci := 0) (q0 := 14) rfl rfl, (kb_pre hK hG hP hD)⟩ rfl rfl hl.1 rfl (lv_room (Nat.le_of_ble_eq_true rfl)) dX3_takeFrom_167 ⟨(Nat.le_trans (Nat.le_add_right _ _) (Nat.le_of_eq hc)), (Nat.le_trans (Nat.le_add_right _ _) (Nat.le_of_eq hs))⟩) hA hP hD hS (fun H locs hP hD hS => ?_)
        obtain ⟨r4, hc4, hle4, h9⟩ := ox_ex h
        clear h
        refine kx_v (vx_runV (As := [.int r3.1]) (rest := []) ⟨hx, hb, hml, hown, hts⟩ (c_f_X3_give l hl0 dC dI cy ek a k (lI lZ 1 r3.1) r3.2 r4 hc4 z H.size) (cwV 1 hts g_f_X3_takeFrom_X3_give_V391 rfl rfl rfl hd_f_X3_give ⟨Nat.le_of_ble_eq_true rfl, Nat.le_of_ble_eq_true rfl⟩) ⟨nb_blindF, va_recv hK hP (ci := 3) (q0 := 18) rfl rfl, (kx_pre hK hG hE hT hA hP hD hS)⟩ rfl rfl hl.1 rfl (lv_room (Nat.le_of_ble_eq_true rfl)) dX3_takeFrom_170 ⟨Nat.le_trans (Nat.add_le_add_left hle4.1 _) (Nat.le_of_eq hc), Nat.le_trans (Nat.add_le_add_left hle4.2 _) (Nat.le_of_eq hs)⟩) hK hA hzk hP hD hS (by decide) hno hlocks ?_
        rcases h9 with ⟨h00, y4, hny4, hy⟩ | ⟨h00, hy⟩
        · subst hy
          have h := hny4
          refine Or.inl ⟨h00, fun z H locs hz4 hzk hP hD hS => ?_⟩
          replace hc := (Nat.add_assoc _ _ _).trans hc
          replace hs := (Nat.add_assoc _ _ _).trans hs
          obtain rfl := Option.some.inj h
          subst hc
          subst hs
          exact xr_v hx hb hr hK hzk hP hD hS hlocks dX3_takeFrom_173
        · subst hy
          exact Or.inr ⟨h00, rfl, hc, hs⟩
  exact (blk k0).1 z 0 0 L0 σ0 r0 h0 (zk_rf _ _) ((Nat.zero_add _).trans hmc) ((Nat.zero_add _).trans hms) s.heap [] ls hP hD hS hl
/-! X3_partly -/
def f_X3_partly : Nat → Nat → LV → CS → Option RS
  | 0, _, _, _ => none
  | k + 1, 0, L, σ => if ((L.1 1)) = (96 : Int32) then (f_X3_partly k 1 L σ) else (if ((L.1 1)) = (97 : Int32) then (f_X3_partly k 2 L σ) else (if ((L.1 1)) = (98 : Int32) then (f_X3_partly k 1 L σ) else (if ((L.1 1)) = (99 : Int32) then (f_X3_partly k 3 L σ) else (if ((L.1 1)) = (100 : Int32) then (f_X3_partly k 4 L σ) else (f_X3_partly k 5 L σ)))))
  | k + 1, 1, L, σ => if ¬ ((((((uI σ 1902 ((((σ.1 1902)) - 1))).1 1902)) - 1)) < 0 ∨ (sN (uI σ 1902 ((((σ.1 1902)) - 1))) 20) ≤ (((((uI σ 1902 ((((σ.1 1902)) - 1))).1 1902)) - 1)).toNatClampNeg) then (if ¬ ((((uI σ 1902 ((((σ.1 1902)) - 1))).1 1902)) < 0 ∨ (sN (uI σ 1902 ((((σ.1 1902)) - 1))) 20) ≤ (((uI σ 1902 ((((σ.1 1902)) - 1))).1 1902)).toNatClampNeg) then (op (y_X0_part k 0 (lI (lI (lI (lI lZ 1 ((L.1 1))) 2 (((uI σ 1902 ((((σ.1 1902)) - 1))).2.2.1 20 (((((uI σ 1902 ((((σ.1 1902)) - 1))).1 1902)) - 1)).toNatClampNeg))) 3 (((uI σ 1902 ((((σ.1 1902)) - 1))).2.2.1 20 (((uI σ 1902 ((((σ.1 1902)) - 1))).1 1902)).toNatClampNeg))) 4 ((-2147483648))) (uI σ 1902 ((((σ.1 1902)) - 1)))) (fun r3 => op (y_X3_replace k 0 (lI lZ 1 r3.1) r3.2) (fun r4 => f_X3_partly k 6 L r4.2))) else none) else none
  | k + 1, 2, L, σ => if ¬ ((((((uI σ 1902 ((((σ.1 1902)) - 2))).1 1902)) - 1)) < 0 ∨ (sN (uI σ 1902 ((((σ.1 1902)) - 2))) 20) ≤ (((((uI σ 1902 ((((σ.1 1902)) - 2))).1 1902)) - 1)).toNatClampNeg) then (if ¬ ((((uI σ 1902 ((((σ.1 1902)) - 2))).1 1902)) < 0 ∨ (sN (uI σ 1902 ((((σ.1 1902)) - 2))) 20) ≤ (((uI σ 1902 ((((σ.1 1902)) - 2))).1 1902)).toNatClampNeg) then (if ¬ ((((((uI σ 1902 ((((σ.1 1902)) - 2))).1 1902)) + 1)) < 0 ∨ (sN (uI σ 1902 ((((σ.1 1902)) - 2))) 20) ≤ (((((uI σ 1902 ((((σ.1 1902)) - 2))).1 1902)) + 1)).toNatClampNeg) then (op (y_X0_part k 0 (lI (lI (lI (lI lZ 1 ((L.1 1))) 2 (((uI σ 1902 ((((σ.1 1902)) - 2))).2.2.1 20 (((((uI σ 1902 ((((σ.1 1902)) - 2))).1 1902)) - 1)).toNatClampNeg))) 3 (((uI σ 1902 ((((σ.1 1902)) - 2))).2.2.1 20 (((uI σ 1902 ((((σ.1 1902)) - 2))).1 1902)).toNatClampNeg))) 4 (((uI σ 1902 ((((σ.1 1902)) - 2))).2.2.1 20 (((((uI σ 1902 ((((σ.1 1902)) - 2))).1 1902)) + 1)).toNatClampNeg))) (uI σ 1902 ((((σ.1 1902)) - 2)))) (fun r4 => op (y_X3_replace k 0 (lI lZ 1 r4.1) r4.2) (fun r5 => f_X3_partly k 6 L r5.2))) else none) else none) else none
  | k + 1, 3, L, σ => if ¬ (((((σ.1 1902)) - 1)) < 0 ∨ (sN σ 20) ≤ ((((σ.1 1902)) - 1)).toNatClampNeg) then (op (y_X1_member k 0 (lI (lI lZ 1 ((σ.2.2.1 20 ((((σ.1 1902)) - 1)).toNatClampNeg))) 2 ((L.1 2))) σ) (fun r2 => ox (f_X3_push k 0 (lI lZ 1 r2.1) r2.2) (fun r3 => f_X3_partly k 6 L r3.2.1))) else none
  | k + 1, 4, L, σ => if ¬ (((((σ.1 1902)) - 1)) < 0 ∨ (sN σ 20) ≤ ((((σ.1 1902)) - 1)).toNatClampNeg) then (op (y_X1_kind k 0 (lI lZ 1 ((σ.2.2.1 20 ((((σ.1 1902)) - 1)).toNatClampNeg))) σ) (fun r2 => if r2.1 = 5 then (f_X3_partly k 6 L r2.2) else (op (y_X3_fail k 0 (lI lZ 1 1) r2.2) (fun r4 => f_X3_partly k 6 L r4.2)))) else none
  | k + 1, 5, L, σ => ox (f_X3_takeFrom k 0 (lI (lI lZ 1 ((L.1 2))) 2 ((L.1 3))) σ) (fun r1 => f_X3_partly k 6 L r1.2.1)
  | k + 1, 6, L, σ => some ((0, 0), σ, (0, 0))
  | _ + 1, _ + 7, _, _ => none
def o_f_X3_partly : List Cond := [.fieldLink RX3 14 "SetHouse$Machine" "run" "LSetHouse$Run;", .fieldLink RX3 47 "SetHouse$Machine" "algebra" "LSetHouse$Algebra;", .fieldLink RX3 18 "SetHouse$Machine" "stack" "[I", .constant RX3 136 (-2147483648), .methodLink RX3 540 yX0_part, .instanceMethod yX0_part, .selects RX0 yX0_part yX0_part, .initialized RX0, .methodLink RX3 280 yX3_replace, .instanceMethod yX3_replace, .selects RX3 yX3_replace yX3_replace, .initialized RX3, .fieldLink RX3 39 "SetHouse$Machine" "heap" "LSetHouse$Heap;", .methodLink RX3 452 yX1_member, .instanceMethod yX1_member, .selects RX1 yX1_member yX1_member, .initialized RX1, .methodLink RX3 322 yX3_push, .instanceMethod yX3_push, .selects RX3 yX3_push yX3_push, .methodLink RX3 396 yX1_kind, .instanceMethod yX1_kind, .selects RX1 yX1_kind yX1_kind, .methodLink RX3 313 yX3_fail, .instanceMethod yX3_fail, .selects RX3 yX3_fail yX3_fail, .methodLink RX3 544 yX3_takeFrom, .instanceMethod yX3_takeFrom, .selects RX3 yX3_takeFrom yX3_takeFrom]
theorem o_f_X3_partly_good : o_f_X3_partly.all goodWord = true := by decide +kernel
def p_f_X3_partly : List Cond := o_f_X3_partly ++ ((.code yX0_part cX0_part 5 (some .int) :: p_y_X0_part) ++ ((.code yX3_replace cX3_replace 2 none :: p_y_X3_replace) ++ ((.code yX1_member cX1_member 3 (some .int) :: p_y_X1_member) ++ ((.code yX3_push cX3_push 2 none :: p_f_X3_push) ++ ((.code yX1_kind cX1_kind 2 (some .int) :: p_y_X1_kind) ++ ((.code yX3_fail cX3_fail 2 none :: p_y_X3_fail) ++ ((.code yX3_takeFrom cX3_takeFrom 6 none :: p_f_X3_takeFrom) ++ [])))))))
theorem p_f_X3_partly_good : p_f_X3_partly.all goodWord = true := nb_all2 o_f_X3_partly_good (nb_all2 (nb_allc (by decide +kernel) p_y_X0_part_good) (nb_all2 (nb_allc (by decide +kernel) p_y_X3_replace_good) (nb_all2 (nb_allc (by decide +kernel) p_y_X1_member_good) (nb_all2 (nb_allc (by decide +kernel) p_f_X3_push_good) (nb_all2 (nb_allc (by decide +kernel) p_y_X1_kind_good) (nb_all2 (nb_allc (by decide +kernel) p_y_X3_fail_good) (nb_all2 (nb_allc (by decide +kernel) p_f_X3_takeFrom_good) rfl)))))))
def w_f_X3_partly : List Cond := .code yX3_partly cX3_partly 4 none :: (p_f_X3_partly ++ fC)
theorem w_f_X3_partly_good : w_f_X3_partly.all goodWord = true := nb_allc (by decide +kernel) (nb_all2 p_f_X3_partly_good fC_good)
theorem in_f_X3_partly_X3 : ∀ w ∈ wsX30, w ∈ w_f_X3_partly := fun _ h => List.mem_cons_of_mem _ (List.mem_append_right _ (List.mem_append_right _ (List.mem_append_right _ (List.mem_append_right _ (List.mem_append_left _ h)))))
theorem in_f_X3_partly_X8 : ∀ w ∈ wsX80, w ∈ w_f_X3_partly := fun _ h => List.mem_cons_of_mem _ (List.mem_append_right _ (List.mem_append_right _ (List.mem_append_right _ (List.mem_append_right _ (List.mem_append_right _ (List.mem_append_right _ (List.mem_append_right _ (List.mem_append_right _ (List.mem_append_left _ h)))))))))
theorem hd_f_X3_partly : yX3_partly.cls = RX3 ∧ yX3_partly.cls ≠ "java/lang/invoke/MethodHandle" ∧ yX3_partly.cls ≠ "java/lang/invoke/VarHandle" ∧ (parseMethodDescriptor yX3_partly.desc).map (fun d => d.parameters.length) = some 3 := by decide +kernel
theorem gg_f_X3_partly_X3_push : GoodIn w_f_X3_partly w_f_X3_push := goodIn_sub (fun w h => (List.mem_cons.mp h).elim (fun e => (List.mem_cons_of_mem _ (List.mem_append_left _ (List.mem_append_right _ (List.mem_append_right _ (List.mem_append_right _ (List.mem_append_right _ (List.mem_append_left _ (List.mem_cons.mpr (Or.inl e)))))))))) (fun h => (List.mem_append.mp h).elim (fun h => (List.mem_cons_of_mem _ (List.mem_append_left _ (List.mem_append_right _ (List.mem_append_right _ (List.mem_append_right _ (List.mem_append_right _ (List.mem_append_left _ (List.mem_cons_of_mem _ h))))))))) (fun h => List.mem_cons_of_mem _ (List.mem_append_right _ h)))) w_f_X3_push_good
theorem g_f_X3_partly_X3_push_V322 : GoodIn w_f_X3_partly (wsV RX3 322 RX3 yX3_push w_f_X3_push) := goodIn_app (nb_g4 (List.mem_cons_of_mem _ (List.mem_append_left _ (List.mem_append_left _ (List.mem_of_getElem? (i := 17) rfl)))) (List.mem_cons_of_mem _ (List.mem_append_left _ (List.mem_append_left _ (List.mem_of_getElem? (i := 18) rfl)))) (List.mem_cons_of_mem _ (List.mem_append_left _ (List.mem_append_left _ (List.mem_of_getElem? (i := 19) rfl)))) (List.mem_cons_of_mem _ (List.mem_append_left _ (List.mem_append_left _ (List.mem_of_getElem? (i := 11) rfl)))) (by decide +kernel)) gg_f_X3_partly_X3_push
theorem gg_f_X3_partly_X3_takeFrom : GoodIn w_f_X3_partly w_f_X3_takeFrom := goodIn_sub (fun w h => (List.mem_cons.mp h).elim (fun e => (List.mem_cons_of_mem _ (List.mem_append_left _ (List.mem_append_right _ (List.mem_append_right _ (List.mem_append_right _ (List.mem_append_right _ (List.mem_append_right _ (List.mem_append_right _ (List.mem_append_right _ (List.mem_append_left _ (List.mem_cons.mpr (Or.inl e))))))))))))) (fun h => (List.mem_append.mp h).elim (fun h => (List.mem_cons_of_mem _ (List.mem_append_left _ (List.mem_append_right _ (List.mem_append_right _ (List.mem_append_right _ (List.mem_append_right _ (List.mem_append_right _ (List.mem_append_right _ (List.mem_append_right _ (List.mem_append_left _ (List.mem_cons_of_mem _ h)))))))))))) (fun h => List.mem_cons_of_mem _ (List.mem_append_right _ h)))) w_f_X3_takeFrom_good
theorem g_f_X3_partly_X3_takeFrom_V544 : GoodIn w_f_X3_partly (wsV RX3 544 RX3 yX3_takeFrom w_f_X3_takeFrom) := goodIn_app (nb_g4 (List.mem_cons_of_mem _ (List.mem_append_left _ (List.mem_append_left _ (List.mem_of_getElem? (i := 26) rfl)))) (List.mem_cons_of_mem _ (List.mem_append_left _ (List.mem_append_left _ (List.mem_of_getElem? (i := 27) rfl)))) (List.mem_cons_of_mem _ (List.mem_append_left _ (List.mem_append_left _ (List.mem_of_getElem? (i := 28) rfl)))) (List.mem_cons_of_mem _ (List.mem_append_left _ (List.mem_append_left _ (List.mem_of_getElem? (i := 11) rfl)))) (by decide +kernel)) gg_f_X3_partly_X3_takeFrom
theorem gg_f_X3_partly_X0_part : GoodIn w_f_X3_partly w_y_X0_part := goodIn_sub (fun w h => (List.mem_cons.mp h).elim (fun e => (List.mem_cons_of_mem _ (List.mem_append_left _ (List.mem_append_right _ (List.mem_append_left _ (List.mem_cons.mpr (Or.inl e))))))) (fun h => (List.mem_append.mp h).elim (fun h => (List.mem_cons_of_mem _ (List.mem_append_left _ (List.mem_append_right _ (List.mem_append_left _ (List.mem_cons_of_mem _ h)))))) (fun h => List.mem_cons_of_mem _ (List.mem_append_right _ h)))) w_y_X0_part_good
theorem g_y_X3_partly_X0_part_V540 : GoodIn w_f_X3_partly (wsV RX3 540 RX0 yX0_part w_y_X0_part) := goodIn_app (nb_g4 (List.mem_cons_of_mem _ (List.mem_append_left _ (List.mem_append_left _ (List.mem_of_getElem? (i := 4) rfl)))) (List.mem_cons_of_mem _ (List.mem_append_left _ (List.mem_append_left _ (List.mem_of_getElem? (i := 5) rfl)))) (List.mem_cons_of_mem _ (List.mem_append_left _ (List.mem_append_left _ (List.mem_of_getElem? (i := 6) rfl)))) (List.mem_cons_of_mem _ (List.mem_append_left _ (List.mem_append_left _ (List.mem_of_getElem? (i := 7) rfl)))) (by decide +kernel)) gg_f_X3_partly_X0_part
theorem gg_f_X3_partly_X1_kind : GoodIn w_f_X3_partly w_y_X1_kind := goodIn_sub (fun w h => (List.mem_cons.mp h).elim (fun e => (List.mem_cons_of_mem _ (List.mem_append_left _ (List.mem_append_right _ (List.mem_append_right _ (List.mem_append_right _ (List.mem_append_right _ (List.mem_append_right _ (List.mem_append_left _ (List.mem_cons.mpr (Or.inl e))))))))))) (fun h => (List.mem_append.mp h).elim (fun h => (List.mem_cons_of_mem _ (List.mem_append_left _ (List.mem_append_right _ (List.mem_append_right _ (List.mem_append_right _ (List.mem_append_right _ (List.mem_append_right _ (List.mem_append_left _ (List.mem_cons_of_mem _ h)))))))))) (fun h => List.mem_cons_of_mem _ (List.mem_append_right _ h)))) w_y_X1_kind_good
theorem g_y_X3_partly_X1_kind_V396 : GoodIn w_f_X3_partly (wsV RX3 396 RX1 yX1_kind w_y_X1_kind) := goodIn_app (nb_g4 (List.mem_cons_of_mem _ (List.mem_append_left _ (List.mem_append_left _ (List.mem_of_getElem? (i := 20) rfl)))) (List.mem_cons_of_mem _ (List.mem_append_left _ (List.mem_append_left _ (List.mem_of_getElem? (i := 21) rfl)))) (List.mem_cons_of_mem _ (List.mem_append_left _ (List.mem_append_left _ (List.mem_of_getElem? (i := 22) rfl)))) (List.mem_cons_of_mem _ (List.mem_append_left _ (List.mem_append_left _ (List.mem_of_getElem? (i := 16) rfl)))) (by decide +kernel)) gg_f_X3_partly_X1_kind
theorem gg_f_X3_partly_X1_member : GoodIn w_f_X3_partly w_y_X1_member := goodIn_sub (fun w h => (List.mem_cons.mp h).elim (fun e => (List.mem_cons_of_mem _ (List.mem_append_left _ (List.mem_append_right _ (List.mem_append_right _ (List.mem_append_right _ (List.mem_append_left _ (List.mem_cons.mpr (Or.inl e))))))))) (fun h => (List.mem_append.mp h).elim (fun h => (List.mem_cons_of_mem _ (List.mem_append_left _ (List.mem_append_right _ (List.mem_append_right _ (List.mem_append_right _ (List.mem_append_left _ (List.mem_cons_of_mem _ h)))))))) (fun h => List.mem_cons_of_mem _ (List.mem_append_right _ h)))) w_y_X1_member_good
theorem g_y_X3_partly_X1_member_V452 : GoodIn w_f_X3_partly (wsV RX3 452 RX1 yX1_member w_y_X1_member) := goodIn_app (nb_g4 (List.mem_cons_of_mem _ (List.mem_append_left _ (List.mem_append_left _ (List.mem_of_getElem? (i := 13) rfl)))) (List.mem_cons_of_mem _ (List.mem_append_left _ (List.mem_append_left _ (List.mem_of_getElem? (i := 14) rfl)))) (List.mem_cons_of_mem _ (List.mem_append_left _ (List.mem_append_left _ (List.mem_of_getElem? (i := 15) rfl)))) (List.mem_cons_of_mem _ (List.mem_append_left _ (List.mem_append_left _ (List.mem_of_getElem? (i := 16) rfl)))) (by decide +kernel)) gg_f_X3_partly_X1_member
theorem gg_f_X3_partly_X3_fail : GoodIn w_f_X3_partly w_y_X3_fail := goodIn_sub (fun w h => (List.mem_cons.mp h).elim (fun e => (List.mem_cons_of_mem _ (List.mem_append_left _ (List.mem_append_right _ (List.mem_append_right _ (List.mem_append_right _ (List.mem_append_right _ (List.mem_append_right _ (List.mem_append_right _ (List.mem_append_left _ (List.mem_cons.mpr (Or.inl e)))))))))))) (fun h => (List.mem_append.mp h).elim (fun h => (List.mem_cons_of_mem _ (List.mem_append_left _ (List.mem_append_right _ (List.mem_append_right _ (List.mem_append_right _ (List.mem_append_right _ (List.mem_append_right _ (List.mem_append_right _ (List.mem_append_left _ (List.mem_cons_of_mem _ h))))))))))) (fun h => List.mem_cons_of_mem _ (List.mem_append_right _ h)))) w_y_X3_fail_good
theorem g_y_X3_partly_X3_fail_V313 : GoodIn w_f_X3_partly (wsV RX3 313 RX3 yX3_fail w_y_X3_fail) := goodIn_app (nb_g4 (List.mem_cons_of_mem _ (List.mem_append_left _ (List.mem_append_left _ (List.mem_of_getElem? (i := 23) rfl)))) (List.mem_cons_of_mem _ (List.mem_append_left _ (List.mem_append_left _ (List.mem_of_getElem? (i := 24) rfl)))) (List.mem_cons_of_mem _ (List.mem_append_left _ (List.mem_append_left _ (List.mem_of_getElem? (i := 25) rfl)))) (List.mem_cons_of_mem _ (List.mem_append_left _ (List.mem_append_left _ (List.mem_of_getElem? (i := 11) rfl)))) (by decide +kernel)) gg_f_X3_partly_X3_fail
theorem gg_f_X3_partly_X3_replace : GoodIn w_f_X3_partly w_y_X3_replace := goodIn_sub (fun w h => (List.mem_cons.mp h).elim (fun e => (List.mem_cons_of_mem _ (List.mem_append_left _ (List.mem_append_right _ (List.mem_append_right _ (List.mem_append_left _ (List.mem_cons.mpr (Or.inl e)))))))) (fun h => (List.mem_append.mp h).elim (fun h => (List.mem_cons_of_mem _ (List.mem_append_left _ (List.mem_append_right _ (List.mem_append_right _ (List.mem_append_left _ (List.mem_cons_of_mem _ h))))))) (fun h => List.mem_cons_of_mem _ (List.mem_append_right _ h)))) w_y_X3_replace_good
theorem g_y_X3_partly_X3_replace_V280 : GoodIn w_f_X3_partly (wsV RX3 280 RX3 yX3_replace w_y_X3_replace) := goodIn_app (nb_g4 (List.mem_cons_of_mem _ (List.mem_append_left _ (List.mem_append_left _ (List.mem_of_getElem? (i := 8) rfl)))) (List.mem_cons_of_mem _ (List.mem_append_left _ (List.mem_append_left _ (List.mem_of_getElem? (i := 9) rfl)))) (List.mem_cons_of_mem _ (List.mem_append_left _ (List.mem_append_left _ (List.mem_of_getElem? (i := 10) rfl)))) (List.mem_cons_of_mem _ (List.mem_append_left _ (List.mem_append_left _ (List.mem_of_getElem? (i := 11) rfl)))) (by decide +kernel)) gg_f_X3_partly_X3_replace
set_option maxHeartbeats 40000000 in
set_option maxRecDepth 100000 in
theorem c_f_X3_partly (l : Launch) (hl0 : l.stackTraces = false) (dC : Nat → ClassId) (dI : Nat → Nat → Nat) (cy : Nat → ClassId) (ek a : Nat → Nat) (k0 : Nat) (L0 : LV) (σ0 : CS) (r0 : RS) (h0 : f_X3_partly k0 0 L0 σ0 = some r0) (z : Nat → Nat) (sz : Nat) : vx_Met l yX3_partly w_f_X3_partly ({ frames := 65, cells := r0.2.2.1, slots := r0.2.2.2, locals := 1814 }) (va_Pc [.ref (a 18), .int (L0.1 1), .int (L0.1 2), .int (L0.1 3)] (nInF (dC, dI) cy ek sz (vC cy a z σ0))) (xV dC dI cy a (va_A (vC cy a z σ0) sz) [20] z r0) (xX dC dI cy a (va_A (vC cy a z σ0) sz) [20] z r0) r0.2.2.1 r0.2.2.2 (va_A (vC cy a z σ0) sz) := by
  refine vx_ofW (cc := cX3_partly) (maxL := 4) (ret := none) (by decide) rfl ?_
  intro p e s m args below meth c s₁ B hml hno hv
  obtain ⟨rfl, ⟨⟨hsz, hP, hK, hD0, hG⟩, hE⟩, hT⟩ := hv
  have hx := B.exec
  have hb := B.bytes
  have hr := B.returns
  have hts := atoms_spec (ws := w_f_X3_partly) B.pre
  have hown : s.vm.findClass RX3 = some m.cls := findClass_of_methodNamed B.named
  have hlocks := B.notSynchronized
  subst hsz
  have hD := hD0.self (sz := s.heap.size)
  generalize hAe : va_A (vC cy a z σ0) s.heap.size = A at hD hE hT ⊢
  have hA : ∀ q : Nat, s.heap.size ≤ q → A q := fun q h => by rw [← hAe]; exact Or.inr h
  have hS : va_S A s.heap s.heap [] := va_S.rf
  have hl := lv_entry ([.ref (a 18), .int (L0.1 1), .int (L0.1 2), .int (L0.1 3)]) (n := 4) (Nat.le_of_ble_eq_true rfl)
  rw [lg_entry_eq]
  generalize (lg_sl ([.ref (a 18), .int (L0.1 1), .int (L0.1 2), .int (L0.1 3)]) ++ List.replicate (4 - (lg_sl ([.ref (a 18), .int (L0.1 1), .int (L0.1 2), .int (L0.1 3)])).length) Slot.unset).toArray = ls at hl ⊢
  have hl : lv_has ls 4 [(0, .ref (a 18)), (1, .int (L0.1 1)), (2, .int (L0.1 2)), (3, .int (L0.1 3))] := hl
  generalize hmc : r0.2.2.1 = mc
  generalize hms : r0.2.2.2 = ms
  have blk : ∀ k : Nat, (bX p l e (headSpec w_f_X3_partly ({ frames := 65, cells := mc, slots := ms, locals := 1814 })).room s m #[.ref (a 18), .int (L0.1 1), .int (L0.1 2), .int (L0.1 3)] below meth c dC dI cy a A (fun r => vx_MQ below (xV dC dI cy a A [20] z r) (xX dC dI cy a A [20] z r) #[.ref (a 18), .int (L0.1 1), .int (L0.1 2), .int (L0.1 3)] s mc ms A) [20] z mc ms 4 (f_X3_partly k 0) (fun z L => [(0, .ref (a 18)), (1, .int (L.1 1)), (2, .int (L.1 2)), (3, .int (L.1 3))]) 0 (fun z L => [])) ∧ (bX p l e (headSpec w_f_X3_partly ({ frames := 65, cells := mc, slots := ms, locals := 1814 })).room s m #[.ref (a 18), .int (L0.1 1), .int (L0.1 2), .int (L0.1 3)] below meth c dC dI cy a A (fun r => vx_MQ below (xV dC dI cy a A [20] z r) (xX dC dI cy a A [20] z r) #[.ref (a 18), .int (L0.1 1), .int (L0.1 2), .int (L0.1 3)] s mc ms A) [20] z mc ms 4 (f_X3_partly k 1) (fun z L => [(0, .ref (a 18)), (1, .int (L.1 1))]) 36 (fun z L => [])) ∧ (bX p l e (headSpec w_f_X3_partly ({ frames := 65, cells := mc, slots := ms, locals := 1814 })).room s m #[.ref (a 18), .int (L0.1 1), .int (L0.1 2), .int (L0.1 3)] below meth c dC dI cy a A (fun r => vx_MQ below (xV dC dI cy a A [20] z r) (xX dC dI cy a A [20] z r) #[.ref (a 18), .int (L0.1 1), .int (L0.1 2), .int (L0.1 3)] s mc ms A) [20] z mc ms 4 (f_X3_partly k 2) (fun z L => [(0, .ref (a 18)), (1, .int (L.1 1))]) 92 (fun z L => [])) ∧ (bX p l e (headSpec w_f_X3_partly ({ frames := 65, cells := mc, slots := ms, locals := 1814 })).room s m #[.ref (a 18), .int (L0.1 1), .int (L0.1 2), .int (L0.1 3)] below meth c dC dI cy a A (fun r => vx_MQ below (xV dC dI cy a A [20] z r) (xX dC dI cy a A [20] z r) #[.ref (a 18), .int (L0.1 1), .int (L0.1 2), .int (L0.1 3)] s mc ms A) [20] z mc ms 4 (f_X3_partly k 3) (fun z L => [(0, .ref (a 18)), (2, .int (L.1 2))]) 163 (fun z L => [])) ∧ (bX p l e (headSpec w_f_X3_partly ({ frames := 65, cells := mc, slots := ms, locals := 1814 })).room s m #[.ref (a 18), .int (L0.1 1), .int (L0.1 2), .int (L0.1 3)] below meth c dC dI cy a A (fun r => vx_MQ below (xV dC dI cy a A [20] z r) (xX dC dI cy a A [20] z r) #[.ref (a 18), .int (L0.1 1), .int (L0.1 2), .int (L0.1 3)] s mc ms A) [20] z mc ms 4 (f_X3_partly k 4) (fun z L => [(0, .ref (a 18))]) 192 (fun z L => [])) ∧ (bX p l e (headSpec w_f_X3_partly ({ frames := 65, cells := mc, slots := ms, locals := 1814 })).room s m #[.ref (a 18), .int (L0.1 1), .int (L0.1 2), .int (L0.1 3)] below meth c dC dI cy a A (fun r => vx_MQ below (xV dC dI cy a A [20] z r) (xX dC dI cy a A [20] z r) #[.ref (a 18), .int (L0.1 1), .int (L0.1 2), .int (L0.1 3)] s mc ms A) [20] z mc ms 4 (f_X3_partly k 5) (fun z L => [(0, .ref (a 18)), (2, .int (L.1 2)), (3, .int (L.1 3))]) 225 (fun z L => [])) ∧ (bX p l e (headSpec w_f_X3_partly ({ frames := 65, cells := mc, slots := ms, locals := 1814 })).room s m #[.ref (a 18), .int (L0.1 1), .int (L0.1 2), .int (L0.1 3)] below meth c dC dI cy a A (fun r => vx_MQ below (xV dC dI cy a A [20] z r) (xX dC dI cy a A [20] z r) #[.ref (a 18), .int (L0.1 1), .int (L0.1 2), .int (L0.1 3)] s mc ms A) [20] z mc ms 4 (f_X3_partly k 6) (fun z L => []) 231 (fun z L => [])) := by
    intro k
    induction k with
    | zero => exact ⟨fun z c1 c2 L σ r h => (by cases h), fun z c1 c2 L σ r h => (by cases h), fun z c1 c2 L σ r h => (by cases h), fun z c1 c2 L σ r h => (by cases h), fun z c1 c2 L σ r h => (by cases h), fun z c1 c2 L σ r h => (by cases h), fun z c1 c2 L σ r h => (by cases h)⟩
    | succ k ih =>
      refine ⟨?_, ?_, ?_, ?_, ?_, ?_, ?_⟩
      · intro z cells slots L σ r h hzk hc hs H locs ls hP hD hS hl
        rw [f_X3_partly] at h
        refine lv_iload_n hx hb dX3_partly_0 rfl (lv_at hl 1 rfl) ?_
        by_cases q1 : ((L.1 1)) = (96 : Int32)
        · rw [if_pos q1] at h
          refine lv_tableIn (off := 35) (tgt := 36) hx hb dX3_partly_1 (by rw [q1]; decide) (by rw [q1]; decide) (by rw [q1]; decide) (by decide) ?_
          exact ih.2.1 z _ _ L σ _ h hzk hc hs H locs ls hP hD hS (lv_sub hl [0, 1] rfl)
        · rw [if_neg q1] at h
          by_cases q2 : ((L.1 1)) = (97 : Int32)
          · rw [if_pos q2] at h
            refine lv_tableIn (off := 91) (tgt := 92) hx hb dX3_partly_1 (by rw [q2]; decide) (by rw [q2]; decide) (by rw [q2]; decide) (by decide) ?_
            exact ih.2.2.1 z _ _ L σ _ h hzk hc hs H locs ls hP hD hS (lv_sub hl [0, 1] rfl)
          · rw [if_neg q2] at h
            by_cases q3 : ((L.1 1)) = (98 : Int32)
            · rw [if_pos q3] at h
              refine lv_tableIn (off := 35) (tgt := 36) hx hb dX3_partly_1 (by rw [q3]; decide) (by rw [q3]; decide) (by rw [q3]; decide) (by decide) ?_
              exact ih.2.1 z _ _ L σ _ h hzk hc hs H locs ls hP hD hS (lv_sub hl [0, 1] rfl)
            · rw [if_neg q3] at h
              by_cases q4 : ((L.1 1)) = (99 : Int32)
              · rw [if_pos q4] at h
                refine lv_tableIn (off := 162) (tgt := 163) hx hb dX3_partly_1 (by rw [q4]; decide) (by rw [q4]; decide) (by rw [q4]; decide) (by decide) ?_
                exact ih.2.2.2.1 z _ _ L σ _ h hzk hc hs H locs ls hP hD hS (lv_sub hl [0, 2] rfl)
              · rw [if_neg q4] at h
                by_cases q5 : ((L.1 1)) = (100 : Int32)
                · rw [if_pos q5] at h
                  refine lv_tableIn (off := 191) (tgt := 192) hx hb dX3_partly_1 (by rw [q5]; decide) (by rw [q5]; decide) (by rw [q5]; decide) (by decide) ?_
                  exact ih.2.2.2.2.1 z _ _ L σ _ h hzk hc hs H locs ls hP hD hS (lv_sub hl [0] rfl)
                · rw [if_neg q5] at h
                  have nq1 : ¬ ((L.1 1)).toInt = 96 := nb_ti q1 rfl
                  have nq2 : ¬ ((L.1 1)).toInt = 97 := nb_ti q2 rfl
                  have nq3 : ¬ ((L.1 1)).toInt = 98 := nb_ti q3 rfl
                  have nq4 : ¬ ((L.1 1)).toInt = 99 := nb_ti q4 rfl
                  have nq5 : ¬ ((L.1 1)).toInt = 100 := nb_ti q5 rfl
                  refine lv_tableOut (tgt := 225) hx hb dX3_partly_1 (by omega) (by decide) ?_
                  exact ih.2.2.2.2.2.1 z _ _ L σ _ h hzk hc hs H locs ls hP hD hS (lv_sub hl [0, 2, 3] rfl)
      · intro z cells slots L σ r h hzk hc hs H locs ls hP hD hS hl
        rw [f_X3_partly] at h
        refine lv_aload_n hx hb dX3_partly_36 rfl (lv_at hl 0 rfl) ?_
        refine hg_18_5 hx hb hts in_f_X3_partly_X3 hown hK hP (hts _ (List.mem_cons_of_mem _ (List.mem_append_left _ (List.mem_append_left _ (List.mem_of_getElem? (i := 0) rfl))))) dX3_partly_37 ?_
        refine lv_dup hx hb dX3_partly_40 rfl ?_
        refine hg_19_2n hx hb hts in_f_X3_partly_X8 hown hK hP (va_Nw.use rfl (hG.1 _ (List.mem_of_getElem? (i := 10) rfl))) dX3_partly_41 ?_
        refine lv_iconst (v := 1) hx hb dX3_partly_44 (by decide) ?_
        refine lv_isub hx hb dX3_partly_45 ?_
        refine hp_19_2n hx hb hts in_f_X3_partly_X8 hown hK hP hD hS (va_Nw.use rfl (hG.1 _ (List.mem_of_getElem? (i := 10) rfl))) dX3_partly_46 (fun H locs hP hD hS => ?_)
        refine lv_aload_n hx hb dX3_partly_49 rfl (lv_at hl 0 rfl) ?_
        refine lv_aload_n hx hb dX3_partly_50 rfl (lv_at hl 0 rfl) ?_
        refine hg_18_2 hx hb hts in_f_X3_partly_X3 hown hK hP (hts _ (List.mem_cons_of_mem _ (List.mem_append_left _ (List.mem_append_left _ (List.mem_of_getElem? (i := 1) rfl))))) dX3_partly_51 ?_
        refine lv_iload_n hx hb dX3_partly_54 rfl (lv_at hl 1 rfl) ?_
        refine lv_aload_n hx hb dX3_partly_55 rfl (lv_at hl 0 rfl) ?_
        refine hg_18_7 hx hb hts in_f_X3_partly_X3 hown hK hP (hts _ (List.mem_cons_of_mem _ (List.mem_append_left _ (List.mem_append_left _ (List.mem_of_getElem? (i := 2) rfl))))) dX3_partly_56 ?_
        refine lv_aload_n hx hb dX3_partly_59 rfl (lv_at hl 0 rfl) ?_
        refine hg_18_5 hx hb hts in_f_X3_partly_X3 hown hK hP (hts _ (List.mem_cons_of_mem _ (List.mem_append_left _ (List.mem_append_left _ (List.mem_of_getElem? (i := 0) rfl))))) dX3_partly_60 ?_
        refine hg_19_2n hx hb hts in_f_X3_partly_X8 hown hK hP (va_Nw.use rfl (hG.1 _ (List.mem_of_getElem? (i := 10) rfl))) dX3_partly_63 ?_
        refine lv_iconst (v := 1) hx hb dX3_partly_66 (by decide) ?_
        refine lv_isub hx hb dX3_partly_67 ?_
        obtain ⟨q1, h⟩ := kr_ite1 h
        refine hl_20 hx hb hK hP q1 dX3_partly_68 ?_
        refine lv_aload_n hx hb dX3_partly_69 rfl (lv_at hl 0 rfl) ?_
        refine hg_18_7 hx hb hts in_f_X3_partly_X3 hown hK hP (hts _ (List.mem_cons_of_mem _ (List.mem_append_left _ (List.mem_append_left _ (List.mem_of_getElem? (i := 2) rfl))))) dX3_partly_70 ?_
        refine lv_aload_n hx hb dX3_partly_73 rfl (lv_at hl 0 rfl) ?_
        refine hg_18_5 hx hb hts in_f_X3_partly_X3 hown hK hP (hts _ (List.mem_cons_of_mem _ (List.mem_append_left _ (List.mem_append_left _ (List.mem_of_getElem? (i := 0) rfl))))) dX3_partly_74 ?_
        refine hg_19_2n hx hb hts in_f_X3_partly_X8 hown hK hP (va_Nw.use rfl (hG.1 _ (List.mem_of_getElem? (i := 10) rfl))) dX3_partly_77 ?_
        obtain ⟨q2, h⟩ := kr_ite1 h
        refine hl_20 hx hb hK hP q2 dX3_partly_80 ?_
        refine lv_ldc (v := (-2147483648)) hx hb hown (hts _ (List.mem_cons_of_mem _ (List.mem_append_left _ (List.mem_append_left _ (List.mem_of_getElem? (i := 3) rfl))))) dX3_partly_81 ?_
        obtain ⟨r3, hc3, h⟩ := op_ex h
        refine kc_i (va_runV (As := [.int (L.1 1), .int ((uI σ 1902 ((((σ.1 1902)) - 1))).2.2.1 20 (((((uI σ 1902 ((((σ.1 1902)) - 1))).1 1902)) - 1)).toNatClampNeg), .int ((uI σ 1902 ((((σ.1 1902)) - 1))).2.2.1 20 (((uI σ 1902 ((((σ.1 1902)) - 1))).1 1902)).toNatClampNeg), .int (-2147483648)]) (rest := [.ref (a 18)]) ⟨hx, hb, hml, hown, hts⟩ (c_y_X0_part l dC dI cy a z k (lI (lI (lI (lI lZ 1 ((L.1 1))) 2 (((uI σ 1902 ((((σ.1 1902)) - 1))).2.2.1 20 (((((uI σ 1902 ((((σ.1 1902)) - 1))).1 1902)) - 1)).toNatClampNeg))) 3 (((uI σ 1902 ((((σ.1 1902)) - 1))).2.2.1 20 (((uI σ 1902 ((((σ.1 1902)) - 1))).1 1902)).toNatClampNeg))) 4 ((-2147483648))) (uI σ 1902 ((((σ.1 1902)) - 1))) r3 hc3 H.size) (cwV 4 hts g_y_X3_partly_X0_part_V540 rfl rfl rfl hd_y_X0_part ⟨Nat.le_of_ble_eq_true rfl, Nat.le_of_ble_eq_true rfl⟩) ⟨nb_blind, va_recv hK hP (ci := 0) (q0 := 14) rfl rfl, (kb_pre hK hG hP hD)⟩ rfl rfl hl.1 rfl (lv_room (Nat.le_of_ble_eq_true rfl)) dX3_partly_83 ⟨(Nat.le_trans (Nat.le_add_right _ _) (Nat.le_of_eq hc)), (Nat.le_trans (Nat.le_add_right _ _) (Nat.le_of_eq hs))⟩) hA hP hD hS (fun H locs hP hD hS => ?_)
        obtain ⟨r4, hc4, h⟩ := op_ex h
        refine kc_v (va_runV (As := [.int r3.1]) (rest := []) ⟨hx, hb, hml, hown, hts⟩ (c_y_X3_replace l dC dI cy a z k (lI lZ 1 r3.1) r3.2 r4 hc4 H.size) (cwV 1 hts g_y_X3_partly_X3_replace_V280 rfl rfl rfl hd_y_X3_replace ⟨Nat.le_of_ble_eq_true rfl, Nat.le_of_ble_eq_true rfl⟩) ⟨nb_blind, va_recv hK hP (ci := 3) (q0 := 18) rfl rfl, (kb_pre hK hG hP hD)⟩ rfl rfl hl.1 rfl (lv_room (Nat.le_of_ble_eq_true rfl)) dX3_partly_86 ⟨(Nat.le_trans (Nat.le_add_right _ _) (Nat.le_of_eq hc)), (Nat.le_trans (Nat.le_add_right _ _) (Nat.le_of_eq hs))⟩) hA hP hD hS (fun H locs hP hD hS => ?_)
        refine lv_goto (tgt := 231) hx hb dX3_partly_89 (by decide) ?_
        exact ih.2.2.2.2.2.2 z _ _ L r4.2 _ h hzk hc hs H locs ls hP hD hS (lv_sub hl [] rfl)
      · intro z cells slots L σ r h hzk hc hs H locs ls hP hD hS hl
        rw [f_X3_partly] at h
        refine lv_aload_n hx hb dX3_partly_92 rfl (lv_at hl 0 rfl) ?_
        refine hg_18_5 hx hb hts in_f_X3_partly_X3 hown hK hP (hts _ (List.mem_cons_of_mem _ (List.mem_append_left _ (List.mem_append_left _ (List.mem_of_getElem? (i := 0) rfl))))) dX3_partly_93 ?_
        refine lv_aload_n hx hb dX3_partly_96 rfl (lv_at hl 0 rfl) ?_
        refine hg_18_5 hx hb hts in_f_X3_partly_X3 hown hK hP (hts _ (List.mem_cons_of_mem _ (List.mem_append_left _ (List.mem_append_left _ (List.mem_of_getElem? (i := 0) rfl))))) dX3_partly_97 ?_
        refine hg_19_2n hx hb hts in_f_X3_partly_X8 hown hK hP (va_Nw.use rfl (hG.1 _ (List.mem_of_getElem? (i := 10) rfl))) dX3_partly_100 ?_
        refine lv_iconst (v := 2) hx hb dX3_partly_103 (by decide) ?_
        refine lv_isub hx hb dX3_partly_104 ?_
        refine hp_19_2n hx hb hts in_f_X3_partly_X8 hown hK hP hD hS (va_Nw.use rfl (hG.1 _ (List.mem_of_getElem? (i := 10) rfl))) dX3_partly_105 (fun H locs hP hD hS => ?_)
        refine lv_aload_n hx hb dX3_partly_108 rfl (lv_at hl 0 rfl) ?_
        refine lv_aload_n hx hb dX3_partly_109 rfl (lv_at hl 0 rfl) ?_
        refine hg_18_2 hx hb hts in_f_X3_partly_X3 hown hK hP (hts _ (List.mem_cons_of_mem _ (List.mem_append_left _ (List.mem_append_left _ (List.mem_of_getElem? (i := 1) rfl))))) dX3_partly_110 ?_
        refine lv_iload_n hx hb dX3_partly_113 rfl (lv_at hl 1 rfl) ?_
        refine lv_aload_n hx hb dX3_partly_114 rfl (lv_at hl 0 rfl) ?_
        refine hg_18_7 hx hb hts in_f_X3_partly_X3 hown hK hP (hts _ (List.mem_cons_of_mem _ (List.mem_append_left _ (List.mem_append_left _ (List.mem_of_getElem? (i := 2) rfl))))) dX3_partly_115 ?_
        refine lv_aload_n hx hb dX3_partly_118 rfl (lv_at hl 0 rfl) ?_
        refine hg_18_5 hx hb hts in_f_X3_partly_X3 hown hK hP (hts _ (List.mem_cons_of_mem _ (List.mem_append_left _ (List.mem_append_left _ (List.mem_of_getElem? (i := 0) rfl))))) dX3_partly_119 ?_
        refine hg_19_2n hx hb hts in_f_X3_partly_X8 hown hK hP (va_Nw.use rfl (hG.1 _ (List.mem_of_getElem? (i := 10) rfl))) dX3_partly_122 ?_
        refine lv_iconst (v := 1) hx hb dX3_partly_125 (by decide) ?_
        refine lv_isub hx hb dX3_partly_126 ?_
        obtain ⟨q1, h⟩ := kr_ite1 h
        refine hl_20 hx hb hK hP q1 dX3_partly_127 ?_
        refine lv_aload_n hx hb dX3_partly_128 rfl (lv_at hl 0 rfl) ?_
        refine hg_18_7 hx hb hts in_f_X3_partly_X3 hown hK hP (hts _ (List.mem_cons_of_mem _ (List.mem_append_left _ (List.mem_append_left _ (List.mem_of_getElem? (i := 2) rfl))))) dX3_partly_129 ?_
        refine lv_aload_n hx hb dX3_partly_132 rfl (lv_at hl 0 rfl) ?_
        refine hg_18_5 hx hb hts in_f_X3_partly_X3 hown hK hP (hts _ (List.mem_cons_of_mem _ (List.mem_append_left _ (List.mem_append_left _ (List.mem_of_getElem? (i := 0) rfl))))) dX3_partly_133 ?_
        refine hg_19_2n hx hb hts in_f_X3_partly_X8 hown hK hP (va_Nw.use rfl (hG.1 _ (List.mem_of_getElem? (i := 10) rfl))) dX3_partly_136 ?_
        obtain ⟨q2, h⟩ := kr_ite1 h
        refine hl_20 hx hb hK hP q2 dX3_partly_139 ?_
        refine lv_aload_n hx hb dX3_partly_140 rfl (lv_at hl 0 rfl) ?_
        refine hg_18_7 hx hb hts in_f_X3_partly_X3 hown hK hP (hts _ (List.mem_cons_of_mem _ (List.mem_append_left _ (List.mem_append_left _ (List.mem_of_getElem? (i := 2) rfl))))) dX3_partly_141 ?_
        refine lv_aload_n hx hb dX3_partly_144 rfl (lv_at hl 0 rfl) ?_
        refine hg_18_5 hx hb hts in_f_X3_partly_X3 hown hK hP (hts _ (List.mem_cons_of_mem _ (List.mem_append_left _ (List.mem_append_left _ (List.mem_of_getElem? (i := 0) rfl))))) dX3_partly_145 ?_
        refine hg_19_2n hx hb hts in_f_X3_partly_X8 hown hK hP (va_Nw.use rfl (hG.1 _ (List.mem_of_getElem? (i := 10) rfl))) dX3_partly_148 ?_
        refine lv_iconst (v := 1) hx hb dX3_partly_151 (by decide) ?_
        refine lv_iadd hx hb dX3_partly_152 ?_
        obtain ⟨q3, h⟩ := kr_ite1 h
        refine hl_20 hx hb hK hP q3 dX3_partly_153 ?_
        obtain ⟨r4, hc4, h⟩ := op_ex h
        refine kc_i (va_runV (As := [.int (L.1 1), .int ((uI σ 1902 ((((σ.1 1902)) - 2))).2.2.1 20 (((((uI σ 1902 ((((σ.1 1902)) - 2))).1 1902)) - 1)).toNatClampNeg), .int ((uI σ 1902 ((((σ.1 1902)) - 2))).2.2.1 20 (((uI σ 1902 ((((σ.1 1902)) - 2))).1 1902)).toNatClampNeg), .int ((uI σ 1902 ((((σ.1 1902)) - 2))).2.2.1 20 (((((uI σ 1902 ((((σ.1 1902)) - 2))).1 1902)) + 1)).toNatClampNeg)]) (rest := [.ref (a 18)]) ⟨hx, hb, hml, hown, hts⟩ (c_y_X0_part l dC dI cy a z k (lI (lI (lI (lI lZ 1 ((L.1 1))) 2 (((uI σ 1902 ((((σ.1 1902)) - 2))).2.2.1 20 (((((uI σ 1902 ((((σ.1 1902)) - 2))).1 1902)) - 1)).toNatClampNeg))) 3 (((uI σ 1902 ((((σ.1 1902)) - 2))).2.2.1 20 (((uI σ 1902 ((((σ.1 1902)) - 2))).1 1902)).toNatClampNeg))) 4 (((uI σ 1902 ((((σ.1 1902)) - 2))).2.2.1 20 (((((uI σ 1902 ((((σ.1 1902)) - 2))).1 1902)) + 1)).toNatClampNeg))) (uI σ 1902 ((((σ.1 1902)) - 2))) r4 hc4 H.size) (cwV 4 hts g_y_X3_partly_X0_part_V540 rfl rfl rfl hd_y_X0_part ⟨Nat.le_of_ble_eq_true rfl, Nat.le_of_ble_eq_true rfl⟩) ⟨nb_blind, va_recv hK hP (ci := 0) (q0 := 14) rfl rfl, (kb_pre hK hG hP hD)⟩ rfl rfl hl.1 rfl (lv_room (Nat.le_of_ble_eq_true rfl)) dX3_partly_154 ⟨(Nat.le_trans (Nat.le_add_right _ _) (Nat.le_of_eq hc)), (Nat.le_trans (Nat.le_add_right _ _) (Nat.le_of_eq hs))⟩) hA hP hD hS (fun H locs hP hD hS => ?_)
        obtain ⟨r5, hc5, h⟩ := op_ex h
        refine kc_v (va_runV (As := [.int r4.1]) (rest := []) ⟨hx, hb, hml, hown, hts⟩ (c_y_X3_replace l dC dI cy a z k (lI lZ 1 r4.1) r4.2 r5 hc5 H.size) (cwV 1 hts g_y_X3_partly_X3_replace_V280 rfl rfl rfl hd_y_X3_replace ⟨Nat.le_of_ble_eq_true rfl, Nat.le_of_ble_eq_true rfl⟩) ⟨nb_blind, va_recv hK hP (ci := 3) (q0 := 18) rfl rfl, (kb_pre hK hG hP hD)⟩ rfl rfl hl.1 rfl (lv_room (Nat.le_of_ble_eq_true rfl)) dX3_partly_157 ⟨(Nat.le_trans (Nat.le_add_right _ _) (Nat.le_of_eq hc)), (Nat.le_trans (Nat.le_add_right _ _) (Nat.le_of_eq hs))⟩) hA hP hD hS (fun H locs hP hD hS => ?_)
        refine lv_goto (tgt := 231) hx hb dX3_partly_160 (by decide) ?_
        exact ih.2.2.2.2.2.2 z _ _ L r5.2 _ h hzk hc hs H locs ls hP hD hS (lv_sub hl [] rfl)
      · intro z cells slots L σ r h hzk hc hs H locs ls hP hD hS hl
        rw [f_X3_partly] at h
        refine lv_aload_n hx hb dX3_partly_163 rfl (lv_at hl 0 rfl) ?_
        refine lv_aload_n hx hb dX3_partly_164 rfl (lv_at hl 0 rfl) ?_
        refine hg_18_0 hx hb hts in_f_X3_partly_X3 hown hK hP (hts _ (List.mem_cons_of_mem _ (List.mem_append_left _ (List.mem_append_left _ (List.mem_of_getElem? (i := 12) rfl))))) dX3_partly_165 ?_
        refine lv_aload_n hx hb dX3_partly_168 rfl (lv_at hl 0 rfl) ?_
        refine hg_18_7 hx hb hts in_f_X3_partly_X3 hown hK hP (hts _ (List.mem_cons_of_mem _ (List.mem_append_left _ (List.mem_append_left _ (List.mem_of_getElem? (i := 2) rfl))))) dX3_partly_169 ?_
        refine lv_aload_n hx hb dX3_partly_172 rfl (lv_at hl 0 rfl) ?_
        refine hg_18_5 hx hb hts in_f_X3_partly_X3 hown hK hP (hts _ (List.mem_cons_of_mem _ (List.mem_append_left _ (List.mem_append_left _ (List.mem_of_getElem? (i := 0) rfl))))) dX3_partly_173 ?_
        refine hg_19_2n hx hb hts in_f_X3_partly_X8 hown hK hP (va_Nw.use rfl (hG.1 _ (List.mem_of_getElem? (i := 10) rfl))) dX3_partly_176 ?_
        refine lv_iconst (v := 1) hx hb dX3_partly_179 (by decide) ?_
        refine lv_isub hx hb dX3_partly_180 ?_
        obtain ⟨q1, h⟩ := kr_ite1 h
        refine hl_20 hx hb hK hP q1 dX3_partly_181 ?_
        refine lv_iload_n hx hb dX3_partly_182 rfl (lv_at hl 1 rfl) ?_
        obtain ⟨r2, hc2, h⟩ := op_ex h
        refine kc_i (va_runV (As := [.int (σ.2.2.1 20 ((((σ.1 1902)) - 1)).toNatClampNeg), .int (L.1 2)]) (rest := [.ref (a 18)]) ⟨hx, hb, hml, hown, hts⟩ (c_y_X1_member l dC dI cy a z k (lI (lI lZ 1 ((σ.2.2.1 20 ((((σ.1 1902)) - 1)).toNatClampNeg))) 2 ((L.1 2))) σ r2 hc2 H.size) (cwV 2 hts g_y_X3_partly_X1_member_V452 rfl rfl rfl hd_y_X1_member ⟨Nat.le_of_ble_eq_true rfl, Nat.le_of_ble_eq_true rfl⟩) ⟨nb_blind, va_recv hK hP (ci := 1) (q0 := 0) rfl rfl, (kb_pre hK hG hP hD)⟩ rfl rfl hl.1 rfl (lv_room (Nat.le_of_ble_eq_true rfl)) dX3_partly_183 ⟨(Nat.le_trans (Nat.le_add_right _ _) (Nat.le_of_eq hc)), (Nat.le_trans (Nat.le_add_right _ _) (Nat.le_of_eq hs))⟩) hA hP hD hS (fun H locs hP hD hS => ?_)
        obtain ⟨r3, hc3, hle3, h9⟩ := ox_ex h
        clear h
        refine kx_v (vx_runV (As := [.int r2.1]) (rest := []) ⟨hx, hb, hml, hown, hts⟩ (c_f_X3_push l hl0 dC dI cy ek a k (lI lZ 1 r2.1) r2.2 r3 hc3 z H.size) (cwV 1 hts g_f_X3_partly_X3_push_V322 rfl rfl rfl hd_f_X3_push ⟨Nat.le_of_ble_eq_true rfl, Nat.le_of_ble_eq_true rfl⟩) ⟨nb_blindF, va_recv hK hP (ci := 3) (q0 := 18) rfl rfl, (kx_pre hK hG hE hT hA hP hD hS)⟩ rfl rfl hl.1 rfl (lv_room (Nat.le_of_ble_eq_true rfl)) dX3_partly_186 ⟨Nat.le_trans (Nat.add_le_add_left hle3.1 _) (Nat.le_of_eq hc), Nat.le_trans (Nat.add_le_add_left hle3.2 _) (Nat.le_of_eq hs)⟩) hK hA hzk hP hD hS (by decide) hno hlocks ?_
        rcases h9 with ⟨h00, y3, hny3, hy⟩ | ⟨h00, hy⟩
        · subst hy
          have h := hny3
          refine Or.inl ⟨h00, fun z H locs hz3 hzk hP hD hS => ?_⟩
          replace hc := (Nat.add_assoc _ _ _).trans hc
          replace hs := (Nat.add_assoc _ _ _).trans hs
          refine lv_goto (tgt := 231) hx hb dX3_partly_189 (by decide) ?_
          exact ih.2.2.2.2.2.2 z _ _ L r3.2.1 _ h hzk hc hs H locs ls hP hD hS (lv_sub hl [] rfl)
        · subst hy
          exact Or.inr ⟨h00, rfl, hc, hs⟩
      · intro z cells slots L σ r h hzk hc hs H locs ls hP hD hS hl
        rw [f_X3_partly] at h
        refine lv_aload_n hx hb dX3_partly_192 rfl (lv_at hl 0 rfl) ?_
        refine hg_18_0 hx hb hts in_f_X3_partly_X3 hown hK hP (hts _ (List.mem_cons_of_mem _ (List.mem_append_left _ (List.mem_append_left _ (List.mem_of_getElem? (i := 12) rfl))))) dX3_partly_193 ?_
        refine lv_aload_n hx hb dX3_partly_196 rfl (lv_at hl 0 rfl) ?_
        refine hg_18_7 hx hb hts in_f_X3_partly_X3 hown hK hP (hts _ (List.mem_cons_of_mem _ (List.mem_append_left _ (List.mem_append_left _ (List.mem_of_getElem? (i := 2) rfl))))) dX3_partly_197 ?_
        refine lv_aload_n hx hb dX3_partly_200 rfl (lv_at hl 0 rfl) ?_
        refine hg_18_5 hx hb hts in_f_X3_partly_X3 hown hK hP (hts _ (List.mem_cons_of_mem _ (List.mem_append_left _ (List.mem_append_left _ (List.mem_of_getElem? (i := 0) rfl))))) dX3_partly_201 ?_
        refine hg_19_2n hx hb hts in_f_X3_partly_X8 hown hK hP (va_Nw.use rfl (hG.1 _ (List.mem_of_getElem? (i := 10) rfl))) dX3_partly_204 ?_
        refine lv_iconst (v := 1) hx hb dX3_partly_207 (by decide) ?_
        refine lv_isub hx hb dX3_partly_208 ?_
        obtain ⟨q1, h⟩ := kr_ite1 h
        refine hl_20 hx hb hK hP q1 dX3_partly_209 ?_
        obtain ⟨r2, hc2, h⟩ := op_ex h
        refine kc_i (va_runV (As := [.int (σ.2.2.1 20 ((((σ.1 1902)) - 1)).toNatClampNeg)]) (rest := []) ⟨hx, hb, hml, hown, hts⟩ (c_y_X1_kind l dC dI cy a z k (lI lZ 1 ((σ.2.2.1 20 ((((σ.1 1902)) - 1)).toNatClampNeg))) σ r2 hc2 H.size) (cwV 1 hts g_y_X3_partly_X1_kind_V396 rfl rfl rfl hd_y_X1_kind ⟨Nat.le_of_ble_eq_true rfl, Nat.le_of_ble_eq_true rfl⟩) ⟨nb_blind, va_recv hK hP (ci := 1) (q0 := 0) rfl rfl, (kb_pre hK hG hP hD)⟩ rfl rfl hl.1 rfl (lv_room (Nat.le_of_ble_eq_true rfl)) dX3_partly_210 ⟨(Nat.le_trans (Nat.le_add_right _ _) (Nat.le_of_eq hc)), (Nat.le_trans (Nat.le_add_right _ _) (Nat.le_of_eq hs))⟩) hA hP hD hS (fun H locs hP hD hS => ?_)
        refine lv_iconst (v := 5) hx hb dX3_partly_213 (by decide) ?_
        refine lv_icmp_eq (tgt := 231) hx hb dX3_partly_214 (by decide) (fun c3 => ?_) (fun c3 => ?_)
        · rw [if_pos c3] at h
          exact ih.2.2.2.2.2.2 z _ _ L r2.2 _ h hzk hc hs H locs ls hP hD hS (lv_sub hl [] rfl)
        · rw [if_neg c3] at h
          refine lv_aload_n hx hb dX3_partly_217 rfl (lv_at hl 0 rfl) ?_
          refine lv_iconst (v := 1) hx hb dX3_partly_218 (by decide) ?_
          obtain ⟨r4, hc4, h⟩ := op_ex h
          refine kc_v (va_runV (As := [.int 1]) (rest := []) ⟨hx, hb, hml, hown, hts⟩ (c_y_X3_fail l dC dI cy a z k (lI lZ 1 1) r2.2 r4 hc4 H.size) (cwV 1 hts g_y_X3_partly_X3_fail_V313 rfl rfl rfl hd_y_X3_fail ⟨Nat.le_of_ble_eq_true rfl, Nat.le_of_ble_eq_true rfl⟩) ⟨nb_blind, va_recv hK hP (ci := 3) (q0 := 18) rfl rfl, (kb_pre hK hG hP hD)⟩ rfl rfl hl.1 rfl (lv_room (Nat.le_of_ble_eq_true rfl)) dX3_partly_219 ⟨(Nat.le_trans (Nat.le_add_right _ _) (Nat.le_of_eq hc)), (Nat.le_trans (Nat.le_add_right _ _) (Nat.le_of_eq hs))⟩) hA hP hD hS (fun H locs hP hD hS => ?_)
          refine lv_goto (tgt := 231) hx hb dX3_partly_222 (by decide) ?_
          exact ih.2.2.2.2.2.2 z _ _ L r4.2 _ h hzk hc hs H locs ls hP hD hS (lv_sub hl [] rfl)
      · intro z cells slots L σ r h hzk hc hs H locs ls hP hD hS hl
        rw [f_X3_partly] at h
        refine lv_aload_n hx hb dX3_partly_225 rfl (lv_at hl 0 rfl) ?_
        refine lv_iload_n hx hb dX3_partly_226 rfl (lv_at hl 1 rfl) ?_
        refine lv_iload_n hx hb dX3_partly_227 rfl (lv_at hl 2 rfl) ?_
        obtain ⟨r1, hc1, hle1, h9⟩ := ox_ex h
        clear h
        refine kx_v (vx_runV (As := [.int (L.1 2), .int (L.1 3)]) (rest := []) ⟨hx, hb, hml, hown, hts⟩ (c_f_X3_takeFrom l hl0 dC dI cy ek a k (lI (lI lZ 1 ((L.1 2))) 2 ((L.1 3))) σ r1 hc1 z H.size) (cwV 2 hts g_f_X3_partly_X3_takeFrom_V544 rfl rfl rfl hd_f_X3_takeFrom ⟨Nat.le_of_ble_eq_true rfl, Nat.le_of_ble_eq_true rfl⟩) ⟨nb_blindF, va_recv hK hP (ci := 3) (q0 := 18) rfl rfl, (kx_pre hK hG hE hT hA hP hD hS)⟩ rfl rfl hl.1 rfl (lv_room (Nat.le_of_ble_eq_true rfl)) dX3_partly_228 ⟨Nat.le_trans (Nat.add_le_add_left hle1.1 _) (Nat.le_of_eq hc), Nat.le_trans (Nat.add_le_add_left hle1.2 _) (Nat.le_of_eq hs)⟩) hK hA hzk hP hD hS (by decide) hno hlocks ?_
        rcases h9 with ⟨h00, y1, hny1, hy⟩ | ⟨h00, hy⟩
        · subst hy
          have h := hny1
          refine Or.inl ⟨h00, fun z H locs hz1 hzk hP hD hS => ?_⟩
          replace hc := (Nat.add_assoc _ _ _).trans hc
          replace hs := (Nat.add_assoc _ _ _).trans hs
          exact ih.2.2.2.2.2.2 z _ _ L r1.2.1 _ h hzk hc hs H locs ls hP hD hS (lv_sub hl [] rfl)
        · subst hy
          exact Or.inr ⟨h00, rfl, hc, hs⟩
      · intro z cells slots L σ r h hzk hc hs H locs ls hP hD hS hl
        rw [f_X3_partly] at h
        obtain rfl := Option.some.inj h
        subst hc
        subst hs
        exact xr_v hx hb hr hK hzk hP hD hS hlocks dX3_partly_231
  exact (blk k0).1 z 0 0 L0 σ0 r0 h0 (zk_rf _ _) ((Nat.zero_add _).trans hmc) ((Nat.zero_add _).trans hms) s.heap [] ls hP hD hS hl

/-! X3_fold -/
def f_X3_fold : Nat → Nat → LV → CS → Option RS
  | 0, _, _, _ => none
  | k + 1, 0, L, σ => if ¬ (((((σ.1 1902)) - 1)) < 0 ∨ (sN σ 20) ≤ ((((σ.1 1902)) - 1)).toNatClampNeg) then (op (y_X1_kind k 0 (lI lZ 1 ((σ.2.2.1 20 ((((σ.1 1902)) - 1)).toNatClampNeg))) σ) (fun r2 => if 5 ≤ r2.1 then (f_X3_fold k 1 (lI L 1 ((σ.2.2.1 20 ((((σ.1 1902)) - 1)).toNatClampNeg))) r2.2) else (op (y_X3_fail k 0 (lI lZ 1 1) r2.2) (fun r4 => f_X3_fold k 2 L r4.2)))) else none
  | k + 1, 1, L, σ => op (y_X1_length k 0 (lI lZ 1 ((L.1 1))) σ) (fun r1 => if r1.1 = 0 then (op (y_X3_replace k 0 (lI lZ 1 ((-2147483648))) r1.2) (fun r3 => f_X3_fold k 2 L (uI r3.2 1900 ((((r3.2.1 1900)) + 1))))) else (f_X3_fold k 3 L r1.2))
  | k + 1, 2, L, σ => some ((0, 0), σ, (0, 0))
  | k + 1, 3, L, σ => op (y_X1_member k 0 (lI (lI lZ 1 ((L.1 1))) 2 0) σ) (fun r1 => ox (f_X3_push k 0 (lI lZ 1 r1.1) r1.2) (fun r2 => op (y_X11_raw k 0 (lI lZ 0 1) r2.2.1) (fun r3 => ox (f_X3_push k 0 (lI lZ 1 r3.1) r3.2) (fun r4 => f_X3_fold k 2 L r4.2.1))))
  | _ + 1, _ + 4, _, _ => none
def o_f_X3_fold : List Cond := [.fieldLink RX3 18 "SetHouse$Machine" "stack" "[I", .fieldLink RX3 14 "SetHouse$Machine" "run" "LSetHouse$Run;", .fieldLink RX3 39 "SetHouse$Machine" "heap" "LSetHouse$Heap;", .methodLink RX3 396 yX1_kind, .instanceMethod yX1_kind, .selects RX1 yX1_kind yX1_kind, .initialized RX1, .methodLink RX3 313 yX3_fail, .instanceMethod yX3_fail, .selects RX3 yX3_fail yX3_fail, .initialized RX3, .methodLink RX3 399 yX1_length, .instanceMethod yX1_length, .selects RX1 yX1_length yX1_length, .constant RX3 136 (-2147483648), .methodLink RX3 280 yX3_replace, .instanceMethod yX3_replace, .selects RX3 yX3_replace yX3_replace, .methodLink RX3 452 yX1_member, .instanceMethod yX1_member, .selects RX1 yX1_member yX1_member, .methodLink RX3 322 yX3_push, .instanceMethod yX3_push, .selects RX3 yX3_push yX3_push, .initialized RX11, .static yX11_raw]
theorem o_f_X3_fold_good : o_f_X3_fold.all goodWord = true := by decide +kernel
def p_f_X3_fold : List Cond := o_f_X3_fold ++ ((.code yX1_kind cX1_kind 2 (some .int) :: p_y_X1_kind) ++ ((.code yX3_fail cX3_fail 2 none :: p_y_X3_fail) ++ ((.code yX1_length cX1_length 2 (some .int) :: p_y_X1_length) ++ ((.code yX3_replace cX3_replace 2 none :: p_y_X3_replace) ++ ((.code yX1_member cX1_member 3 (some .int) :: p_y_X1_member) ++ ((.code yX3_push cX3_push 2 none :: p_f_X3_push) ++ ((.code yX11_raw cX11_raw 1 (some .int) :: p_y_X11_raw) ++ [])))))))
theorem p_f_X3_fold_good : p_f_X3_fold.all goodWord = true := nb_all2 o_f_X3_fold_good (nb_all2 (nb_allc (by decide +kernel) p_y_X1_kind_good) (nb_all2 (nb_allc (by decide +kernel) p_y_X3_fail_good) (nb_all2 (nb_allc (by decide +kernel) p_y_X1_length_good) (nb_all2 (nb_allc (by decide +kernel) p_y_X3_replace_good) (nb_all2 (nb_allc (by decide +kernel) p_y_X1_member_good) (nb_all2 (nb_allc (by decide +kernel) p_f_X3_push_good) (nb_all2 (nb_allc (by decide +kernel) p_y_X11_raw_good) rfl)))))))
def w_f_X3_fold : List Cond := .code yX3_fold cX3_fold 2 none :: (p_f_X3_fold ++ fC)
theorem w_f_X3_fold_good : w_f_X3_fold.all goodWord = true := nb_allc (by decide +kernel) (nb_all2 p_f_X3_fold_good fC_good)
theorem in_f_X3_fold_X3 : ∀ w ∈ wsX30, w ∈ w_f_X3_fold := fun _ h => List.mem_cons_of_mem _ (List.mem_append_right _ (List.mem_append_right _ (List.mem_append_right _ (List.mem_append_right _ (List.mem_append_left _ h)))))
theorem in_f_X3_fold_X8 : ∀ w ∈ wsX80, w ∈ w_f_X3_fold := fun _ h => List.mem_cons_of_mem _ (List.mem_append_right _ (List.mem_append_right _ (List.mem_append_right _ (List.mem_append_right _ (List.mem_append_right _ (List.mem_append_right _ (List.mem_append_right _ (List.mem_append_right _ (List.mem_append_left _ h)))))))))
theorem hd_f_X3_fold : yX3_fold.cls = RX3 ∧ yX3_fold.cls ≠ "java/lang/invoke/MethodHandle" ∧ yX3_fold.cls ≠ "java/lang/invoke/VarHandle" ∧ (parseMethodDescriptor yX3_fold.desc).map (fun d => d.parameters.length) = some 0 := by decide +kernel
theorem gg_f_X3_fold_X3_push : GoodIn w_f_X3_fold w_f_X3_push := goodIn_sub (fun w h => (List.mem_cons.mp h).elim (fun e => (List.mem_cons_of_mem _ (List.mem_append_left _ (List.mem_append_right _ (List.mem_append_right _ (List.mem_append_right _ (List.mem_append_right _ (List.mem_append_right _ (List.mem_append_right _ (List.mem_append_left _ (List.mem_cons.mpr (Or.inl e)))))))))))) (fun h => (List.mem_append.mp h).elim (fun h => (List.mem_cons_of_mem _ (List.mem_append_left _ (List.mem_append_right _ (List.mem_append_right _ (List.mem_append_right _ (List.mem_append_right _ (List.mem_append_right _ (List.mem_append_right _ (List.mem_append_left _ (List.mem_cons_of_mem _ h))))))))))) (fun h => List.mem_cons_of_mem _ (List.mem_append_right _ h)))) w_f_X3_push_good
theorem g_f_X3_fold_X3_push_V322 : GoodIn w_f_X3_fold (wsV RX3 322 RX3 yX3_push w_f_X3_push) := goodIn_app (nb_g4 (List.mem_cons_of_mem _ (List.mem_append_left _ (List.mem_append_left _ (List.mem_of_getElem? (i := 21) rfl)))) (List.mem_cons_of_mem _ (List.mem_append_left _ (List.mem_append_left _ (List.mem_of_getElem? (i := 22) rfl)))) (List.mem_cons_of_mem _ (List.mem_append_left _ (List.mem_append_left _ (List.mem_of_getElem? (i := 23) rfl)))) (List.mem_cons_of_mem _ (List.mem_append_left _ (List.mem_append_left _ (List.mem_of_getElem? (i := 10) rfl)))) (by decide +kernel)) gg_f_X3_fold_X3_push
theorem gg_f_X3_fold_X11_raw : GoodIn w_f_X3_fold w_y_X11_raw := goodIn_sub (fun w h => (List.mem_cons.mp h).elim (fun e => (List.mem_cons_of_mem _ (List.mem_append_left _ (List.mem_append_right _ (List.mem_append_right _ (List.mem_append_right _ (List.mem_append_right _ (List.mem_append_right _ (List.mem_append_right _ (List.mem_append_right _ (List.mem_append_left _ (List.mem_cons.mpr (Or.inl e))))))))))))) (fun h => (List.mem_append.mp h).elim (fun h => (List.mem_cons_of_mem _ (List.mem_append_left _ (List.mem_append_right _ (List.mem_append_right _ (List.mem_append_right _ (List.mem_append_right _ (List.mem_append_right _ (List.mem_append_right _ (List.mem_append_right _ (List.mem_append_left _ (List.mem_cons_of_mem _ h)))))))))))) (fun h => List.mem_cons_of_mem _ (List.mem_append_right _ h)))) w_y_X11_raw_good
theorem g_y_X3_fold_X11_raw_SN182 : GoodIn w_f_X3_fold w_y_X11_raw := gg_f_X3_fold_X11_raw
theorem gg_f_X3_fold_X1_kind : GoodIn w_f_X3_fold w_y_X1_kind := goodIn_sub (fun w h => (List.mem_cons.mp h).elim (fun e => (List.mem_cons_of_mem _ (List.mem_append_left _ (List.mem_append_right _ (List.mem_append_left _ (List.mem_cons.mpr (Or.inl e))))))) (fun h => (List.mem_append.mp h).elim (fun h => (List.mem_cons_of_mem _ (List.mem_append_left _ (List.mem_append_right _ (List.mem_append_left _ (List.mem_cons_of_mem _ h)))))) (fun h => List.mem_cons_of_mem _ (List.mem_append_right _ h)))) w_y_X1_kind_good
theorem g_y_X3_fold_X1_kind_V396 : GoodIn w_f_X3_fold (wsV RX3 396 RX1 yX1_kind w_y_X1_kind) := goodIn_app (nb_g4 (List.mem_cons_of_mem _ (List.mem_append_left _ (List.mem_append_left _ (List.mem_of_getElem? (i := 3) rfl)))) (List.mem_cons_of_mem _ (List.mem_append_left _ (List.mem_append_left _ (List.mem_of_getElem? (i := 4) rfl)))) (List.mem_cons_of_mem _ (List.mem_append_left _ (List.mem_append_left _ (List.mem_of_getElem? (i := 5) rfl)))) (List.mem_cons_of_mem _ (List.mem_append_left _ (List.mem_append_left _ (List.mem_of_getElem? (i := 6) rfl)))) (by decide +kernel)) gg_f_X3_fold_X1_kind
theorem gg_f_X3_fold_X1_length : GoodIn w_f_X3_fold w_y_X1_length := goodIn_sub (fun w h => (List.mem_cons.mp h).elim (fun e => (List.mem_cons_of_mem _ (List.mem_append_left _ (List.mem_append_right _ (List.mem_append_right _ (List.mem_append_right _ (List.mem_append_left _ (List.mem_cons.mpr (Or.inl e))))))))) (fun h => (List.mem_append.mp h).elim (fun h => (List.mem_cons_of_mem _ (List.mem_append_left _ (List.mem_append_right _ (List.mem_append_right _ (List.mem_append_right _ (List.mem_append_left _ (List.mem_cons_of_mem _ h)))))))) (fun h => List.mem_cons_of_mem _ (List.mem_append_right _ h)))) w_y_X1_length_good
theorem g_y_X3_fold_X1_length_V399 : GoodIn w_f_X3_fold (wsV RX3 399 RX1 yX1_length w_y_X1_length) := goodIn_app (nb_g4 (List.mem_cons_of_mem _ (List.mem_append_left _ (List.mem_append_left _ (List.mem_of_getElem? (i := 11) rfl)))) (List.mem_cons_of_mem _ (List.mem_append_left _ (List.mem_append_left _ (List.mem_of_getElem? (i := 12) rfl)))) (List.mem_cons_of_mem _ (List.mem_append_left _ (List.mem_append_left _ (List.mem_of_getElem? (i := 13) rfl)))) (List.mem_cons_of_mem _ (List.mem_append_left _ (List.mem_append_left _ (List.mem_of_getElem? (i := 6) rfl)))) (by decide +kernel)) gg_f_X3_fold_X1_length
theorem gg_f_X3_fold_X1_member : GoodIn w_f_X3_fold w_y_X1_member := goodIn_sub (fun w h => (List.mem_cons.mp h).elim (fun e => (List.mem_cons_of_mem _ (List.mem_append_left _ (List.mem_append_right _ (List.mem_append_right _ (List.mem_append_right _ (List.mem_append_right _ (List.mem_append_right _ (List.mem_append_left _ (List.mem_cons.mpr (Or.inl e))))))))))) (fun h => (List.mem_append.mp h).elim (fun h => (List.mem_cons_of_mem _ (List.mem_append_left _ (List.mem_append_right _ (List.mem_append_right _ (List.mem_append_right _ (List.mem_append_right _ (List.mem_append_right _ (List.mem_append_left _ (List.mem_cons_of_mem _ h)))))))))) (fun h => List.mem_cons_of_mem _ (List.mem_append_right _ h)))) w_y_X1_member_good
theorem g_y_X3_fold_X1_member_V452 : GoodIn w_f_X3_fold (wsV RX3 452 RX1 yX1_member w_y_X1_member) := goodIn_app (nb_g4 (List.mem_cons_of_mem _ (List.mem_append_left _ (List.mem_append_left _ (List.mem_of_getElem? (i := 18) rfl)))) (List.mem_cons_of_mem _ (List.mem_append_left _ (List.mem_append_left _ (List.mem_of_getElem? (i := 19) rfl)))) (List.mem_cons_of_mem _ (List.mem_append_left _ (List.mem_append_left _ (List.mem_of_getElem? (i := 20) rfl)))) (List.mem_cons_of_mem _ (List.mem_append_left _ (List.mem_append_left _ (List.mem_of_getElem? (i := 6) rfl)))) (by decide +kernel)) gg_f_X3_fold_X1_member
theorem gg_f_X3_fold_X3_fail : GoodIn w_f_X3_fold w_y_X3_fail := goodIn_sub (fun w h => (List.mem_cons.mp h).elim (fun e => (List.mem_cons_of_mem _ (List.mem_append_left _ (List.mem_append_right _ (List.mem_append_right _ (List.mem_append_left _ (List.mem_cons.mpr (Or.inl e)))))))) (fun h => (List.mem_append.mp h).elim (fun h => (List.mem_cons_of_mem _ (List.mem_append_left _ (List.mem_append_right _ (List.mem_append_right _ (List.mem_append_left _ (List.mem_cons_of_mem _ h))))))) (fun h => List.mem_cons_of_mem _ (List.mem_append_right _ h)))) w_y_X3_fail_good
theorem g_y_X3_fold_X3_fail_V313 : GoodIn w_f_X3_fold (wsV RX3 313 RX3 yX3_fail w_y_X3_fail) := goodIn_app (nb_g4 (List.mem_cons_of_mem _ (List.mem_append_left _ (List.mem_append_left _ (List.mem_of_getElem? (i := 7) rfl)))) (List.mem_cons_of_mem _ (List.mem_append_left _ (List.mem_append_left _ (List.mem_of_getElem? (i := 8) rfl)))) (List.mem_cons_of_mem _ (List.mem_append_left _ (List.mem_append_left _ (List.mem_of_getElem? (i := 9) rfl)))) (List.mem_cons_of_mem _ (List.mem_append_left _ (List.mem_append_left _ (List.mem_of_getElem? (i := 10) rfl)))) (by decide +kernel)) gg_f_X3_fold_X3_fail
theorem gg_f_X3_fold_X3_replace : GoodIn w_f_X3_fold w_y_X3_replace := goodIn_sub (fun w h => (List.mem_cons.mp h).elim (fun e => (List.mem_cons_of_mem _ (List.mem_append_left _ (List.mem_append_right _ (List.mem_append_right _ (List.mem_append_right _ (List.mem_append_right _ (List.mem_append_left _ (List.mem_cons.mpr (Or.inl e)))))))))) (fun h => (List.mem_append.mp h).elim (fun h => (List.mem_cons_of_mem _ (List.mem_append_left _ (List.mem_append_right _ (List.mem_append_right _ (List.mem_append_right _ (List.mem_append_right _ (List.mem_append_left _ (List.mem_cons_of_mem _ h))))))))) (fun h => List.mem_cons_of_mem _ (List.mem_append_right _ h)))) w_y_X3_replace_good
theorem g_y_X3_fold_X3_replace_V280 : GoodIn w_f_X3_fold (wsV RX3 280 RX3 yX3_replace w_y_X3_replace) := goodIn_app (nb_g4 (List.mem_cons_of_mem _ (List.mem_append_left _ (List.mem_append_left _ (List.mem_of_getElem? (i := 15) rfl)))) (List.mem_cons_of_mem _ (List.mem_append_left _ (List.mem_append_left _ (List.mem_of_getElem? (i := 16) rfl)))) (List.mem_cons_of_mem _ (List.mem_append_left _ (List.mem_append_left _ (List.mem_of_getElem? (i := 17) rfl)))) (List.mem_cons_of_mem _ (List.mem_append_left _ (List.mem_append_left _ (List.mem_of_getElem? (i := 10) rfl)))) (by decide +kernel)) gg_f_X3_fold_X3_replace
set_option maxHeartbeats 40000000 in
set_option maxRecDepth 100000 in
theorem c_f_X3_fold (l : Launch) (hl0 : l.stackTraces = false) (dC : Nat → ClassId) (dI : Nat → Nat → Nat) (cy : Nat → ClassId) (ek a : Nat → Nat) (k0 : Nat) (L0 : LV) (σ0 : CS) (r0 : RS) (h0 : f_X3_fold k0 0 L0 σ0 = some r0) (z : Nat → Nat) (sz : Nat) : vx_Met l yX3_fold w_f_X3_fold ({ frames := 5, cells := r0.2.2.1, slots := r0.2.2.2, locals := 156 }) (va_Pc [.ref (a 18)] (nInF (dC, dI) cy ek sz (vC cy a z σ0))) (xV dC dI cy a (va_A (vC cy a z σ0) sz) [20] z r0) (xX dC dI cy a (va_A (vC cy a z σ0) sz) [20] z r0) r0.2.2.1 r0.2.2.2 (va_A (vC cy a z σ0) sz) := by
  refine vx_ofW (cc := cX3_fold) (maxL := 2) (ret := none) (by decide) rfl ?_
  intro p e s m args below meth c s₁ B hml hno hv
  obtain ⟨rfl, ⟨⟨hsz, hP, hK, hD0, hG⟩, hE⟩, hT⟩ := hv
  have hx := B.exec
  have hb := B.bytes
  have hr := B.returns
  have hts := atoms_spec (ws := w_f_X3_fold) B.pre
  have hown : s.vm.findClass RX3 = some m.cls := findClass_of_methodNamed B.named
  have hlocks := B.notSynchronized
  subst hsz
  have hD := hD0.self (sz := s.heap.size)
  generalize hAe : va_A (vC cy a z σ0) s.heap.size = A at hD hE hT ⊢
  have hA : ∀ q : Nat, s.heap.size ≤ q → A q := fun q h => by rw [← hAe]; exact Or.inr h
  have hS : va_S A s.heap s.heap [] := va_S.rf
  have hl := lv_entry ([.ref (a 18)]) (n := 2) (Nat.le_of_ble_eq_true rfl)
  rw [lg_entry_eq]
  generalize (lg_sl ([.ref (a 18)]) ++ List.replicate (2 - (lg_sl ([.ref (a 18)])).length) Slot.unset).toArray = ls at hl ⊢
  have hl : lv_has ls 2 [(0, .ref (a 18))] := hl
  generalize hmc : r0.2.2.1 = mc
  generalize hms : r0.2.2.2 = ms
  have blk : ∀ k : Nat, (bX p l e (headSpec w_f_X3_fold ({ frames := 5, cells := mc, slots := ms, locals := 156 })).room s m #[.ref (a 18)] below meth c dC dI cy a A (fun r => vx_MQ below (xV dC dI cy a A [20] z r) (xX dC dI cy a A [20] z r) #[.ref (a 18)] s mc ms A) [20] z mc ms 2 (f_X3_fold k 0) (fun z L => [(0, .ref (a 18))]) 0 (fun z L => [])) ∧ (bX p l e (headSpec w_f_X3_fold ({ frames := 5, cells := mc, slots := ms, locals := 156 })).room s m #[.ref (a 18)] below meth c dC dI cy a A (fun r => vx_MQ below (xV dC dI cy a A [20] z r) (xX dC dI cy a A [20] z r) #[.ref (a 18)] s mc ms A) [20] z mc ms 2 (f_X3_fold k 1) (fun z L => [(0, .ref (a 18)), (1, .int (L.1 1))]) 35 (fun z L => [])) ∧ (bX p l e (headSpec w_f_X3_fold ({ frames := 5, cells := mc, slots := ms, locals := 156 })).room s m #[.ref (a 18)] below meth c dC dI cy a A (fun r => vx_MQ below (xV dC dI cy a A [20] z r) (xX dC dI cy a A [20] z r) #[.ref (a 18)] s mc ms A) [20] z mc ms 2 (f_X3_fold k 2) (fun z L => []) 89 (fun z L => [])) ∧ (bX p l e (headSpec w_f_X3_fold ({ frames := 5, cells := mc, slots := ms, locals := 156 })).room s m #[.ref (a 18)] below meth c dC dI cy a A (fun r => vx_MQ below (xV dC dI cy a A [20] z r) (xX dC dI cy a A [20] z r) #[.ref (a 18)] s mc ms A) [20] z mc ms 2 (f_X3_fold k 3) (fun z L => [(0, .ref (a 18)), (1, .int (L.1 1))]) 68 (fun z L => [])) := by
    intro k
    induction k with
    | zero => exact ⟨fun z c1 c2 L σ r h => (by cases h), fun z c1 c2 L σ r h => (by cases h), fun z c1 c2 L σ r h => (by cases h), fun z c1 c2 L σ r h => (by cases h)⟩
    | succ k ih =>
      refine ⟨?_, ?_, ?_, ?_⟩
      · intro z cells slots L σ r h hzk hc hs H locs ls hP hD hS hl
        rw [f_X3_fold] at h
        refine lv_aload_n hx hb dX3_fold_0 rfl (lv_at hl 0 rfl) ?_
        refine hg_18_7 hx hb hts in_f_X3_fold_X3 hown hK hP (hts _ (List.mem_cons_of_mem _ (List.mem_append_left _ (List.mem_append_left _ (List.mem_of_getElem? (i := 0) rfl))))) dX3_fold_1 ?_
        refine lv_aload_n hx hb dX3_fold_4 rfl (lv_at hl 0 rfl) ?_
        refine hg_18_5 hx hb hts in_f_X3_fold_X3 hown hK hP (hts _ (List.mem_cons_of_mem _ (List.mem_append_left _ (List.mem_append_left _ (List.mem_of_getElem? (i := 1) rfl))))) dX3_fold_5 ?_
        refine hg_19_2n hx hb hts in_f_X3_fold_X8 hown hK hP (va_Nw.use rfl (hG.1 _ (List.mem_of_getElem? (i := 10) rfl))) dX3_fold_8 ?_
        refine lv_iconst (v := 1) hx hb dX3_fold_11 (by decide) ?_
        refine lv_isub hx hb dX3_fold_12 ?_
        obtain ⟨q1, h⟩ := kr_ite1 h
        refine hl_20 hx hb hK hP q1 dX3_fold_13 ?_
        refine lv_istore_n (lv' := [(1, .int (σ.2.2.1 20 ((((σ.1 1902)) - 1)).toNatClampNeg)), (0, .ref (a 18))]) hx hb dX3_fold_14 rfl hl (by decide) rfl (fun ls hl => ?_)
        refine lv_aload_n hx hb dX3_fold_15 rfl (lv_at hl 1 rfl) ?_
        refine hg_18_0 hx hb hts in_f_X3_fold_X3 hown hK hP (hts _ (List.mem_cons_of_mem _ (List.mem_append_left _ (List.mem_append_left _ (List.mem_of_getElem? (i := 2) rfl))))) dX3_fold_16 ?_
        refine lv_iload_n hx hb dX3_fold_19 rfl (lv_at hl 0 rfl) ?_
        obtain ⟨r2, hc2, h⟩ := op_ex h
        refine kc_i (va_runV (As := [.int (σ.2.2.1 20 ((((σ.1 1902)) - 1)).toNatClampNeg)]) (rest := []) ⟨hx, hb, hml, hown, hts⟩ (c_y_X1_kind l dC dI cy a z k (lI lZ 1 ((σ.2.2.1 20 ((((σ.1 1902)) - 1)).toNatClampNeg))) σ r2 hc2 H.size) (cwV 1 hts g_y_X3_fold_X1_kind_V396 rfl rfl rfl hd_y_X1_kind ⟨Nat.le_of_ble_eq_true rfl, Nat.le_of_ble_eq_true rfl⟩) ⟨nb_blind, va_recv hK hP (ci := 1) (q0 := 0) rfl rfl, (kb_pre hK hG hP hD)⟩ rfl rfl hl.1 rfl (lv_room (Nat.le_of_ble_eq_true rfl)) dX3_fold_20 ⟨(Nat.le_trans (Nat.le_add_right _ _) (Nat.le_of_eq hc)), (Nat.le_trans (Nat.le_add_right _ _) (Nat.le_of_eq hs))⟩) hA hP hD hS (fun H locs hP hD hS => ?_)
        refine lv_iconst (v := 5) hx hb dX3_fold_23 (by decide) ?_
        refine lv_icmp_ge (tgt := 35) hx hb dX3_fold_24 (by decide) (fun c3 => ?_) (fun c3 => ?_)
        · rw [if_pos c3] at h
          exact ih.2.1 z _ _ (lI L 1 ((σ.2.2.1 20 ((((σ.1 1902)) - 1)).toNatClampNeg))) r2.2 _ h hzk hc hs H locs ls hP hD hS (lv_sub hl [1, 0] rfl)
        · rw [if_neg c3] at h
          refine lv_aload_n hx hb dX3_fold_27 rfl (lv_at hl 1 rfl) ?_
          refine lv_iconst (v := 1) hx hb dX3_fold_28 (by decide) ?_
          obtain ⟨r4, hc4, h⟩ := op_ex h
          refine kc_v (va_runV (As := [.int 1]) (rest := []) ⟨hx, hb, hml, hown, hts⟩ (c_y_X3_fail l dC dI cy a z k (lI lZ 1 1) r2.2 r4 hc4 H.size) (cwV 1 hts g_y_X3_fold_X3_fail_V313 rfl rfl rfl hd_y_X3_fail ⟨Nat.le_of_ble_eq_true rfl, Nat.le_of_ble_eq_true rfl⟩) ⟨nb_blind, va_recv hK hP (ci := 3) (q0 := 18) rfl rfl, (kb_pre hK hG hP hD)⟩ rfl rfl hl.1 rfl (lv_room (Nat.le_of_ble_eq_true rfl)) dX3_fold_29 ⟨(Nat.le_trans (Nat.le_add_right _ _) (Nat.le_of_eq hc)), (Nat.le_trans (Nat.le_add_right _ _) (Nat.le_of_eq hs))⟩) hA hP hD hS (fun H locs hP hD hS => ?_)
          refine lv_goto (tgt := 89) hx hb dX3_fold_32 (by decide) ?_
          exact ih.2.2.1 z _ _ L r4.2 _ h hzk hc hs H locs ls hP hD hS (lv_sub hl [] rfl)
      · intro z cells slots L σ r h hzk hc hs H locs ls hP hD hS hl
        rw [f_X3_fold] at h
        refine lv_aload_n hx hb dX3_fold_35 rfl (lv_at hl 0 rfl) ?_
        refine hg_18_0 hx hb hts in_f_X3_fold_X3 hown hK hP (hts _ (List.mem_cons_of_mem _ (List.mem_append_left _ (List.mem_append_left _ (List.mem_of_getElem? (i := 2) rfl))))) dX3_fold_36 ?_
        refine lv_iload_n hx hb dX3_fold_39 rfl (lv_at hl 1 rfl) ?_
        obtain ⟨r1, hc1, h⟩ := op_ex h
        refine kc_i (va_runV (As := [.int (L.1 1)]) (rest := []) ⟨hx, hb, hml, hown, hts⟩ (c_y_X1_length l dC dI cy a z k (lI lZ 1 ((L.1 1))) σ r1 hc1 H.size) (cwV 1 hts g_y_X3_fold_X1_length_V399 rfl rfl rfl hd_y_X1_length ⟨Nat.le_of_ble_eq_true rfl, Nat.le_of_ble_eq_true rfl⟩) ⟨nb_blind, va_recv hK hP (ci := 1) (q0 := 0) rfl rfl, (kb_pre hK hG hP hD)⟩ rfl rfl hl.1 rfl (lv_room (Nat.le_of_ble_eq_true rfl)) dX3_fold_40 ⟨(Nat.le_trans (Nat.le_add_right _ _) (Nat.le_of_eq hc)), (Nat.le_trans (Nat.le_add_right _ _) (Nat.le_of_eq hs))⟩) hA hP hD hS (fun H locs hP hD hS => ?_)
        refine lv_if_ne (tgt := 68) hx hb dX3_fold_43 (by decide) (fun c2 => ?_) (fun c2 => ?_)
        · rw [if_neg c2] at h
          exact ih.2.2.2 z _ _ L r1.2 _ h hzk hc hs H locs ls hP hD hS (lv_sub hl [0, 1] rfl)
        · rw [if_pos c2] at h
          refine lv_aload_n hx hb dX3_fold_46 rfl (lv_at hl 0 rfl) ?_
          refine lv_ldc (v := (-2147483648)) hx hb hown (hts _ (List.mem_cons_of_mem _ (List.mem_append_left _ (List.mem_append_left _ (List.mem_of_getElem? (i := 14) rfl))))) dX3_fold_47 ?_
          obtain ⟨r3, hc3, h⟩ := op_ex h
          refine kc_v (va_runV (As := [.int (-2147483648)]) (rest := []) ⟨hx, hb, hml, hown, hts⟩ (c_y_X3_replace l dC dI cy a z k (lI lZ 1 ((-2147483648))) r1.2 r3 hc3 H.size) (cwV 1 hts g_y_X3_fold_X3_replace_V280 rfl rfl rfl hd_y_X3_replace ⟨Nat.le_of_ble_eq_true rfl, Nat.le_of_ble_eq_true rfl⟩) ⟨nb_blind, va_recv hK hP (ci := 3) (q0 := 18) rfl rfl, (kb_pre hK hG hP hD)⟩ rfl rfl hl.1 rfl (lv_room (Nat.le_of_ble_eq_true rfl)) dX3_fold_49 ⟨(Nat.le_trans (Nat.le_add_right _ _) (Nat.le_of_eq hc)), (Nat.le_trans (Nat.le_add_right _ _) (Nat.le_of_eq hs))⟩) hA hP hD hS (fun H locs hP hD hS => ?_)
          refine lv_aload_n hx hb dX3_fold_52 rfl (lv_at hl 0 rfl) ?_
          refine hg_18_5 hx hb hts in_f_X3_fold_X3 hown hK hP (hts _ (List.mem_cons_of_mem _ (List.mem_append_left _ (List.mem_append_left _ (List.mem_of_getElem? (i := 1) rfl))))) dX3_fold_53 ?_
          refine lv_dup hx hb dX3_fold_56 rfl ?_
          refine hg_19_0n hx hb hts in_f_X3_fold_X8 hown hK hP (va_Nw.use rfl (hG.1 _ (List.mem_of_getElem? (i := 8) rfl))) dX3_fold_57 ?_
          refine lv_iconst (v := 1) hx hb dX3_fold_60 (by decide) ?_
          refine lv_iadd hx hb dX3_fold_61 ?_
          refine hp_19_0n hx hb hts in_f_X3_fold_X8 hown hK hP hD hS (va_Nw.use rfl (hG.1 _ (List.mem_of_getElem? (i := 8) rfl))) dX3_fold_62 (fun H locs hP hD hS => ?_)
          refine lv_goto (tgt := 89) hx hb dX3_fold_65 (by decide) ?_
          exact ih.2.2.1 z _ _ L (uI r3.2 1900 ((((r3.2.1 1900)) + 1))) _ h hzk hc hs H locs ls hP hD hS (lv_sub hl [] rfl)
      · intro z cells slots L σ r h hzk hc hs H locs ls hP hD hS hl
        rw [f_X3_fold] at h
        obtain rfl := Option.some.inj h
        subst hc
        subst hs
        exact xr_v hx hb hr hK hzk hP hD hS hlocks dX3_fold_89
      · intro z cells slots L σ r h hzk hc hs H locs ls hP hD hS hl
        rw [f_X3_fold] at h
        refine lv_aload_n hx hb dX3_fold_68 rfl (lv_at hl 0 rfl) ?_
        refine lv_aload_n hx hb dX3_fold_69 rfl (lv_at hl 0 rfl) ?_
        refine hg_18_0 hx hb hts in_f_X3_fold_X3 hown hK hP (hts _ (List.mem_cons_of_mem _ (List.mem_append_left _ (List.mem_append_left _ (List.mem_of_getElem? (i := 2) rfl))))) dX3_fold_70 ?_
        refine lv_iload_n hx hb dX3_fold_73 rfl (lv_at hl 1 rfl) ?_
        refine lv_iconst (v := 0) hx hb dX3_fold_74 (by decide) ?_
        obtain ⟨r1, hc1, h⟩ := op_ex h
        refine kc_i (va_runV (As := [.int (L.1 1), .int 0]) (rest := [.ref (a 18)]) ⟨hx, hb, hml, hown, hts⟩ (c_y_X1_member l dC dI cy a z k (lI (lI lZ 1 ((L.1 1))) 2 0) σ r1 hc1 H.size) (cwV 2 hts g_y_X3_fold_X1_member_V452 rfl rfl rfl hd_y_X1_member ⟨Nat.le_of_ble_eq_true rfl, Nat.le_of_ble_eq_true rfl⟩) ⟨nb_blind, va_recv hK hP (ci := 1) (q0 := 0) rfl rfl, (kb_pre hK hG hP hD)⟩ rfl rfl hl.1 rfl (lv_room (Nat.le_of_ble_eq_true rfl)) dX3_fold_75 ⟨(Nat.le_trans (Nat.le_add_right _ _) (Nat.le_of_eq hc)), (Nat.le_trans (Nat.le_add_right _ _) (Nat.le_of_eq hs))⟩) hA hP hD hS (fun H locs hP hD hS => ?_)
        obtain ⟨r2, hc2, hle2, h9⟩ := ox_ex h
        clear h
        refine kx_v (vx_runV (As := [.int r1.1]) (rest := []) ⟨hx, hb, hml, hown, hts⟩ (c_f_X3_push l hl0 dC dI cy ek a k (lI lZ 1 r1.1) r1.2 r2 hc2 z H.size) (cwV 1 hts g_f_X3_fold_X3_push_V322 rfl rfl rfl hd_f_X3_push ⟨Nat.le_of_ble_eq_true rfl, Nat.le_of_ble_eq_true rfl⟩) ⟨nb_blindF, va_recv hK hP (ci := 3) (q0 := 18) rfl rfl, (kx_pre hK hG hE hT hA hP hD hS)⟩ rfl rfl hl.1 rfl (lv_room (Nat.le_of_ble_eq_true rfl)) dX3_fold_78 ⟨Nat.le_trans (Nat.add_le_add_left hle2.1 _) (Nat.le_of_eq hc), Nat.le_trans (Nat.add_le_add_left hle2.2 _) (Nat.le_of_eq hs)⟩) hK hA hzk hP hD hS (by decide) hno hlocks ?_
        rcases h9 with ⟨h00, y2, hny2, hy⟩ | ⟨h00, hy⟩
        · subst hy
          have h := hny2
          refine Or.inl ⟨h00, fun z H locs hz2 hzk hP hD hS => ?_⟩
          replace hc := (Nat.add_assoc _ _ _).trans hc
          replace hs := (Nat.add_assoc _ _ _).trans hs
          refine lv_aload_n hx hb dX3_fold_81 rfl (lv_at hl 0 rfl) ?_
          refine lv_iconst (v := 1) hx hb dX3_fold_82 (by decide) ?_
          obtain ⟨r3, hc3, h⟩ := op_ex h
          refine kc_i (va_runSN (As := [.int 1]) (rest := [.ref (a 18)]) ⟨hx, hb, hml, hown, hts⟩ (c_y_X11_raw l dC dI cy a z k (lI lZ 0 1) r2.2.1 r3 hc3 H.size) ⟨va_cnB 1 hts g_y_X3_fold_X11_raw_SN182 rfl rfl rfl (hG.1 _ (List.mem_of_getElem? (i := 103) rfl)) (hts _ (List.mem_cons_of_mem _ (List.mem_append_left _ (List.mem_append_left _ (List.mem_of_getElem? (i := 24) rfl))))) hd_y_X11_raw ⟨Nat.le_of_ble_eq_true rfl, Nat.le_of_ble_eq_true rfl⟩, (hts _ (List.mem_cons_of_mem _ (List.mem_append_left _ (List.mem_append_left _ (List.mem_of_getElem? (i := 25) rfl))))), trivial⟩ ⟨nb_blind, (kb_pre hK hG hP hD)⟩ rfl rfl hl.1 rfl (lv_room (Nat.le_of_ble_eq_true rfl)) dX3_fold_83 ⟨(Nat.le_trans (Nat.le_add_right _ _) (Nat.le_of_eq hc)), (Nat.le_trans (Nat.le_add_right _ _) (Nat.le_of_eq hs))⟩) hA hP hD hS (fun H locs hP hD hS => ?_)
          obtain ⟨r4, hc4, hle4, h9⟩ := ox_ex h
          clear h
          refine kx_v (r := y2) (vx_runV (As := [.int r3.1]) (rest := []) ⟨hx, hb, hml, hown, hts⟩ (c_f_X3_push l hl0 dC dI cy ek a k (lI lZ 1 r3.1) r3.2 r4 hc4 z H.size) (cwV 1 hts g_f_X3_fold_X3_push_V322 rfl rfl rfl hd_f_X3_push ⟨Nat.le_of_ble_eq_true rfl, Nat.le_of_ble_eq_true rfl⟩) ⟨nb_blindF, va_recv hK hP (ci := 3) (q0 := 18) rfl rfl, (kx_pre hK hG hE hT hA hP hD hS)⟩ rfl rfl hl.1 rfl (lv_room (Nat.le_of_ble_eq_true rfl)) dX3_fold_86 ⟨Nat.le_trans (Nat.add_le_add_left hle4.1 _) (Nat.le_of_eq hc), Nat.le_trans (Nat.add_le_add_left hle4.2 _) (Nat.le_of_eq hs)⟩) hK hA hzk hP hD hS (by decide) hno hlocks ?_
          rcases h9 with ⟨h00, y4, hny4, hy⟩ | ⟨h00, hy⟩
          · subst hy
            have h := hny4
            refine Or.inl ⟨h00, fun z H locs hz4 hzk hP hD hS => ?_⟩
            replace hc := (Nat.add_assoc _ _ _).trans hc
            replace hs := (Nat.add_assoc _ _ _).trans hs
            exact ih.2.2.1 z _ _ L r4.2.1 _ h hzk hc hs H locs ls hP hD hS (lv_sub hl [] rfl)
          · subst hy
            exact Or.inr ⟨h00, rfl, hc, hs⟩
        · subst hy
          exact Or.inr ⟨h00, rfl, hc, hs⟩
  exact (blk k0).1 z 0 0 L0 σ0 r0 h0 (zk_rf _ _) ((Nat.zero_add _).trans hmc) ((Nat.zero_add _).trans hms) s.heap [] ls hP hD hS hl
/-! X3_foldOn -/
def f_X3_foldOn : Nat → Nat → LV → CS → Option RS
  | 0, _, _, _ => none
  | k + 1, 0, L, σ => if ((L.1 1)) = 112 then (ox (f_X3_fold k 0 lZ σ) (fun r2 => some ((0, 0), r2.2.1, (0, 0)))) else (f_X3_foldOn k 1 L σ)
  | k + 1, 1, L, σ => if ¬ (((((σ.1 1902)) - 1)) < 0 ∨ (sN σ 20) ≤ ((((σ.1 1902)) - 1)).toNatClampNeg) then (op (y_X11_unraw k 0 (lI lZ 0 ((σ.2.2.1 20 ((((σ.1 1902)) - 1)).toNatClampNeg))) σ) (fun r2 => if ¬ (((((r2.2.1 1902)) - 2)) < 0 ∨ (sN r2.2 20) ≤ ((((r2.2.1 1902)) - 2)).toNatClampNeg) then (if ¬ (((((r2.2.1 1902)) - 3)) < 0 ∨ (sN r2.2 20) ≤ ((((r2.2.1 1902)) - 3)).toNatClampNeg) then (op (y_X1_length k 0 (lI lZ 1 ((r2.2.2.2.1 20 ((((r2.2.1 1902)) - 3)).toNatClampNeg))) r2.2) (fun r5 => if r2.1 < r5.1 then (f_X3_foldOn k 2 (lI (lI (lI L 4 r2.1) 5 ((r2.2.2.2.1 20 ((((r2.2.1 1902)) - 2)).toNatClampNeg))) 6 ((r2.2.2.2.1 20 ((((r2.2.1 1902)) - 3)).toNatClampNeg))) r5.2) else (op (y_X3_replace k 0 (lI lZ 1 ((r2.2.2.2.1 20 ((((r2.2.1 1902)) - 2)).toNatClampNeg))) (uI r5.2 1902 ((((r5.2.1 1902)) - 2)))) (fun r7 => some ((0, 0), r7.2, (0, 0)))))) else none) else none)) else none
  | k + 1, 2, L, σ => op (y_X1_member k 0 (lI (lI lZ 1 ((L.1 6))) 2 ((L.1 4))) σ) (fun r1 => if ((L.1 2)) = 0 then (op (y_X0_sum k 0 (lI (lI lZ 1 ((L.1 5))) 2 r1.1) r1.2) (fun r3 => f_X3_foldOn k 4 (lI L 100 r3.1) r3.2)) else (f_X3_foldOn k 3 (lI L 7 r1.1) r1.2))
  | k + 1, 3, L, σ => if ((L.1 2)) = 1 then (op (y_X0_product k 0 (lI (lI lZ 1 ((L.1 5))) 2 ((L.1 7))) σ) (fun r2 => f_X3_foldOn k 4 (lI L 100 r2.1) r2.2)) else (f_X3_foldOn k 5 L σ)
  | k + 1, 4, L, σ => op (y_X11_isError k 0 (lI lZ 0 ((L.1 100))) σ) (fun r1 => if r1.1 = 0 then (f_X3_foldOn k 6 (lI L 8 ((L.1 100))) r1.2) else (op (y_X3_fail k 0 (lI lZ 1 ((((L.1 100)) &&& 15))) r1.2) (fun r3 => some ((0, 0), r3.2, (0, 0)))))
  | k + 1, 5, L, σ => if ((L.1 2)) = 3 then (f_X3_foldOn k 8 (lI (lI (lI L 100 1) 101 ((L.1 7))) 102 ((L.1 5))) σ) else (f_X3_foldOn k 7 (lI (lI L 100 ((L.1 7))) 101 ((L.1 5))) σ)
  | k + 1, 6, L, σ => if ¬ (((((σ.1 1902)) - 2)) < 0 ∨ (sN σ 20) ≤ ((((σ.1 1902)) - 2)).toNatClampNeg) then (op (y_X11_raw k 0 (lI lZ 0 ((((L.1 4)) + 1))) (uA σ 20 ((((σ.1 1902)) - 2)).toNatClampNeg ((L.1 8)))) (fun r2 => if ¬ ((((((uA σ 20 ((((σ.1 1902)) - 2)).toNatClampNeg ((L.1 8))).1 1902)) - 1)) < 0 ∨ (sN r2.2 20) ≤ (((((uA σ 20 ((((σ.1 1902)) - 2)).toNatClampNeg ((L.1 8))).1 1902)) - 1)).toNatClampNeg) then (f_X3_foldOn k 9 L (uA r2.2 20 (((((uA σ 20 ((((σ.1 1902)) - 2)).toNatClampNeg ((L.1 8))).1 1902)) - 1)).toNatClampNeg r2.1)) else none)) else none
  | k + 1, 7, L, σ => f_X3_foldOn k 8 (lI (lI (lI L 100 0) 101 ((L.1 100))) 102 ((L.1 101))) σ
  | k + 1, 8, L, σ => op (y_X0_larger k 0 (lI (lI (lI lZ 1 ((L.1 102))) 2 ((L.1 101))) 3 ((L.1 100))) σ) (fun r1 => f_X3_foldOn k 4 (lI L 100 r1.1) r1.2)
  | k + 1, 9, L, σ => if 1 < ((L.1 2)) then (f_X3_foldOn k 10 L (uI σ 1900 ((L.1 3)))) else (op (y_X1_size k 0 (lI lZ 1 ((L.1 8))) (uI σ 1900 ((L.1 3)))) (fun r2 => op (y_X3_spend k 0 (lI lZ 1 r2.1) r2.2) (fun r3 => f_X3_foldOn k 10 L r3.2)))
  | k + 1, 10, L, σ => some ((0, 0), σ, (0, 0))
  | _ + 1, _ + 11, _, _ => none
def o_f_X3_foldOn : List Cond := [.methodLink RX3 455 yX3_fold, .instanceMethod yX3_fold, .selects RX3 yX3_fold yX3_fold, .initialized RX3, .fieldLink RX3 18 "SetHouse$Machine" "stack" "[I", .fieldLink RX3 14 "SetHouse$Machine" "run" "LSetHouse$Run;", .initialized RX11, .static yX11_unraw, .fieldLink RX3 39 "SetHouse$Machine" "heap" "LSetHouse$Heap;", .methodLink RX3 399 yX1_length, .instanceMethod yX1_length, .selects RX1 yX1_length yX1_length, .initialized RX1, .methodLink RX3 280 yX3_replace, .instanceMethod yX3_replace, .selects RX3 yX3_replace yX3_replace, .methodLink RX3 452 yX1_member, .instanceMethod yX1_member, .selects RX1 yX1_member yX1_member, .fieldLink RX3 47 "SetHouse$Machine" "algebra" "LSetHouse$Algebra;", .methodLink RX3 458 yX0_sum, .instanceMethod yX0_sum, .selects RX0 yX0_sum yX0_sum, .initialized RX0, .methodLink RX3 461 yX0_product, .instanceMethod yX0_product, .selects RX0 yX0_product yX0_product, .static yX11_isError, .methodLink RX3 313 yX3_fail, .instanceMethod yX3_fail, .selects RX3 yX3_fail yX3_fail, .static yX11_raw, .methodLink RX3 464 yX0_larger, .instanceMethod yX0_larger, .selects RX0 yX0_larger yX0_larger, .methodLink RX3 316 yX1_size, .instanceMethod yX1_size, .selects RX1 yX1_size yX1_size, .methodLink RX3 319 yX3_spend, .instanceMethod yX3_spend, .selects RX3 yX3_spend yX3_spend]
theorem o_f_X3_foldOn_good : o_f_X3_foldOn.all goodWord = true := by decide +kernel
def p_f_X3_foldOn : List Cond := o_f_X3_foldOn ++ ((.code yX3_fold cX3_fold 2 none :: p_f_X3_fold) ++ ((.code yX11_unraw cX11_unraw 1 (some .int) :: p_y_X11_unraw) ++ ((.code yX1_length cX1_length 2 (some .int) :: p_y_X1_length) ++ ((.code yX3_replace cX3_replace 2 none :: p_y_X3_replace) ++ ((.code yX1_member cX1_member 3 (some .int) :: p_y_X1_member) ++ ((.code yX0_sum cX0_sum 5 (some .int) :: p_y_X0_sum) ++ ((.code yX0_product cX0_product 4 (some .int) :: p_y_X0_product) ++ ((.code yX11_isError cX11_isError 1 (some .boolean) :: p_y_X11_isError) ++ ((.code yX3_fail cX3_fail 2 none :: p_y_X3_fail) ++ ((.code yX11_raw cX11_raw 1 (some .int) :: p_y_X11_raw) ++ ((.code yX0_larger cX0_larger 5 (some .int) :: p_y_X0_larger) ++ ((.code yX1_size cX1_size 3 (some .int) :: p_y_X1_size) ++ ((.code yX3_spend cX3_spend 2 none :: p_y_X3_spend) ++ [])))))))))))))
theorem p_f_X3_foldOn_good : p_f_X3_foldOn.all goodWord = true := nb_all2 o_f_X3_foldOn_good (nb_all2 (nb_allc (by decide +kernel) p_f_X3_fold_good) (nb_all2 (nb_allc (by decide +kernel) p_y_X11_unraw_good) (nb_all2 (nb_allc (by decide +kernel) p_y_X1_length_good) (nb_all2 (nb_allc (by decide +kernel) p_y_X3_replace_good) (nb_all2 (nb_allc (by decide +kernel) p_y_X1_member_good) (nb_all2 (nb_allc (by decide +kernel) p_y_X0_sum_good) (nb_all2 (nb_allc (by decide +kernel) p_y_X0_product_good) (nb_all2 (nb_allc (by decide +kernel) p_y_X11_isError_good) (nb_all2 (nb_allc (by decide +kernel) p_y_X3_fail_good) (nb_all2 (nb_allc (by decide +kernel) p_y_X11_raw_good) (nb_all2 (nb_allc (by decide +kernel) p_y_X0_larger_good) (nb_all2 (nb_allc (by decide +kernel) p_y_X1_size_good) (nb_all2 (nb_allc (by decide +kernel) p_y_X3_spend_good) rfl)))))))))))))
def w_f_X3_foldOn : List Cond := .code yX3_foldOn cX3_foldOn 9 none :: (p_f_X3_foldOn ++ fC)
theorem w_f_X3_foldOn_good : w_f_X3_foldOn.all goodWord = true := nb_allc (by decide +kernel) (nb_all2 p_f_X3_foldOn_good fC_good)
theorem in_f_X3_foldOn_X3 : ∀ w ∈ wsX30, w ∈ w_f_X3_foldOn := fun _ h => List.mem_cons_of_mem _ (List.mem_append_right _ (List.mem_append_right _ (List.mem_append_right _ (List.mem_append_right _ (List.mem_append_left _ h)))))
theorem in_f_X3_foldOn_X8 : ∀ w ∈ wsX80, w ∈ w_f_X3_foldOn := fun _ h => List.mem_cons_of_mem _ (List.mem_append_right _ (List.mem_append_right _ (List.mem_append_right _ (List.mem_append_right _ (List.mem_append_right _ (List.mem_append_right _ (List.mem_append_right _ (List.mem_append_right _ (List.mem_append_left _ h)))))))))
theorem hd_f_X3_foldOn : yX3_foldOn.cls = RX3 ∧ yX3_foldOn.cls ≠ "java/lang/invoke/MethodHandle" ∧ yX3_foldOn.cls ≠ "java/lang/invoke/VarHandle" ∧ (parseMethodDescriptor yX3_foldOn.desc).map (fun d => d.parameters.length) = some 3 := by decide +kernel
theorem gg_f_X3_foldOn_X3_fold : GoodIn w_f_X3_foldOn w_f_X3_fold := goodIn_sub (fun w h => (List.mem_cons.mp h).elim (fun e => (List.mem_cons_of_mem _ (List.mem_append_left _ (List.mem_append_right _ (List.mem_append_left _ (List.mem_cons.mpr (Or.inl e))))))) (fun h => (List.mem_append.mp h).elim (fun h => (List.mem_cons_of_mem _ (List.mem_append_left _ (List.mem_append_right _ (List.mem_append_left _ (List.mem_cons_of_mem _ h)))))) (fun h => List.mem_cons_of_mem _ (List.mem_append_right _ h)))) w_f_X3_fold_good
theorem g_f_X3_foldOn_X3_fold_V455 : GoodIn w_f_X3_foldOn (wsV RX3 455 RX3 yX3_fold w_f_X3_fold) := goodIn_app (nb_g4 (List.mem_cons_of_mem _ (List.mem_append_left _ (List.mem_append_left _ (List.mem_of_getElem? (i := 0) rfl)))) (List.mem_cons_of_mem _ (List.mem_append_left _ (List.mem_append_left _ (List.mem_of_getElem? (i := 1) rfl)))) (List.mem_cons_of_mem _ (List.mem_append_left _ (List.mem_append_left _ (List.mem_of_getElem? (i := 2) rfl)))) (List.mem_cons_of_mem _ (List.mem_append_left _ (List.mem_append_left _ (List.mem_of_getElem? (i := 3) rfl)))) (by decide +kernel)) gg_f_X3_foldOn_X3_fold
theorem gg_f_X3_foldOn_X0_larger : GoodIn w_f_X3_foldOn w_y_X0_larger := goodIn_sub (fun w h => (List.mem_cons.mp h).elim (fun e => (List.mem_cons_of_mem _ (List.mem_append_left _ (List.mem_append_right _ (List.mem_append_right _ (List.mem_append_right _ (List.mem_append_right _ (List.mem_append_right _ (List.mem_append_right _ (List.mem_append_right _ (List.mem_append_right _ (List.mem_append_right _ (List.mem_append_right _ (List.mem_append_right _ (List.mem_append_left _ (List.mem_cons.mpr (Or.inl e))))))))))))))))) (fun h => (List.mem_append.mp h).elim (fun h => (List.mem_cons_of_mem _ (List.mem_append_left _ (List.mem_append_right _ (List.mem_append_right _ (List.mem_append_right _ (List.mem_append_right _ (List.mem_append_right _ (List.mem_append_right _ (List.mem_append_right _ (List.mem_append_right _ (List.mem_append_right _ (List.mem_append_right _ (List.mem_append_right _ (List.mem_append_left _ (List.mem_cons_of_mem _ h)))))))))))))))) (fun h => List.mem_cons_of_mem _ (List.mem_append_right _ h)))) w_y_X0_larger_good
theorem g_y_X3_foldOn_X0_larger_V464 : GoodIn w_f_X3_foldOn (wsV RX3 464 RX0 yX0_larger w_y_X0_larger) := goodIn_app (nb_g4 (List.mem_cons_of_mem _ (List.mem_append_left _ (List.mem_append_left _ (List.mem_of_getElem? (i := 32) rfl)))) (List.mem_cons_of_mem _ (List.mem_append_left _ (List.mem_append_left _ (List.mem_of_getElem? (i := 33) rfl)))) (List.mem_cons_of_mem _ (List.mem_append_left _ (List.mem_append_left _ (List.mem_of_getElem? (i := 34) rfl)))) (List.mem_cons_of_mem _ (List.mem_append_left _ (List.mem_append_left _ (List.mem_of_getElem? (i := 23) rfl)))) (by decide +kernel)) gg_f_X3_foldOn_X0_larger
theorem gg_f_X3_foldOn_X0_product : GoodIn w_f_X3_foldOn w_y_X0_product := goodIn_sub (fun w h => (List.mem_cons.mp h).elim (fun e => (List.mem_cons_of_mem _ (List.mem_append_left _ (List.mem_append_right _ (List.mem_append_right _ (List.mem_append_right _ (List.mem_append_right _ (List.mem_append_right _ (List.mem_append_right _ (List.mem_append_right _ (List.mem_append_left _ (List.mem_cons.mpr (Or.inl e))))))))))))) (fun h => (List.mem_append.mp h).elim (fun h => (List.mem_cons_of_mem _ (List.mem_append_left _ (List.mem_append_right _ (List.mem_append_right _ (List.mem_append_right _ (List.mem_append_right _ (List.mem_append_right _ (List.mem_append_right _ (List.mem_append_right _ (List.mem_append_left _ (List.mem_cons_of_mem _ h)))))))))))) (fun h => List.mem_cons_of_mem _ (List.mem_append_right _ h)))) w_y_X0_product_good
theorem g_y_X3_foldOn_X0_product_V461 : GoodIn w_f_X3_foldOn (wsV RX3 461 RX0 yX0_product w_y_X0_product) := goodIn_app (nb_g4 (List.mem_cons_of_mem _ (List.mem_append_left _ (List.mem_append_left _ (List.mem_of_getElem? (i := 24) rfl)))) (List.mem_cons_of_mem _ (List.mem_append_left _ (List.mem_append_left _ (List.mem_of_getElem? (i := 25) rfl)))) (List.mem_cons_of_mem _ (List.mem_append_left _ (List.mem_append_left _ (List.mem_of_getElem? (i := 26) rfl)))) (List.mem_cons_of_mem _ (List.mem_append_left _ (List.mem_append_left _ (List.mem_of_getElem? (i := 23) rfl)))) (by decide +kernel)) gg_f_X3_foldOn_X0_product
theorem gg_f_X3_foldOn_X0_sum : GoodIn w_f_X3_foldOn w_y_X0_sum := goodIn_sub (fun w h => (List.mem_cons.mp h).elim (fun e => (List.mem_cons_of_mem _ (List.mem_append_left _ (List.mem_append_right _ (List.mem_append_right _ (List.mem_append_right _ (List.mem_append_right _ (List.mem_append_right _ (List.mem_append_right _ (List.mem_append_left _ (List.mem_cons.mpr (Or.inl e)))))))))))) (fun h => (List.mem_append.mp h).elim (fun h => (List.mem_cons_of_mem _ (List.mem_append_left _ (List.mem_append_right _ (List.mem_append_right _ (List.mem_append_right _ (List.mem_append_right _ (List.mem_append_right _ (List.mem_append_right _ (List.mem_append_left _ (List.mem_cons_of_mem _ h))))))))))) (fun h => List.mem_cons_of_mem _ (List.mem_append_right _ h)))) w_y_X0_sum_good
theorem g_y_X3_foldOn_X0_sum_V458 : GoodIn w_f_X3_foldOn (wsV RX3 458 RX0 yX0_sum w_y_X0_sum) := goodIn_app (nb_g4 (List.mem_cons_of_mem _ (List.mem_append_left _ (List.mem_append_left _ (List.mem_of_getElem? (i := 20) rfl)))) (List.mem_cons_of_mem _ (List.mem_append_left _ (List.mem_append_left _ (List.mem_of_getElem? (i := 21) rfl)))) (List.mem_cons_of_mem _ (List.mem_append_left _ (List.mem_append_left _ (List.mem_of_getElem? (i := 22) rfl)))) (List.mem_cons_of_mem _ (List.mem_append_left _ (List.mem_append_left _ (List.mem_of_getElem? (i := 23) rfl)))) (by decide +kernel)) gg_f_X3_foldOn_X0_sum
theorem gg_f_X3_foldOn_X11_isError : GoodIn w_f_X3_foldOn w_y_X11_isError := goodIn_sub (fun w h => (List.mem_cons.mp h).elim (fun e => (List.mem_cons_of_mem _ (List.mem_append_left _ (List.mem_append_right _ (List.mem_append_right _ (List.mem_append_right _ (List.mem_append_right _ (List.mem_append_right _ (List.mem_append_right _ (List.mem_append_right _ (List.mem_append_right _ (List.mem_append_left _ (List.mem_cons.mpr (Or.inl e)))))))))))))) (fun h => (List.mem_append.mp h).elim (fun h => (List.mem_cons_of_mem _ (List.mem_append_left _ (List.mem_append_right _ (List.mem_append_right _ (List.mem_append_right _ (List.mem_append_right _ (List.mem_append_right _ (List.mem_append_right _ (List.mem_append_right _ (List.mem_append_right _ (List.mem_append_left _ (List.mem_cons_of_mem _ h))))))))))))) (fun h => List.mem_cons_of_mem _ (List.mem_append_right _ h)))) w_y_X11_isError_good
theorem g_y_X3_foldOn_X11_isError_SN310 : GoodIn w_f_X3_foldOn w_y_X11_isError := gg_f_X3_foldOn_X11_isError
theorem gg_f_X3_foldOn_X11_raw : GoodIn w_f_X3_foldOn w_y_X11_raw := goodIn_sub (fun w h => (List.mem_cons.mp h).elim (fun e => (List.mem_cons_of_mem _ (List.mem_append_left _ (List.mem_append_right _ (List.mem_append_right _ (List.mem_append_right _ (List.mem_append_right _ (List.mem_append_right _ (List.mem_append_right _ (List.mem_append_right _ (List.mem_append_right _ (List.mem_append_right _ (List.mem_append_right _ (List.mem_append_left _ (List.mem_cons.mpr (Or.inl e)))))))))))))))) (fun h => (List.mem_append.mp h).elim (fun h => (List.mem_cons_of_mem _ (List.mem_append_left _ (List.mem_append_right _ (List.mem_append_right _ (List.mem_append_right _ (List.mem_append_right _ (List.mem_append_right _ (List.mem_append_right _ (List.mem_append_right _ (List.mem_append_right _ (List.mem_append_right _ (List.mem_append_right _ (List.mem_append_left _ (List.mem_cons_of_mem _ h))))))))))))))) (fun h => List.mem_cons_of_mem _ (List.mem_append_right _ h)))) w_y_X11_raw_good
theorem g_y_X3_foldOn_X11_raw_SN182 : GoodIn w_f_X3_foldOn w_y_X11_raw := gg_f_X3_foldOn_X11_raw
theorem gg_f_X3_foldOn_X11_unraw : GoodIn w_f_X3_foldOn w_y_X11_unraw := goodIn_sub (fun w h => (List.mem_cons.mp h).elim (fun e => (List.mem_cons_of_mem _ (List.mem_append_left _ (List.mem_append_right _ (List.mem_append_right _ (List.mem_append_left _ (List.mem_cons.mpr (Or.inl e)))))))) (fun h => (List.mem_append.mp h).elim (fun h => (List.mem_cons_of_mem _ (List.mem_append_left _ (List.mem_append_right _ (List.mem_append_right _ (List.mem_append_left _ (List.mem_cons_of_mem _ h))))))) (fun h => List.mem_cons_of_mem _ (List.mem_append_right _ h)))) w_y_X11_unraw_good
theorem g_y_X3_foldOn_X11_unraw_SN388 : GoodIn w_f_X3_foldOn w_y_X11_unraw := gg_f_X3_foldOn_X11_unraw
theorem gg_f_X3_foldOn_X1_length : GoodIn w_f_X3_foldOn w_y_X1_length := goodIn_sub (fun w h => (List.mem_cons.mp h).elim (fun e => (List.mem_cons_of_mem _ (List.mem_append_left _ (List.mem_append_right _ (List.mem_append_right _ (List.mem_append_right _ (List.mem_append_left _ (List.mem_cons.mpr (Or.inl e))))))))) (fun h => (List.mem_append.mp h).elim (fun h => (List.mem_cons_of_mem _ (List.mem_append_left _ (List.mem_append_right _ (List.mem_append_right _ (List.mem_append_right _ (List.mem_append_left _ (List.mem_cons_of_mem _ h)))))))) (fun h => List.mem_cons_of_mem _ (List.mem_append_right _ h)))) w_y_X1_length_good
theorem g_y_X3_foldOn_X1_length_V399 : GoodIn w_f_X3_foldOn (wsV RX3 399 RX1 yX1_length w_y_X1_length) := goodIn_app (nb_g4 (List.mem_cons_of_mem _ (List.mem_append_left _ (List.mem_append_left _ (List.mem_of_getElem? (i := 9) rfl)))) (List.mem_cons_of_mem _ (List.mem_append_left _ (List.mem_append_left _ (List.mem_of_getElem? (i := 10) rfl)))) (List.mem_cons_of_mem _ (List.mem_append_left _ (List.mem_append_left _ (List.mem_of_getElem? (i := 11) rfl)))) (List.mem_cons_of_mem _ (List.mem_append_left _ (List.mem_append_left _ (List.mem_of_getElem? (i := 12) rfl)))) (by decide +kernel)) gg_f_X3_foldOn_X1_length
theorem gg_f_X3_foldOn_X1_member : GoodIn w_f_X3_foldOn w_y_X1_member := goodIn_sub (fun w h => (List.mem_cons.mp h).elim (fun e => (List.mem_cons_of_mem _ (List.mem_append_left _ (List.mem_append_right _ (List.mem_append_right _ (List.mem_append_right _ (List.mem_append_right _ (List.mem_append_right _ (List.mem_append_left _ (List.mem_cons.mpr (Or.inl e))))))))))) (fun h => (List.mem_append.mp h).elim (fun h => (List.mem_cons_of_mem _ (List.mem_append_left _ (List.mem_append_right _ (List.mem_append_right _ (List.mem_append_right _ (List.mem_append_right _ (List.mem_append_right _ (List.mem_append_left _ (List.mem_cons_of_mem _ h)))))))))) (fun h => List.mem_cons_of_mem _ (List.mem_append_right _ h)))) w_y_X1_member_good
theorem g_y_X3_foldOn_X1_member_V452 : GoodIn w_f_X3_foldOn (wsV RX3 452 RX1 yX1_member w_y_X1_member) := goodIn_app (nb_g4 (List.mem_cons_of_mem _ (List.mem_append_left _ (List.mem_append_left _ (List.mem_of_getElem? (i := 16) rfl)))) (List.mem_cons_of_mem _ (List.mem_append_left _ (List.mem_append_left _ (List.mem_of_getElem? (i := 17) rfl)))) (List.mem_cons_of_mem _ (List.mem_append_left _ (List.mem_append_left _ (List.mem_of_getElem? (i := 18) rfl)))) (List.mem_cons_of_mem _ (List.mem_append_left _ (List.mem_append_left _ (List.mem_of_getElem? (i := 12) rfl)))) (by decide +kernel)) gg_f_X3_foldOn_X1_member
theorem gg_f_X3_foldOn_X1_size : GoodIn w_f_X3_foldOn w_y_X1_size := goodIn_sub (fun w h => (List.mem_cons.mp h).elim (fun e => (List.mem_cons_of_mem _ (List.mem_append_left _ (List.mem_append_right _ (List.mem_append_right _ (List.mem_append_right _ (List.mem_append_right _ (List.mem_append_right _ (List.mem_append_right _ (List.mem_append_right _ (List.mem_append_right _ (List.mem_append_right _ (List.mem_append_right _ (List.mem_append_right _ (List.mem_append_right _ (List.mem_append_left _ (List.mem_cons.mpr (Or.inl e)))))))))))))))))) (fun h => (List.mem_append.mp h).elim (fun h => (List.mem_cons_of_mem _ (List.mem_append_left _ (List.mem_append_right _ (List.mem_append_right _ (List.mem_append_right _ (List.mem_append_right _ (List.mem_append_right _ (List.mem_append_right _ (List.mem_append_right _ (List.mem_append_right _ (List.mem_append_right _ (List.mem_append_right _ (List.mem_append_right _ (List.mem_append_right _ (List.mem_append_left _ (List.mem_cons_of_mem _ h))))))))))))))))) (fun h => List.mem_cons_of_mem _ (List.mem_append_right _ h)))) w_y_X1_size_good
theorem g_y_X3_foldOn_X1_size_V316 : GoodIn w_f_X3_foldOn (wsV RX3 316 RX1 yX1_size w_y_X1_size) := goodIn_app (nb_g4 (List.mem_cons_of_mem _ (List.mem_append_left _ (List.mem_append_left _ (List.mem_of_getElem? (i := 35) rfl)))) (List.mem_cons_of_mem _ (List.mem_append_left _ (List.mem_append_left _ (List.mem_of_getElem? (i := 36) rfl)))) (List.mem_cons_of_mem _ (List.mem_append_left _ (List.mem_append_left _ (List.mem_of_getElem? (i := 37) rfl)))) (List.mem_cons_of_mem _ (List.mem_append_left _ (List.mem_append_left _ (List.mem_of_getElem? (i := 12) rfl)))) (by decide +kernel)) gg_f_X3_foldOn_X1_size
theorem gg_f_X3_foldOn_X3_fail : GoodIn w_f_X3_foldOn w_y_X3_fail := goodIn_sub (fun w h => (List.mem_cons.mp h).elim (fun e => (List.mem_cons_of_mem _ (List.mem_append_left _ (List.mem_append_right _ (List.mem_append_right _ (List.mem_append_right _ (List.mem_append_right _ (List.mem_append_right _ (List.mem_append_right _ (List.mem_append_right _ (List.mem_append_right _ (List.mem_append_right _ (List.mem_append_left _ (List.mem_cons.mpr (Or.inl e))))))))))))))) (fun h => (List.mem_append.mp h).elim (fun h => (List.mem_cons_of_mem _ (List.mem_append_left _ (List.mem_append_right _ (List.mem_append_right _ (List.mem_append_right _ (List.mem_append_right _ (List.mem_append_right _ (List.mem_append_right _ (List.mem_append_right _ (List.mem_append_right _ (List.mem_append_right _ (List.mem_append_left _ (List.mem_cons_of_mem _ h)))))))))))))) (fun h => List.mem_cons_of_mem _ (List.mem_append_right _ h)))) w_y_X3_fail_good
theorem g_y_X3_foldOn_X3_fail_V313 : GoodIn w_f_X3_foldOn (wsV RX3 313 RX3 yX3_fail w_y_X3_fail) := goodIn_app (nb_g4 (List.mem_cons_of_mem _ (List.mem_append_left _ (List.mem_append_left _ (List.mem_of_getElem? (i := 28) rfl)))) (List.mem_cons_of_mem _ (List.mem_append_left _ (List.mem_append_left _ (List.mem_of_getElem? (i := 29) rfl)))) (List.mem_cons_of_mem _ (List.mem_append_left _ (List.mem_append_left _ (List.mem_of_getElem? (i := 30) rfl)))) (List.mem_cons_of_mem _ (List.mem_append_left _ (List.mem_append_left _ (List.mem_of_getElem? (i := 3) rfl)))) (by decide +kernel)) gg_f_X3_foldOn_X3_fail
theorem gg_f_X3_foldOn_X3_replace : GoodIn w_f_X3_foldOn w_y_X3_replace := goodIn_sub (fun w h => (List.mem_cons.mp h).elim (fun e => (List.mem_cons_of_mem _ (List.mem_append_left _ (List.mem_append_right _ (List.mem_append_right _ (List.mem_append_right _ (List.mem_append_right _ (List.mem_append_left _ (List.mem_cons.mpr (Or.inl e)))))))))) (fun h => (List.mem_append.mp h).elim (fun h => (List.mem_cons_of_mem _ (List.mem_append_left _ (List.mem_append_right _ (List.mem_append_right _ (List.mem_append_right _ (List.mem_append_right _ (List.mem_append_left _ (List.mem_cons_of_mem _ h))))))))) (fun h => List.mem_cons_of_mem _ (List.mem_append_right _ h)))) w_y_X3_replace_good
theorem g_y_X3_foldOn_X3_replace_V280 : GoodIn w_f_X3_foldOn (wsV RX3 280 RX3 yX3_replace w_y_X3_replace) := goodIn_app (nb_g4 (List.mem_cons_of_mem _ (List.mem_append_left _ (List.mem_append_left _ (List.mem_of_getElem? (i := 13) rfl)))) (List.mem_cons_of_mem _ (List.mem_append_left _ (List.mem_append_left _ (List.mem_of_getElem? (i := 14) rfl)))) (List.mem_cons_of_mem _ (List.mem_append_left _ (List.mem_append_left _ (List.mem_of_getElem? (i := 15) rfl)))) (List.mem_cons_of_mem _ (List.mem_append_left _ (List.mem_append_left _ (List.mem_of_getElem? (i := 3) rfl)))) (by decide +kernel)) gg_f_X3_foldOn_X3_replace
theorem gg_f_X3_foldOn_X3_spend : GoodIn w_f_X3_foldOn w_y_X3_spend := goodIn_sub (fun w h => (List.mem_cons.mp h).elim (fun e => (List.mem_cons_of_mem _ (List.mem_append_left _ (List.mem_append_right _ (List.mem_append_right _ (List.mem_append_right _ (List.mem_append_right _ (List.mem_append_right _ (List.mem_append_right _ (List.mem_append_right _ (List.mem_append_right _ (List.mem_append_right _ (List.mem_append_right _ (List.mem_append_right _ (List.mem_append_right _ (List.mem_append_right _ (List.mem_append_left _ (List.mem_cons.mpr (Or.inl e))))))))))))))))))) (fun h => (List.mem_append.mp h).elim (fun h => (List.mem_cons_of_mem _ (List.mem_append_left _ (List.mem_append_right _ (List.mem_append_right _ (List.mem_append_right _ (List.mem_append_right _ (List.mem_append_right _ (List.mem_append_right _ (List.mem_append_right _ (List.mem_append_right _ (List.mem_append_right _ (List.mem_append_right _ (List.mem_append_right _ (List.mem_append_right _ (List.mem_append_right _ (List.mem_append_left _ (List.mem_cons_of_mem _ h)))))))))))))))))) (fun h => List.mem_cons_of_mem _ (List.mem_append_right _ h)))) w_y_X3_spend_good
theorem g_y_X3_foldOn_X3_spend_V319 : GoodIn w_f_X3_foldOn (wsV RX3 319 RX3 yX3_spend w_y_X3_spend) := goodIn_app (nb_g4 (List.mem_cons_of_mem _ (List.mem_append_left _ (List.mem_append_left _ (List.mem_of_getElem? (i := 38) rfl)))) (List.mem_cons_of_mem _ (List.mem_append_left _ (List.mem_append_left _ (List.mem_of_getElem? (i := 39) rfl)))) (List.mem_cons_of_mem _ (List.mem_append_left _ (List.mem_append_left _ (List.mem_of_getElem? (i := 40) rfl)))) (List.mem_cons_of_mem _ (List.mem_append_left _ (List.mem_append_left _ (List.mem_of_getElem? (i := 3) rfl)))) (by decide +kernel)) gg_f_X3_foldOn_X3_spend
set_option maxHeartbeats 40000000 in
set_option maxRecDepth 100000 in
theorem c_f_X3_foldOn (l : Launch) (hl0 : l.stackTraces = false) (dC : Nat → ClassId) (dI : Nat → Nat → Nat) (cy : Nat → ClassId) (ek a : Nat → Nat) (k0 : Nat) (L0 : LV) (σ0 : CS) (r0 : RS) (h0 : f_X3_foldOn k0 0 L0 σ0 = some r0) (z : Nat → Nat) (sz : Nat) : vx_Met l yX3_foldOn w_f_X3_foldOn ({ frames := 65, cells := r0.2.2.1, slots := r0.2.2.2, locals := 1816 }) (va_Pc [.ref (a 18), .int (L0.1 1), .int (L0.1 2), .int (L0.1 3)] (nInF (dC, dI) cy ek sz (vC cy a z σ0))) (xV dC dI cy a (va_A (vC cy a z σ0) sz) [20] z r0) (xX dC dI cy a (va_A (vC cy a z σ0) sz) [20] z r0) r0.2.2.1 r0.2.2.2 (va_A (vC cy a z σ0) sz) := by
  refine vx_ofW (cc := cX3_foldOn) (maxL := 9) (ret := none) (by decide) rfl ?_
  intro p e s m args below meth c s₁ B hml hno hv
  obtain ⟨rfl, ⟨⟨hsz, hP, hK, hD0, hG⟩, hE⟩, hT⟩ := hv
  have hx := B.exec
  have hb := B.bytes
  have hr := B.returns
  have hts := atoms_spec (ws := w_f_X3_foldOn) B.pre
  have hown : s.vm.findClass RX3 = some m.cls := findClass_of_methodNamed B.named
  have hlocks := B.notSynchronized
  subst hsz
  have hD := hD0.self (sz := s.heap.size)
  generalize hAe : va_A (vC cy a z σ0) s.heap.size = A at hD hE hT ⊢
  have hA : ∀ q : Nat, s.heap.size ≤ q → A q := fun q h => by rw [← hAe]; exact Or.inr h
  have hS : va_S A s.heap s.heap [] := va_S.rf
  have hl := lv_entry ([.ref (a 18), .int (L0.1 1), .int (L0.1 2), .int (L0.1 3)]) (n := 9) (Nat.le_of_ble_eq_true rfl)
  rw [lg_entry_eq]
  generalize (lg_sl ([.ref (a 18), .int (L0.1 1), .int (L0.1 2), .int (L0.1 3)]) ++ List.replicate (9 - (lg_sl ([.ref (a 18), .int (L0.1 1), .int (L0.1 2), .int (L0.1 3)])).length) Slot.unset).toArray = ls at hl ⊢
  have hl : lv_has ls 9 [(0, .ref (a 18)), (1, .int (L0.1 1)), (2, .int (L0.1 2)), (3, .int (L0.1 3))] := hl
  generalize hmc : r0.2.2.1 = mc
  generalize hms : r0.2.2.2 = ms
  have blk : ∀ k : Nat, (bX p l e (headSpec w_f_X3_foldOn ({ frames := 65, cells := mc, slots := ms, locals := 1816 })).room s m #[.ref (a 18), .int (L0.1 1), .int (L0.1 2), .int (L0.1 3)] below meth c dC dI cy a A (fun r => vx_MQ below (xV dC dI cy a A [20] z r) (xX dC dI cy a A [20] z r) #[.ref (a 18), .int (L0.1 1), .int (L0.1 2), .int (L0.1 3)] s mc ms A) [20] z mc ms 9 (f_X3_foldOn k 0) (fun z L => [(0, .ref (a 18)), (1, .int (L.1 1)), (2, .int (L.1 2)), (3, .int (L.1 3))]) 0 (fun z L => [])) ∧ (bX p l e (headSpec w_f_X3_foldOn ({ frames := 65, cells := mc, slots := ms, locals := 1816 })).room s m #[.ref (a 18), .int (L0.1 1), .int (L0.1 2), .int (L0.1 3)] below meth c dC dI cy a A (fun r => vx_MQ below (xV dC dI cy a A [20] z r) (xX dC dI cy a A [20] z r) #[.ref (a 18), .int (L0.1 1), .int (L0.1 2), .int (L0.1 3)] s mc ms A) [20] z mc ms 9 (f_X3_foldOn k 1) (fun z L => [(0, .ref (a 18)), (2, .int (L.1 2)), (3, .int (L.1 3))]) 11 (fun z L => [])) ∧ (bX p l e (headSpec w_f_X3_foldOn ({ frames := 65, cells := mc, slots := ms, locals := 1816 })).room s m #[.ref (a 18), .int (L0.1 1), .int (L0.1 2), .int (L0.1 3)] below meth c dC dI cy a A (fun r => vx_MQ below (xV dC dI cy a A [20] z r) (xX dC dI cy a A [20] z r) #[.ref (a 18), .int (L0.1 1), .int (L0.1 2), .int (L0.1 3)] s mc ms A) [20] z mc ms 9 (f_X3_foldOn k 2) (fun z L => [(0, .ref (a 18)), (2, .int (L.1 2)), (3, .int (L.1 3)), (4, .int (L.1 4)), (5, .int (L.1 5)), (6, .int (L.1 6))]) 99 (fun z L => [])) ∧ (bX p l e (headSpec w_f_X3_foldOn ({ frames := 65, cells := mc, slots := ms, locals := 1816 })).room s m #[.ref (a 18), .int (L0.1 1), .int (L0.1 2), .int (L0.1 3)] below meth c dC dI cy a A (fun r => vx_MQ below (xV dC dI cy a A [20] z r) (xX dC dI cy a A [20] z r) #[.ref (a 18), .int (L0.1 1), .int (L0.1 2), .int (L0.1 3)] s mc ms A) [20] z mc ms 9 (f_X3_foldOn k 3) (fun z L => [(0, .ref (a 18)), (2, .int (L.1 2)), (3, .int (L.1 3)), (4, .int (L.1 4)), (5, .int (L.1 5)), (7, .int (L.1 7))]) 130 (fun z L => [])) ∧ (bX p l e (headSpec w_f_X3_foldOn ({ frames := 65, cells := mc, slots := ms, locals := 1816 })).room s m #[.ref (a 18), .int (L0.1 1), .int (L0.1 2), .int (L0.1 3)] below meth c dC dI cy a A (fun r => vx_MQ below (xV dC dI cy a A [20] z r) (xX dC dI cy a A [20] z r) #[.ref (a 18), .int (L0.1 1), .int (L0.1 2), .int (L0.1 3)] s mc ms A) [20] z mc ms 9 (f_X3_foldOn k 4) (fun z L => [(0, .ref (a 18)), (2, .int (L.1 2)), (3, .int (L.1 3)), (4, .int (L.1 4))]) 170 (fun z L => [.int (L.1 100)])) ∧ (bX p l e (headSpec w_f_X3_foldOn ({ frames := 65, cells := mc, slots := ms, locals := 1816 })).room s m #[.ref (a 18), .int (L0.1 1), .int (L0.1 2), .int (L0.1 3)] below meth c dC dI cy a A (fun r => vx_MQ below (xV dC dI cy a A [20] z r) (xX dC dI cy a A [20] z r) #[.ref (a 18), .int (L0.1 1), .int (L0.1 2), .int (L0.1 3)] s mc ms A) [20] z mc ms 9 (f_X3_foldOn k 5) (fun z L => [(0, .ref (a 18)), (2, .int (L.1 2)), (3, .int (L.1 3)), (4, .int (L.1 4)), (5, .int (L.1 5)), (7, .int (L.1 7))]) 149 (fun z L => [])) ∧ (bX p l e (headSpec w_f_X3_foldOn ({ frames := 65, cells := mc, slots := ms, locals := 1816 })).room s m #[.ref (a 18), .int (L0.1 1), .int (L0.1 2), .int (L0.1 3)] below meth c dC dI cy a A (fun r => vx_MQ below (xV dC dI cy a A [20] z r) (xX dC dI cy a A [20] z r) #[.ref (a 18), .int (L0.1 1), .int (L0.1 2), .int (L0.1 3)] s mc ms A) [20] z mc ms 9 (f_X3_foldOn k 6) (fun z L => [(0, .ref (a 18)), (2, .int (L.1 2)), (3, .int (L.1 3)), (4, .int (L.1 4)), (8, .int (L.1 8))]) 190 (fun z L => [])) ∧ (bX p l e (headSpec w_f_X3_foldOn ({ frames := 65, cells := mc, slots := ms, locals := 1816 })).room s m #[.ref (a 18), .int (L0.1 1), .int (L0.1 2), .int (L0.1 3)] below meth c dC dI cy a A (fun r => vx_MQ below (xV dC dI cy a A [20] z r) (xX dC dI cy a A [20] z r) #[.ref (a 18), .int (L0.1 1), .int (L0.1 2), .int (L0.1 3)] s mc ms A) [20] z mc ms 9 (f_X3_foldOn k 7) (fun z L => [(0, .ref (a 18)), (2, .int (L.1 2)), (3, .int (L.1 3)), (4, .int (L.1 4))]) 166 (fun z L => [.int (L.1 100), .int (L.1 101), .ref (a 14)])) ∧ (bX p l e (headSpec w_f_X3_foldOn ({ frames := 65, cells := mc, slots := ms, locals := 1816 })).room s m #[.ref (a 18), .int (L0.1 1), .int (L0.1 2), .int (L0.1 3)] below meth c dC dI cy a A (fun r => vx_MQ below (xV dC dI cy a A [20] z r) (xX dC dI cy a A [20] z r) #[.ref (a 18), .int (L0.1 1), .int (L0.1 2), .int (L0.1 3)] s mc ms A) [20] z mc ms 9 (f_X3_foldOn k 8) (fun z L => [(0, .ref (a 18)), (2, .int (L.1 2)), (3, .int (L.1 3)), (4, .int (L.1 4))]) 167 (fun z L => [.int (L.1 100), .int (L.1 101), .int (L.1 102), .ref (a 14)])) ∧ (bX p l e (headSpec w_f_X3_foldOn ({ frames := 65, cells := mc, slots := ms, locals := 1816 })).room s m #[.ref (a 18), .int (L0.1 1), .int (L0.1 2), .int (L0.1 3)] below meth c dC dI cy a A (fun r => vx_MQ below (xV dC dI cy a A [20] z r) (xX dC dI cy a A [20] z r) #[.ref (a 18), .int (L0.1 1), .int (L0.1 2), .int (L0.1 3)] s mc ms A) [20] z mc ms 9 (f_X3_foldOn k 9) (fun z L => [(0, .ref (a 18)), (2, .int (L.1 2)), (3, .int (L.1 3)), (8, .int (L.1 8))]) 227 (fun z L => [])) ∧ (bX p l e (headSpec w_f_X3_foldOn ({ frames := 65, cells := mc, slots := ms, locals := 1816 })).room s m #[.ref (a 18), .int (L0.1 1), .int (L0.1 2), .int (L0.1 3)] below meth c dC dI cy a A (fun r => vx_MQ below (xV dC dI cy a A [20] z r) (xX dC dI cy a A [20] z r) #[.ref (a 18), .int (L0.1 1), .int (L0.1 2), .int (L0.1 3)] s mc ms A) [20] z mc ms 9 (f_X3_foldOn k 10) (fun z L => []) 253 (fun z L => [])) := by
    intro k
    induction k with
    | zero => exact ⟨fun z c1 c2 L σ r h => (by cases h), fun z c1 c2 L σ r h => (by cases h), fun z c1 c2 L σ r h => (by cases h), fun z c1 c2 L σ r h => (by cases h), fun z c1 c2 L σ r h => (by cases h), fun z c1 c2 L σ r h => (by cases h), fun z c1 c2 L σ r h => (by cases h), fun z c1 c2 L σ r h => (by cases h), fun z c1 c2 L σ r h => (by cases h), fun z c1 c2 L σ r h => (by cases h), fun z c1 c2 L σ r h => (by cases h)⟩
    | succ k ih =>
      refine ⟨?_, ?_, ?_, ?_, ?_, ?_, ?_, ?_, ?_, ?_, ?_⟩
      · intro z cells slots L σ r h hzk hc hs H locs ls hP hD hS hl
        rw [f_X3_foldOn] at h
        refine lv_iload_n hx hb dX3_foldOn_0 rfl (lv_at hl 1 rfl) ?_
        refine lv_bipush (v := 112) hx hb dX3_foldOn_1 (by decide) ?_
        refine lv_icmp_ne (tgt := 11) hx hb dX3_foldOn_3 (by decide) (fun c1 => ?_) (fun c1 => ?_)
        · rw [if_neg c1] at h
          exact ih.2.1 z _ _ L σ _ h hzk hc hs H locs ls hP hD hS (lv_sub hl [0, 2, 3] rfl)
        · rw [if_pos c1] at h
          refine lv_aload_n hx hb dX3_foldOn_6 rfl (lv_at hl 0 rfl) ?_
          obtain ⟨r2, hc2, hle2, h9⟩ := ox_ex h
          clear h
          refine kx_v (vx_runV (As := []) (rest := []) ⟨hx, hb, hml, hown, hts⟩ (c_f_X3_fold l hl0 dC dI cy ek a k lZ σ r2 hc2 z H.size) (cwV 0 hts g_f_X3_foldOn_X3_fold_V455 rfl rfl rfl hd_f_X3_fold ⟨Nat.le_of_ble_eq_true rfl, Nat.le_of_ble_eq_true rfl⟩) ⟨nb_blindF, va_recv hK hP (ci := 3) (q0 := 18) rfl rfl, (kx_pre hK hG hE hT hA hP hD hS)⟩ rfl rfl hl.1 rfl (lv_room (Nat.le_of_ble_eq_true rfl)) dX3_foldOn_7 ⟨Nat.le_trans (Nat.add_le_add_left hle2.1 _) (Nat.le_of_eq hc), Nat.le_trans (Nat.add_le_add_left hle2.2 _) (Nat.le_of_eq hs)⟩) hK hA hzk hP hD hS (by decide) hno hlocks ?_
          rcases h9 with ⟨h00, y2, hny2, hy⟩ | ⟨h00, hy⟩
          · subst hy
            have h := hny2
            refine Or.inl ⟨h00, fun z H locs hz2 hzk hP hD hS => ?_⟩
            replace hc := (Nat.add_assoc _ _ _).trans hc
            replace hs := (Nat.add_assoc _ _ _).trans hs
            obtain rfl := Option.some.inj h
            subst hc
            subst hs
            exact xr_v hx hb hr hK hzk hP hD hS hlocks dX3_foldOn_10
          · subst hy
            exact Or.inr ⟨h00, rfl, hc, hs⟩
      · intro z cells slots L σ r h hzk hc hs H locs ls hP hD hS hl
        rw [f_X3_foldOn] at h
        refine lv_aload_n hx hb dX3_foldOn_11 rfl (lv_at hl 0 rfl) ?_
        refine hg_18_7 hx hb hts in_f_X3_foldOn_X3 hown hK hP (hts _ (List.mem_cons_of_mem _ (List.mem_append_left _ (List.mem_append_left _ (List.mem_of_getElem? (i := 4) rfl))))) dX3_foldOn_12 ?_
        refine lv_aload_n hx hb dX3_foldOn_15 rfl (lv_at hl 0 rfl) ?_
        refine hg_18_5 hx hb hts in_f_X3_foldOn_X3 hown hK hP (hts _ (List.mem_cons_of_mem _ (List.mem_append_left _ (List.mem_append_left _ (List.mem_of_getElem? (i := 5) rfl))))) dX3_foldOn_16 ?_
        refine hg_19_2n hx hb hts in_f_X3_foldOn_X8 hown hK hP (va_Nw.use rfl (hG.1 _ (List.mem_of_getElem? (i := 10) rfl))) dX3_foldOn_19 ?_
        refine lv_iconst (v := 1) hx hb dX3_foldOn_22 (by decide) ?_
        refine lv_isub hx hb dX3_foldOn_23 ?_
        obtain ⟨q1, h⟩ := kr_ite1 h
        refine hl_20 hx hb hK hP q1 dX3_foldOn_24 ?_
        obtain ⟨r2, hc2, h⟩ := op_ex h
        refine kc_i (va_runSN (As := [.int (σ.2.2.1 20 ((((σ.1 1902)) - 1)).toNatClampNeg)]) (rest := []) ⟨hx, hb, hml, hown, hts⟩ (c_y_X11_unraw l dC dI cy a z k (lI lZ 0 ((σ.2.2.1 20 ((((σ.1 1902)) - 1)).toNatClampNeg))) σ r2 hc2 H.size) ⟨va_cnB 1 hts g_y_X3_foldOn_X11_unraw_SN388 rfl rfl rfl (hG.1 _ (List.mem_of_getElem? (i := 104) rfl)) (hts _ (List.mem_cons_of_mem _ (List.mem_append_left _ (List.mem_append_left _ (List.mem_of_getElem? (i := 6) rfl))))) hd_y_X11_unraw ⟨Nat.le_of_ble_eq_true rfl, Nat.le_of_ble_eq_true rfl⟩, (hts _ (List.mem_cons_of_mem _ (List.mem_append_left _ (List.mem_append_left _ (List.mem_of_getElem? (i := 7) rfl))))), trivial⟩ ⟨nb_blind, (kb_pre hK hG hP hD)⟩ rfl rfl hl.1 rfl (lv_room (Nat.le_of_ble_eq_true rfl)) dX3_foldOn_25 ⟨(Nat.le_trans (Nat.le_add_right _ _) (Nat.le_of_eq hc)), (Nat.le_trans (Nat.le_add_right _ _) (Nat.le_of_eq hs))⟩) hA hP hD hS (fun H locs hP hD hS => ?_)
        refine lv_istore (lv' := [(4, .int r2.1), (0, .ref (a 18)), (2, .int (L.1 2)), (3, .int (L.1 3))]) hx hb dX3_foldOn_28 hl (by decide) rfl (fun ls hl => ?_)
        refine lv_aload_n hx hb dX3_foldOn_30 rfl (lv_at hl 1 rfl) ?_
        refine hg_18_7 hx hb hts in_f_X3_foldOn_X3 hown hK hP (hts _ (List.mem_cons_of_mem _ (List.mem_append_left _ (List.mem_append_left _ (List.mem_of_getElem? (i := 4) rfl))))) dX3_foldOn_31 ?_
        refine lv_aload_n hx hb dX3_foldOn_34 rfl (lv_at hl 1 rfl) ?_
        refine hg_18_5 hx hb hts in_f_X3_foldOn_X3 hown hK hP (hts _ (List.mem_cons_of_mem _ (List.mem_append_left _ (List.mem_append_left _ (List.mem_of_getElem? (i := 5) rfl))))) dX3_foldOn_35 ?_
        refine hg_19_2n hx hb hts in_f_X3_foldOn_X8 hown hK hP (va_Nw.use rfl (hG.1 _ (List.mem_of_getElem? (i := 10) rfl))) dX3_foldOn_38 ?_
        refine lv_iconst (v := 2) hx hb dX3_foldOn_41 (by decide) ?_
        refine lv_isub hx hb dX3_foldOn_42 ?_
        obtain ⟨q3, h⟩ := kr_ite1 h
        refine hl_20 hx hb hK hP q3 dX3_foldOn_43 ?_
        refine lv_istore (lv' := [(5, .int (r2.2.2.2.1 20 ((((r2.2.1 1902)) - 2)).toNatClampNeg)), (4, .int r2.1), (0, .ref (a 18)), (2, .int (L.1 2)), (3, .int (L.1 3))]) hx hb dX3_foldOn_44 hl (by decide) rfl (fun ls hl => ?_)
        refine lv_aload_n hx hb dX3_foldOn_46 rfl (lv_at hl 2 rfl) ?_
        refine hg_18_7 hx hb hts in_f_X3_foldOn_X3 hown hK hP (hts _ (List.mem_cons_of_mem _ (List.mem_append_left _ (List.mem_append_left _ (List.mem_of_getElem? (i := 4) rfl))))) dX3_foldOn_47 ?_
        refine lv_aload_n hx hb dX3_foldOn_50 rfl (lv_at hl 2 rfl) ?_
        refine hg_18_5 hx hb hts in_f_X3_foldOn_X3 hown hK hP (hts _ (List.mem_cons_of_mem _ (List.mem_append_left _ (List.mem_append_left _ (List.mem_of_getElem? (i := 5) rfl))))) dX3_foldOn_51 ?_
        refine hg_19_2n hx hb hts in_f_X3_foldOn_X8 hown hK hP (va_Nw.use rfl (hG.1 _ (List.mem_of_getElem? (i := 10) rfl))) dX3_foldOn_54 ?_
        refine lv_iconst (v := 3) hx hb dX3_foldOn_57 (by decide) ?_
        refine lv_isub hx hb dX3_foldOn_58 ?_
        obtain ⟨q4, h⟩ := kr_ite1 h
        refine hl_20 hx hb hK hP q4 dX3_foldOn_59 ?_
        refine lv_istore (lv' := [(6, .int (r2.2.2.2.1 20 ((((r2.2.1 1902)) - 3)).toNatClampNeg)), (5, .int (r2.2.2.2.1 20 ((((r2.2.1 1902)) - 2)).toNatClampNeg)), (4, .int r2.1), (0, .ref (a 18)), (2, .int (L.1 2)), (3, .int (L.1 3))]) hx hb dX3_foldOn_60 hl (by decide) rfl (fun ls hl => ?_)
        refine lv_iload hx hb dX3_foldOn_62 (lv_at hl 2 rfl) ?_
        refine lv_aload_n hx hb dX3_foldOn_64 rfl (lv_at hl 3 rfl) ?_
        refine hg_18_0 hx hb hts in_f_X3_foldOn_X3 hown hK hP (hts _ (List.mem_cons_of_mem _ (List.mem_append_left _ (List.mem_append_left _ (List.mem_of_getElem? (i := 8) rfl))))) dX3_foldOn_65 ?_
        refine lv_iload hx hb dX3_foldOn_68 (lv_at hl 0 rfl) ?_
        obtain ⟨r5, hc5, h⟩ := op_ex h
        refine kc_i (va_runV (As := [.int (r2.2.2.2.1 20 ((((r2.2.1 1902)) - 3)).toNatClampNeg)]) (rest := [.int r2.1]) ⟨hx, hb, hml, hown, hts⟩ (c_y_X1_length l dC dI cy a z k (lI lZ 1 ((r2.2.2.2.1 20 ((((r2.2.1 1902)) - 3)).toNatClampNeg))) r2.2 r5 hc5 H.size) (cwV 1 hts g_y_X3_foldOn_X1_length_V399 rfl rfl rfl hd_y_X1_length ⟨Nat.le_of_ble_eq_true rfl, Nat.le_of_ble_eq_true rfl⟩) ⟨nb_blind, va_recv hK hP (ci := 1) (q0 := 0) rfl rfl, (kb_pre hK hG hP hD)⟩ rfl rfl hl.1 rfl (lv_room (Nat.le_of_ble_eq_true rfl)) dX3_foldOn_70 ⟨(Nat.le_trans (Nat.le_add_right _ _) (Nat.le_of_eq hc)), (Nat.le_trans (Nat.le_add_right _ _) (Nat.le_of_eq hs))⟩) hA hP hD hS (fun H locs hP hD hS => ?_)
        refine lv_icmp_lt (tgt := 99) hx hb dX3_foldOn_73 (by decide) (fun c6 => ?_) (fun c6 => ?_)
        · rw [if_pos c6] at h
          exact ih.2.2.1 z _ _ (lI (lI (lI L 4 r2.1) 5 ((r2.2.2.2.1 20 ((((r2.2.1 1902)) - 2)).toNatClampNeg))) 6 ((r2.2.2.2.1 20 ((((r2.2.1 1902)) - 3)).toNatClampNeg))) r5.2 _ h hzk hc hs H locs ls hP hD hS (lv_sub hl [3, 4, 5, 2, 1, 0] rfl)
        · rw [if_neg c6] at h
          refine lv_aload_n hx hb dX3_foldOn_76 rfl (lv_at hl 3 rfl) ?_
          refine hg_18_5 hx hb hts in_f_X3_foldOn_X3 hown hK hP (hts _ (List.mem_cons_of_mem _ (List.mem_append_left _ (List.mem_append_left _ (List.mem_of_getElem? (i := 5) rfl))))) dX3_foldOn_77 ?_
          refine lv_aload_n hx hb dX3_foldOn_80 rfl (lv_at hl 3 rfl) ?_
          refine hg_18_5 hx hb hts in_f_X3_foldOn_X3 hown hK hP (hts _ (List.mem_cons_of_mem _ (List.mem_append_left _ (List.mem_append_left _ (List.mem_of_getElem? (i := 5) rfl))))) dX3_foldOn_81 ?_
          refine hg_19_2n hx hb hts in_f_X3_foldOn_X8 hown hK hP (va_Nw.use rfl (hG.1 _ (List.mem_of_getElem? (i := 10) rfl))) dX3_foldOn_84 ?_
          refine lv_iconst (v := 2) hx hb dX3_foldOn_87 (by decide) ?_
          refine lv_isub hx hb dX3_foldOn_88 ?_
          refine hp_19_2n hx hb hts in_f_X3_foldOn_X8 hown hK hP hD hS (va_Nw.use rfl (hG.1 _ (List.mem_of_getElem? (i := 10) rfl))) dX3_foldOn_89 (fun H locs hP hD hS => ?_)
          refine lv_aload_n hx hb dX3_foldOn_92 rfl (lv_at hl 3 rfl) ?_
          refine lv_iload hx hb dX3_foldOn_93 (lv_at hl 1 rfl) ?_
          obtain ⟨r7, hc7, h⟩ := op_ex h
          refine kc_v (va_runV (As := [.int (r2.2.2.2.1 20 ((((r2.2.1 1902)) - 2)).toNatClampNeg)]) (rest := []) ⟨hx, hb, hml, hown, hts⟩ (c_y_X3_replace l dC dI cy a z k (lI lZ 1 ((r2.2.2.2.1 20 ((((r2.2.1 1902)) - 2)).toNatClampNeg))) (uI r5.2 1902 ((((r5.2.1 1902)) - 2))) r7 hc7 H.size) (cwV 1 hts g_y_X3_foldOn_X3_replace_V280 rfl rfl rfl hd_y_X3_replace ⟨Nat.le_of_ble_eq_true rfl, Nat.le_of_ble_eq_true rfl⟩) ⟨nb_blind, va_recv hK hP (ci := 3) (q0 := 18) rfl rfl, (kb_pre hK hG hP hD)⟩ rfl rfl hl.1 rfl (lv_room (Nat.le_of_ble_eq_true rfl)) dX3_foldOn_95 ⟨(Nat.le_trans (Nat.le_add_right _ _) (Nat.le_of_eq hc)), (Nat.le_trans (Nat.le_add_right _ _) (Nat.le_of_eq hs))⟩) hA hP hD hS (fun H locs hP hD hS => ?_)
          obtain rfl := Option.some.inj h
          subst hc
          subst hs
          exact xr_v hx hb hr hK hzk hP hD hS hlocks dX3_foldOn_98
      · intro z cells slots L σ r h hzk hc hs H locs ls hP hD hS hl
        rw [f_X3_foldOn] at h
        refine lv_aload_n hx hb dX3_foldOn_99 rfl (lv_at hl 0 rfl) ?_
        refine hg_18_0 hx hb hts in_f_X3_foldOn_X3 hown hK hP (hts _ (List.mem_cons_of_mem _ (List.mem_append_left _ (List.mem_append_left _ (List.mem_of_getElem? (i := 8) rfl))))) dX3_foldOn_100 ?_
        refine lv_iload hx hb dX3_foldOn_103 (lv_at hl 5 rfl) ?_
        refine lv_iload hx hb dX3_foldOn_105 (lv_at hl 3 rfl) ?_
        obtain ⟨r1, hc1, h⟩ := op_ex h
        refine kc_i (va_runV (As := [.int (L.1 6), .int (L.1 4)]) (rest := []) ⟨hx, hb, hml, hown, hts⟩ (c_y_X1_member l dC dI cy a z k (lI (lI lZ 1 ((L.1 6))) 2 ((L.1 4))) σ r1 hc1 H.size) (cwV 2 hts g_y_X3_foldOn_X1_member_V452 rfl rfl rfl hd_y_X1_member ⟨Nat.le_of_ble_eq_true rfl, Nat.le_of_ble_eq_true rfl⟩) ⟨nb_blind, va_recv hK hP (ci := 1) (q0 := 0) rfl rfl, (kb_pre hK hG hP hD)⟩ rfl rfl hl.1 rfl (lv_room (Nat.le_of_ble_eq_true rfl)) dX3_foldOn_107 ⟨(Nat.le_trans (Nat.le_add_right _ _) (Nat.le_of_eq hc)), (Nat.le_trans (Nat.le_add_right _ _) (Nat.le_of_eq hs))⟩) hA hP hD hS (fun H locs hP hD hS => ?_)
        refine lv_istore (lv' := [(7, .int r1.1), (0, .ref (a 18)), (2, .int (L.1 2)), (3, .int (L.1 3)), (4, .int (L.1 4)), (5, .int (L.1 5)), (6, .int (L.1 6))]) hx hb dX3_foldOn_110 hl (by decide) rfl (fun ls hl => ?_)
        refine lv_iload_n hx hb dX3_foldOn_112 rfl (lv_at hl 2 rfl) ?_
        refine lv_if_ne (tgt := 130) hx hb dX3_foldOn_113 (by decide) (fun c2 => ?_) (fun c2 => ?_)
        · rw [if_neg c2] at h
          exact ih.2.2.2.1 z _ _ (lI L 7 r1.1) r1.2 _ h hzk hc hs H locs ls hP hD hS (lv_sub hl [1, 2, 3, 4, 5, 0] rfl)
        · rw [if_pos c2] at h
          refine lv_aload_n hx hb dX3_foldOn_116 rfl (lv_at hl 1 rfl) ?_
          refine hg_18_2 hx hb hts in_f_X3_foldOn_X3 hown hK hP (hts _ (List.mem_cons_of_mem _ (List.mem_append_left _ (List.mem_append_left _ (List.mem_of_getElem? (i := 19) rfl))))) dX3_foldOn_117 ?_
          refine lv_iload hx hb dX3_foldOn_120 (lv_at hl 5 rfl) ?_
          refine lv_iload hx hb dX3_foldOn_122 (lv_at hl 0 rfl) ?_
          obtain ⟨r3, hc3, h⟩ := op_ex h
          refine kc_i (va_runV (As := [.int (L.1 5), .int r1.1]) (rest := []) ⟨hx, hb, hml, hown, hts⟩ (c_y_X0_sum l dC dI cy a z k (lI (lI lZ 1 ((L.1 5))) 2 r1.1) r1.2 r3 hc3 H.size) (cwV 2 hts g_y_X3_foldOn_X0_sum_V458 rfl rfl rfl hd_y_X0_sum ⟨Nat.le_of_ble_eq_true rfl, Nat.le_of_ble_eq_true rfl⟩) ⟨nb_blind, va_recv hK hP (ci := 0) (q0 := 14) rfl rfl, (kb_pre hK hG hP hD)⟩ rfl rfl hl.1 rfl (lv_room (Nat.le_of_ble_eq_true rfl)) dX3_foldOn_124 ⟨(Nat.le_trans (Nat.le_add_right _ _) (Nat.le_of_eq hc)), (Nat.le_trans (Nat.le_add_right _ _) (Nat.le_of_eq hs))⟩) hA hP hD hS (fun H locs hP hD hS => ?_)
          refine lv_goto (tgt := 170) hx hb dX3_foldOn_127 (by decide) ?_
          exact ih.2.2.2.2.1 z _ _ (lI L 100 r3.1) r3.2 _ h hzk hc hs H locs ls hP hD hS (lv_sub hl [1, 2, 3, 4] rfl)
      · intro z cells slots L σ r h hzk hc hs H locs ls hP hD hS hl
        rw [f_X3_foldOn] at h
        refine lv_iload_n hx hb dX3_foldOn_130 rfl (lv_at hl 1 rfl) ?_
        refine lv_iconst (v := 1) hx hb dX3_foldOn_131 (by decide) ?_
        refine lv_icmp_ne (tgt := 149) hx hb dX3_foldOn_132 (by decide) (fun c1 => ?_) (fun c1 => ?_)
        · rw [if_neg c1] at h
          exact ih.2.2.2.2.2.1 z _ _ L σ _ h hzk hc hs H locs ls hP hD hS (lv_sub hl [0, 1, 2, 3, 4, 5] rfl)
        · rw [if_pos c1] at h
          refine lv_aload_n hx hb dX3_foldOn_135 rfl (lv_at hl 0 rfl) ?_
          refine hg_18_2 hx hb hts in_f_X3_foldOn_X3 hown hK hP (hts _ (List.mem_cons_of_mem _ (List.mem_append_left _ (List.mem_append_left _ (List.mem_of_getElem? (i := 19) rfl))))) dX3_foldOn_136 ?_
          refine lv_iload hx hb dX3_foldOn_139 (lv_at hl 4 rfl) ?_
          refine lv_iload hx hb dX3_foldOn_141 (lv_at hl 5 rfl) ?_
          obtain ⟨r2, hc2, h⟩ := op_ex h
          refine kc_i (va_runV (As := [.int (L.1 5), .int (L.1 7)]) (rest := []) ⟨hx, hb, hml, hown, hts⟩ (c_y_X0_product l dC dI cy a z k (lI (lI lZ 1 ((L.1 5))) 2 ((L.1 7))) σ r2 hc2 H.size) (cwV 2 hts g_y_X3_foldOn_X0_product_V461 rfl rfl rfl hd_y_X0_product ⟨Nat.le_of_ble_eq_true rfl, Nat.le_of_ble_eq_true rfl⟩) ⟨nb_blind, va_recv hK hP (ci := 0) (q0 := 14) rfl rfl, (kb_pre hK hG hP hD)⟩ rfl rfl hl.1 rfl (lv_room (Nat.le_of_ble_eq_true rfl)) dX3_foldOn_143 ⟨(Nat.le_trans (Nat.le_add_right _ _) (Nat.le_of_eq hc)), (Nat.le_trans (Nat.le_add_right _ _) (Nat.le_of_eq hs))⟩) hA hP hD hS (fun H locs hP hD hS => ?_)
          refine lv_goto (tgt := 170) hx hb dX3_foldOn_146 (by decide) ?_
          exact ih.2.2.2.2.1 z _ _ (lI L 100 r2.1) r2.2 _ h hzk hc hs H locs ls hP hD hS (lv_sub hl [0, 1, 2, 3] rfl)
      · intro z cells slots L σ r h hzk hc hs H locs ls hP hD hS hl
        rw [f_X3_foldOn] at h
        refine lv_istore (lv' := [(8, .int (L.1 100)), (0, .ref (a 18)), (2, .int (L.1 2)), (3, .int (L.1 3)), (4, .int (L.1 4))]) hx hb dX3_foldOn_170 hl (by decide) rfl (fun ls hl => ?_)
        refine lv_iload hx hb dX3_foldOn_172 (lv_at hl 0 rfl) ?_
        obtain ⟨r1, hc1, h⟩ := op_ex h
        refine kc_i (va_runSN (As := [.int (L.1 100)]) (rest := []) ⟨hx, hb, hml, hown, hts⟩ (c_y_X11_isError l dC dI cy a z k (lI lZ 0 ((L.1 100))) σ r1 hc1 H.size) ⟨va_cnB 1 hts g_y_X3_foldOn_X11_isError_SN310 rfl rfl rfl (hG.1 _ (List.mem_of_getElem? (i := 102) rfl)) (hts _ (List.mem_cons_of_mem _ (List.mem_append_left _ (List.mem_append_left _ (List.mem_of_getElem? (i := 6) rfl))))) hd_y_X11_isError ⟨Nat.le_of_ble_eq_true rfl, Nat.le_of_ble_eq_true rfl⟩, (hts _ (List.mem_cons_of_mem _ (List.mem_append_left _ (List.mem_append_left _ (List.mem_of_getElem? (i := 27) rfl))))), trivial⟩ ⟨nb_blind, (kb_pre hK hG hP hD)⟩ rfl rfl hl.1 rfl (lv_room (Nat.le_of_ble_eq_true rfl)) dX3_foldOn_174 ⟨(Nat.le_trans (Nat.le_add_right _ _) (Nat.le_of_eq hc)), (Nat.le_trans (Nat.le_add_right _ _) (Nat.le_of_eq hs))⟩) hA hP hD hS (fun H locs hP hD hS => ?_)
        refine lv_if_eq (tgt := 190) hx hb dX3_foldOn_177 (by decide) (fun c2 => ?_) (fun c2 => ?_)
        · rw [if_pos c2] at h
          exact ih.2.2.2.2.2.2.1 z _ _ (lI L 8 ((L.1 100))) r1.2 _ h hzk hc hs H locs ls hP hD hS (lv_sub hl [1, 2, 3, 4, 0] rfl)
        · rw [if_neg c2] at h
          refine lv_aload_n hx hb dX3_foldOn_180 rfl (lv_at hl 1 rfl) ?_
          refine lv_iload hx hb dX3_foldOn_181 (lv_at hl 0 rfl) ?_
          refine lv_bipush (v := 15) hx hb dX3_foldOn_183 (by decide) ?_
          refine lv_iand hx hb dX3_foldOn_185 ?_
          obtain ⟨r3, hc3, h⟩ := op_ex h
          refine kc_v (va_runV (As := [.int (((L.1 100)) &&& 15)]) (rest := []) ⟨hx, hb, hml, hown, hts⟩ (c_y_X3_fail l dC dI cy a z k (lI lZ 1 ((((L.1 100)) &&& 15))) r1.2 r3 hc3 H.size) (cwV 1 hts g_y_X3_foldOn_X3_fail_V313 rfl rfl rfl hd_y_X3_fail ⟨Nat.le_of_ble_eq_true rfl, Nat.le_of_ble_eq_true rfl⟩) ⟨nb_blind, va_recv hK hP (ci := 3) (q0 := 18) rfl rfl, (kb_pre hK hG hP hD)⟩ rfl rfl hl.1 rfl (lv_room (Nat.le_of_ble_eq_true rfl)) dX3_foldOn_186 ⟨(Nat.le_trans (Nat.le_add_right _ _) (Nat.le_of_eq hc)), (Nat.le_trans (Nat.le_add_right _ _) (Nat.le_of_eq hs))⟩) hA hP hD hS (fun H locs hP hD hS => ?_)
          obtain rfl := Option.some.inj h
          subst hc
          subst hs
          exact xr_v hx hb hr hK hzk hP hD hS hlocks dX3_foldOn_189
      · intro z cells slots L σ r h hzk hc hs H locs ls hP hD hS hl
        rw [f_X3_foldOn] at h
        refine lv_aload_n hx hb dX3_foldOn_149 rfl (lv_at hl 0 rfl) ?_
        refine hg_18_2 hx hb hts in_f_X3_foldOn_X3 hown hK hP (hts _ (List.mem_cons_of_mem _ (List.mem_append_left _ (List.mem_append_left _ (List.mem_of_getElem? (i := 19) rfl))))) dX3_foldOn_150 ?_
        refine lv_iload hx hb dX3_foldOn_153 (lv_at hl 4 rfl) ?_
        refine lv_iload hx hb dX3_foldOn_155 (lv_at hl 5 rfl) ?_
        refine lv_iload_n hx hb dX3_foldOn_157 rfl (lv_at hl 1 rfl) ?_
        refine lv_iconst (v := 3) hx hb dX3_foldOn_158 (by decide) ?_
        refine lv_icmp_ne (tgt := 166) hx hb dX3_foldOn_159 (by decide) (fun c1 => ?_) (fun c1 => ?_)
        · rw [if_neg c1] at h
          exact ih.2.2.2.2.2.2.2.1 z _ _ (lI (lI L 100 ((L.1 7))) 101 ((L.1 5))) σ _ h hzk hc hs H locs ls hP hD hS (lv_sub hl [0, 1, 2, 3] rfl)
        · rw [if_pos c1] at h
          refine lv_iconst (v := 1) hx hb dX3_foldOn_162 (by decide) ?_
          refine lv_goto (tgt := 167) hx hb dX3_foldOn_163 (by decide) ?_
          exact ih.2.2.2.2.2.2.2.2.1 z _ _ (lI (lI (lI L 100 1) 101 ((L.1 7))) 102 ((L.1 5))) σ _ h hzk hc hs H locs ls hP hD hS (lv_sub hl [0, 1, 2, 3] rfl)
      · intro z cells slots L σ r h hzk hc hs H locs ls hP hD hS hl
        rw [f_X3_foldOn] at h
        refine lv_aload_n hx hb dX3_foldOn_190 rfl (lv_at hl 0 rfl) ?_
        refine hg_18_7 hx hb hts in_f_X3_foldOn_X3 hown hK hP (hts _ (List.mem_cons_of_mem _ (List.mem_append_left _ (List.mem_append_left _ (List.mem_of_getElem? (i := 4) rfl))))) dX3_foldOn_191 ?_
        refine lv_aload_n hx hb dX3_foldOn_194 rfl (lv_at hl 0 rfl) ?_
        refine hg_18_5 hx hb hts in_f_X3_foldOn_X3 hown hK hP (hts _ (List.mem_cons_of_mem _ (List.mem_append_left _ (List.mem_append_left _ (List.mem_of_getElem? (i := 5) rfl))))) dX3_foldOn_195 ?_
        refine hg_19_2n hx hb hts in_f_X3_foldOn_X8 hown hK hP (va_Nw.use rfl (hG.1 _ (List.mem_of_getElem? (i := 10) rfl))) dX3_foldOn_198 ?_
        refine lv_iconst (v := 2) hx hb dX3_foldOn_201 (by decide) ?_
        refine lv_isub hx hb dX3_foldOn_202 ?_
        refine lv_iload hx hb dX3_foldOn_203 (lv_at hl 4 rfl) ?_
        obtain ⟨q1, h⟩ := kr_ite1 h
        refine hs_20 hx hb hK hP hD hS q1 dX3_foldOn_205 (fun H locs hP hD hS => ?_)
        refine lv_aload_n hx hb dX3_foldOn_206 rfl (lv_at hl 0 rfl) ?_
        refine hg_18_7 hx hb hts in_f_X3_foldOn_X3 hown hK hP (hts _ (List.mem_cons_of_mem _ (List.mem_append_left _ (List.mem_append_left _ (List.mem_of_getElem? (i := 4) rfl))))) dX3_foldOn_207 ?_
        refine lv_aload_n hx hb dX3_foldOn_210 rfl (lv_at hl 0 rfl) ?_
        refine hg_18_5 hx hb hts in_f_X3_foldOn_X3 hown hK hP (hts _ (List.mem_cons_of_mem _ (List.mem_append_left _ (List.mem_append_left _ (List.mem_of_getElem? (i := 5) rfl))))) dX3_foldOn_211 ?_
        refine hg_19_2n hx hb hts in_f_X3_foldOn_X8 hown hK hP (va_Nw.use rfl (hG.1 _ (List.mem_of_getElem? (i := 10) rfl))) dX3_foldOn_214 ?_
        refine lv_iconst (v := 1) hx hb dX3_foldOn_217 (by decide) ?_
        refine lv_isub hx hb dX3_foldOn_218 ?_
        refine lv_iload hx hb dX3_foldOn_219 (lv_at hl 3 rfl) ?_
        refine lv_iconst (v := 1) hx hb dX3_foldOn_221 (by decide) ?_
        refine lv_iadd hx hb dX3_foldOn_222 ?_
        obtain ⟨r2, hc2, h⟩ := op_ex h
        refine kc_i (va_runSN (As := [.int (((L.1 4)) + 1)]) (rest := [.int ((((uA σ 20 ((((σ.1 1902)) - 2)).toNatClampNeg ((L.1 8))).1 1902)) - 1), .ref (z 20)]) ⟨hx, hb, hml, hown, hts⟩ (c_y_X11_raw l dC dI cy a z k (lI lZ 0 ((((L.1 4)) + 1))) (uA σ 20 ((((σ.1 1902)) - 2)).toNatClampNeg ((L.1 8))) r2 hc2 H.size) ⟨va_cnB 1 hts g_y_X3_foldOn_X11_raw_SN182 rfl rfl rfl (hG.1 _ (List.mem_of_getElem? (i := 103) rfl)) (hts _ (List.mem_cons_of_mem _ (List.mem_append_left _ (List.mem_append_left _ (List.mem_of_getElem? (i := 6) rfl))))) hd_y_X11_raw ⟨Nat.le_of_ble_eq_true rfl, Nat.le_of_ble_eq_true rfl⟩, (hts _ (List.mem_cons_of_mem _ (List.mem_append_left _ (List.mem_append_left _ (List.mem_of_getElem? (i := 31) rfl))))), trivial⟩ ⟨nb_blind, (kb_pre hK hG hP hD)⟩ rfl rfl hl.1 rfl (lv_room (Nat.le_of_ble_eq_true rfl)) dX3_foldOn_223 ⟨(Nat.le_trans (Nat.le_add_right _ _) (Nat.le_of_eq hc)), (Nat.le_trans (Nat.le_add_right _ _) (Nat.le_of_eq hs))⟩) hA hP hD hS (fun H locs hP hD hS => ?_)
        obtain ⟨q3, h⟩ := kr_ite1 h
        refine hs_20 hx hb hK hP hD hS q3 dX3_foldOn_226 (fun H locs hP hD hS => ?_)
        exact ih.2.2.2.2.2.2.2.2.2.1 z _ _ L (uA r2.2 20 (((((uA σ 20 ((((σ.1 1902)) - 2)).toNatClampNeg ((L.1 8))).1 1902)) - 1)).toNatClampNeg r2.1) _ h hzk hc hs H locs ls hP hD hS (lv_sub hl [0, 1, 2, 4] rfl)
      · intro z cells slots L σ r h hzk hc hs H locs ls hP hD hS hl
        rw [f_X3_foldOn] at h
        refine lv_iconst (v := 0) hx hb dX3_foldOn_166 (by decide) ?_
        exact ih.2.2.2.2.2.2.2.2.1 z _ _ (lI (lI (lI L 100 0) 101 ((L.1 100))) 102 ((L.1 101))) σ _ h hzk hc hs H locs ls hP hD hS (lv_sub hl [0, 1, 2, 3] rfl)
      · intro z cells slots L σ r h hzk hc hs H locs ls hP hD hS hl
        rw [f_X3_foldOn] at h
        obtain ⟨r1, hc1, h⟩ := op_ex h
        refine kc_i (va_runV (As := [.int (L.1 102), .int (L.1 101), .int (L.1 100)]) (rest := []) ⟨hx, hb, hml, hown, hts⟩ (c_y_X0_larger l dC dI cy a z k (lI (lI (lI lZ 1 ((L.1 102))) 2 ((L.1 101))) 3 ((L.1 100))) σ r1 hc1 H.size) (cwV 3 hts g_y_X3_foldOn_X0_larger_V464 rfl rfl rfl hd_y_X0_larger ⟨Nat.le_of_ble_eq_true rfl, Nat.le_of_ble_eq_true rfl⟩) ⟨nb_blind, va_recv hK hP (ci := 0) (q0 := 14) rfl rfl, (kb_pre hK hG hP hD)⟩ rfl rfl hl.1 rfl (lv_room (Nat.le_of_ble_eq_true rfl)) dX3_foldOn_167 ⟨(Nat.le_trans (Nat.le_add_right _ _) (Nat.le_of_eq hc)), (Nat.le_trans (Nat.le_add_right _ _) (Nat.le_of_eq hs))⟩) hA hP hD hS (fun H locs hP hD hS => ?_)
        exact ih.2.2.2.2.1 z _ _ (lI L 100 r1.1) r1.2 _ h hzk hc hs H locs ls hP hD hS (lv_sub hl [0, 1, 2, 3] rfl)
      · intro z cells slots L σ r h hzk hc hs H locs ls hP hD hS hl
        rw [f_X3_foldOn] at h
        refine lv_aload_n hx hb dX3_foldOn_227 rfl (lv_at hl 0 rfl) ?_
        refine hg_18_5 hx hb hts in_f_X3_foldOn_X3 hown hK hP (hts _ (List.mem_cons_of_mem _ (List.mem_append_left _ (List.mem_append_left _ (List.mem_of_getElem? (i := 5) rfl))))) dX3_foldOn_228 ?_
        refine lv_iload_n hx hb dX3_foldOn_231 rfl (lv_at hl 2 rfl) ?_
        refine hp_19_0n hx hb hts in_f_X3_foldOn_X8 hown hK hP hD hS (va_Nw.use rfl (hG.1 _ (List.mem_of_getElem? (i := 8) rfl))) dX3_foldOn_232 (fun H locs hP hD hS => ?_)
        refine lv_iload_n hx hb dX3_foldOn_235 rfl (lv_at hl 1 rfl) ?_
        refine lv_iconst (v := 1) hx hb dX3_foldOn_236 (by decide) ?_
        refine lv_icmp_gt (tgt := 253) hx hb dX3_foldOn_237 (by decide) (fun c1 => ?_) (fun c1 => ?_)
        · rw [if_pos c1] at h
          exact ih.2.2.2.2.2.2.2.2.2.2 z _ _ L (uI σ 1900 ((L.1 3))) _ h hzk hc hs H locs ls hP hD hS (lv_sub hl [] rfl)
        · rw [if_neg c1] at h
          refine lv_aload_n hx hb dX3_foldOn_240 rfl (lv_at hl 0 rfl) ?_
          refine lv_aload_n hx hb dX3_foldOn_241 rfl (lv_at hl 0 rfl) ?_
          refine hg_18_0 hx hb hts in_f_X3_foldOn_X3 hown hK hP (hts _ (List.mem_cons_of_mem _ (List.mem_append_left _ (List.mem_append_left _ (List.mem_of_getElem? (i := 8) rfl))))) dX3_foldOn_242 ?_
          refine lv_iload hx hb dX3_foldOn_245 (lv_at hl 3 rfl) ?_
          obtain ⟨r2, hc2, h⟩ := op_ex h
          refine kc_i (va_runV (As := [.int (L.1 8)]) (rest := [.ref (a 18)]) ⟨hx, hb, hml, hown, hts⟩ (c_y_X1_size l dC dI cy a z k (lI lZ 1 ((L.1 8))) (uI σ 1900 ((L.1 3))) r2 hc2 H.size) (cwV 1 hts g_y_X3_foldOn_X1_size_V316 rfl rfl rfl hd_y_X1_size ⟨Nat.le_of_ble_eq_true rfl, Nat.le_of_ble_eq_true rfl⟩) ⟨nb_blind, va_recv hK hP (ci := 1) (q0 := 0) rfl rfl, (kb_pre hK hG hP hD)⟩ rfl rfl hl.1 rfl (lv_room (Nat.le_of_ble_eq_true rfl)) dX3_foldOn_247 ⟨(Nat.le_trans (Nat.le_add_right _ _) (Nat.le_of_eq hc)), (Nat.le_trans (Nat.le_add_right _ _) (Nat.le_of_eq hs))⟩) hA hP hD hS (fun H locs hP hD hS => ?_)
          obtain ⟨r3, hc3, h⟩ := op_ex h
          refine kc_v (va_runV (As := [.int r2.1]) (rest := []) ⟨hx, hb, hml, hown, hts⟩ (c_y_X3_spend l dC dI cy a z k (lI lZ 1 r2.1) r2.2 r3 hc3 H.size) (cwV 1 hts g_y_X3_foldOn_X3_spend_V319 rfl rfl rfl hd_y_X3_spend ⟨Nat.le_of_ble_eq_true rfl, Nat.le_of_ble_eq_true rfl⟩) ⟨nb_blind, va_recv hK hP (ci := 3) (q0 := 18) rfl rfl, (kb_pre hK hG hP hD)⟩ rfl rfl hl.1 rfl (lv_room (Nat.le_of_ble_eq_true rfl)) dX3_foldOn_250 ⟨(Nat.le_trans (Nat.le_add_right _ _) (Nat.le_of_eq hc)), (Nat.le_trans (Nat.le_add_right _ _) (Nat.le_of_eq hs))⟩) hA hP hD hS (fun H locs hP hD hS => ?_)
          exact ih.2.2.2.2.2.2.2.2.2.2 z _ _ L r3.2 _ h hzk hc hs H locs ls hP hD hS (lv_sub hl [] rfl)
      · intro z cells slots L σ r h hzk hc hs H locs ls hP hD hS hl
        rw [f_X3_foldOn] at h
        obtain rfl := Option.some.inj h
        subst hc
        subst hs
        exact xr_v hx hb hr hK hzk hP hD hS hlocks dX3_foldOn_253
  exact (blk k0).1 z 0 0 L0 σ0 r0 h0 (zk_rf _ _) ((Nat.zero_add _).trans hmc) ((Nat.zero_add _).trans hms) s.heap [] ls hP hD hS hl
/-! X3_read -/
def f_X3_read : Nat → Nat → LV → CS → Option RS
  | 0, _, _, _ => none
  | k + 1, 0, L, σ => oP (sPr σ) (fun b1 => if ¬ (((((L.1 2)) + 1)) < 0 ∨ (sN σ (pR0 ((sKd σ b1)))) ≤ ((((L.1 2)) + 1)).toNatClampNeg) then (oP (sPr σ) (fun b3 => if ¬ (((((L.1 2)) + 2)) < 0 ∨ (sN σ (pR0 ((sKd σ b3)))) ≤ ((((L.1 2)) + 2)).toNatClampNeg) then (if ¬ (((L.1 1)) < 0 ∨ (sN (uI σ 1900 ((((((L.1 2)) + 3)) + ((σ.2.2.1 (pR0 ((sKd σ b3))) ((((L.1 2)) + 2)).toNatClampNeg))))) 20) ≤ ((L.1 1)).toNatClampNeg) then (ox (f_X3_push k 0 (lI lZ 1 (((uI σ 1900 ((((((L.1 2)) + 3)) + ((σ.2.2.1 (pR0 ((sKd σ b3))) ((((L.1 2)) + 2)).toNatClampNeg))))).2.2.1 20 ((L.1 1)).toNatClampNeg))) (uI σ 1900 ((((((L.1 2)) + 3)) + ((σ.2.2.1 (pR0 ((sKd σ b3))) ((((L.1 2)) + 2)).toNatClampNeg)))))) (fun r6 => f_X3_read k 1 (lI (lI (lI L 3 ((((σ.1 1902)) - ((σ.2.2.1 (pR0 ((sKd σ b1))) ((((L.1 2)) + 1)).toNatClampNeg))))) 4 ((σ.2.2.1 (pR0 ((sKd σ b3))) ((((L.1 2)) + 2)).toNatClampNeg))) 5 0) r6.2.1)) else none) else none)) else none)
  | k + 1, 1, L, σ => if ((L.1 4)) ≤ ((L.1 5)) then (f_X3_read k 2 L σ) else (if ((σ.1 1813)) = 0 then (ox (f_X3_makeRoom k 0 lZ σ) (fun r3 => oP (sPr r3.2.1) (fun b4 => if ¬ (((((((L.1 2)) + 3)) + ((L.1 5)))) < 0 ∨ (sN r3.2.1 (pR0 ((sKd r3.2.1 b4)))) ≤ ((((((L.1 2)) + 3)) + ((L.1 5)))).toNatClampNeg) then (if ¬ (((((r3.2.1.1 1902)) - 1)) < 0 ∨ (sN r3.2.1 20) ≤ ((((r3.2.1.1 1902)) - 1)).toNatClampNeg) then (if ¬ (((L.1 3)) < 0 ∨ (sN r3.2.1 20) ≤ ((L.1 3)).toNatClampNeg) then (if ¬ (((((L.1 3)) + 1)) < 0 ∨ (sN r3.2.1 20) ≤ ((((L.1 3)) + 1)).toNatClampNeg) then (op (y_X0_part k 0 (lI (lI (lI (lI lZ 1 ((r3.2.1.2.2.1 (pR0 ((sKd r3.2.1 b4))) ((((((L.1 2)) + 3)) + ((L.1 5)))).toNatClampNeg))) 2 ((r3.2.1.2.2.1 20 ((((r3.2.1.1 1902)) - 1)).toNatClampNeg))) 3 ((r3.2.1.2.2.1 20 ((L.1 3)).toNatClampNeg))) 4 ((r3.2.1.2.2.1 20 ((((L.1 3)) + 1)).toNatClampNeg))) r3.2.1) (fun r9 => op (y_X3_replace k 0 (lI lZ 1 r9.1) r9.2) (fun r10 => if ((r3.2.1.2.2.1 (pR0 ((sKd r3.2.1 b4))) ((((((L.1 2)) + 3)) + ((L.1 5)))).toNatClampNeg)) = 97 then (f_X3_read k 4 (lI (lI L 100 2) 101 ((L.1 3))) r10.2) else (f_X3_read k 3 (lI L 100 ((L.1 3))) r10.2)))) else none) else none) else none) else none))) else (f_X3_read k 2 L σ))
  | k + 1, 2, L, σ => some ((0, 0), σ, (0, 0))
  | k + 1, 3, L, σ => f_X3_read k 4 (lI (lI L 100 1) 101 ((L.1 100))) σ
  | k + 1, 4, L, σ => f_X3_read k 1 (lI (lI L 3 ((((L.1 101)) + ((L.1 100))))) 5 ((((L.1 5)) + 1))) σ
  | _ + 1, _ + 5, _, _ => none
def o_f_X3_read : List Cond := [.fieldLink RX3 14 "SetHouse$Machine" "run" "LSetHouse$Run;", .fieldLink RX3 58 "SetHouse$Machine" "program" "LSetHouse$Program;", .fieldLink RX3 18 "SetHouse$Machine" "stack" "[I", .methodLink RX3 322 yX3_push, .instanceMethod yX3_push, .selects RX3 yX3_push yX3_push, .initialized RX3, .fieldLink RX3 149 "SetHouse$Machine" "trouble" "I", .methodLink RX3 246 yX3_makeRoom, .instanceMethod yX3_makeRoom, .selects RX3 yX3_makeRoom yX3_makeRoom, .fieldLink RX3 47 "SetHouse$Machine" "algebra" "LSetHouse$Algebra;", .methodLink RX3 540 yX0_part, .instanceMethod yX0_part, .selects RX0 yX0_part yX0_part, .initialized RX0, .methodLink RX3 280 yX3_replace, .instanceMethod yX3_replace, .selects RX3 yX3_replace yX3_replace]
theorem o_f_X3_read_good : o_f_X3_read.all goodWord = true := by decide +kernel
def p_f_X3_read : List Cond := o_f_X3_read ++ ((.code yX3_push cX3_push 2 none :: p_f_X3_push) ++ ((.code yX3_makeRoom cX3_makeRoom 1 none :: p_f_X3_makeRoom) ++ ((.code yX0_part cX0_part 5 (some .int) :: p_y_X0_part) ++ ((.code yX3_replace cX3_replace 2 none :: p_y_X3_replace) ++ []))))
theorem p_f_X3_read_good : p_f_X3_read.all goodWord = true := nb_all2 o_f_X3_read_good (nb_all2 (nb_allc (by decide +kernel) p_f_X3_push_good) (nb_all2 (nb_allc (by decide +kernel) p_f_X3_makeRoom_good) (nb_all2 (nb_allc (by decide +kernel) p_y_X0_part_good) (nb_all2 (nb_allc (by decide +kernel) p_y_X3_replace_good) rfl))))
def w_f_X3_read : List Cond := .code yX3_read cX3_read 7 none :: (p_f_X3_read ++ fC)
theorem w_f_X3_read_good : w_f_X3_read.all goodWord = true := nb_allc (by decide +kernel) (nb_all2 p_f_X3_read_good fC_good)
theorem in_f_X3_read_X3 : ∀ w ∈ wsX30, w ∈ w_f_X3_read := fun _ h => List.mem_cons_of_mem _ (List.mem_append_right _ (List.mem_append_right _ (List.mem_append_right _ (List.mem_append_right _ (List.mem_append_left _ h)))))
theorem in_f_X3_read_X7 : ∀ w ∈ wsX70, w ∈ w_f_X3_read := fun _ h => List.mem_cons_of_mem _ (List.mem_append_right _ (List.mem_append_right _ (List.mem_append_right _ (List.mem_append_right _ (List.mem_append_right _ (List.mem_append_right _ (List.mem_append_right _ (List.mem_append_left _ h))))))))
theorem in_f_X3_read_X8 : ∀ w ∈ wsX80, w ∈ w_f_X3_read := fun _ h => List.mem_cons_of_mem _ (List.mem_append_right _ (List.mem_append_right _ (List.mem_append_right _ (List.mem_append_right _ (List.mem_append_right _ (List.mem_append_right _ (List.mem_append_right _ (List.mem_append_right _ (List.mem_append_left _ h)))))))))
theorem hd_f_X3_read : yX3_read.cls = RX3 ∧ yX3_read.cls ≠ "java/lang/invoke/MethodHandle" ∧ yX3_read.cls ≠ "java/lang/invoke/VarHandle" ∧ (parseMethodDescriptor yX3_read.desc).map (fun d => d.parameters.length) = some 2 := by decide +kernel
theorem gg_f_X3_read_X3_makeRoom : GoodIn w_f_X3_read w_f_X3_makeRoom := goodIn_sub (fun w h => (List.mem_cons.mp h).elim (fun e => (List.mem_cons_of_mem _ (List.mem_append_left _ (List.mem_append_right _ (List.mem_append_right _ (List.mem_append_left _ (List.mem_cons.mpr (Or.inl e)))))))) (fun h => (List.mem_append.mp h).elim (fun h => (List.mem_cons_of_mem _ (List.mem_append_left _ (List.mem_append_right _ (List.mem_append_right _ (List.mem_append_left _ (List.mem_cons_of_mem _ h))))))) (fun h => List.mem_cons_of_mem _ (List.mem_append_right _ h)))) w_f_X3_makeRoom_good
theorem g_f_X3_read_X3_makeRoom_V246 : GoodIn w_f_X3_read (wsV RX3 246 RX3 yX3_makeRoom w_f_X3_makeRoom) := goodIn_app (nb_g4 (List.mem_cons_of_mem _ (List.mem_append_left _ (List.mem_append_left _ (List.mem_of_getElem? (i := 8) rfl)))) (List.mem_cons_of_mem _ (List.mem_append_left _ (List.mem_append_left _ (List.mem_of_getElem? (i := 9) rfl)))) (List.mem_cons_of_mem _ (List.mem_append_left _ (List.mem_append_left _ (List.mem_of_getElem? (i := 10) rfl)))) (List.mem_cons_of_mem _ (List.mem_append_left _ (List.mem_append_left _ (List.mem_of_getElem? (i := 6) rfl)))) (by decide +kernel)) gg_f_X3_read_X3_makeRoom
theorem gg_f_X3_read_X3_push : GoodIn w_f_X3_read w_f_X3_push := goodIn_sub (fun w h => (List.mem_cons.mp h).elim (fun e => (List.mem_cons_of_mem _ (List.mem_append_left _ (List.mem_append_right _ (List.mem_append_left _ (List.mem_cons.mpr (Or.inl e))))))) (fun h => (List.mem_append.mp h).elim (fun h => (List.mem_cons_of_mem _ (List.mem_append_left _ (List.mem_append_right _ (List.mem_append_left _ (List.mem_cons_of_mem _ h)))))) (fun h => List.mem_cons_of_mem _ (List.mem_append_right _ h)))) w_f_X3_push_good
theorem g_f_X3_read_X3_push_V322 : GoodIn w_f_X3_read (wsV RX3 322 RX3 yX3_push w_f_X3_push) := goodIn_app (nb_g4 (List.mem_cons_of_mem _ (List.mem_append_left _ (List.mem_append_left _ (List.mem_of_getElem? (i := 3) rfl)))) (List.mem_cons_of_mem _ (List.mem_append_left _ (List.mem_append_left _ (List.mem_of_getElem? (i := 4) rfl)))) (List.mem_cons_of_mem _ (List.mem_append_left _ (List.mem_append_left _ (List.mem_of_getElem? (i := 5) rfl)))) (List.mem_cons_of_mem _ (List.mem_append_left _ (List.mem_append_left _ (List.mem_of_getElem? (i := 6) rfl)))) (by decide +kernel)) gg_f_X3_read_X3_push
theorem gg_f_X3_read_X0_part : GoodIn w_f_X3_read w_y_X0_part := goodIn_sub (fun w h => (List.mem_cons.mp h).elim (fun e => (List.mem_cons_of_mem _ (List.mem_append_left _ (List.mem_append_right _ (List.mem_append_right _ (List.mem_append_right _ (List.mem_append_left _ (List.mem_cons.mpr (Or.inl e))))))))) (fun h => (List.mem_append.mp h).elim (fun h => (List.mem_cons_of_mem _ (List.mem_append_left _ (List.mem_append_right _ (List.mem_append_right _ (List.mem_append_right _ (List.mem_append_left _ (List.mem_cons_of_mem _ h)))))))) (fun h => List.mem_cons_of_mem _ (List.mem_append_right _ h)))) w_y_X0_part_good
theorem g_y_X3_read_X0_part_V540 : GoodIn w_f_X3_read (wsV RX3 540 RX0 yX0_part w_y_X0_part) := goodIn_app (nb_g4 (List.mem_cons_of_mem _ (List.mem_append_left _ (List.mem_append_left _ (List.mem_of_getElem? (i := 12) rfl)))) (List.mem_cons_of_mem _ (List.mem_append_left _ (List.mem_append_left _ (List.mem_of_getElem? (i := 13) rfl)))) (List.mem_cons_of_mem _ (List.mem_append_left _ (List.mem_append_left _ (List.mem_of_getElem? (i := 14) rfl)))) (List.mem_cons_of_mem _ (List.mem_append_left _ (List.mem_append_left _ (List.mem_of_getElem? (i := 15) rfl)))) (by decide +kernel)) gg_f_X3_read_X0_part
theorem gg_f_X3_read_X3_replace : GoodIn w_f_X3_read w_y_X3_replace := goodIn_sub (fun w h => (List.mem_cons.mp h).elim (fun e => (List.mem_cons_of_mem _ (List.mem_append_left _ (List.mem_append_right _ (List.mem_append_right _ (List.mem_append_right _ (List.mem_append_right _ (List.mem_append_left _ (List.mem_cons.mpr (Or.inl e)))))))))) (fun h => (List.mem_append.mp h).elim (fun h => (List.mem_cons_of_mem _ (List.mem_append_left _ (List.mem_append_right _ (List.mem_append_right _ (List.mem_append_right _ (List.mem_append_right _ (List.mem_append_left _ (List.mem_cons_of_mem _ h))))))))) (fun h => List.mem_cons_of_mem _ (List.mem_append_right _ h)))) w_y_X3_replace_good
theorem g_y_X3_read_X3_replace_V280 : GoodIn w_f_X3_read (wsV RX3 280 RX3 yX3_replace w_y_X3_replace) := goodIn_app (nb_g4 (List.mem_cons_of_mem _ (List.mem_append_left _ (List.mem_append_left _ (List.mem_of_getElem? (i := 16) rfl)))) (List.mem_cons_of_mem _ (List.mem_append_left _ (List.mem_append_left _ (List.mem_of_getElem? (i := 17) rfl)))) (List.mem_cons_of_mem _ (List.mem_append_left _ (List.mem_append_left _ (List.mem_of_getElem? (i := 18) rfl)))) (List.mem_cons_of_mem _ (List.mem_append_left _ (List.mem_append_left _ (List.mem_of_getElem? (i := 6) rfl)))) (by decide +kernel)) gg_f_X3_read_X3_replace
set_option maxHeartbeats 40000000 in
set_option maxRecDepth 100000 in
theorem c_f_X3_read (l : Launch) (hl0 : l.stackTraces = false) (dC : Nat → ClassId) (dI : Nat → Nat → Nat) (cy : Nat → ClassId) (ek a : Nat → Nat) (k0 : Nat) (L0 : LV) (σ0 : CS) (r0 : RS) (h0 : f_X3_read k0 0 L0 σ0 = some r0) (z : Nat → Nat) (sz : Nat) : vx_Met l yX3_read w_f_X3_read ({ frames := 65, cells := r0.2.2.1, slots := r0.2.2.2, locals := 1814 }) (va_Pc [.ref (a 18), .int (L0.1 1), .int (L0.1 2)] (nInF (dC, dI) cy ek sz (vC cy a z σ0))) (xV dC dI cy a (va_A (vC cy a z σ0) sz) [1, 2, 3, 20] z r0) (xX dC dI cy a (va_A (vC cy a z σ0) sz) [1, 2, 3, 20] z r0) r0.2.2.1 r0.2.2.2 (va_A (vC cy a z σ0) sz) := by
  refine vx_ofW (cc := cX3_read) (maxL := 7) (ret := none) (by decide) rfl ?_
  intro p e s m args below meth c s₁ B hml hno hv
  obtain ⟨rfl, ⟨⟨hsz, hP, hK, hD0, hG⟩, hE⟩, hT⟩ := hv
  have hx := B.exec
  have hb := B.bytes
  have hr := B.returns
  have hts := atoms_spec (ws := w_f_X3_read) B.pre
  have hown : s.vm.findClass RX3 = some m.cls := findClass_of_methodNamed B.named
  have hlocks := B.notSynchronized
  subst hsz
  have hD := hD0.self (sz := s.heap.size)
  generalize hAe : va_A (vC cy a z σ0) s.heap.size = A at hD hE hT ⊢
  have hA : ∀ q : Nat, s.heap.size ≤ q → A q := fun q h => by rw [← hAe]; exact Or.inr h
  have hS : va_S A s.heap s.heap [] := va_S.rf
  have hl := lv_entry ([.ref (a 18), .int (L0.1 1), .int (L0.1 2)]) (n := 7) (Nat.le_of_ble_eq_true rfl)
  rw [lg_entry_eq]
  generalize (lg_sl ([.ref (a 18), .int (L0.1 1), .int (L0.1 2)]) ++ List.replicate (7 - (lg_sl ([.ref (a 18), .int (L0.1 1), .int (L0.1 2)])).length) Slot.unset).toArray = ls at hl ⊢
  have hl : lv_has ls 7 [(0, .ref (a 18)), (1, .int (L0.1 1)), (2, .int (L0.1 2))] := hl
  generalize hmc : r0.2.2.1 = mc
  generalize hms : r0.2.2.2 = ms
  have blk : ∀ k : Nat, (bX p l e (headSpec w_f_X3_read ({ frames := 65, cells := mc, slots := ms, locals := 1814 })).room s m #[.ref (a 18), .int (L0.1 1), .int (L0.1 2)] below meth c dC dI cy a A (fun r => vx_MQ below (xV dC dI cy a A [1, 2, 3, 20] z r) (xX dC dI cy a A [1, 2, 3, 20] z r) #[.ref (a 18), .int (L0.1 1), .int (L0.1 2)] s mc ms A) [1, 2, 3, 20] z mc ms 7 (f_X3_read k 0) (fun z L => [(0, .ref (a 18)), (1, .int (L.1 1)), (2, .int (L.1 2))]) 0 (fun z L => [])) ∧ (bX p l e (headSpec w_f_X3_read ({ frames := 65, cells := mc, slots := ms, locals := 1814 })).room s m #[.ref (a 18), .int (L0.1 1), .int (L0.1 2)] below meth c dC dI cy a A (fun r => vx_MQ below (xV dC dI cy a A [1, 2, 3, 20] z r) (xX dC dI cy a A [1, 2, 3, 20] z r) #[.ref (a 18), .int (L0.1 1), .int (L0.1 2)] s mc ms A) [1, 2, 3, 20] z mc ms 7 (f_X3_read k 1) (fun z L => [(0, .ref (a 18)), (2, .int (L.1 2)), (3, .int (L.1 3)), (4, .int (L.1 4)), (5, .int (L.1 5))]) 59 (fun z L => [])) ∧ (bX p l e (headSpec w_f_X3_read ({ frames := 65, cells := mc, slots := ms, locals := 1814 })).room s m #[.ref (a 18), .int (L0.1 1), .int (L0.1 2)] below meth c dC dI cy a A (fun r => vx_MQ below (xV dC dI cy a A [1, 2, 3, 20] z r) (xX dC dI cy a A [1, 2, 3, 20] z r) #[.ref (a 18), .int (L0.1 1), .int (L0.1 2)] s mc ms A) [1, 2, 3, 20] z mc ms 7 (f_X3_read k 2) (fun z L => []) 155 (fun z L => [])) ∧ (bX p l e (headSpec w_f_X3_read ({ frames := 65, cells := mc, slots := ms, locals := 1814 })).room s m #[.ref (a 18), .int (L0.1 1), .int (L0.1 2)] below meth c dC dI cy a A (fun r => vx_MQ below (xV dC dI cy a A [1, 2, 3, 20] z r) (xX dC dI cy a A [1, 2, 3, 20] z r) #[.ref (a 18), .int (L0.1 1), .int (L0.1 2)] s mc ms A) [1, 2, 3, 20] z mc ms 7 (f_X3_read k 3) (fun z L => [(0, .ref (a 18)), (2, .int (L.1 2)), (4, .int (L.1 4)), (5, .int (L.1 5))]) 146 (fun z L => [.int (L.1 100)])) ∧ (bX p l e (headSpec w_f_X3_read ({ frames := 65, cells := mc, slots := ms, locals := 1814 })).room s m #[.ref (a 18), .int (L0.1 1), .int (L0.1 2)] below meth c dC dI cy a A (fun r => vx_MQ below (xV dC dI cy a A [1, 2, 3, 20] z r) (xX dC dI cy a A [1, 2, 3, 20] z r) #[.ref (a 18), .int (L0.1 1), .int (L0.1 2)] s mc ms A) [1, 2, 3, 20] z mc ms 7 (f_X3_read k 4) (fun z L => [(0, .ref (a 18)), (2, .int (L.1 2)), (4, .int (L.1 4)), (5, .int (L.1 5))]) 147 (fun z L => [.int (L.1 100), .int (L.1 101)])) := by
    intro k
    induction k with
    | zero => exact ⟨fun z c1 c2 L σ r h => (by cases h), fun z c1 c2 L σ r h => (by cases h), fun z c1 c2 L σ r h => (by cases h), fun z c1 c2 L σ r h => (by cases h), fun z c1 c2 L σ r h => (by cases h)⟩
    | succ k ih =>
      refine ⟨?_, ?_, ?_, ?_, ?_⟩
      · intro z cells slots L σ r h hzk hc hs H locs ls hP hD hS hl
        rw [f_X3_read] at h
        refine lv_aload_n hx hb dX3_read_0 rfl (lv_at hl 0 rfl) ?_
        refine hg_18_5 hx hb hts in_f_X3_read_X3 hown hK hP (hts _ (List.mem_cons_of_mem _ (List.mem_append_left _ (List.mem_append_left _ (List.mem_of_getElem? (i := 0) rfl))))) dX3_read_1 ?_
        refine hg_19_2n hx hb hts in_f_X3_read_X8 hown hK hP (va_Nw.use rfl (hG.1 _ (List.mem_of_getElem? (i := 10) rfl))) dX3_read_4 ?_
        refine lv_aload_n hx hb dX3_read_7 rfl (lv_at hl 0 rfl) ?_
        obtain ⟨b1, hb1, h⟩ := oP_ex h
        refine hgq_18_6 hx hb hts in_f_X3_read_X3 hown hK hP (hts _ (List.mem_cons_of_mem _ (List.mem_append_left _ (List.mem_append_left _ (List.mem_of_getElem? (i := 1) rfl))))) hb1 dX3_read_8 ?_
        refine hg_P_0n b1 hx hb hts in_f_X3_read_X7 hown hK hP (va_Nw.use rfl (hG.1 _ (List.mem_of_getElem? (i := 66) rfl))) dX3_read_11 ?_
        refine lv_iload_n hx hb dX3_read_14 rfl (lv_at hl 2 rfl) ?_
        refine lv_iconst (v := 1) hx hb dX3_read_15 (by decide) ?_
        refine lv_iadd hx hb dX3_read_16 ?_
        obtain ⟨q2, h⟩ := kr_ite1 h
        refine hl_P0 ((sKd σ b1)) hx hb hK hP q2 dX3_read_17 ?_
        refine lv_isub hx hb dX3_read_18 ?_
        refine lv_istore_n (lv' := [(3, .int (((σ.1 1902)) - ((σ.2.2.1 (pR0 ((sKd σ b1))) ((((L.1 2)) + 1)).toNatClampNeg)))), (0, .ref (a 18)), (1, .int (L.1 1)), (2, .int (L.1 2))]) hx hb dX3_read_19 rfl hl (by decide) rfl (fun ls hl => ?_)
        refine lv_aload_n hx hb dX3_read_20 rfl (lv_at hl 1 rfl) ?_
        obtain ⟨b3, hb3, h⟩ := oP_ex h
        refine hgq_18_6 hx hb hts in_f_X3_read_X3 hown hK hP (hts _ (List.mem_cons_of_mem _ (List.mem_append_left _ (List.mem_append_left _ (List.mem_of_getElem? (i := 1) rfl))))) hb3 dX3_read_21 ?_
        refine hg_P_0n b3 hx hb hts in_f_X3_read_X7 hown hK hP (va_Nw.use rfl (hG.1 _ (List.mem_of_getElem? (i := 66) rfl))) dX3_read_24 ?_
        refine lv_iload_n hx hb dX3_read_27 rfl (lv_at hl 3 rfl) ?_
        refine lv_iconst (v := 2) hx hb dX3_read_28 (by decide) ?_
        refine lv_iadd hx hb dX3_read_29 ?_
        obtain ⟨q4, h⟩ := kr_ite1 h
        refine hl_P0 ((sKd σ b3)) hx hb hK hP q4 dX3_read_30 ?_
        refine lv_istore (lv' := [(4, .int (σ.2.2.1 (pR0 ((sKd σ b3))) ((((L.1 2)) + 2)).toNatClampNeg)), (3, .int (((σ.1 1902)) - ((σ.2.2.1 (pR0 ((sKd σ b1))) ((((L.1 2)) + 1)).toNatClampNeg)))), (0, .ref (a 18)), (1, .int (L.1 1)), (2, .int (L.1 2))]) hx hb dX3_read_31 hl (by decide) rfl (fun ls hl => ?_)
        refine lv_aload_n hx hb dX3_read_33 rfl (lv_at hl 2 rfl) ?_
        refine hg_18_5 hx hb hts in_f_X3_read_X3 hown hK hP (hts _ (List.mem_cons_of_mem _ (List.mem_append_left _ (List.mem_append_left _ (List.mem_of_getElem? (i := 0) rfl))))) dX3_read_34 ?_
        refine lv_iload_n hx hb dX3_read_37 rfl (lv_at hl 4 rfl) ?_
        refine lv_iconst (v := 3) hx hb dX3_read_38 (by decide) ?_
        refine lv_iadd hx hb dX3_read_39 ?_
        refine lv_iload hx hb dX3_read_40 (lv_at hl 0 rfl) ?_
        refine lv_iadd hx hb dX3_read_42 ?_
        refine hp_19_0n hx hb hts in_f_X3_read_X8 hown hK hP hD hS (va_Nw.use rfl (hG.1 _ (List.mem_of_getElem? (i := 8) rfl))) dX3_read_43 (fun H locs hP hD hS => ?_)
        refine lv_aload_n hx hb dX3_read_46 rfl (lv_at hl 2 rfl) ?_
        refine lv_aload_n hx hb dX3_read_47 rfl (lv_at hl 2 rfl) ?_
        refine hg_18_7 hx hb hts in_f_X3_read_X3 hown hK hP (hts _ (List.mem_cons_of_mem _ (List.mem_append_left _ (List.mem_append_left _ (List.mem_of_getElem? (i := 2) rfl))))) dX3_read_48 ?_
        refine lv_iload_n hx hb dX3_read_51 rfl (lv_at hl 3 rfl) ?_
        obtain ⟨q5, h⟩ := kr_ite1 h
        refine hl_20 hx hb hK hP q5 dX3_read_52 ?_
        obtain ⟨r6, hc6, hle6, h9⟩ := ox_ex h
        clear h
        refine kx_v (vx_runV (As := [.int ((uI σ 1900 ((((((L.1 2)) + 3)) + ((σ.2.2.1 (pR0 ((sKd σ b3))) ((((L.1 2)) + 2)).toNatClampNeg))))).2.2.1 20 ((L.1 1)).toNatClampNeg)]) (rest := []) ⟨hx, hb, hml, hown, hts⟩ (c_f_X3_push l hl0 dC dI cy ek a k (lI lZ 1 (((uI σ 1900 ((((((L.1 2)) + 3)) + ((σ.2.2.1 (pR0 ((sKd σ b3))) ((((L.1 2)) + 2)).toNatClampNeg))))).2.2.1 20 ((L.1 1)).toNatClampNeg))) (uI σ 1900 ((((((L.1 2)) + 3)) + ((σ.2.2.1 (pR0 ((sKd σ b3))) ((((L.1 2)) + 2)).toNatClampNeg))))) r6 hc6 z H.size) (cwV 1 hts g_f_X3_read_X3_push_V322 rfl rfl rfl hd_f_X3_push ⟨Nat.le_of_ble_eq_true rfl, Nat.le_of_ble_eq_true rfl⟩) ⟨nb_blindF, va_recv hK hP (ci := 3) (q0 := 18) rfl rfl, (kx_pre hK hG hE hT hA hP hD hS)⟩ rfl rfl hl.1 rfl (lv_room (Nat.le_of_ble_eq_true rfl)) dX3_read_53 ⟨Nat.le_trans (Nat.add_le_add_left hle6.1 _) (Nat.le_of_eq hc), Nat.le_trans (Nat.add_le_add_left hle6.2 _) (Nat.le_of_eq hs)⟩) hK hA hzk hP hD hS (by decide) hno hlocks ?_
        rcases h9 with ⟨h00, y6, hny6, hy⟩ | ⟨h00, hy⟩
        · subst hy
          have h := hny6
          refine Or.inl ⟨h00, fun z H locs hz6 hzk hP hD hS => ?_⟩
          replace hc := (Nat.add_assoc _ _ _).trans hc
          replace hs := (Nat.add_assoc _ _ _).trans hs
          refine lv_iconst (v := 0) hx hb dX3_read_56 (by decide) ?_
          refine lv_istore (lv' := [(5, .int 0), (4, .int (σ.2.2.1 (pR0 ((sKd σ b3))) ((((L.1 2)) + 2)).toNatClampNeg)), (3, .int (((σ.1 1902)) - ((σ.2.2.1 (pR0 ((sKd σ b1))) ((((L.1 2)) + 1)).toNatClampNeg)))), (0, .ref (a 18)), (1, .int (L.1 1)), (2, .int (L.1 2))]) hx hb dX3_read_57 hl (by decide) rfl (fun ls hl => ?_)
          exact ih.2.1 z _ _ (lI (lI (lI L 3 ((((σ.1 1902)) - ((σ.2.2.1 (pR0 ((sKd σ b1))) ((((L.1 2)) + 1)).toNatClampNeg))))) 4 ((σ.2.2.1 (pR0 ((sKd σ b3))) ((((L.1 2)) + 2)).toNatClampNeg))) 5 0) r6.2.1 _ h hzk hc hs H locs ls hP hD hS (lv_sub hl [3, 5, 2, 1, 0] rfl)
        · subst hy
          exact Or.inr ⟨h00, rfl, hc, hs⟩
      · intro z cells slots L σ r h hzk hc hs H locs ls hP hD hS hl
        rw [f_X3_read] at h
        refine lv_iload hx hb dX3_read_59 (lv_at hl 4 rfl) ?_
        refine lv_iload hx hb dX3_read_61 (lv_at hl 3 rfl) ?_
        refine lv_icmp_ge (tgt := 155) hx hb dX3_read_63 (by decide) (fun c1 => ?_) (fun c1 => ?_)
        · rw [if_pos c1] at h
          exact ih.2.2.1 z _ _ L σ _ h hzk hc hs H locs ls hP hD hS (lv_sub hl [] rfl)
        · rw [if_neg c1] at h
          refine lv_aload_n hx hb dX3_read_66 rfl (lv_at hl 0 rfl) ?_
          refine hg_18_13 hx hb hts in_f_X3_read_X3 hown hK hP (hts _ (List.mem_cons_of_mem _ (List.mem_append_left _ (List.mem_append_left _ (List.mem_of_getElem? (i := 7) rfl))))) dX3_read_67 ?_
          refine lv_if_ne (tgt := 155) hx hb dX3_read_70 (by decide) (fun c2 => ?_) (fun c2 => ?_)
          · rw [if_neg c2] at h
            exact ih.2.2.1 z _ _ L σ _ h hzk hc hs H locs ls hP hD hS (lv_sub hl [] rfl)
          · rw [if_pos c2] at h
            refine lv_aload_n hx hb dX3_read_73 rfl (lv_at hl 0 rfl) ?_
            obtain ⟨r3, hc3, hle3, h9⟩ := ox_ex h
            clear h
            refine kx_v (vx_runV (As := []) (rest := []) ⟨hx, hb, hml, hown, hts⟩ (c_f_X3_makeRoom l hl0 dC dI cy ek a k lZ σ r3 hc3 z H.size) (cwV 0 hts g_f_X3_read_X3_makeRoom_V246 rfl rfl rfl hd_f_X3_makeRoom ⟨Nat.le_of_ble_eq_true rfl, Nat.le_of_ble_eq_true rfl⟩) ⟨nb_blindF, va_recv hK hP (ci := 3) (q0 := 18) rfl rfl, (kx_pre hK hG hE hT hA hP hD hS)⟩ rfl rfl hl.1 rfl (lv_room (Nat.le_of_ble_eq_true rfl)) dX3_read_74 ⟨Nat.le_trans (Nat.add_le_add_left hle3.1 _) (Nat.le_of_eq hc), Nat.le_trans (Nat.add_le_add_left hle3.2 _) (Nat.le_of_eq hs)⟩) hK hA hzk hP hD hS (by decide) hno hlocks ?_
            rcases h9 with ⟨h00, y3, hny3, hy⟩ | ⟨h00, hy⟩
            · subst hy
              have h := hny3
              refine Or.inl ⟨h00, fun z H locs hz3 hzk hP hD hS => ?_⟩
              replace hc := (Nat.add_assoc _ _ _).trans hc
              replace hs := (Nat.add_assoc _ _ _).trans hs
              refine lv_aload_n hx hb dX3_read_77 rfl (lv_at hl 0 rfl) ?_
              obtain ⟨b4, hb4, h⟩ := oP_ex h
              refine hgq_18_6 hx hb hts in_f_X3_read_X3 hown hK hP (hts _ (List.mem_cons_of_mem _ (List.mem_append_left _ (List.mem_append_left _ (List.mem_of_getElem? (i := 1) rfl))))) hb4 dX3_read_78 ?_
              refine hg_P_0n b4 hx hb hts in_f_X3_read_X7 hown hK hP (va_Nw.use rfl (hG.1 _ (List.mem_of_getElem? (i := 66) rfl))) dX3_read_81 ?_
              refine lv_iload_n hx hb dX3_read_84 rfl (lv_at hl 1 rfl) ?_
              refine lv_iconst (v := 3) hx hb dX3_read_85 (by decide) ?_
              refine lv_iadd hx hb dX3_read_86 ?_
              refine lv_iload hx hb dX3_read_87 (lv_at hl 4 rfl) ?_
              refine lv_iadd hx hb dX3_read_89 ?_
              obtain ⟨q5, h⟩ := kr_ite1 h
              refine hl_P0 ((sKd r3.2.1 b4)) hx hb hK hP q5 dX3_read_90 ?_
              refine lv_istore (lv' := [(6, .int (r3.2.1.2.2.1 (pR0 ((sKd r3.2.1 b4))) ((((((L.1 2)) + 3)) + ((L.1 5)))).toNatClampNeg)), (0, .ref (a 18)), (2, .int (L.1 2)), (3, .int (L.1 3)), (4, .int (L.1 4)), (5, .int (L.1 5))]) hx hb dX3_read_91 hl (by decide) rfl (fun ls hl => ?_)
              refine lv_aload_n hx hb dX3_read_93 rfl (lv_at hl 1 rfl) ?_
              refine lv_aload_n hx hb dX3_read_94 rfl (lv_at hl 1 rfl) ?_
              refine hg_18_2 hx hb hts in_f_X3_read_X3 hown hK hP (hts _ (List.mem_cons_of_mem _ (List.mem_append_left _ (List.mem_append_left _ (List.mem_of_getElem? (i := 11) rfl))))) dX3_read_95 ?_
              refine lv_iload hx hb dX3_read_98 (lv_at hl 0 rfl) ?_
              refine lv_aload_n hx hb dX3_read_100 rfl (lv_at hl 1 rfl) ?_
              refine hg_18_7 hx hb hts in_f_X3_read_X3 hown hK hP (hts _ (List.mem_cons_of_mem _ (List.mem_append_left _ (List.mem_append_left _ (List.mem_of_getElem? (i := 2) rfl))))) dX3_read_101 ?_
              refine lv_aload_n hx hb dX3_read_104 rfl (lv_at hl 1 rfl) ?_
              refine hg_18_5 hx hb hts in_f_X3_read_X3 hown hK hP (hts _ (List.mem_cons_of_mem _ (List.mem_append_left _ (List.mem_append_left _ (List.mem_of_getElem? (i := 0) rfl))))) dX3_read_105 ?_
              refine hg_19_2n hx hb hts in_f_X3_read_X8 hown hK hP (va_Nw.use rfl (hG.1 _ (List.mem_of_getElem? (i := 10) rfl))) dX3_read_108 ?_
              refine lv_iconst (v := 1) hx hb dX3_read_111 (by decide) ?_
              refine lv_isub hx hb dX3_read_112 ?_
              obtain ⟨q6, h⟩ := kr_ite1 h
              refine hl_20 hx hb hK hP q6 dX3_read_113 ?_
              refine lv_aload_n hx hb dX3_read_114 rfl (lv_at hl 1 rfl) ?_
              refine hg_18_7 hx hb hts in_f_X3_read_X3 hown hK hP (hts _ (List.mem_cons_of_mem _ (List.mem_append_left _ (List.mem_append_left _ (List.mem_of_getElem? (i := 2) rfl))))) dX3_read_115 ?_
              refine lv_iload_n hx hb dX3_read_118 rfl (lv_at hl 3 rfl) ?_
              obtain ⟨q7, h⟩ := kr_ite1 h
              refine hl_20 hx hb hK hP q7 dX3_read_119 ?_
              refine lv_aload_n hx hb dX3_read_120 rfl (lv_at hl 1 rfl) ?_
              refine hg_18_7 hx hb hts in_f_X3_read_X3 hown hK hP (hts _ (List.mem_cons_of_mem _ (List.mem_append_left _ (List.mem_append_left _ (List.mem_of_getElem? (i := 2) rfl))))) dX3_read_121 ?_
              refine lv_iload_n hx hb dX3_read_124 rfl (lv_at hl 3 rfl) ?_
              refine lv_iconst (v := 1) hx hb dX3_read_125 (by decide) ?_
              refine lv_iadd hx hb dX3_read_126 ?_
              obtain ⟨q8, h⟩ := kr_ite1 h
              refine hl_20 hx hb hK hP q8 dX3_read_127 ?_
              obtain ⟨r9, hc9, h⟩ := op_ex h
              refine kc_i (va_runV (As := [.int (r3.2.1.2.2.1 (pR0 ((sKd r3.2.1 b4))) ((((((L.1 2)) + 3)) + ((L.1 5)))).toNatClampNeg), .int (r3.2.1.2.2.1 20 ((((r3.2.1.1 1902)) - 1)).toNatClampNeg), .int (r3.2.1.2.2.1 20 ((L.1 3)).toNatClampNeg), .int (r3.2.1.2.2.1 20 ((((L.1 3)) + 1)).toNatClampNeg)]) (rest := [.ref (a 18)]) ⟨hx, hb, hml, hown, hts⟩ (c_y_X0_part l dC dI cy a z k (lI (lI (lI (lI lZ 1 ((r3.2.1.2.2.1 (pR0 ((sKd r3.2.1 b4))) ((((((L.1 2)) + 3)) + ((L.1 5)))).toNatClampNeg))) 2 ((r3.2.1.2.2.1 20 ((((r3.2.1.1 1902)) - 1)).toNatClampNeg))) 3 ((r3.2.1.2.2.1 20 ((L.1 3)).toNatClampNeg))) 4 ((r3.2.1.2.2.1 20 ((((L.1 3)) + 1)).toNatClampNeg))) r3.2.1 r9 hc9 H.size) (cwV 4 hts g_y_X3_read_X0_part_V540 rfl rfl rfl hd_y_X0_part ⟨Nat.le_of_ble_eq_true rfl, Nat.le_of_ble_eq_true rfl⟩) ⟨nb_blind, va_recv hK hP (ci := 0) (q0 := 14) rfl rfl, (kb_pre hK hG hP hD)⟩ rfl rfl hl.1 rfl (lv_room (Nat.le_of_ble_eq_true rfl)) dX3_read_128 ⟨(Nat.le_trans (Nat.le_add_right _ _) (Nat.le_of_eq hc)), (Nat.le_trans (Nat.le_add_right _ _) (Nat.le_of_eq hs))⟩) hA hP hD hS (fun H locs hP hD hS => ?_)
              obtain ⟨r10, hc10, h⟩ := op_ex h
              refine kc_v (va_runV (As := [.int r9.1]) (rest := []) ⟨hx, hb, hml, hown, hts⟩ (c_y_X3_replace l dC dI cy a z k (lI lZ 1 r9.1) r9.2 r10 hc10 H.size) (cwV 1 hts g_y_X3_read_X3_replace_V280 rfl rfl rfl hd_y_X3_replace ⟨Nat.le_of_ble_eq_true rfl, Nat.le_of_ble_eq_true rfl⟩) ⟨nb_blind, va_recv hK hP (ci := 3) (q0 := 18) rfl rfl, (kb_pre hK hG hP hD)⟩ rfl rfl hl.1 rfl (lv_room (Nat.le_of_ble_eq_true rfl)) dX3_read_131 ⟨(Nat.le_trans (Nat.le_add_right _ _) (Nat.le_of_eq hc)), (Nat.le_trans (Nat.le_add_right _ _) (Nat.le_of_eq hs))⟩) hA hP hD hS (fun H locs hP hD hS => ?_)
              refine lv_iload_n hx hb dX3_read_134 rfl (lv_at hl 3 rfl) ?_
              refine lv_iload hx hb dX3_read_135 (lv_at hl 0 rfl) ?_
              refine lv_bipush (v := 97) hx hb dX3_read_137 (by decide) ?_
              refine lv_icmp_ne (tgt := 146) hx hb dX3_read_139 (by decide) (fun c11 => ?_) (fun c11 => ?_)
              · rw [if_neg c11] at h
                exact ih.2.2.2.1 z _ _ (lI L 100 ((L.1 3))) r10.2 _ h hzk hc hs H locs ls hP hD hS (lv_sub hl [1, 2, 4, 5] rfl)
              · rw [if_pos c11] at h
                refine lv_iconst (v := 2) hx hb dX3_read_142 (by decide) ?_
                refine lv_goto (tgt := 147) hx hb dX3_read_143 (by decide) ?_
                exact ih.2.2.2.2 z _ _ (lI (lI L 100 2) 101 ((L.1 3))) r10.2 _ h hzk hc hs H locs ls hP hD hS (lv_sub hl [1, 2, 4, 5] rfl)
            · subst hy
              exact Or.inr ⟨h00, rfl, hc, hs⟩
      · intro z cells slots L σ r h hzk hc hs H locs ls hP hD hS hl
        rw [f_X3_read] at h
        obtain rfl := Option.some.inj h
        subst hc
        subst hs
        exact xr_v hx hb hr hK hzk hP hD hS hlocks dX3_read_155
      · intro z cells slots L σ r h hzk hc hs H locs ls hP hD hS hl
        rw [f_X3_read] at h
        refine lv_iconst (v := 1) hx hb dX3_read_146 (by decide) ?_
        exact ih.2.2.2.2 z _ _ (lI (lI L 100 1) 101 ((L.1 100))) σ _ h hzk hc hs H locs ls hP hD hS (lv_sub hl [0, 1, 2, 3] rfl)
      · intro z cells slots L σ r h hzk hc hs H locs ls hP hD hS hl
        rw [f_X3_read] at h
        refine lv_iadd hx hb dX3_read_147 ?_
        refine lv_istore_n (lv' := [(3, .int (((L.1 101)) + ((L.1 100)))), (0, .ref (a 18)), (2, .int (L.1 2)), (4, .int (L.1 4)), (5, .int (L.1 5))]) hx hb dX3_read_148 rfl hl (by decide) rfl (fun ls hl => ?_)
        refine lv_iinc (v := ((L.1 5)) + 1) (lv' := [(5, .int (((L.1 5)) + 1)), (3, .int (((L.1 101)) + ((L.1 100)))), (0, .ref (a 18)), (2, .int (L.1 2)), (4, .int (L.1 4))]) hx hb dX3_read_149 hl (k := 4) rfl rfl (by decide) rfl (fun ls hl => ?_)
        refine lv_goto (tgt := 59) hx hb dX3_read_152 (by decide) ?_
        exact ih.2.1 z _ _ (lI (lI L 3 ((((L.1 101)) + ((L.1 100))))) 5 ((((L.1 5)) + 1))) σ _ h hzk hc hs H locs ls hP hD hS (lv_sub hl [2, 3, 1, 4, 0] rfl)
  exact (blk k0).1 z 0 0 L0 σ0 r0 h0 (zk_rf _ _) ((Nat.zero_add _).trans hmc) ((Nat.zero_add _).trans hms) s.heap [] ls hP hD hS hl
/-! X3_write -/
def f_X3_write : Nat → Nat → LV → CS → Option RS
  | 0, _, _, _ => none
  | k + 1, 0, L, σ => oP (sPr σ) (fun b1 => if ¬ (((((L.1 2)) + 1)) < 0 ∨ (sN σ (pR0 ((sKd σ b1)))) ≤ ((((L.1 2)) + 1)).toNatClampNeg) then (oP (sPr σ) (fun b3 => if ¬ (((((L.1 2)) + 2)) < 0 ∨ (sN σ (pR0 ((sKd σ b3)))) ≤ ((((L.1 2)) + 2)).toNatClampNeg) then (if ¬ (((L.1 1)) < 0 ∨ (sN (uI σ 1900 ((((((L.1 2)) + 3)) + ((σ.2.2.1 (pR0 ((sKd σ b3))) ((((L.1 2)) + 2)).toNatClampNeg))))) 20) ≤ ((L.1 1)).toNatClampNeg) then (ox (f_X3_push k 0 (lI lZ 1 (((uI σ 1900 ((((((L.1 2)) + 3)) + ((σ.2.2.1 (pR0 ((sKd σ b3))) ((((L.1 2)) + 2)).toNatClampNeg))))).2.2.1 20 ((L.1 1)).toNatClampNeg))) (uI σ 1900 ((((((L.1 2)) + 3)) + ((σ.2.2.1 (pR0 ((sKd σ b3))) ((((L.1 2)) + 2)).toNatClampNeg)))))) (fun r6 => f_X3_write k 1 (lI (lI (lI (lI L 4 ((σ.1 1902))) 5 ((((σ.1 1902)) - ((σ.2.2.1 (pR0 ((sKd σ b1))) ((((L.1 2)) + 1)).toNatClampNeg))))) 6 ((σ.2.2.1 (pR0 ((sKd σ b3))) ((((L.1 2)) + 2)).toNatClampNeg))) 7 0) r6.2.1)) else none) else none)) else none)
  | k + 1, 1, L, σ => if ((((L.1 6)) - 1)) ≤ ((L.1 7)) then (f_X3_write k 2 L σ) else (if ((σ.1 1813)) = 0 then (ox (f_X3_makeRoom k 0 lZ σ) (fun r3 => oP (sPr r3.2.1) (fun b4 => if ¬ (((((((L.1 2)) + 3)) + ((L.1 7)))) < 0 ∨ (sN r3.2.1 (pR0 ((sKd r3.2.1 b4)))) ≤ ((((((L.1 2)) + 3)) + ((L.1 7)))).toNatClampNeg) then (ox (f_X3_push k 0 (lI lZ 1 ((-2147483648))) r3.2.1) (fun r6 => if ¬ (((((r6.2.1.1 1902)) - 2)) < 0 ∨ (sN r6.2.1 20) ≤ ((((r6.2.1.1 1902)) - 2)).toNatClampNeg) then (if ¬ (((L.1 5)) < 0 ∨ (sN r6.2.1 20) ≤ ((L.1 5)).toNatClampNeg) then (if ¬ (((((L.1 5)) + 1)) < 0 ∨ (sN r6.2.1 20) ≤ ((((L.1 5)) + 1)).toNatClampNeg) then (op (y_X0_part k 0 (lI (lI (lI (lI lZ 1 ((r3.2.1.2.2.1 (pR0 ((sKd r3.2.1 b4))) ((((((L.1 2)) + 3)) + ((L.1 7)))).toNatClampNeg))) 2 ((r6.2.1.2.2.1 20 ((((r6.2.1.1 1902)) - 2)).toNatClampNeg))) 3 ((r6.2.1.2.2.1 20 ((L.1 5)).toNatClampNeg))) 4 ((r6.2.1.2.2.1 20 ((((L.1 5)) + 1)).toNatClampNeg))) r6.2.1) (fun r10 => op (y_X3_replace k 0 (lI lZ 1 r10.1) r10.2) (fun r11 => if ((r3.2.1.2.2.1 (pR0 ((sKd r3.2.1 b4))) ((((((L.1 2)) + 3)) + ((L.1 7)))).toNatClampNeg)) = 97 then (f_X3_write k 4 (lI (lI L 100 2) 101 ((L.1 5))) r11.2) else (f_X3_write k 3 (lI L 100 ((L.1 5))) r11.2)))) else none) else none) else none)) else none))) else (f_X3_write k 2 L σ))
  | k + 1, 2, L, σ => if ¬ (((((L.1 4)) - 1)) < 0 ∨ (sN σ 20) ≤ ((((L.1 4)) - 1)).toNatClampNeg) then (ox (f_X3_push k 0 (lI lZ 1 ((σ.2.2.1 20 ((((L.1 4)) - 1)).toNatClampNeg))) σ) (fun r2 => f_X3_write k 5 (lI L 7 ((((L.1 6)) - 1))) r2.2.1)) else none
  | k + 1, 3, L, σ => f_X3_write k 4 (lI (lI L 100 1) 101 ((L.1 100))) σ
  | k + 1, 4, L, σ => f_X3_write k 1 (lI (lI L 5 ((((L.1 101)) + ((L.1 100))))) 7 ((((L.1 7)) + 1))) σ
  | k + 1, 5, L, σ => if ((L.1 7)) < 0 then (f_X3_write k 6 L σ) else (if ((σ.1 1813)) = 0 then (ox (f_X3_makeRoom k 0 lZ σ) (fun r3 => oP (sPr r3.2.1) (fun b4 => if ¬ (((((((L.1 2)) + 3)) + ((L.1 7)))) < 0 ∨ (sN r3.2.1 (pR0 ((sKd r3.2.1 b4)))) ≤ ((((((L.1 2)) + 3)) + ((L.1 7)))).toNatClampNeg) then (if ((L.1 7)) = ((((L.1 6)) - 1)) then (f_X3_write k 8 (lI (lI L 8 ((r3.2.1.2.2.1 (pR0 ((sKd r3.2.1 b4))) ((((((L.1 2)) + 3)) + ((L.1 7)))).toNatClampNeg))) 100 ((L.1 5))) r3.2.1) else (f_X3_write k 7 (lI L 8 ((r3.2.1.2.2.1 (pR0 ((sKd r3.2.1 b4))) ((((((L.1 2)) + 3)) + ((L.1 7)))).toNatClampNeg))) r3.2.1)) else none))) else (f_X3_write k 6 L σ))
  | k + 1, 6, L, σ => if ((σ.1 1813)) = 0 then (if ¬ (((((σ.1 1902)) - 1)) < 0 ∨ (sN σ 20) ≤ ((((σ.1 1902)) - 1)).toNatClampNeg) then (op (y_X3_assign k 0 (lI (lI (lI lZ 1 ((L.1 1))) 2 ((σ.2.2.1 20 ((((σ.1 1902)) - 1)).toNatClampNeg))) 3 ((L.1 3))) σ) (fun r3 => f_X3_write k 9 L r3.2)) else none) else (f_X3_write k 9 L σ)
  | k + 1, 7, L, σ => if ((L.1 8)) = 97 then (f_X3_write k 11 (lI (lI L 100 2) 101 ((L.1 5))) σ) else (f_X3_write k 10 (lI L 100 ((L.1 5))) σ)
  | k + 1, 8, L, σ => if ¬ ((((((uI σ 1902 ((((σ.1 1902)) - 1))).1 1902)) - 1)) < 0 ∨ (sN (uI σ 1902 ((((σ.1 1902)) - 1))) 20) ≤ (((((uI σ 1902 ((((σ.1 1902)) - 1))).1 1902)) - 1)).toNatClampNeg) then (if ¬ (((L.1 100)) < 0 ∨ (sN (uI σ 1902 ((((σ.1 1902)) - 1))) 20) ≤ ((L.1 100)).toNatClampNeg) then (if ¬ (((((L.1 100)) + 1)) < 0 ∨ (sN (uI σ 1902 ((((σ.1 1902)) - 1))) 20) ≤ ((((L.1 100)) + 1)).toNatClampNeg) then (if ¬ ((((uI σ 1902 ((((σ.1 1902)) - 1))).1 1902)) < 0 ∨ (sN (uI σ 1902 ((((σ.1 1902)) - 1))) 20) ≤ (((uI σ 1902 ((((σ.1 1902)) - 1))).1 1902)).toNatClampNeg) then (op (y_X0_written k 0 (lI (lI (lI (lI (lI lZ 1 ((L.1 8))) 2 (((uI σ 1902 ((((σ.1 1902)) - 1))).2.2.1 20 (((((uI σ 1902 ((((σ.1 1902)) - 1))).1 1902)) - 1)).toNatClampNeg))) 3 (((uI σ 1902 ((((σ.1 1902)) - 1))).2.2.1 20 ((L.1 100)).toNatClampNeg))) 4 (((uI σ 1902 ((((σ.1 1902)) - 1))).2.2.1 20 ((((L.1 100)) + 1)).toNatClampNeg))) 5 (((uI σ 1902 ((((σ.1 1902)) - 1))).2.2.1 20 (((uI σ 1902 ((((σ.1 1902)) - 1))).1 1902)).toNatClampNeg))) (uI σ 1902 ((((σ.1 1902)) - 1)))) (fun r5 => op (y_X3_replace k 0 (lI lZ 1 r5.1) r5.2) (fun r6 => f_X3_write k 5 (lI (lI L 5 ((L.1 100))) 7 ((((L.1 7)) + (-1)))) r6.2))) else none) else none) else none) else none
  | k + 1, 9, L, σ => some ((0, 0), (uI σ 1902 ((L.1 4))), (0, 0))
  | k + 1, 10, L, σ => f_X3_write k 11 (lI (lI L 100 1) 101 ((L.1 100))) σ
  | k + 1, 11, L, σ => f_X3_write k 8 (lI L 100 ((((L.1 101)) - ((L.1 100))))) σ
  | _ + 1, _ + 12, _, _ => none
def o_f_X3_write : List Cond := [.fieldLink RX3 14 "SetHouse$Machine" "run" "LSetHouse$Run;", .fieldLink RX3 58 "SetHouse$Machine" "program" "LSetHouse$Program;", .fieldLink RX3 18 "SetHouse$Machine" "stack" "[I", .methodLink RX3 322 yX3_push, .instanceMethod yX3_push, .selects RX3 yX3_push yX3_push, .initialized RX3, .fieldLink RX3 149 "SetHouse$Machine" "trouble" "I", .methodLink RX3 246 yX3_makeRoom, .instanceMethod yX3_makeRoom, .selects RX3 yX3_makeRoom yX3_makeRoom, .constant RX3 136 (-2147483648), .fieldLink RX3 47 "SetHouse$Machine" "algebra" "LSetHouse$Algebra;", .methodLink RX3 540 yX0_part, .instanceMethod yX0_part, .selects RX0 yX0_part yX0_part, .initialized RX0, .methodLink RX3 280 yX3_replace, .instanceMethod yX3_replace, .selects RX3 yX3_replace yX3_replace, .methodLink RX3 504 yX3_assign, .instanceMethod yX3_assign, .selects RX3 yX3_assign yX3_assign, .methodLink RX3 547 yX0_written, .instanceMethod yX0_written, .selects RX0 yX0_written yX0_written]
theorem o_f_X3_write_good : o_f_X3_write.all goodWord = true := by decide +kernel
def p_f_X3_write : List Cond := o_f_X3_write ++ ((.code yX3_push cX3_push 2 none :: p_f_X3_push) ++ ((.code yX3_makeRoom cX3_makeRoom 1 none :: p_f_X3_makeRoom) ++ ((.code yX0_part cX0_part 5 (some .int) :: p_y_X0_part) ++ ((.code yX3_replace cX3_replace 2 none :: p_y_X3_replace) ++ ((.code yX3_assign cX3_assign 5 none :: p_y_X3_assign) ++ ((.code yX0_written cX0_written 6 (some .int) :: p_y_X0_written) ++ []))))))
theorem p_f_X3_write_good : p_f_X3_write.all goodWord = true := nb_all2 o_f_X3_write_good (nb_all2 (nb_allc (by decide +kernel) p_f_X3_push_good) (nb_all2 (nb_allc (by decide +kernel) p_f_X3_makeRoom_good) (nb_all2 (nb_allc (by decide +kernel) p_y_X0_part_good) (nb_all2 (nb_allc (by decide +kernel) p_y_X3_replace_good) (nb_all2 (nb_allc (by decide +kernel) p_y_X3_assign_good) (nb_all2 (nb_allc (by decide +kernel) p_y_X0_written_good) rfl))))))
def w_f_X3_write : List Cond := .code yX3_write cX3_write 9 none :: (p_f_X3_write ++ fC)
theorem w_f_X3_write_good : w_f_X3_write.all goodWord = true := nb_allc (by decide +kernel) (nb_all2 p_f_X3_write_good fC_good)
theorem in_f_X3_write_X3 : ∀ w ∈ wsX30, w ∈ w_f_X3_write := fun _ h => List.mem_cons_of_mem _ (List.mem_append_right _ (List.mem_append_right _ (List.mem_append_right _ (List.mem_append_right _ (List.mem_append_left _ h)))))
theorem in_f_X3_write_X7 : ∀ w ∈ wsX70, w ∈ w_f_X3_write := fun _ h => List.mem_cons_of_mem _ (List.mem_append_right _ (List.mem_append_right _ (List.mem_append_right _ (List.mem_append_right _ (List.mem_append_right _ (List.mem_append_right _ (List.mem_append_right _ (List.mem_append_left _ h))))))))
theorem in_f_X3_write_X8 : ∀ w ∈ wsX80, w ∈ w_f_X3_write := fun _ h => List.mem_cons_of_mem _ (List.mem_append_right _ (List.mem_append_right _ (List.mem_append_right _ (List.mem_append_right _ (List.mem_append_right _ (List.mem_append_right _ (List.mem_append_right _ (List.mem_append_right _ (List.mem_append_left _ h)))))))))
theorem hd_f_X3_write : yX3_write.cls = RX3 ∧ yX3_write.cls ≠ "java/lang/invoke/MethodHandle" ∧ yX3_write.cls ≠ "java/lang/invoke/VarHandle" ∧ (parseMethodDescriptor yX3_write.desc).map (fun d => d.parameters.length) = some 3 := by decide +kernel
theorem gg_f_X3_write_X3_makeRoom : GoodIn w_f_X3_write w_f_X3_makeRoom := goodIn_sub (fun w h => (List.mem_cons.mp h).elim (fun e => (List.mem_cons_of_mem _ (List.mem_append_left _ (List.mem_append_right _ (List.mem_append_right _ (List.mem_append_left _ (List.mem_cons.mpr (Or.inl e)))))))) (fun h => (List.mem_append.mp h).elim (fun h => (List.mem_cons_of_mem _ (List.mem_append_left _ (List.mem_append_right _ (List.mem_append_right _ (List.mem_append_left _ (List.mem_cons_of_mem _ h))))))) (fun h => List.mem_cons_of_mem _ (List.mem_append_right _ h)))) w_f_X3_makeRoom_good
theorem g_f_X3_write_X3_makeRoom_V246 : GoodIn w_f_X3_write (wsV RX3 246 RX3 yX3_makeRoom w_f_X3_makeRoom) := goodIn_app (nb_g4 (List.mem_cons_of_mem _ (List.mem_append_left _ (List.mem_append_left _ (List.mem_of_getElem? (i := 8) rfl)))) (List.mem_cons_of_mem _ (List.mem_append_left _ (List.mem_append_left _ (List.mem_of_getElem? (i := 9) rfl)))) (List.mem_cons_of_mem _ (List.mem_append_left _ (List.mem_append_left _ (List.mem_of_getElem? (i := 10) rfl)))) (List.mem_cons_of_mem _ (List.mem_append_left _ (List.mem_append_left _ (List.mem_of_getElem? (i := 6) rfl)))) (by decide +kernel)) gg_f_X3_write_X3_makeRoom
theorem gg_f_X3_write_X3_push : GoodIn w_f_X3_write w_f_X3_push := goodIn_sub (fun w h => (List.mem_cons.mp h).elim (fun e => (List.mem_cons_of_mem _ (List.mem_append_left _ (List.mem_append_right _ (List.mem_append_left _ (List.mem_cons.mpr (Or.inl e))))))) (fun h => (List.mem_append.mp h).elim (fun h => (List.mem_cons_of_mem _ (List.mem_append_left _ (List.mem_append_right _ (List.mem_append_left _ (List.mem_cons_of_mem _ h)))))) (fun h => List.mem_cons_of_mem _ (List.mem_append_right _ h)))) w_f_X3_push_good
theorem g_f_X3_write_X3_push_V322 : GoodIn w_f_X3_write (wsV RX3 322 RX3 yX3_push w_f_X3_push) := goodIn_app (nb_g4 (List.mem_cons_of_mem _ (List.mem_append_left _ (List.mem_append_left _ (List.mem_of_getElem? (i := 3) rfl)))) (List.mem_cons_of_mem _ (List.mem_append_left _ (List.mem_append_left _ (List.mem_of_getElem? (i := 4) rfl)))) (List.mem_cons_of_mem _ (List.mem_append_left _ (List.mem_append_left _ (List.mem_of_getElem? (i := 5) rfl)))) (List.mem_cons_of_mem _ (List.mem_append_left _ (List.mem_append_left _ (List.mem_of_getElem? (i := 6) rfl)))) (by decide +kernel)) gg_f_X3_write_X3_push
theorem gg_f_X3_write_X0_part : GoodIn w_f_X3_write w_y_X0_part := goodIn_sub (fun w h => (List.mem_cons.mp h).elim (fun e => (List.mem_cons_of_mem _ (List.mem_append_left _ (List.mem_append_right _ (List.mem_append_right _ (List.mem_append_right _ (List.mem_append_left _ (List.mem_cons.mpr (Or.inl e))))))))) (fun h => (List.mem_append.mp h).elim (fun h => (List.mem_cons_of_mem _ (List.mem_append_left _ (List.mem_append_right _ (List.mem_append_right _ (List.mem_append_right _ (List.mem_append_left _ (List.mem_cons_of_mem _ h)))))))) (fun h => List.mem_cons_of_mem _ (List.mem_append_right _ h)))) w_y_X0_part_good
theorem g_y_X3_write_X0_part_V540 : GoodIn w_f_X3_write (wsV RX3 540 RX0 yX0_part w_y_X0_part) := goodIn_app (nb_g4 (List.mem_cons_of_mem _ (List.mem_append_left _ (List.mem_append_left _ (List.mem_of_getElem? (i := 13) rfl)))) (List.mem_cons_of_mem _ (List.mem_append_left _ (List.mem_append_left _ (List.mem_of_getElem? (i := 14) rfl)))) (List.mem_cons_of_mem _ (List.mem_append_left _ (List.mem_append_left _ (List.mem_of_getElem? (i := 15) rfl)))) (List.mem_cons_of_mem _ (List.mem_append_left _ (List.mem_append_left _ (List.mem_of_getElem? (i := 16) rfl)))) (by decide +kernel)) gg_f_X3_write_X0_part
theorem gg_f_X3_write_X0_written : GoodIn w_f_X3_write w_y_X0_written := goodIn_sub (fun w h => (List.mem_cons.mp h).elim (fun e => (List.mem_cons_of_mem _ (List.mem_append_left _ (List.mem_append_right _ (List.mem_append_right _ (List.mem_append_right _ (List.mem_append_right _ (List.mem_append_right _ (List.mem_append_right _ (List.mem_append_left _ (List.mem_cons.mpr (Or.inl e)))))))))))) (fun h => (List.mem_append.mp h).elim (fun h => (List.mem_cons_of_mem _ (List.mem_append_left _ (List.mem_append_right _ (List.mem_append_right _ (List.mem_append_right _ (List.mem_append_right _ (List.mem_append_right _ (List.mem_append_right _ (List.mem_append_left _ (List.mem_cons_of_mem _ h))))))))))) (fun h => List.mem_cons_of_mem _ (List.mem_append_right _ h)))) w_y_X0_written_good
theorem g_y_X3_write_X0_written_V547 : GoodIn w_f_X3_write (wsV RX3 547 RX0 yX0_written w_y_X0_written) := goodIn_app (nb_g4 (List.mem_cons_of_mem _ (List.mem_append_left _ (List.mem_append_left _ (List.mem_of_getElem? (i := 23) rfl)))) (List.mem_cons_of_mem _ (List.mem_append_left _ (List.mem_append_left _ (List.mem_of_getElem? (i := 24) rfl)))) (List.mem_cons_of_mem _ (List.mem_append_left _ (List.mem_append_left _ (List.mem_of_getElem? (i := 25) rfl)))) (List.mem_cons_of_mem _ (List.mem_append_left _ (List.mem_append_left _ (List.mem_of_getElem? (i := 16) rfl)))) (by decide +kernel)) gg_f_X3_write_X0_written
theorem gg_f_X3_write_X3_assign : GoodIn w_f_X3_write w_y_X3_assign := goodIn_sub (fun w h => (List.mem_cons.mp h).elim (fun e => (List.mem_cons_of_mem _ (List.mem_append_left _ (List.mem_append_right _ (List.mem_append_right _ (List.mem_append_right _ (List.mem_append_right _ (List.mem_append_right _ (List.mem_append_left _ (List.mem_cons.mpr (Or.inl e))))))))))) (fun h => (List.mem_append.mp h).elim (fun h => (List.mem_cons_of_mem _ (List.mem_append_left _ (List.mem_append_right _ (List.mem_append_right _ (List.mem_append_right _ (List.mem_append_right _ (List.mem_append_right _ (List.mem_append_left _ (List.mem_cons_of_mem _ h)))))))))) (fun h => List.mem_cons_of_mem _ (List.mem_append_right _ h)))) w_y_X3_assign_good
theorem g_y_X3_write_X3_assign_V504 : GoodIn w_f_X3_write (wsV RX3 504 RX3 yX3_assign w_y_X3_assign) := goodIn_app (nb_g4 (List.mem_cons_of_mem _ (List.mem_append_left _ (List.mem_append_left _ (List.mem_of_getElem? (i := 20) rfl)))) (List.mem_cons_of_mem _ (List.mem_append_left _ (List.mem_append_left _ (List.mem_of_getElem? (i := 21) rfl)))) (List.mem_cons_of_mem _ (List.mem_append_left _ (List.mem_append_left _ (List.mem_of_getElem? (i := 22) rfl)))) (List.mem_cons_of_mem _ (List.mem_append_left _ (List.mem_append_left _ (List.mem_of_getElem? (i := 6) rfl)))) (by decide +kernel)) gg_f_X3_write_X3_assign
theorem gg_f_X3_write_X3_replace : GoodIn w_f_X3_write w_y_X3_replace := goodIn_sub (fun w h => (List.mem_cons.mp h).elim (fun e => (List.mem_cons_of_mem _ (List.mem_append_left _ (List.mem_append_right _ (List.mem_append_right _ (List.mem_append_right _ (List.mem_append_right _ (List.mem_append_left _ (List.mem_cons.mpr (Or.inl e)))))))))) (fun h => (List.mem_append.mp h).elim (fun h => (List.mem_cons_of_mem _ (List.mem_append_left _ (List.mem_append_right _ (List.mem_append_right _ (List.mem_append_right _ (List.mem_append_right _ (List.mem_append_left _ (List.mem_cons_of_mem _ h))))))))) (fun h => List.mem_cons_of_mem _ (List.mem_append_right _ h)))) w_y_X3_replace_good
theorem g_y_X3_write_X3_replace_V280 : GoodIn w_f_X3_write (wsV RX3 280 RX3 yX3_replace w_y_X3_replace) := goodIn_app (nb_g4 (List.mem_cons_of_mem _ (List.mem_append_left _ (List.mem_append_left _ (List.mem_of_getElem? (i := 17) rfl)))) (List.mem_cons_of_mem _ (List.mem_append_left _ (List.mem_append_left _ (List.mem_of_getElem? (i := 18) rfl)))) (List.mem_cons_of_mem _ (List.mem_append_left _ (List.mem_append_left _ (List.mem_of_getElem? (i := 19) rfl)))) (List.mem_cons_of_mem _ (List.mem_append_left _ (List.mem_append_left _ (List.mem_of_getElem? (i := 6) rfl)))) (by decide +kernel)) gg_f_X3_write_X3_replace
set_option maxHeartbeats 40000000 in
set_option maxRecDepth 100000 in
theorem c_f_X3_write (l : Launch) (hl0 : l.stackTraces = false) (dC : Nat → ClassId) (dI : Nat → Nat → Nat) (cy : Nat → ClassId) (ek a : Nat → Nat) (k0 : Nat) (L0 : LV) (σ0 : CS) (r0 : RS) (h0 : f_X3_write k0 0 L0 σ0 = some r0) (z : Nat → Nat) (sz : Nat) : vx_Met l yX3_write w_f_X3_write ({ frames := 65, cells := r0.2.2.1, slots := r0.2.2.2, locals := 1817 }) (va_Pc [.ref (a 18), .int (L0.1 1), .int (L0.1 2), .int (L0.1 3)] (nInF (dC, dI) cy ek sz (vC cy a z σ0))) (xV dC dI cy a (va_A (vC cy a z σ0) sz) [1, 2, 3, 20] z r0) (xX dC dI cy a (va_A (vC cy a z σ0) sz) [1, 2, 3, 20] z r0) r0.2.2.1 r0.2.2.2 (va_A (vC cy a z σ0) sz) := by
  refine vx_ofW (cc := cX3_write) (maxL := 9) (ret := none) (by decide) rfl ?_
  intro p e s m args below meth c s₁ B hml hno hv
  obtain ⟨rfl, ⟨⟨hsz, hP, hK, hD0, hG⟩, hE⟩, hT⟩ := hv
  have hx := B.exec
  have hb := B.bytes
  have hr := B.returns
  have hts := atoms_spec (ws := w_f_X3_write) B.pre
  have hown : s.vm.findClass RX3 = some m.cls := findClass_of_methodNamed B.named
  have hlocks := B.notSynchronized
  subst hsz
  have hD := hD0.self (sz := s.heap.size)
  generalize hAe : va_A (vC cy a z σ0) s.heap.size = A at hD hE hT ⊢
  have hA : ∀ q : Nat, s.heap.size ≤ q → A q := fun q h => by rw [← hAe]; exact Or.inr h
  have hS : va_S A s.heap s.heap [] := va_S.rf
  have hl := lv_entry ([.ref (a 18), .int (L0.1 1), .int (L0.1 2), .int (L0.1 3)]) (n := 9) (Nat.le_of_ble_eq_true rfl)
  rw [lg_entry_eq]
  generalize (lg_sl ([.ref (a 18), .int (L0.1 1), .int (L0.1 2), .int (L0.1 3)]) ++ List.replicate (9 - (lg_sl ([.ref (a 18), .int (L0.1 1), .int (L0.1 2), .int (L0.1 3)])).length) Slot.unset).toArray = ls at hl ⊢
  have hl : lv_has ls 9 [(0, .ref (a 18)), (1, .int (L0.1 1)), (2, .int (L0.1 2)), (3, .int (L0.1 3))] := hl
  generalize hmc : r0.2.2.1 = mc
  generalize hms : r0.2.2.2 = ms
  have blk : ∀ k : Nat, (bX p l e (headSpec w_f_X3_write ({ frames := 65, cells := mc, slots := ms, locals := 1817 })).room s m #[.ref (a 18), .int (L0.1 1), .int (L0.1 2), .int (L0.1 3)] below meth c dC dI cy a A (fun r => vx_MQ below (xV dC dI cy a A [1, 2, 3, 20] z r) (xX dC dI cy a A [1, 2, 3, 20] z r) #[.ref (a 18), .int (L0.1 1), .int (L0.1 2), .int (L0.1 3)] s mc ms A) [1, 2, 3, 20] z mc ms 9 (f_X3_write k 0) (fun z L => [(0, .ref (a 18)), (1, .int (L.1 1)), (2, .int (L.1 2)), (3, .int (L.1 3))]) 0 (fun z L => [])) ∧ (bX p l e (headSpec w_f_X3_write ({ frames := 65, cells := mc, slots := ms, locals := 1817 })).room s m #[.ref (a 18), .int (L0.1 1), .int (L0.1 2), .int (L0.1 3)] below meth c dC dI cy a A (fun r => vx_MQ below (xV dC dI cy a A [1, 2, 3, 20] z r) (xX dC dI cy a A [1, 2, 3, 20] z r) #[.ref (a 18), .int (L0.1 1), .int (L0.1 2), .int (L0.1 3)] s mc ms A) [1, 2, 3, 20] z mc ms 9 (f_X3_write k 1) (fun z L => [(0, .ref (a 18)), (1, .int (L.1 1)), (2, .int (L.1 2)), (3, .int (L.1 3)), (4, .int (L.1 4)), (5, .int (L.1 5)), (6, .int (L.1 6)), (7, .int (L.1 7))]) 64 (fun z L => [])) ∧ (bX p l e (headSpec w_f_X3_write ({ frames := 65, cells := mc, slots := ms, locals := 1817 })).room s m #[.ref (a 18), .int (L0.1 1), .int (L0.1 2), .int (L0.1 3)] below meth c dC dI cy a A (fun r => vx_MQ below (xV dC dI cy a A [1, 2, 3, 20] z r) (xX dC dI cy a A [1, 2, 3, 20] z r) #[.ref (a 18), .int (L0.1 1), .int (L0.1 2), .int (L0.1 3)] s mc ms A) [1, 2, 3, 20] z mc ms 9 (f_X3_write k 2) (fun z L => [(0, .ref (a 18)), (1, .int (L.1 1)), (2, .int (L.1 2)), (3, .int (L.1 3)), (4, .int (L.1 4)), (5, .int (L.1 5)), (6, .int (L.1 6))]) 172 (fun z L => [])) ∧ (bX p l e (headSpec w_f_X3_write ({ frames := 65, cells := mc, slots := ms, locals := 1817 })).room s m #[.ref (a 18), .int (L0.1 1), .int (L0.1 2), .int (L0.1 3)] below meth c dC dI cy a A (fun r => vx_MQ below (xV dC dI cy a A [1, 2, 3, 20] z r) (xX dC dI cy a A [1, 2, 3, 20] z r) #[.ref (a 18), .int (L0.1 1), .int (L0.1 2), .int (L0.1 3)] s mc ms A) [1, 2, 3, 20] z mc ms 9 (f_X3_write k 3) (fun z L => [(0, .ref (a 18)), (1, .int (L.1 1)), (2, .int (L.1 2)), (3, .int (L.1 3)), (4, .int (L.1 4)), (6, .int (L.1 6)), (7, .int (L.1 7))]) 162 (fun z L => [.int (L.1 100)])) ∧ (bX p l e (headSpec w_f_X3_write ({ frames := 65, cells := mc, slots := ms, locals := 1817 })).room s m #[.ref (a 18), .int (L0.1 1), .int (L0.1 2), .int (L0.1 3)] below meth c dC dI cy a A (fun r => vx_MQ below (xV dC dI cy a A [1, 2, 3, 20] z r) (xX dC dI cy a A [1, 2, 3, 20] z r) #[.ref (a 18), .int (L0.1 1), .int (L0.1 2), .int (L0.1 3)] s mc ms A) [1, 2, 3, 20] z mc ms 9 (f_X3_write k 4) (fun z L => [(0, .ref (a 18)), (1, .int (L.1 1)), (2, .int (L.1 2)), (3, .int (L.1 3)), (4, .int (L.1 4)), (6, .int (L.1 6)), (7, .int (L.1 7))]) 163 (fun z L => [.int (L.1 100), .int (L.1 101)])) ∧ (bX p l e (headSpec w_f_X3_write ({ frames := 65, cells := mc, slots := ms, locals := 1817 })).room s m #[.ref (a 18), .int (L0.1 1), .int (L0.1 2), .int (L0.1 3)] below meth c dC dI cy a A (fun r => vx_MQ below (xV dC dI cy a A [1, 2, 3, 20] z r) (xX dC dI cy a A [1, 2, 3, 20] z r) #[.ref (a 18), .int (L0.1 1), .int (L0.1 2), .int (L0.1 3)] s mc ms A) [1, 2, 3, 20] z mc ms 9 (f_X3_write k 5) (fun z L => [(0, .ref (a 18)), (1, .int (L.1 1)), (2, .int (L.1 2)), (3, .int (L.1 3)), (4, .int (L.1 4)), (5, .int (L.1 5)), (6, .int (L.1 6)), (7, .int (L.1 7))]) 191 (fun z L => [])) ∧ (bX p l e (headSpec w_f_X3_write ({ frames := 65, cells := mc, slots := ms, locals := 1817 })).room s m #[.ref (a 18), .int (L0.1 1), .int (L0.1 2), .int (L0.1 3)] below meth c dC dI cy a A (fun r => vx_MQ below (xV dC dI cy a A [1, 2, 3, 20] z r) (xX dC dI cy a A [1, 2, 3, 20] z r) #[.ref (a 18), .int (L0.1 1), .int (L0.1 2), .int (L0.1 3)] s mc ms A) [1, 2, 3, 20] z mc ms 9 (f_X3_write k 6) (fun z L => [(0, .ref (a 18)), (1, .int (L.1 1)), (3, .int (L.1 3)), (4, .int (L.1 4))]) 328 (fun z L => [])) ∧ (bX p l e (headSpec w_f_X3_write ({ frames := 65, cells := mc, slots := ms, locals := 1817 })).room s m #[.ref (a 18), .int (L0.1 1), .int (L0.1 2), .int (L0.1 3)] below meth c dC dI cy a A (fun r => vx_MQ below (xV dC dI cy a A [1, 2, 3, 20] z r) (xX dC dI cy a A [1, 2, 3, 20] z r) #[.ref (a 18), .int (L0.1 1), .int (L0.1 2), .int (L0.1 3)] s mc ms A) [1, 2, 3, 20] z mc ms 9 (f_X3_write k 7) (fun z L => [(0, .ref (a 18)), (1, .int (L.1 1)), (2, .int (L.1 2)), (3, .int (L.1 3)), (4, .int (L.1 4)), (5, .int (L.1 5)), (6, .int (L.1 6)), (7, .int (L.1 7)), (8, .int (L.1 8))]) 237 (fun z L => [])) ∧ (bX p l e (headSpec w_f_X3_write ({ frames := 65, cells := mc, slots := ms, locals := 1817 })).room s m #[.ref (a 18), .int (L0.1 1), .int (L0.1 2), .int (L0.1 3)] below meth c dC dI cy a A (fun r => vx_MQ below (xV dC dI cy a A [1, 2, 3, 20] z r) (xX dC dI cy a A [1, 2, 3, 20] z r) #[.ref (a 18), .int (L0.1 1), .int (L0.1 2), .int (L0.1 3)] s mc ms A) [1, 2, 3, 20] z mc ms 9 (f_X3_write k 8) (fun z L => [(0, .ref (a 18)), (1, .int (L.1 1)), (2, .int (L.1 2)), (3, .int (L.1 3)), (4, .int (L.1 4)), (6, .int (L.1 6)), (7, .int (L.1 7)), (8, .int (L.1 8))]) 252 (fun z L => [.int (L.1 100)])) ∧ (bX p l e (headSpec w_f_X3_write ({ frames := 65, cells := mc, slots := ms, locals := 1817 })).room s m #[.ref (a 18), .int (L0.1 1), .int (L0.1 2), .int (L0.1 3)] below meth c dC dI cy a A (fun r => vx_MQ below (xV dC dI cy a A [1, 2, 3, 20] z r) (xX dC dI cy a A [1, 2, 3, 20] z r) #[.ref (a 18), .int (L0.1 1), .int (L0.1 2), .int (L0.1 3)] s mc ms A) [1, 2, 3, 20] z mc ms 9 (f_X3_write k 9) (fun z L => [(0, .ref (a 18)), (4, .int (L.1 4))]) 355 (fun z L => [])) ∧ (bX p l e (headSpec w_f_X3_write ({ frames := 65, cells := mc, slots := ms, locals := 1817 })).room s m #[.ref (a 18), .int (L0.1 1), .int (L0.1 2), .int (L0.1 3)] below meth c dC dI cy a A (fun r => vx_MQ below (xV dC dI cy a A [1, 2, 3, 20] z r) (xX dC dI cy a A [1, 2, 3, 20] z r) #[.ref (a 18), .int (L0.1 1), .int (L0.1 2), .int (L0.1 3)] s mc ms A) [1, 2, 3, 20] z mc ms 9 (f_X3_write k 10) (fun z L => [(0, .ref (a 18)), (1, .int (L.1 1)), (2, .int (L.1 2)), (3, .int (L.1 3)), (4, .int (L.1 4)), (6, .int (L.1 6)), (7, .int (L.1 7)), (8, .int (L.1 8))]) 250 (fun z L => [.int (L.1 100)])) ∧ (bX p l e (headSpec w_f_X3_write ({ frames := 65, cells := mc, slots := ms, locals := 1817 })).room s m #[.ref (a 18), .int (L0.1 1), .int (L0.1 2), .int (L0.1 3)] below meth c dC dI cy a A (fun r => vx_MQ below (xV dC dI cy a A [1, 2, 3, 20] z r) (xX dC dI cy a A [1, 2, 3, 20] z r) #[.ref (a 18), .int (L0.1 1), .int (L0.1 2), .int (L0.1 3)] s mc ms A) [1, 2, 3, 20] z mc ms 9 (f_X3_write k 11) (fun z L => [(0, .ref (a 18)), (1, .int (L.1 1)), (2, .int (L.1 2)), (3, .int (L.1 3)), (4, .int (L.1 4)), (6, .int (L.1 6)), (7, .int (L.1 7)), (8, .int (L.1 8))]) 251 (fun z L => [.int (L.1 100), .int (L.1 101)])) := by
    intro k
    induction k with
    | zero => exact ⟨fun z c1 c2 L σ r h => (by cases h), fun z c1 c2 L σ r h => (by cases h), fun z c1 c2 L σ r h => (by cases h), fun z c1 c2 L σ r h => (by cases h), fun z c1 c2 L σ r h => (by cases h), fun z c1 c2 L σ r h => (by cases h), fun z c1 c2 L σ r h => (by cases h), fun z c1 c2 L σ r h => (by cases h), fun z c1 c2 L σ r h => (by cases h), fun z c1 c2 L σ r h => (by cases h), fun z c1 c2 L σ r h => (by cases h), fun z c1 c2 L σ r h => (by cases h)⟩
    | succ k ih =>
      refine ⟨?_, ?_, ?_, ?_, ?_, ?_, ?_, ?_, ?_, ?_, ?_, ?_⟩
      · intro z cells slots L σ r h hzk hc hs H locs ls hP hD hS hl
        rw [f_X3_write] at h
        refine lv_aload_n hx hb dX3_write_0 rfl (lv_at hl 0 rfl) ?_
        refine hg_18_5 hx hb hts in_f_X3_write_X3 hown hK hP (hts _ (List.mem_cons_of_mem _ (List.mem_append_left _ (List.mem_append_left _ (List.mem_of_getElem? (i := 0) rfl))))) dX3_write_1 ?_
        refine hg_19_2n hx hb hts in_f_X3_write_X8 hown hK hP (va_Nw.use rfl (hG.1 _ (List.mem_of_getElem? (i := 10) rfl))) dX3_write_4 ?_
        refine lv_istore (lv' := [(4, .int (σ.1 1902)), (0, .ref (a 18)), (1, .int (L.1 1)), (2, .int (L.1 2)), (3, .int (L.1 3))]) hx hb dX3_write_7 hl (by decide) rfl (fun ls hl => ?_)
        refine lv_iload hx hb dX3_write_9 (lv_at hl 0 rfl) ?_
        refine lv_aload_n hx hb dX3_write_11 rfl (lv_at hl 1 rfl) ?_
        obtain ⟨b1, hb1, h⟩ := oP_ex h
        refine hgq_18_6 hx hb hts in_f_X3_write_X3 hown hK hP (hts _ (List.mem_cons_of_mem _ (List.mem_append_left _ (List.mem_append_left _ (List.mem_of_getElem? (i := 1) rfl))))) hb1 dX3_write_12 ?_
        refine hg_P_0n b1 hx hb hts in_f_X3_write_X7 hown hK hP (va_Nw.use rfl (hG.1 _ (List.mem_of_getElem? (i := 66) rfl))) dX3_write_15 ?_
        refine lv_iload_n hx hb dX3_write_18 rfl (lv_at hl 3 rfl) ?_
        refine lv_iconst (v := 1) hx hb dX3_write_19 (by decide) ?_
        refine lv_iadd hx hb dX3_write_20 ?_
        obtain ⟨q2, h⟩ := kr_ite1 h
        refine hl_P0 ((sKd σ b1)) hx hb hK hP q2 dX3_write_21 ?_
        refine lv_isub hx hb dX3_write_22 ?_
        refine lv_istore (lv' := [(5, .int (((σ.1 1902)) - ((σ.2.2.1 (pR0 ((sKd σ b1))) ((((L.1 2)) + 1)).toNatClampNeg)))), (4, .int (σ.1 1902)), (0, .ref (a 18)), (1, .int (L.1 1)), (2, .int (L.1 2)), (3, .int (L.1 3))]) hx hb dX3_write_23 hl (by decide) rfl (fun ls hl => ?_)
        refine lv_aload_n hx hb dX3_write_25 rfl (lv_at hl 2 rfl) ?_
        obtain ⟨b3, hb3, h⟩ := oP_ex h
        refine hgq_18_6 hx hb hts in_f_X3_write_X3 hown hK hP (hts _ (List.mem_cons_of_mem _ (List.mem_append_left _ (List.mem_append_left _ (List.mem_of_getElem? (i := 1) rfl))))) hb3 dX3_write_26 ?_
        refine hg_P_0n b3 hx hb hts in_f_X3_write_X7 hown hK hP (va_Nw.use rfl (hG.1 _ (List.mem_of_getElem? (i := 66) rfl))) dX3_write_29 ?_
        refine lv_iload_n hx hb dX3_write_32 rfl (lv_at hl 4 rfl) ?_
        refine lv_iconst (v := 2) hx hb dX3_write_33 (by decide) ?_
        refine lv_iadd hx hb dX3_write_34 ?_
        obtain ⟨q4, h⟩ := kr_ite1 h
        refine hl_P0 ((sKd σ b3)) hx hb hK hP q4 dX3_write_35 ?_
        refine lv_istore (lv' := [(6, .int (σ.2.2.1 (pR0 ((sKd σ b3))) ((((L.1 2)) + 2)).toNatClampNeg)), (5, .int (((σ.1 1902)) - ((σ.2.2.1 (pR0 ((sKd σ b1))) ((((L.1 2)) + 1)).toNatClampNeg)))), (4, .int (σ.1 1902)), (0, .ref (a 18)), (1, .int (L.1 1)), (2, .int (L.1 2)), (3, .int (L.1 3))]) hx hb dX3_write_36 hl (by decide) rfl (fun ls hl => ?_)
        refine lv_aload_n hx hb dX3_write_38 rfl (lv_at hl 3 rfl) ?_
        refine hg_18_5 hx hb hts in_f_X3_write_X3 hown hK hP (hts _ (List.mem_cons_of_mem _ (List.mem_append_left _ (List.mem_append_left _ (List.mem_of_getElem? (i := 0) rfl))))) dX3_write_39 ?_
        refine lv_iload_n hx hb dX3_write_42 rfl (lv_at hl 5 rfl) ?_
        refine lv_iconst (v := 3) hx hb dX3_write_43 (by decide) ?_
        refine lv_iadd hx hb dX3_write_44 ?_
        refine lv_iload hx hb dX3_write_45 (lv_at hl 0 rfl) ?_
        refine lv_iadd hx hb dX3_write_47 ?_
        refine hp_19_0n hx hb hts in_f_X3_write_X8 hown hK hP hD hS (va_Nw.use rfl (hG.1 _ (List.mem_of_getElem? (i := 8) rfl))) dX3_write_48 (fun H locs hP hD hS => ?_)
        refine lv_aload_n hx hb dX3_write_51 rfl (lv_at hl 3 rfl) ?_
        refine lv_aload_n hx hb dX3_write_52 rfl (lv_at hl 3 rfl) ?_
        refine hg_18_7 hx hb hts in_f_X3_write_X3 hown hK hP (hts _ (List.mem_cons_of_mem _ (List.mem_append_left _ (List.mem_append_left _ (List.mem_of_getElem? (i := 2) rfl))))) dX3_write_53 ?_
        refine lv_iload_n hx hb dX3_write_56 rfl (lv_at hl 4 rfl) ?_
        obtain ⟨q5, h⟩ := kr_ite1 h
        refine hl_20 hx hb hK hP q5 dX3_write_57 ?_
        obtain ⟨r6, hc6, hle6, h9⟩ := ox_ex h
        clear h
        refine kx_v (vx_runV (As := [.int ((uI σ 1900 ((((((L.1 2)) + 3)) + ((σ.2.2.1 (pR0 ((sKd σ b3))) ((((L.1 2)) + 2)).toNatClampNeg))))).2.2.1 20 ((L.1 1)).toNatClampNeg)]) (rest := []) ⟨hx, hb, hml, hown, hts⟩ (c_f_X3_push l hl0 dC dI cy ek a k (lI lZ 1 (((uI σ 1900 ((((((L.1 2)) + 3)) + ((σ.2.2.1 (pR0 ((sKd σ b3))) ((((L.1 2)) + 2)).toNatClampNeg))))).2.2.1 20 ((L.1 1)).toNatClampNeg))) (uI σ 1900 ((((((L.1 2)) + 3)) + ((σ.2.2.1 (pR0 ((sKd σ b3))) ((((L.1 2)) + 2)).toNatClampNeg))))) r6 hc6 z H.size) (cwV 1 hts g_f_X3_write_X3_push_V322 rfl rfl rfl hd_f_X3_push ⟨Nat.le_of_ble_eq_true rfl, Nat.le_of_ble_eq_true rfl⟩) ⟨nb_blindF, va_recv hK hP (ci := 3) (q0 := 18) rfl rfl, (kx_pre hK hG hE hT hA hP hD hS)⟩ rfl rfl hl.1 rfl (lv_room (Nat.le_of_ble_eq_true rfl)) dX3_write_58 ⟨Nat.le_trans (Nat.add_le_add_left hle6.1 _) (Nat.le_of_eq hc), Nat.le_trans (Nat.add_le_add_left hle6.2 _) (Nat.le_of_eq hs)⟩) hK hA hzk hP hD hS (by decide) hno hlocks ?_
        rcases h9 with ⟨h00, y6, hny6, hy⟩ | ⟨h00, hy⟩
        · subst hy
          have h := hny6
          refine Or.inl ⟨h00, fun z H locs hz6 hzk hP hD hS => ?_⟩
          replace hc := (Nat.add_assoc _ _ _).trans hc
          replace hs := (Nat.add_assoc _ _ _).trans hs
          refine lv_iconst (v := 0) hx hb dX3_write_61 (by decide) ?_
          refine lv_istore (lv' := [(7, .int 0), (6, .int (σ.2.2.1 (pR0 ((sKd σ b3))) ((((L.1 2)) + 2)).toNatClampNeg)), (5, .int (((σ.1 1902)) - ((σ.2.2.1 (pR0 ((sKd σ b1))) ((((L.1 2)) + 1)).toNatClampNeg)))), (4, .int (σ.1 1902)), (0, .ref (a 18)), (1, .int (L.1 1)), (2, .int (L.1 2)), (3, .int (L.1 3))]) hx hb dX3_write_62 hl (by decide) rfl (fun ls hl => ?_)
          exact ih.2.1 z _ _ (lI (lI (lI (lI L 4 ((σ.1 1902))) 5 ((((σ.1 1902)) - ((σ.2.2.1 (pR0 ((sKd σ b1))) ((((L.1 2)) + 1)).toNatClampNeg))))) 6 ((σ.2.2.1 (pR0 ((sKd σ b3))) ((((L.1 2)) + 2)).toNatClampNeg))) 7 0) r6.2.1 _ h hzk hc hs H locs ls hP hD hS (lv_sub hl [4, 5, 6, 7, 3, 2, 1, 0] rfl)
        · subst hy
          exact Or.inr ⟨h00, rfl, hc, hs⟩
      · intro z cells slots L σ r h hzk hc hs H locs ls hP hD hS hl
        rw [f_X3_write] at h
        refine lv_iload hx hb dX3_write_64 (lv_at hl 7 rfl) ?_
        refine lv_iload hx hb dX3_write_66 (lv_at hl 6 rfl) ?_
        refine lv_iconst (v := 1) hx hb dX3_write_68 (by decide) ?_
        refine lv_isub hx hb dX3_write_69 ?_
        refine lv_icmp_ge (tgt := 172) hx hb dX3_write_70 (by decide) (fun c1 => ?_) (fun c1 => ?_)
        · rw [if_pos c1] at h
          exact ih.2.2.1 z _ _ L σ _ h hzk hc hs H locs ls hP hD hS (lv_sub hl [0, 1, 2, 3, 4, 5, 6] rfl)
        · rw [if_neg c1] at h
          refine lv_aload_n hx hb dX3_write_73 rfl (lv_at hl 0 rfl) ?_
          refine hg_18_13 hx hb hts in_f_X3_write_X3 hown hK hP (hts _ (List.mem_cons_of_mem _ (List.mem_append_left _ (List.mem_append_left _ (List.mem_of_getElem? (i := 7) rfl))))) dX3_write_74 ?_
          refine lv_if_ne (tgt := 172) hx hb dX3_write_77 (by decide) (fun c2 => ?_) (fun c2 => ?_)
          · rw [if_neg c2] at h
            exact ih.2.2.1 z _ _ L σ _ h hzk hc hs H locs ls hP hD hS (lv_sub hl [0, 1, 2, 3, 4, 5, 6] rfl)
          · rw [if_pos c2] at h
            refine lv_aload_n hx hb dX3_write_80 rfl (lv_at hl 0 rfl) ?_
            obtain ⟨r3, hc3, hle3, h9⟩ := ox_ex h
            clear h
            refine kx_v (vx_runV (As := []) (rest := []) ⟨hx, hb, hml, hown, hts⟩ (c_f_X3_makeRoom l hl0 dC dI cy ek a k lZ σ r3 hc3 z H.size) (cwV 0 hts g_f_X3_write_X3_makeRoom_V246 rfl rfl rfl hd_f_X3_makeRoom ⟨Nat.le_of_ble_eq_true rfl, Nat.le_of_ble_eq_true rfl⟩) ⟨nb_blindF, va_recv hK hP (ci := 3) (q0 := 18) rfl rfl, (kx_pre hK hG hE hT hA hP hD hS)⟩ rfl rfl hl.1 rfl (lv_room (Nat.le_of_ble_eq_true rfl)) dX3_write_81 ⟨Nat.le_trans (Nat.add_le_add_left hle3.1 _) (Nat.le_of_eq hc), Nat.le_trans (Nat.add_le_add_left hle3.2 _) (Nat.le_of_eq hs)⟩) hK hA hzk hP hD hS (by decide) hno hlocks ?_
            rcases h9 with ⟨h00, y3, hny3, hy⟩ | ⟨h00, hy⟩
            · subst hy
              have h := hny3
              refine Or.inl ⟨h00, fun z H locs hz3 hzk hP hD hS => ?_⟩
              replace hc := (Nat.add_assoc _ _ _).trans hc
              replace hs := (Nat.add_assoc _ _ _).trans hs
              refine lv_aload_n hx hb dX3_write_84 rfl (lv_at hl 0 rfl) ?_
              obtain ⟨b4, hb4, h⟩ := oP_ex h
              refine hgq_18_6 hx hb hts in_f_X3_write_X3 hown hK hP (hts _ (List.mem_cons_of_mem _ (List.mem_append_left _ (List.mem_append_left _ (List.mem_of_getElem? (i := 1) rfl))))) hb4 dX3_write_85 ?_
              refine hg_P_0n b4 hx hb hts in_f_X3_write_X7 hown hK hP (va_Nw.use rfl (hG.1 _ (List.mem_of_getElem? (i := 66) rfl))) dX3_write_88 ?_
              refine lv_iload_n hx hb dX3_write_91 rfl (lv_at hl 2 rfl) ?_
              refine lv_iconst (v := 3) hx hb dX3_write_92 (by decide) ?_
              refine lv_iadd hx hb dX3_write_93 ?_
              refine lv_iload hx hb dX3_write_94 (lv_at hl 7 rfl) ?_
              refine lv_iadd hx hb dX3_write_96 ?_
              obtain ⟨q5, h⟩ := kr_ite1 h
              refine hl_P0 ((sKd r3.2.1 b4)) hx hb hK hP q5 dX3_write_97 ?_
              refine lv_istore (lv' := [(8, .int (r3.2.1.2.2.1 (pR0 ((sKd r3.2.1 b4))) ((((((L.1 2)) + 3)) + ((L.1 7)))).toNatClampNeg)), (0, .ref (a 18)), (1, .int (L.1 1)), (2, .int (L.1 2)), (3, .int (L.1 3)), (4, .int (L.1 4)), (5, .int (L.1 5)), (6, .int (L.1 6)), (7, .int (L.1 7))]) hx hb dX3_write_98 hl (by decide) rfl (fun ls hl => ?_)
              refine lv_aload_n hx hb dX3_write_100 rfl (lv_at hl 1 rfl) ?_
              refine lv_ldc (v := (-2147483648)) hx hb hown (hts _ (List.mem_cons_of_mem _ (List.mem_append_left _ (List.mem_append_left _ (List.mem_of_getElem? (i := 11) rfl))))) dX3_write_101 ?_
              obtain ⟨r6, hc6, hle6, h9⟩ := ox_ex h
              clear h
              refine kx_v (r := y3) (vx_runV (As := [.int (-2147483648)]) (rest := []) ⟨hx, hb, hml, hown, hts⟩ (c_f_X3_push l hl0 dC dI cy ek a k (lI lZ 1 ((-2147483648))) r3.2.1 r6 hc6 z H.size) (cwV 1 hts g_f_X3_write_X3_push_V322 rfl rfl rfl hd_f_X3_push ⟨Nat.le_of_ble_eq_true rfl, Nat.le_of_ble_eq_true rfl⟩) ⟨nb_blindF, va_recv hK hP (ci := 3) (q0 := 18) rfl rfl, (kx_pre hK hG hE hT hA hP hD hS)⟩ rfl rfl hl.1 rfl (lv_room (Nat.le_of_ble_eq_true rfl)) dX3_write_103 ⟨Nat.le_trans (Nat.add_le_add_left hle6.1 _) (Nat.le_of_eq hc), Nat.le_trans (Nat.add_le_add_left hle6.2 _) (Nat.le_of_eq hs)⟩) hK hA hzk hP hD hS (by decide) hno hlocks ?_
              rcases h9 with ⟨h00, y6, hny6, hy⟩ | ⟨h00, hy⟩
              · subst hy
                have h := hny6
                refine Or.inl ⟨h00, fun z H locs hz6 hzk hP hD hS => ?_⟩
                replace hc := (Nat.add_assoc _ _ _).trans hc
                replace hs := (Nat.add_assoc _ _ _).trans hs
                refine lv_aload_n hx hb dX3_write_106 rfl (lv_at hl 1 rfl) ?_
                refine lv_aload_n hx hb dX3_write_107 rfl (lv_at hl 1 rfl) ?_
                refine hg_18_2 hx hb hts in_f_X3_write_X3 hown hK hP (hts _ (List.mem_cons_of_mem _ (List.mem_append_left _ (List.mem_append_left _ (List.mem_of_getElem? (i := 12) rfl))))) dX3_write_108 ?_
                refine lv_iload hx hb dX3_write_111 (lv_at hl 0 rfl) ?_
                refine lv_aload_n hx hb dX3_write_113 rfl (lv_at hl 1 rfl) ?_
                refine hg_18_7 hx hb hts in_f_X3_write_X3 hown hK hP (hts _ (List.mem_cons_of_mem _ (List.mem_append_left _ (List.mem_append_left _ (List.mem_of_getElem? (i := 2) rfl))))) dX3_write_114 ?_
                refine lv_aload_n hx hb dX3_write_117 rfl (lv_at hl 1 rfl) ?_
                refine hg_18_5 hx hb hts in_f_X3_write_X3 hown hK hP (hts _ (List.mem_cons_of_mem _ (List.mem_append_left _ (List.mem_append_left _ (List.mem_of_getElem? (i := 0) rfl))))) dX3_write_118 ?_
                refine hg_19_2n hx hb hts in_f_X3_write_X8 hown hK hP (va_Nw.use rfl (hG.1 _ (List.mem_of_getElem? (i := 10) rfl))) dX3_write_121 ?_
                refine lv_iconst (v := 2) hx hb dX3_write_124 (by decide) ?_
                refine lv_isub hx hb dX3_write_125 ?_
                obtain ⟨q7, h⟩ := kr_ite1 h
                refine hl_20 hx hb hK hP q7 dX3_write_126 ?_
                refine lv_aload_n hx hb dX3_write_127 rfl (lv_at hl 1 rfl) ?_
                refine hg_18_7 hx hb hts in_f_X3_write_X3 hown hK hP (hts _ (List.mem_cons_of_mem _ (List.mem_append_left _ (List.mem_append_left _ (List.mem_of_getElem? (i := 2) rfl))))) dX3_write_128 ?_
                refine lv_iload hx hb dX3_write_131 (lv_at hl 6 rfl) ?_
                obtain ⟨q8, h⟩ := kr_ite1 h
                refine hl_20 hx hb hK hP q8 dX3_write_133 ?_
                refine lv_aload_n hx hb dX3_write_134 rfl (lv_at hl 1 rfl) ?_
                refine hg_18_7 hx hb hts in_f_X3_write_X3 hown hK hP (hts _ (List.mem_cons_of_mem _ (List.mem_append_left _ (List.mem_append_left _ (List.mem_of_getElem? (i := 2) rfl))))) dX3_write_135 ?_
                refine lv_iload hx hb dX3_write_138 (lv_at hl 6 rfl) ?_
                refine lv_iconst (v := 1) hx hb dX3_write_140 (by decide) ?_
                refine lv_iadd hx hb dX3_write_141 ?_
                obtain ⟨q9, h⟩ := kr_ite1 h
                refine hl_20 hx hb hK hP q9 dX3_write_142 ?_
                obtain ⟨r10, hc10, h⟩ := op_ex h
                refine kc_i (va_runV (As := [.int (r3.2.1.2.2.1 (pR0 ((sKd r3.2.1 b4))) ((((((L.1 2)) + 3)) + ((L.1 7)))).toNatClampNeg), .int (r6.2.1.2.2.1 20 ((((r6.2.1.1 1902)) - 2)).toNatClampNeg), .int (r6.2.1.2.2.1 20 ((L.1 5)).toNatClampNeg), .int (r6.2.1.2.2.1 20 ((((L.1 5)) + 1)).toNatClampNeg)]) (rest := [.ref (a 18)]) ⟨hx, hb, hml, hown, hts⟩ (c_y_X0_part l dC dI cy a z k (lI (lI (lI (lI lZ 1 ((r3.2.1.2.2.1 (pR0 ((sKd r3.2.1 b4))) ((((((L.1 2)) + 3)) + ((L.1 7)))).toNatClampNeg))) 2 ((r6.2.1.2.2.1 20 ((((r6.2.1.1 1902)) - 2)).toNatClampNeg))) 3 ((r6.2.1.2.2.1 20 ((L.1 5)).toNatClampNeg))) 4 ((r6.2.1.2.2.1 20 ((((L.1 5)) + 1)).toNatClampNeg))) r6.2.1 r10 hc10 H.size) (cwV 4 hts g_y_X3_write_X0_part_V540 rfl rfl rfl hd_y_X0_part ⟨Nat.le_of_ble_eq_true rfl, Nat.le_of_ble_eq_true rfl⟩) ⟨nb_blind, va_recv hK hP (ci := 0) (q0 := 14) rfl rfl, (kb_pre hK hG hP hD)⟩ rfl rfl hl.1 rfl (lv_room (Nat.le_of_ble_eq_true rfl)) dX3_write_143 ⟨(Nat.le_trans (Nat.le_add_right _ _) (Nat.le_of_eq hc)), (Nat.le_trans (Nat.le_add_right _ _) (Nat.le_of_eq hs))⟩) hA hP hD hS (fun H locs hP hD hS => ?_)
                obtain ⟨r11, hc11, h⟩ := op_ex h
                refine kc_v (va_runV (As := [.int r10.1]) (rest := []) ⟨hx, hb, hml, hown, hts⟩ (c_y_X3_replace l dC dI cy a z k (lI lZ 1 r10.1) r10.2 r11 hc11 H.size) (cwV 1 hts g_y_X3_write_X3_replace_V280 rfl rfl rfl hd_y_X3_replace ⟨Nat.le_of_ble_eq_true rfl, Nat.le_of_ble_eq_true rfl⟩) ⟨nb_blind, va_recv hK hP (ci := 3) (q0 := 18) rfl rfl, (kb_pre hK hG hP hD)⟩ rfl rfl hl.1 rfl (lv_room (Nat.le_of_ble_eq_true rfl)) dX3_write_146 ⟨(Nat.le_trans (Nat.le_add_right _ _) (Nat.le_of_eq hc)), (Nat.le_trans (Nat.le_add_right _ _) (Nat.le_of_eq hs))⟩) hA hP hD hS (fun H locs hP hD hS => ?_)
                refine lv_iload hx hb dX3_write_149 (lv_at hl 6 rfl) ?_
                refine lv_iload hx hb dX3_write_151 (lv_at hl 0 rfl) ?_
                refine lv_bipush (v := 97) hx hb dX3_write_153 (by decide) ?_
                refine lv_icmp_ne (tgt := 162) hx hb dX3_write_155 (by decide) (fun c12 => ?_) (fun c12 => ?_)
                · rw [if_neg c12] at h
                  exact ih.2.2.2.1 z _ _ (lI L 100 ((L.1 5))) r11.2 _ h hzk hc hs H locs ls hP hD hS (lv_sub hl [1, 2, 3, 4, 5, 7, 8] rfl)
                · rw [if_pos c12] at h
                  refine lv_iconst (v := 2) hx hb dX3_write_158 (by decide) ?_
                  refine lv_goto (tgt := 163) hx hb dX3_write_159 (by decide) ?_
                  exact ih.2.2.2.2.1 z _ _ (lI (lI L 100 2) 101 ((L.1 5))) r11.2 _ h hzk hc hs H locs ls hP hD hS (lv_sub hl [1, 2, 3, 4, 5, 7, 8] rfl)
              · subst hy
                exact Or.inr ⟨h00, rfl, hc, hs⟩
            · subst hy
              exact Or.inr ⟨h00, rfl, hc, hs⟩
      · intro z cells slots L σ r h hzk hc hs H locs ls hP hD hS hl
        rw [f_X3_write] at h
        refine lv_aload_n hx hb dX3_write_172 rfl (lv_at hl 0 rfl) ?_
        refine lv_aload_n hx hb dX3_write_173 rfl (lv_at hl 0 rfl) ?_
        refine hg_18_7 hx hb hts in_f_X3_write_X3 hown hK hP (hts _ (List.mem_cons_of_mem _ (List.mem_append_left _ (List.mem_append_left _ (List.mem_of_getElem? (i := 2) rfl))))) dX3_write_174 ?_
        refine lv_iload hx hb dX3_write_177 (lv_at hl 4 rfl) ?_
        refine lv_iconst (v := 1) hx hb dX3_write_179 (by decide) ?_
        refine lv_isub hx hb dX3_write_180 ?_
        obtain ⟨q1, h⟩ := kr_ite1 h
        refine hl_20 hx hb hK hP q1 dX3_write_181 ?_
        obtain ⟨r2, hc2, hle2, h9⟩ := ox_ex h
        clear h
        refine kx_v (vx_runV (As := [.int (σ.2.2.1 20 ((((L.1 4)) - 1)).toNatClampNeg)]) (rest := []) ⟨hx, hb, hml, hown, hts⟩ (c_f_X3_push l hl0 dC dI cy ek a k (lI lZ 1 ((σ.2.2.1 20 ((((L.1 4)) - 1)).toNatClampNeg))) σ r2 hc2 z H.size) (cwV 1 hts g_f_X3_write_X3_push_V322 rfl rfl rfl hd_f_X3_push ⟨Nat.le_of_ble_eq_true rfl, Nat.le_of_ble_eq_true rfl⟩) ⟨nb_blindF, va_recv hK hP (ci := 3) (q0 := 18) rfl rfl, (kx_pre hK hG hE hT hA hP hD hS)⟩ rfl rfl hl.1 rfl (lv_room (Nat.le_of_ble_eq_true rfl)) dX3_write_182 ⟨Nat.le_trans (Nat.add_le_add_left hle2.1 _) (Nat.le_of_eq hc), Nat.le_trans (Nat.add_le_add_left hle2.2 _) (Nat.le_of_eq hs)⟩) hK hA hzk hP hD hS (by decide) hno hlocks ?_
        rcases h9 with ⟨h00, y2, hny2, hy⟩ | ⟨h00, hy⟩
        · subst hy
          have h := hny2
          refine Or.inl ⟨h00, fun z H locs hz2 hzk hP hD hS => ?_⟩
          replace hc := (Nat.add_assoc _ _ _).trans hc
          replace hs := (Nat.add_assoc _ _ _).trans hs
          refine lv_iload hx hb dX3_write_185 (lv_at hl 6 rfl) ?_
          refine lv_iconst (v := 1) hx hb dX3_write_187 (by decide) ?_
          refine lv_isub hx hb dX3_write_188 ?_
          refine lv_istore (lv' := [(7, .int (((L.1 6)) - 1)), (0, .ref (a 18)), (1, .int (L.1 1)), (2, .int (L.1 2)), (3, .int (L.1 3)), (4, .int (L.1 4)), (5, .int (L.1 5)), (6, .int (L.1 6))]) hx hb dX3_write_189 hl (by decide) rfl (fun ls hl => ?_)
          exact ih.2.2.2.2.2.1 z _ _ (lI L 7 ((((L.1 6)) - 1))) r2.2.1 _ h hzk hc hs H locs ls hP hD hS (lv_sub hl [1, 2, 3, 4, 5, 6, 7, 0] rfl)
        · subst hy
          exact Or.inr ⟨h00, rfl, hc, hs⟩
      · intro z cells slots L σ r h hzk hc hs H locs ls hP hD hS hl
        rw [f_X3_write] at h
        refine lv_iconst (v := 1) hx hb dX3_write_162 (by decide) ?_
        exact ih.2.2.2.2.1 z _ _ (lI (lI L 100 1) 101 ((L.1 100))) σ _ h hzk hc hs H locs ls hP hD hS (lv_sub hl [0, 1, 2, 3, 4, 5, 6] rfl)
      · intro z cells slots L σ r h hzk hc hs H locs ls hP hD hS hl
        rw [f_X3_write] at h
        refine lv_iadd hx hb dX3_write_163 ?_
        refine lv_istore (lv' := [(5, .int (((L.1 101)) + ((L.1 100)))), (0, .ref (a 18)), (1, .int (L.1 1)), (2, .int (L.1 2)), (3, .int (L.1 3)), (4, .int (L.1 4)), (6, .int (L.1 6)), (7, .int (L.1 7))]) hx hb dX3_write_164 hl (by decide) rfl (fun ls hl => ?_)
        refine lv_iinc (v := ((L.1 7)) + 1) (lv' := [(7, .int (((L.1 7)) + 1)), (5, .int (((L.1 101)) + ((L.1 100)))), (0, .ref (a 18)), (1, .int (L.1 1)), (2, .int (L.1 2)), (3, .int (L.1 3)), (4, .int (L.1 4)), (6, .int (L.1 6))]) hx hb dX3_write_166 hl (k := 7) rfl rfl (by decide) rfl (fun ls hl => ?_)
        refine lv_goto (tgt := 64) hx hb dX3_write_169 (by decide) ?_
        exact ih.2.1 z _ _ (lI (lI L 5 ((((L.1 101)) + ((L.1 100))))) 7 ((((L.1 7)) + 1))) σ _ h hzk hc hs H locs ls hP hD hS (lv_sub hl [2, 3, 4, 5, 6, 1, 7, 0] rfl)
      · intro z cells slots L σ r h hzk hc hs H locs ls hP hD hS hl
        rw [f_X3_write] at h
        refine lv_iload hx hb dX3_write_191 (lv_at hl 7 rfl) ?_
        refine lv_if_lt (tgt := 328) hx hb dX3_write_193 (by decide) (fun c1 => ?_) (fun c1 => ?_)
        · rw [if_pos c1] at h
          exact ih.2.2.2.2.2.2.1 z _ _ L σ _ h hzk hc hs H locs ls hP hD hS (lv_sub hl [0, 1, 3, 4] rfl)
        · rw [if_neg c1] at h
          refine lv_aload_n hx hb dX3_write_196 rfl (lv_at hl 0 rfl) ?_
          refine hg_18_13 hx hb hts in_f_X3_write_X3 hown hK hP (hts _ (List.mem_cons_of_mem _ (List.mem_append_left _ (List.mem_append_left _ (List.mem_of_getElem? (i := 7) rfl))))) dX3_write_197 ?_
          refine lv_if_ne (tgt := 328) hx hb dX3_write_200 (by decide) (fun c2 => ?_) (fun c2 => ?_)
          · rw [if_neg c2] at h
            exact ih.2.2.2.2.2.2.1 z _ _ L σ _ h hzk hc hs H locs ls hP hD hS (lv_sub hl [0, 1, 3, 4] rfl)
          · rw [if_pos c2] at h
            refine lv_aload_n hx hb dX3_write_203 rfl (lv_at hl 0 rfl) ?_
            obtain ⟨r3, hc3, hle3, h9⟩ := ox_ex h
            clear h
            refine kx_v (vx_runV (As := []) (rest := []) ⟨hx, hb, hml, hown, hts⟩ (c_f_X3_makeRoom l hl0 dC dI cy ek a k lZ σ r3 hc3 z H.size) (cwV 0 hts g_f_X3_write_X3_makeRoom_V246 rfl rfl rfl hd_f_X3_makeRoom ⟨Nat.le_of_ble_eq_true rfl, Nat.le_of_ble_eq_true rfl⟩) ⟨nb_blindF, va_recv hK hP (ci := 3) (q0 := 18) rfl rfl, (kx_pre hK hG hE hT hA hP hD hS)⟩ rfl rfl hl.1 rfl (lv_room (Nat.le_of_ble_eq_true rfl)) dX3_write_204 ⟨Nat.le_trans (Nat.add_le_add_left hle3.1 _) (Nat.le_of_eq hc), Nat.le_trans (Nat.add_le_add_left hle3.2 _) (Nat.le_of_eq hs)⟩) hK hA hzk hP hD hS (by decide) hno hlocks ?_
            rcases h9 with ⟨h00, y3, hny3, hy⟩ | ⟨h00, hy⟩
            · subst hy
              have h := hny3
              refine Or.inl ⟨h00, fun z H locs hz3 hzk hP hD hS => ?_⟩
              replace hc := (Nat.add_assoc _ _ _).trans hc
              replace hs := (Nat.add_assoc _ _ _).trans hs
              refine lv_aload_n hx hb dX3_write_207 rfl (lv_at hl 0 rfl) ?_
              obtain ⟨b4, hb4, h⟩ := oP_ex h
              refine hgq_18_6 hx hb hts in_f_X3_write_X3 hown hK hP (hts _ (List.mem_cons_of_mem _ (List.mem_append_left _ (List.mem_append_left _ (List.mem_of_getElem? (i := 1) rfl))))) hb4 dX3_write_208 ?_
              refine hg_P_0n b4 hx hb hts in_f_X3_write_X7 hown hK hP (va_Nw.use rfl (hG.1 _ (List.mem_of_getElem? (i := 66) rfl))) dX3_write_211 ?_
              refine lv_iload_n hx hb dX3_write_214 rfl (lv_at hl 2 rfl) ?_
              refine lv_iconst (v := 3) hx hb dX3_write_215 (by decide) ?_
              refine lv_iadd hx hb dX3_write_216 ?_
              refine lv_iload hx hb dX3_write_217 (lv_at hl 7 rfl) ?_
              refine lv_iadd hx hb dX3_write_219 ?_
              obtain ⟨q5, h⟩ := kr_ite1 h
              refine hl_P0 ((sKd r3.2.1 b4)) hx hb hK hP q5 dX3_write_220 ?_
              refine lv_istore (lv' := [(8, .int (r3.2.1.2.2.1 (pR0 ((sKd r3.2.1 b4))) ((((((L.1 2)) + 3)) + ((L.1 7)))).toNatClampNeg)), (0, .ref (a 18)), (1, .int (L.1 1)), (2, .int (L.1 2)), (3, .int (L.1 3)), (4, .int (L.1 4)), (5, .int (L.1 5)), (6, .int (L.1 6)), (7, .int (L.1 7))]) hx hb dX3_write_221 hl (by decide) rfl (fun ls hl => ?_)
              refine lv_iload hx hb dX3_write_223 (lv_at hl 8 rfl) ?_
              refine lv_iload hx hb dX3_write_225 (lv_at hl 7 rfl) ?_
              refine lv_iconst (v := 1) hx hb dX3_write_227 (by decide) ?_
              refine lv_isub hx hb dX3_write_228 ?_
              refine lv_icmp_ne (tgt := 237) hx hb dX3_write_229 (by decide) (fun c6 => ?_) (fun c6 => ?_)
              · rw [if_neg c6] at h
                exact ih.2.2.2.2.2.2.2.1 z _ _ (lI L 8 ((r3.2.1.2.2.1 (pR0 ((sKd r3.2.1 b4))) ((((((L.1 2)) + 3)) + ((L.1 7)))).toNatClampNeg))) r3.2.1 _ h hzk hc hs H locs ls hP hD hS (lv_sub hl [1, 2, 3, 4, 5, 6, 7, 8, 0] rfl)
              · rw [if_pos c6] at h
                refine lv_iload hx hb dX3_write_232 (lv_at hl 6 rfl) ?_
                refine lv_goto (tgt := 252) hx hb dX3_write_234 (by decide) ?_
                exact ih.2.2.2.2.2.2.2.2.1 z _ _ (lI (lI L 8 ((r3.2.1.2.2.1 (pR0 ((sKd r3.2.1 b4))) ((((((L.1 2)) + 3)) + ((L.1 7)))).toNatClampNeg))) 100 ((L.1 5))) r3.2.1 _ h hzk hc hs H locs ls hP hD hS (lv_sub hl [1, 2, 3, 4, 5, 7, 8, 0] rfl)
            · subst hy
              exact Or.inr ⟨h00, rfl, hc, hs⟩
      · intro z cells slots L σ r h hzk hc hs H locs ls hP hD hS hl
        rw [f_X3_write] at h
        refine lv_aload_n hx hb dX3_write_328 rfl (lv_at hl 0 rfl) ?_
        refine hg_18_13 hx hb hts in_f_X3_write_X3 hown hK hP (hts _ (List.mem_cons_of_mem _ (List.mem_append_left _ (List.mem_append_left _ (List.mem_of_getElem? (i := 7) rfl))))) dX3_write_329 ?_
        refine lv_if_ne (tgt := 355) hx hb dX3_write_332 (by decide) (fun c1 => ?_) (fun c1 => ?_)
        · rw [if_neg c1] at h
          exact ih.2.2.2.2.2.2.2.2.2.1 z _ _ L σ _ h hzk hc hs H locs ls hP hD hS (lv_sub hl [0, 3] rfl)
        · rw [if_pos c1] at h
          refine lv_aload_n hx hb dX3_write_335 rfl (lv_at hl 0 rfl) ?_
          refine lv_iload_n hx hb dX3_write_336 rfl (lv_at hl 1 rfl) ?_
          refine lv_aload_n hx hb dX3_write_337 rfl (lv_at hl 0 rfl) ?_
          refine hg_18_7 hx hb hts in_f_X3_write_X3 hown hK hP (hts _ (List.mem_cons_of_mem _ (List.mem_append_left _ (List.mem_append_left _ (List.mem_of_getElem? (i := 2) rfl))))) dX3_write_338 ?_
          refine lv_aload_n hx hb dX3_write_341 rfl (lv_at hl 0 rfl) ?_
          refine hg_18_5 hx hb hts in_f_X3_write_X3 hown hK hP (hts _ (List.mem_cons_of_mem _ (List.mem_append_left _ (List.mem_append_left _ (List.mem_of_getElem? (i := 0) rfl))))) dX3_write_342 ?_
          refine hg_19_2n hx hb hts in_f_X3_write_X8 hown hK hP (va_Nw.use rfl (hG.1 _ (List.mem_of_getElem? (i := 10) rfl))) dX3_write_345 ?_
          refine lv_iconst (v := 1) hx hb dX3_write_348 (by decide) ?_
          refine lv_isub hx hb dX3_write_349 ?_
          obtain ⟨q2, h⟩ := kr_ite1 h
          refine hl_20 hx hb hK hP q2 dX3_write_350 ?_
          refine lv_iload_n hx hb dX3_write_351 rfl (lv_at hl 2 rfl) ?_
          obtain ⟨r3, hc3, h⟩ := op_ex h
          refine kc_v (va_runV (As := [.int (L.1 1), .int (σ.2.2.1 20 ((((σ.1 1902)) - 1)).toNatClampNeg), .int (L.1 3)]) (rest := []) ⟨hx, hb, hml, hown, hts⟩ (c_y_X3_assign l dC dI cy a z k (lI (lI (lI lZ 1 ((L.1 1))) 2 ((σ.2.2.1 20 ((((σ.1 1902)) - 1)).toNatClampNeg))) 3 ((L.1 3))) σ r3 hc3 H.size) (cwV 3 hts g_y_X3_write_X3_assign_V504 rfl rfl rfl hd_y_X3_assign ⟨Nat.le_of_ble_eq_true rfl, Nat.le_of_ble_eq_true rfl⟩) ⟨nb_blind, va_recv hK hP (ci := 3) (q0 := 18) rfl rfl, (kb_pre hK hG hP hD)⟩ rfl rfl hl.1 rfl (lv_room (Nat.le_of_ble_eq_true rfl)) dX3_write_352 ⟨(Nat.le_trans (Nat.le_add_right _ _) (Nat.le_of_eq hc)), (Nat.le_trans (Nat.le_add_right _ _) (Nat.le_of_eq hs))⟩) hA hP hD hS (fun H locs hP hD hS => ?_)
          exact ih.2.2.2.2.2.2.2.2.2.1 z _ _ L r3.2 _ h hzk hc hs H locs ls hP hD hS (lv_sub hl [0, 3] rfl)
      · intro z cells slots L σ r h hzk hc hs H locs ls hP hD hS hl
        rw [f_X3_write] at h
        refine lv_iload hx hb dX3_write_237 (lv_at hl 5 rfl) ?_
        refine lv_iload hx hb dX3_write_239 (lv_at hl 8 rfl) ?_
        refine lv_bipush (v := 97) hx hb dX3_write_241 (by decide) ?_
        refine lv_icmp_ne (tgt := 250) hx hb dX3_write_243 (by decide) (fun c1 => ?_) (fun c1 => ?_)
        · rw [if_neg c1] at h
          exact ih.2.2.2.2.2.2.2.2.2.2.1 z _ _ (lI L 100 ((L.1 5))) σ _ h hzk hc hs H locs ls hP hD hS (lv_sub hl [0, 1, 2, 3, 4, 6, 7, 8] rfl)
        · rw [if_pos c1] at h
          refine lv_iconst (v := 2) hx hb dX3_write_246 (by decide) ?_
          refine lv_goto (tgt := 251) hx hb dX3_write_247 (by decide) ?_
          exact ih.2.2.2.2.2.2.2.2.2.2.2 z _ _ (lI (lI L 100 2) 101 ((L.1 5))) σ _ h hzk hc hs H locs ls hP hD hS (lv_sub hl [0, 1, 2, 3, 4, 6, 7, 8] rfl)
      · intro z cells slots L σ r h hzk hc hs H locs ls hP hD hS hl
        rw [f_X3_write] at h
        refine lv_istore (lv' := [(5, .int (L.1 100)), (0, .ref (a 18)), (1, .int (L.1 1)), (2, .int (L.1 2)), (3, .int (L.1 3)), (4, .int (L.1 4)), (6, .int (L.1 6)), (7, .int (L.1 7)), (8, .int (L.1 8))]) hx hb dX3_write_252 hl (by decide) rfl (fun ls hl => ?_)
        refine lv_aload_n hx hb dX3_write_254 rfl (lv_at hl 1 rfl) ?_
        refine hg_18_5 hx hb hts in_f_X3_write_X3 hown hK hP (hts _ (List.mem_cons_of_mem _ (List.mem_append_left _ (List.mem_append_left _ (List.mem_of_getElem? (i := 0) rfl))))) dX3_write_255 ?_
        refine lv_dup hx hb dX3_write_258 rfl ?_
        refine hg_19_2n hx hb hts in_f_X3_write_X8 hown hK hP (va_Nw.use rfl (hG.1 _ (List.mem_of_getElem? (i := 10) rfl))) dX3_write_259 ?_
        refine lv_iconst (v := 1) hx hb dX3_write_262 (by decide) ?_
        refine lv_isub hx hb dX3_write_263 ?_
        refine hp_19_2n hx hb hts in_f_X3_write_X8 hown hK hP hD hS (va_Nw.use rfl (hG.1 _ (List.mem_of_getElem? (i := 10) rfl))) dX3_write_264 (fun H locs hP hD hS => ?_)
        refine lv_aload_n hx hb dX3_write_267 rfl (lv_at hl 1 rfl) ?_
        refine lv_aload_n hx hb dX3_write_268 rfl (lv_at hl 1 rfl) ?_
        refine hg_18_2 hx hb hts in_f_X3_write_X3 hown hK hP (hts _ (List.mem_cons_of_mem _ (List.mem_append_left _ (List.mem_append_left _ (List.mem_of_getElem? (i := 12) rfl))))) dX3_write_269 ?_
        refine lv_iload hx hb dX3_write_272 (lv_at hl 8 rfl) ?_
        refine lv_aload_n hx hb dX3_write_274 rfl (lv_at hl 1 rfl) ?_
        refine hg_18_7 hx hb hts in_f_X3_write_X3 hown hK hP (hts _ (List.mem_cons_of_mem _ (List.mem_append_left _ (List.mem_append_left _ (List.mem_of_getElem? (i := 2) rfl))))) dX3_write_275 ?_
        refine lv_aload_n hx hb dX3_write_278 rfl (lv_at hl 1 rfl) ?_
        refine hg_18_5 hx hb hts in_f_X3_write_X3 hown hK hP (hts _ (List.mem_cons_of_mem _ (List.mem_append_left _ (List.mem_append_left _ (List.mem_of_getElem? (i := 0) rfl))))) dX3_write_279 ?_
        refine hg_19_2n hx hb hts in_f_X3_write_X8 hown hK hP (va_Nw.use rfl (hG.1 _ (List.mem_of_getElem? (i := 10) rfl))) dX3_write_282 ?_
        refine lv_iconst (v := 1) hx hb dX3_write_285 (by decide) ?_
        refine lv_isub hx hb dX3_write_286 ?_
        obtain ⟨q1, h⟩ := kr_ite1 h
        refine hl_20 hx hb hK hP q1 dX3_write_287 ?_
        refine lv_aload_n hx hb dX3_write_288 rfl (lv_at hl 1 rfl) ?_
        refine hg_18_7 hx hb hts in_f_X3_write_X3 hown hK hP (hts _ (List.mem_cons_of_mem _ (List.mem_append_left _ (List.mem_append_left _ (List.mem_of_getElem? (i := 2) rfl))))) dX3_write_289 ?_
        refine lv_iload hx hb dX3_write_292 (lv_at hl 0 rfl) ?_
        obtain ⟨q2, h⟩ := kr_ite1 h
        refine hl_20 hx hb hK hP q2 dX3_write_294 ?_
        refine lv_aload_n hx hb dX3_write_295 rfl (lv_at hl 1 rfl) ?_
        refine hg_18_7 hx hb hts in_f_X3_write_X3 hown hK hP (hts _ (List.mem_cons_of_mem _ (List.mem_append_left _ (List.mem_append_left _ (List.mem_of_getElem? (i := 2) rfl))))) dX3_write_296 ?_
        refine lv_iload hx hb dX3_write_299 (lv_at hl 0 rfl) ?_
        refine lv_iconst (v := 1) hx hb dX3_write_301 (by decide) ?_
        refine lv_iadd hx hb dX3_write_302 ?_
        obtain ⟨q3, h⟩ := kr_ite1 h
        refine hl_20 hx hb hK hP q3 dX3_write_303 ?_
        refine lv_aload_n hx hb dX3_write_304 rfl (lv_at hl 1 rfl) ?_
        refine hg_18_7 hx hb hts in_f_X3_write_X3 hown hK hP (hts _ (List.mem_cons_of_mem _ (List.mem_append_left _ (List.mem_append_left _ (List.mem_of_getElem? (i := 2) rfl))))) dX3_write_305 ?_
        refine lv_aload_n hx hb dX3_write_308 rfl (lv_at hl 1 rfl) ?_
        refine hg_18_5 hx hb hts in_f_X3_write_X3 hown hK hP (hts _ (List.mem_cons_of_mem _ (List.mem_append_left _ (List.mem_append_left _ (List.mem_of_getElem? (i := 0) rfl))))) dX3_write_309 ?_
        refine hg_19_2n hx hb hts in_f_X3_write_X8 hown hK hP (va_Nw.use rfl (hG.1 _ (List.mem_of_getElem? (i := 10) rfl))) dX3_write_312 ?_
        obtain ⟨q4, h⟩ := kr_ite1 h
        refine hl_20 hx hb hK hP q4 dX3_write_315 ?_
        obtain ⟨r5, hc5, h⟩ := op_ex h
        refine kc_i (va_runV (As := [.int (L.1 8), .int ((uI σ 1902 ((((σ.1 1902)) - 1))).2.2.1 20 (((((uI σ 1902 ((((σ.1 1902)) - 1))).1 1902)) - 1)).toNatClampNeg), .int ((uI σ 1902 ((((σ.1 1902)) - 1))).2.2.1 20 ((L.1 100)).toNatClampNeg), .int ((uI σ 1902 ((((σ.1 1902)) - 1))).2.2.1 20 ((((L.1 100)) + 1)).toNatClampNeg), .int ((uI σ 1902 ((((σ.1 1902)) - 1))).2.2.1 20 (((uI σ 1902 ((((σ.1 1902)) - 1))).1 1902)).toNatClampNeg)]) (rest := [.ref (a 18)]) ⟨hx, hb, hml, hown, hts⟩ (c_y_X0_written l dC dI cy a z k (lI (lI (lI (lI (lI lZ 1 ((L.1 8))) 2 (((uI σ 1902 ((((σ.1 1902)) - 1))).2.2.1 20 (((((uI σ 1902 ((((σ.1 1902)) - 1))).1 1902)) - 1)).toNatClampNeg))) 3 (((uI σ 1902 ((((σ.1 1902)) - 1))).2.2.1 20 ((L.1 100)).toNatClampNeg))) 4 (((uI σ 1902 ((((σ.1 1902)) - 1))).2.2.1 20 ((((L.1 100)) + 1)).toNatClampNeg))) 5 (((uI σ 1902 ((((σ.1 1902)) - 1))).2.2.1 20 (((uI σ 1902 ((((σ.1 1902)) - 1))).1 1902)).toNatClampNeg))) (uI σ 1902 ((((σ.1 1902)) - 1))) r5 hc5 H.size) (cwV 5 hts g_y_X3_write_X0_written_V547 rfl rfl rfl hd_y_X0_written ⟨Nat.le_of_ble_eq_true rfl, Nat.le_of_ble_eq_true rfl⟩) ⟨nb_blind, va_recv hK hP (ci := 0) (q0 := 14) rfl rfl, (kb_pre hK hG hP hD)⟩ rfl rfl hl.1 rfl (lv_room (Nat.le_of_ble_eq_true rfl)) dX3_write_316 ⟨(Nat.le_trans (Nat.le_add_right _ _) (Nat.le_of_eq hc)), (Nat.le_trans (Nat.le_add_right _ _) (Nat.le_of_eq hs))⟩) hA hP hD hS (fun H locs hP hD hS => ?_)
        obtain ⟨r6, hc6, h⟩ := op_ex h
        refine kc_v (va_runV (As := [.int r5.1]) (rest := []) ⟨hx, hb, hml, hown, hts⟩ (c_y_X3_replace l dC dI cy a z k (lI lZ 1 r5.1) r5.2 r6 hc6 H.size) (cwV 1 hts g_y_X3_write_X3_replace_V280 rfl rfl rfl hd_y_X3_replace ⟨Nat.le_of_ble_eq_true rfl, Nat.le_of_ble_eq_true rfl⟩) ⟨nb_blind, va_recv hK hP (ci := 3) (q0 := 18) rfl rfl, (kb_pre hK hG hP hD)⟩ rfl rfl hl.1 rfl (lv_room (Nat.le_of_ble_eq_true rfl)) dX3_write_319 ⟨(Nat.le_trans (Nat.le_add_right _ _) (Nat.le_of_eq hc)), (Nat.le_trans (Nat.le_add_right _ _) (Nat.le_of_eq hs))⟩) hA hP hD hS (fun H locs hP hD hS => ?_)
        refine lv_iinc (v := ((L.1 7)) + (-1)) (lv' := [(7, .int (((L.1 7)) + (-1))), (5, .int (L.1 100)), (0, .ref (a 18)), (1, .int (L.1 1)), (2, .int (L.1 2)), (3, .int (L.1 3)), (4, .int (L.1 4)), (6, .int (L.1 6)), (8, .int (L.1 8))]) hx hb dX3_write_322 hl (k := 7) rfl rfl (by decide) rfl (fun ls hl => ?_)
        refine lv_goto (tgt := 191) hx hb dX3_write_325 (by decide) ?_
        exact ih.2.2.2.2.2.1 z _ _ (lI (lI L 5 ((L.1 100))) 7 ((((L.1 7)) + (-1)))) r6.2 _ h hzk hc hs H locs ls hP hD hS (lv_sub hl [2, 3, 4, 5, 6, 1, 7, 0] rfl)
      · intro z cells slots L σ r h hzk hc hs H locs ls hP hD hS hl
        rw [f_X3_write] at h
        refine lv_aload_n hx hb dX3_write_355 rfl (lv_at hl 0 rfl) ?_
        refine hg_18_5 hx hb hts in_f_X3_write_X3 hown hK hP (hts _ (List.mem_cons_of_mem _ (List.mem_append_left _ (List.mem_append_left _ (List.mem_of_getElem? (i := 0) rfl))))) dX3_write_356 ?_
        refine lv_iload hx hb dX3_write_359 (lv_at hl 1 rfl) ?_
        refine hp_19_2n hx hb hts in_f_X3_write_X8 hown hK hP hD hS (va_Nw.use rfl (hG.1 _ (List.mem_of_getElem? (i := 10) rfl))) dX3_write_361 (fun H locs hP hD hS => ?_)
        obtain rfl := Option.some.inj h
        subst hc
        subst hs
        exact xr_v hx hb hr hK hzk hP hD hS hlocks dX3_write_364
      · intro z cells slots L σ r h hzk hc hs H locs ls hP hD hS hl
        rw [f_X3_write] at h
        refine lv_iconst (v := 1) hx hb dX3_write_250 (by decide) ?_
        exact ih.2.2.2.2.2.2.2.2.2.2.2 z _ _ (lI (lI L 100 1) 101 ((L.1 100))) σ _ h hzk hc hs H locs ls hP hD hS (lv_sub hl [0, 1, 2, 3, 4, 5, 6, 7] rfl)
      · intro z cells slots L σ r h hzk hc hs H locs ls hP hD hS hl
        rw [f_X3_write] at h
        refine lv_isub hx hb dX3_write_251 ?_
        exact ih.2.2.2.2.2.2.2.2.1 z _ _ (lI L 100 ((((L.1 101)) - ((L.1 100))))) σ _ h hzk hc hs H locs ls hP hD hS (lv_sub hl [0, 1, 2, 3, 4, 5, 6, 7] rfl)
  exact (blk k0).1 z 0 0 L0 σ0 r0 h0 (zk_rf _ _) ((Nat.zero_add _).trans hmc) ((Nat.zero_add _).trans hms) s.heap [] ls hP hD hS hl

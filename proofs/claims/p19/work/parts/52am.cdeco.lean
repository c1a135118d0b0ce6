/-! X0_written -/
def y_X0_written : Nat → Nat → LV → CS → Option (Int32 × CS)
  | 0, _, _, _ => none
  | k + 1, 0, L, σ => if ((L.1 1)) = (96 : Int32) then (y_X0_written k 1 L σ) else (if ((L.1 1)) = (97 : Int32) then (y_X0_written k 2 L σ) else (y_X0_written k 3 L σ))
  | k + 1, 1, L, σ => oc (y_X1_isMap k 0 (lI lZ 1 ((L.1 2))) σ) (fun r1 => if r1.1 = 0 then (y_X0_written k 4 L r1.2) else (oc (y_X0_withPair k 0 (lI (lI (lI lZ 1 ((L.1 2))) 2 ((L.1 3))) 3 ((L.1 5))) r1.2) (fun r3 => y_X0_written k 5 (lI L 100 r3.1) r3.2)))
  | k + 1, 2, L, σ => oc (y_X0_withSlice k 0 (lI (lI (lI (lI lZ 1 ((L.1 2))) 2 ((L.1 3))) 3 ((L.1 4))) 4 ((L.1 5))) σ) (fun r1 => some (r1.1, r1.2))
  | k + 1, 3, L, σ => oc (y_X1_isMap k 0 (lI lZ 1 ((L.1 2))) σ) (fun r1 => if r1.1 = 0 then (y_X0_written k 6 L r1.2) else (oc (y_X1_kind k 0 (lI lZ 1 ((L.1 5))) r1.2) (fun r3 => if r3.1 = 6 then (oc (y_X0_withImages k 0 (lI (lI (lI lZ 1 ((L.1 2))) 2 ((L.1 3))) 3 ((L.1 5))) r3.2) (fun r5 => y_X0_written k 7 (lI L 100 r5.1) r5.2)) else (y_X0_written k 6 L r3.2))))
  | k + 1, 4, L, σ => oc (y_X0_withMember k 0 (lI (lI (lI lZ 1 ((L.1 2))) 2 ((L.1 3))) 3 ((L.1 5))) σ) (fun r1 => y_X0_written k 5 (lI L 100 r1.1) r1.2)
  | k + 1, 5, L, σ => some ((L.1 100), σ)
  | k + 1, 6, L, σ => y_X0_written k 7 (lI L 100 ((-268435455))) σ
  | k + 1, 7, L, σ => some ((L.1 100), σ)
  | _ + 1, _ + 8, _, _ => none
def o_y_X0_written : List Cond := [.fieldLink RX0 22 "SetHouse$Algebra" "heap" "LSetHouse$Heap;", .methodLink RX0 191 yX1_isMap, .instanceMethod yX1_isMap, .selects RX1 yX1_isMap yX1_isMap, .initialized RX1, .methodLink RX0 276 yX0_withPair, .instanceMethod yX0_withPair, .selects RX0 yX0_withPair yX0_withPair, .initialized RX0, .methodLink RX0 282 yX0_withSlice, .instanceMethod yX0_withSlice, .selects RX0 yX0_withSlice yX0_withSlice, .methodLink RX0 87 yX1_kind, .instanceMethod yX1_kind, .selects RX1 yX1_kind yX1_kind, .methodLink RX0 285 yX0_withImages, .instanceMethod yX0_withImages, .selects RX0 yX0_withImages yX0_withImages, .methodLink RX0 279 yX0_withMember, .instanceMethod yX0_withMember, .selects RX0 yX0_withMember yX0_withMember, .constant RX0 56 (-268435455)]
theorem o_y_X0_written_good : o_y_X0_written.all goodWord = true := by decide +kernel
def p_y_X0_written : List Cond := o_y_X0_written ++ ((.code yX1_isMap cX1_isMap 2 (some .boolean) :: p_y_X1_isMap) ++ ((.code yX0_withPair cX0_withPair 7 (some .int) :: p_y_X0_withPair) ++ ((.code yX0_withSlice cX0_withSlice 10 (some .int) :: p_y_X0_withSlice) ++ ((.code yX1_kind cX1_kind 2 (some .int) :: p_y_X1_kind) ++ ((.code yX0_withImages cX0_withImages 9 (some .int) :: p_y_X0_withImages) ++ ((.code yX0_withMember cX0_withMember 9 (some .int) :: p_y_X0_withMember) ++ []))))))
theorem p_y_X0_written_good : p_y_X0_written.all goodWord = true := nb_all2 o_y_X0_written_good (nb_all2 (nb_allc (by decide +kernel) p_y_X1_isMap_good) (nb_all2 (nb_allc (by decide +kernel) p_y_X0_withPair_good) (nb_all2 (nb_allc (by decide +kernel) p_y_X0_withSlice_good) (nb_all2 (nb_allc (by decide +kernel) p_y_X1_kind_good) (nb_all2 (nb_allc (by decide +kernel) p_y_X0_withImages_good) (nb_all2 (nb_allc (by decide +kernel) p_y_X0_withMember_good) rfl))))))
def w_y_X0_written : List Cond := .code yX0_written cX0_written 6 (some .int) :: (p_y_X0_written ++ fC)
theorem w_y_X0_written_good : w_y_X0_written.all goodWord = true := nb_allc (by decide +kernel) (nb_all2 p_y_X0_written_good fC_good)
theorem in_y_X0_written_X0 : ∀ w ∈ wsX00, w ∈ w_y_X0_written := fun _ h => List.mem_cons_of_mem _ (List.mem_append_right _ (List.mem_append_left _ h))
theorem hd_y_X0_written : yX0_written.cls = RX0 ∧ yX0_written.cls ≠ "java/lang/invoke/MethodHandle" ∧ yX0_written.cls ≠ "java/lang/invoke/VarHandle" ∧ (parseMethodDescriptor yX0_written.desc).map (fun d => d.parameters.length) = some 5 := by decide +kernel
theorem gg_y_X0_written_X0_withImages : GoodIn w_y_X0_written w_y_X0_withImages := goodIn_sub (fun w h => (List.mem_cons.mp h).elim (fun e => (List.mem_cons_of_mem _ (List.mem_append_left _ (List.mem_append_right _ (List.mem_append_right _ (List.mem_append_right _ (List.mem_append_right _ (List.mem_append_right _ (List.mem_append_left _ (List.mem_cons.mpr (Or.inl e))))))))))) (fun h => (List.mem_append.mp h).elim (fun h => (List.mem_cons_of_mem _ (List.mem_append_left _ (List.mem_append_right _ (List.mem_append_right _ (List.mem_append_right _ (List.mem_append_right _ (List.mem_append_right _ (List.mem_append_left _ (List.mem_cons_of_mem _ h)))))))))) (fun h => List.mem_cons_of_mem _ (List.mem_append_right _ h)))) w_y_X0_withImages_good
theorem g_y_X0_written_X0_withImages_V285 : GoodIn w_y_X0_written (wsV RX0 285 RX0 yX0_withImages w_y_X0_withImages) := goodIn_app (nb_g4 (List.mem_cons_of_mem _ (List.mem_append_left _ (List.mem_append_left _ (List.mem_of_getElem? (i := 15) rfl)))) (List.mem_cons_of_mem _ (List.mem_append_left _ (List.mem_append_left _ (List.mem_of_getElem? (i := 16) rfl)))) (List.mem_cons_of_mem _ (List.mem_append_left _ (List.mem_append_left _ (List.mem_of_getElem? (i := 17) rfl)))) (List.mem_cons_of_mem _ (List.mem_append_left _ (List.mem_append_left _ (List.mem_of_getElem? (i := 8) rfl)))) (by decide +kernel)) gg_y_X0_written_X0_withImages
theorem gg_y_X0_written_X0_withMember : GoodIn w_y_X0_written w_y_X0_withMember := goodIn_sub (fun w h => (List.mem_cons.mp h).elim (fun e => (List.mem_cons_of_mem _ (List.mem_append_left _ (List.mem_append_right _ (List.mem_append_right _ (List.mem_append_right _ (List.mem_append_right _ (List.mem_append_right _ (List.mem_append_right _ (List.mem_append_left _ (List.mem_cons.mpr (Or.inl e)))))))))))) (fun h => (List.mem_append.mp h).elim (fun h => (List.mem_cons_of_mem _ (List.mem_append_left _ (List.mem_append_right _ (List.mem_append_right _ (List.mem_append_right _ (List.mem_append_right _ (List.mem_append_right _ (List.mem_append_right _ (List.mem_append_left _ (List.mem_cons_of_mem _ h))))))))))) (fun h => List.mem_cons_of_mem _ (List.mem_append_right _ h)))) w_y_X0_withMember_good
theorem g_y_X0_written_X0_withMember_V279 : GoodIn w_y_X0_written (wsV RX0 279 RX0 yX0_withMember w_y_X0_withMember) := goodIn_app (nb_g4 (List.mem_cons_of_mem _ (List.mem_append_left _ (List.mem_append_left _ (List.mem_of_getElem? (i := 18) rfl)))) (List.mem_cons_of_mem _ (List.mem_append_left _ (List.mem_append_left _ (List.mem_of_getElem? (i := 19) rfl)))) (List.mem_cons_of_mem _ (List.mem_append_left _ (List.mem_append_left _ (List.mem_of_getElem? (i := 20) rfl)))) (List.mem_cons_of_mem _ (List.mem_append_left _ (List.mem_append_left _ (List.mem_of_getElem? (i := 8) rfl)))) (by decide +kernel)) gg_y_X0_written_X0_withMember
theorem gg_y_X0_written_X0_withPair : GoodIn w_y_X0_written w_y_X0_withPair := goodIn_sub (fun w h => (List.mem_cons.mp h).elim (fun e => (List.mem_cons_of_mem _ (List.mem_append_left _ (List.mem_append_right _ (List.mem_append_right _ (List.mem_append_left _ (List.mem_cons.mpr (Or.inl e)))))))) (fun h => (List.mem_append.mp h).elim (fun h => (List.mem_cons_of_mem _ (List.mem_append_left _ (List.mem_append_right _ (List.mem_append_right _ (List.mem_append_left _ (List.mem_cons_of_mem _ h))))))) (fun h => List.mem_cons_of_mem _ (List.mem_append_right _ h)))) w_y_X0_withPair_good
theorem g_y_X0_written_X0_withPair_V276 : GoodIn w_y_X0_written (wsV RX0 276 RX0 yX0_withPair w_y_X0_withPair) := goodIn_app (nb_g4 (List.mem_cons_of_mem _ (List.mem_append_left _ (List.mem_append_left _ (List.mem_of_getElem? (i := 5) rfl)))) (List.mem_cons_of_mem _ (List.mem_append_left _ (List.mem_append_left _ (List.mem_of_getElem? (i := 6) rfl)))) (List.mem_cons_of_mem _ (List.mem_append_left _ (List.mem_append_left _ (List.mem_of_getElem? (i := 7) rfl)))) (List.mem_cons_of_mem _ (List.mem_append_left _ (List.mem_append_left _ (List.mem_of_getElem? (i := 8) rfl)))) (by decide +kernel)) gg_y_X0_written_X0_withPair
theorem gg_y_X0_written_X0_withSlice : GoodIn w_y_X0_written w_y_X0_withSlice := goodIn_sub (fun w h => (List.mem_cons.mp h).elim (fun e => (List.mem_cons_of_mem _ (List.mem_append_left _ (List.mem_append_right _ (List.mem_append_right _ (List.mem_append_right _ (List.mem_append_left _ (List.mem_cons.mpr (Or.inl e))))))))) (fun h => (List.mem_append.mp h).elim (fun h => (List.mem_cons_of_mem _ (List.mem_append_left _ (List.mem_append_right _ (List.mem_append_right _ (List.mem_append_right _ (List.mem_append_left _ (List.mem_cons_of_mem _ h)))))))) (fun h => List.mem_cons_of_mem _ (List.mem_append_right _ h)))) w_y_X0_withSlice_good
theorem g_y_X0_written_X0_withSlice_V282 : GoodIn w_y_X0_written (wsV RX0 282 RX0 yX0_withSlice w_y_X0_withSlice) := goodIn_app (nb_g4 (List.mem_cons_of_mem _ (List.mem_append_left _ (List.mem_append_left _ (List.mem_of_getElem? (i := 9) rfl)))) (List.mem_cons_of_mem _ (List.mem_append_left _ (List.mem_append_left _ (List.mem_of_getElem? (i := 10) rfl)))) (List.mem_cons_of_mem _ (List.mem_append_left _ (List.mem_append_left _ (List.mem_of_getElem? (i := 11) rfl)))) (List.mem_cons_of_mem _ (List.mem_append_left _ (List.mem_append_left _ (List.mem_of_getElem? (i := 8) rfl)))) (by decide +kernel)) gg_y_X0_written_X0_withSlice
theorem gg_y_X0_written_X1_isMap : GoodIn w_y_X0_written w_y_X1_isMap := goodIn_sub (fun w h => (List.mem_cons.mp h).elim (fun e => (List.mem_cons_of_mem _ (List.mem_append_left _ (List.mem_append_right _ (List.mem_append_left _ (List.mem_cons.mpr (Or.inl e))))))) (fun h => (List.mem_append.mp h).elim (fun h => (List.mem_cons_of_mem _ (List.mem_append_left _ (List.mem_append_right _ (List.mem_append_left _ (List.mem_cons_of_mem _ h)))))) (fun h => List.mem_cons_of_mem _ (List.mem_append_right _ h)))) w_y_X1_isMap_good
theorem g_y_X0_written_X1_isMap_V191 : GoodIn w_y_X0_written (wsV RX0 191 RX1 yX1_isMap w_y_X1_isMap) := goodIn_app (nb_g4 (List.mem_cons_of_mem _ (List.mem_append_left _ (List.mem_append_left _ (List.mem_of_getElem? (i := 1) rfl)))) (List.mem_cons_of_mem _ (List.mem_append_left _ (List.mem_append_left _ (List.mem_of_getElem? (i := 2) rfl)))) (List.mem_cons_of_mem _ (List.mem_append_left _ (List.mem_append_left _ (List.mem_of_getElem? (i := 3) rfl)))) (List.mem_cons_of_mem _ (List.mem_append_left _ (List.mem_append_left _ (List.mem_of_getElem? (i := 4) rfl)))) (by decide +kernel)) gg_y_X0_written_X1_isMap
theorem gg_y_X0_written_X1_kind : GoodIn w_y_X0_written w_y_X1_kind := goodIn_sub (fun w h => (List.mem_cons.mp h).elim (fun e => (List.mem_cons_of_mem _ (List.mem_append_left _ (List.mem_append_right _ (List.mem_append_right _ (List.mem_append_right _ (List.mem_append_right _ (List.mem_append_left _ (List.mem_cons.mpr (Or.inl e)))))))))) (fun h => (List.mem_append.mp h).elim (fun h => (List.mem_cons_of_mem _ (List.mem_append_left _ (List.mem_append_right _ (List.mem_append_right _ (List.mem_append_right _ (List.mem_append_right _ (List.mem_append_left _ (List.mem_cons_of_mem _ h))))))))) (fun h => List.mem_cons_of_mem _ (List.mem_append_right _ h)))) w_y_X1_kind_good
theorem g_y_X0_written_X1_kind_V87 : GoodIn w_y_X0_written (wsV RX0 87 RX1 yX1_kind w_y_X1_kind) := goodIn_app (nb_g4 (List.mem_cons_of_mem _ (List.mem_append_left _ (List.mem_append_left _ (List.mem_of_getElem? (i := 12) rfl)))) (List.mem_cons_of_mem _ (List.mem_append_left _ (List.mem_append_left _ (List.mem_of_getElem? (i := 13) rfl)))) (List.mem_cons_of_mem _ (List.mem_append_left _ (List.mem_append_left _ (List.mem_of_getElem? (i := 14) rfl)))) (List.mem_cons_of_mem _ (List.mem_append_left _ (List.mem_append_left _ (List.mem_of_getElem? (i := 4) rfl)))) (by decide +kernel)) gg_y_X0_written_X1_kind
set_option maxHeartbeats 40000000 in
set_option maxRecDepth 100000 in
theorem c_y_X0_written (l : Launch) (dC : Nat → ClassId) (dI : Nat → Nat → Nat) (cy : Nat → ClassId) (a z : Nat → Nat) (k0 : Nat) (L0 : LV) (σ0 : CS) (r0 : Int32 × CS) (h0 : y_X0_written k0 0 L0 σ0 = some r0) (sz : Nat) : Met l yX0_written w_y_X0_written ({ frames := 64, cells := 0, slots := 0, locals := 1792 }) (va_Pc [.ref (a 14), .int (L0.1 1), .int (L0.1 2), .int (L0.1 3), .int (L0.1 4), .int (L0.1 5)] (nIn (dC, dI) cy sz (vC cy a z σ0))) (va_Qi (fun (x : Int32) (_ : Unit) => x = r0.1) (fun _ t => nOut (dC, dI) cy (va_A (vC cy a z σ0) sz) (vC cy a z r0.2) t) (va_A (vC cy a z σ0) sz)) 0 0 (va_A (vC cy a z σ0) sz) := by
  refine Met.ofW (cc := cX0_written) (maxL := 6) (ret := (some .int)) (by decide) rfl ?_
  intro p e s m args below meth c s₁ B hml hv
  obtain ⟨rfl, hsz, hP, hK, hD0, hG⟩ := hv
  have hx := B.exec
  have hb := B.bytes
  have hr := B.returns
  have hts := atoms_spec (ws := w_y_X0_written) B.pre
  have hown : s.vm.findClass RX0 = some m.cls := findClass_of_methodNamed B.named
  have hlocks := B.notSynchronized
  subst hsz
  have hD := hD0.self (sz := s.heap.size)
  generalize hAe : va_A (vC cy a z σ0) s.heap.size = A at hD ⊢
  have hA : ∀ q : Nat, s.heap.size ≤ q → A q := fun q h => by rw [← hAe]; exact Or.inr h
  have hS : va_S A s.heap s.heap [] := va_S.rf
  have hl := lv_entry ([.ref (a 14), .int (L0.1 1), .int (L0.1 2), .int (L0.1 3), .int (L0.1 4), .int (L0.1 5)]) (n := 6) (Nat.le_of_ble_eq_true rfl)
  rw [lg_entry_eq]
  generalize (lg_sl ([.ref (a 14), .int (L0.1 1), .int (L0.1 2), .int (L0.1 3), .int (L0.1 4), .int (L0.1 5)]) ++ List.replicate (6 - (lg_sl ([.ref (a 14), .int (L0.1 1), .int (L0.1 2), .int (L0.1 3), .int (L0.1 4), .int (L0.1 5)])).length) Slot.unset).toArray = ls at hl ⊢
  have hl : lv_has ls 6 [(0, .ref (a 14)), (1, .int (L0.1 1)), (2, .int (L0.1 2)), (3, .int (L0.1 3)), (4, .int (L0.1 4)), (5, .int (L0.1 5))] := hl
  have blk : ∀ k : Nat, (bC p l e (headSpec w_y_X0_written ({ frames := 64, cells := 0, slots := 0, locals := 1792 })).room s m #[.ref (a 14), .int (L0.1 1), .int (L0.1 2), .int (L0.1 3), .int (L0.1 4), .int (L0.1 5)] below meth c dC dI cy a z A (kI dC dI cy a z A below #[.ref (a 14), .int (L0.1 1), .int (L0.1 2), .int (L0.1 3), .int (L0.1 4), .int (L0.1 5)] s) 6 (y_X0_written k 0) (fun L => [(0, .ref (a 14)), (1, .int (L.1 1)), (2, .int (L.1 2)), (3, .int (L.1 3)), (4, .int (L.1 4)), (5, .int (L.1 5))]) 0 (fun L => [])) ∧ (bC p l e (headSpec w_y_X0_written ({ frames := 64, cells := 0, slots := 0, locals := 1792 })).room s m #[.ref (a 14), .int (L0.1 1), .int (L0.1 2), .int (L0.1 3), .int (L0.1 4), .int (L0.1 5)] below meth c dC dI cy a z A (kI dC dI cy a z A below #[.ref (a 14), .int (L0.1 1), .int (L0.1 2), .int (L0.1 3), .int (L0.1 4), .int (L0.1 5)] s) 6 (y_X0_written k 1) (fun L => [(0, .ref (a 14)), (2, .int (L.1 2)), (3, .int (L.1 3)), (5, .int (L.1 5))]) 28 (fun L => [])) ∧ (bC p l e (headSpec w_y_X0_written ({ frames := 64, cells := 0, slots := 0, locals := 1792 })).room s m #[.ref (a 14), .int (L0.1 1), .int (L0.1 2), .int (L0.1 3), .int (L0.1 4), .int (L0.1 5)] below meth c dC dI cy a z A (kI dC dI cy a z A below #[.ref (a 14), .int (L0.1 1), .int (L0.1 2), .int (L0.1 3), .int (L0.1 4), .int (L0.1 5)] s) 6 (y_X0_written k 2) (fun L => [(0, .ref (a 14)), (2, .int (L.1 2)), (3, .int (L.1 3)), (4, .int (L.1 4)), (5, .int (L.1 5))]) 59 (fun L => [])) ∧ (bC p l e (headSpec w_y_X0_written ({ frames := 64, cells := 0, slots := 0, locals := 1792 })).room s m #[.ref (a 14), .int (L0.1 1), .int (L0.1 2), .int (L0.1 3), .int (L0.1 4), .int (L0.1 5)] below meth c dC dI cy a z A (kI dC dI cy a z A below #[.ref (a 14), .int (L0.1 1), .int (L0.1 2), .int (L0.1 3), .int (L0.1 4), .int (L0.1 5)] s) 6 (y_X0_written k 3) (fun L => [(0, .ref (a 14)), (2, .int (L.1 2)), (3, .int (L.1 3)), (5, .int (L.1 5))]) 70 (fun L => [])) ∧ (bC p l e (headSpec w_y_X0_written ({ frames := 64, cells := 0, slots := 0, locals := 1792 })).room s m #[.ref (a 14), .int (L0.1 1), .int (L0.1 2), .int (L0.1 3), .int (L0.1 4), .int (L0.1 5)] below meth c dC dI cy a z A (kI dC dI cy a z A below #[.ref (a 14), .int (L0.1 1), .int (L0.1 2), .int (L0.1 3), .int (L0.1 4), .int (L0.1 5)] s) 6 (y_X0_written k 4) (fun L => [(0, .ref (a 14)), (2, .int (L.1 2)), (3, .int (L.1 3)), (5, .int (L.1 5))]) 50 (fun L => [])) ∧ (bC p l e (headSpec w_y_X0_written ({ frames := 64, cells := 0, slots := 0, locals := 1792 })).room s m #[.ref (a 14), .int (L0.1 1), .int (L0.1 2), .int (L0.1 3), .int (L0.1 4), .int (L0.1 5)] below meth c dC dI cy a z A (kI dC dI cy a z A below #[.ref (a 14), .int (L0.1 1), .int (L0.1 2), .int (L0.1 3), .int (L0.1 4), .int (L0.1 5)] s) 6 (y_X0_written k 5) (fun L => []) 58 (fun L => [.int (L.1 100)])) ∧ (bC p l e (headSpec w_y_X0_written ({ frames := 64, cells := 0, slots := 0, locals := 1792 })).room s m #[.ref (a 14), .int (L0.1 1), .int (L0.1 2), .int (L0.1 3), .int (L0.1 4), .int (L0.1 5)] below meth c dC dI cy a z A (kI dC dI cy a z A below #[.ref (a 14), .int (L0.1 1), .int (L0.1 2), .int (L0.1 3), .int (L0.1 4), .int (L0.1 5)] s) 6 (y_X0_written k 6) (fun L => []) 106 (fun L => [])) ∧ (bC p l e (headSpec w_y_X0_written ({ frames := 64, cells := 0, slots := 0, locals := 1792 })).room s m #[.ref (a 14), .int (L0.1 1), .int (L0.1 2), .int (L0.1 3), .int (L0.1 4), .int (L0.1 5)] below meth c dC dI cy a z A (kI dC dI cy a z A below #[.ref (a 14), .int (L0.1 1), .int (L0.1 2), .int (L0.1 3), .int (L0.1 4), .int (L0.1 5)] s) 6 (y_X0_written k 7) (fun L => []) 108 (fun L => [.int (L.1 100)])) := by
    intro k
    induction k with
    | zero => exact ⟨fun L σ r h => (by cases h), fun L σ r h => (by cases h), fun L σ r h => (by cases h), fun L σ r h => (by cases h), fun L σ r h => (by cases h), fun L σ r h => (by cases h), fun L σ r h => (by cases h), fun L σ r h => (by cases h)⟩
    | succ k ih =>
      refine ⟨?_, ?_, ?_, ?_, ?_, ?_, ?_, ?_⟩
      · intro L σ r h H locs ls hP hD hS hl
        rw [y_X0_written] at h
        refine lv_iload_n hx hb dX0_written_0 rfl (lv_at hl 1 rfl) ?_
        by_cases q1 : ((L.1 1)) = (96 : Int32)
        · rw [if_pos q1] at h
          refine lv_lookup (off := 27) (tgt := 28) hx hb dX0_written_1 (by decide) (by rw [q1]; decide) (by decide) ?_
          exact ih.2.1 L σ r h H locs ls hP hD hS (lv_sub hl [0, 2, 3, 5] rfl)
        · rw [if_neg q1] at h
          by_cases q2 : ((L.1 1)) = (97 : Int32)
          · rw [if_pos q2] at h
            refine lv_lookup (off := 58) (tgt := 59) hx hb dX0_written_1 (by decide) (by rw [q2]; decide) (by decide) ?_
            exact ih.2.2.1 L σ r h H locs ls hP hD hS (lv_sub hl [0, 2, 3, 4, 5] rfl)
          · rw [if_neg q2] at h
            have nq1 : ¬ ((L.1 1)).toInt = 96 := nb_ti q1 rfl
            have nq2 : ¬ ((L.1 1)).toInt = 97 := nb_ti q2 rfl
            refine lv_lookup (off := 69) (tgt := 70) hx hb dX0_written_1 (by decide) (nb_lk (by simp only [List.forall_mem_cons]; exact ⟨nq1, nq2, fun _ h => absurd h List.not_mem_nil⟩)) (by decide) ?_
            exact ih.2.2.2.1 L σ r h H locs ls hP hD hS (lv_sub hl [0, 2, 3, 5] rfl)
      · intro L σ r h H locs ls hP hD hS hl
        rw [y_X0_written] at h
        refine lv_aload_n hx hb dX0_written_28 rfl (lv_at hl 0 rfl) ?_
        refine hg_14_0 hx hb hts in_y_X0_written_X0 hown hK hP (hts _ (List.mem_cons_of_mem _ (List.mem_append_left _ (List.mem_append_left _ (List.mem_of_getElem? (i := 0) rfl))))) dX0_written_29 ?_
        refine lv_iload_n hx hb dX0_written_32 rfl (lv_at hl 1 rfl) ?_
        obtain ⟨r1, hc1, h⟩ := oc_ex h
        refine kc_i (va_runV (As := [.int (L.1 2)]) (rest := []) ⟨hx, hb, hml, hown, hts⟩ (c_y_X1_isMap l dC dI cy a z k (lI lZ 1 ((L.1 2))) σ r1 hc1 H.size) (cwV 1 hts g_y_X0_written_X1_isMap_V191 rfl rfl rfl hd_y_X1_isMap ⟨Nat.le_of_ble_eq_true rfl, Nat.le_of_ble_eq_true rfl⟩) ⟨nb_blind, va_recv hK hP (ci := 1) (q0 := 0) rfl rfl, (kb_pre hK hG hP hD)⟩ rfl rfl hl.1 rfl (lv_room (Nat.le_of_ble_eq_true rfl)) dX0_written_33 ⟨Nat.le_refl _, Nat.le_refl _⟩) hA hP hD hS (fun H locs hP hD hS => ?_)
        refine lv_if_eq (tgt := 50) hx hb dX0_written_36 (by decide) (fun c2 => ?_) (fun c2 => ?_)
        · rw [if_pos c2] at h
          exact ih.2.2.2.2.1 L r1.2 r h H locs ls hP hD hS (lv_sub hl [0, 1, 2, 3] rfl)
        · rw [if_neg c2] at h
          refine lv_aload_n hx hb dX0_written_39 rfl (lv_at hl 0 rfl) ?_
          refine lv_iload_n hx hb dX0_written_40 rfl (lv_at hl 1 rfl) ?_
          refine lv_iload_n hx hb dX0_written_41 rfl (lv_at hl 2 rfl) ?_
          refine lv_iload hx hb dX0_written_42 (lv_at hl 3 rfl) ?_
          obtain ⟨r3, hc3, h⟩ := oc_ex h
          refine kc_i (va_runV (As := [.int (L.1 2), .int (L.1 3), .int (L.1 5)]) (rest := []) ⟨hx, hb, hml, hown, hts⟩ (c_y_X0_withPair l dC dI cy a z k (lI (lI (lI lZ 1 ((L.1 2))) 2 ((L.1 3))) 3 ((L.1 5))) r1.2 r3 hc3 H.size) (cwV 3 hts g_y_X0_written_X0_withPair_V276 rfl rfl rfl hd_y_X0_withPair ⟨Nat.le_of_ble_eq_true rfl, Nat.le_of_ble_eq_true rfl⟩) ⟨nb_blind, va_recv hK hP (ci := 0) (q0 := 14) rfl rfl, (kb_pre hK hG hP hD)⟩ rfl rfl hl.1 rfl (lv_room (Nat.le_of_ble_eq_true rfl)) dX0_written_44 ⟨Nat.le_refl _, Nat.le_refl _⟩) hA hP hD hS (fun H locs hP hD hS => ?_)
          refine lv_goto (tgt := 58) hx hb dX0_written_47 (by decide) ?_
          exact ih.2.2.2.2.2.1 (lI L 100 r3.1) r3.2 r h H locs ls hP hD hS (lv_sub hl [] rfl)
      · intro L σ r h H locs ls hP hD hS hl
        rw [y_X0_written] at h
        refine lv_aload_n hx hb dX0_written_59 rfl (lv_at hl 0 rfl) ?_
        refine lv_iload_n hx hb dX0_written_60 rfl (lv_at hl 1 rfl) ?_
        refine lv_iload_n hx hb dX0_written_61 rfl (lv_at hl 2 rfl) ?_
        refine lv_iload hx hb dX0_written_62 (lv_at hl 3 rfl) ?_
        refine lv_iload hx hb dX0_written_64 (lv_at hl 4 rfl) ?_
        obtain ⟨r1, hc1, h⟩ := oc_ex h
        refine kc_i (va_runV (As := [.int (L.1 2), .int (L.1 3), .int (L.1 4), .int (L.1 5)]) (rest := []) ⟨hx, hb, hml, hown, hts⟩ (c_y_X0_withSlice l dC dI cy a z k (lI (lI (lI (lI lZ 1 ((L.1 2))) 2 ((L.1 3))) 3 ((L.1 4))) 4 ((L.1 5))) σ r1 hc1 H.size) (cwV 4 hts g_y_X0_written_X0_withSlice_V282 rfl rfl rfl hd_y_X0_withSlice ⟨Nat.le_of_ble_eq_true rfl, Nat.le_of_ble_eq_true rfl⟩) ⟨nb_blind, va_recv hK hP (ci := 0) (q0 := 14) rfl rfl, (kb_pre hK hG hP hD)⟩ rfl rfl hl.1 rfl (lv_room (Nat.le_of_ble_eq_true rfl)) dX0_written_66 ⟨Nat.le_refl _, Nat.le_refl _⟩) hA hP hD hS (fun H locs hP hD hS => ?_)
        obtain rfl := Option.some.inj h
        exact W.iret (v := r1.1) hx hb hr (fun t ht hW => ⟨⟨r1.1, (), rfl, rfl, by rw [ht]; exact hP, va_K.moved hW.alike hK, hD⟩, hS.F ht⟩) hS.2.2 dX0_written_69
      · intro L σ r h H locs ls hP hD hS hl
        rw [y_X0_written] at h
        refine lv_aload_n hx hb dX0_written_70 rfl (lv_at hl 0 rfl) ?_
        refine hg_14_0 hx hb hts in_y_X0_written_X0 hown hK hP (hts _ (List.mem_cons_of_mem _ (List.mem_append_left _ (List.mem_append_left _ (List.mem_of_getElem? (i := 0) rfl))))) dX0_written_71 ?_
        refine lv_iload_n hx hb dX0_written_74 rfl (lv_at hl 1 rfl) ?_
        obtain ⟨r1, hc1, h⟩ := oc_ex h
        refine kc_i (va_runV (As := [.int (L.1 2)]) (rest := []) ⟨hx, hb, hml, hown, hts⟩ (c_y_X1_isMap l dC dI cy a z k (lI lZ 1 ((L.1 2))) σ r1 hc1 H.size) (cwV 1 hts g_y_X0_written_X1_isMap_V191 rfl rfl rfl hd_y_X1_isMap ⟨Nat.le_of_ble_eq_true rfl, Nat.le_of_ble_eq_true rfl⟩) ⟨nb_blind, va_recv hK hP (ci := 1) (q0 := 0) rfl rfl, (kb_pre hK hG hP hD)⟩ rfl rfl hl.1 rfl (lv_room (Nat.le_of_ble_eq_true rfl)) dX0_written_75 ⟨Nat.le_refl _, Nat.le_refl _⟩) hA hP hD hS (fun H locs hP hD hS => ?_)
        refine lv_if_eq (tgt := 106) hx hb dX0_written_78 (by decide) (fun c2 => ?_) (fun c2 => ?_)
        · rw [if_pos c2] at h
          exact ih.2.2.2.2.2.2.1 L r1.2 r h H locs ls hP hD hS (lv_sub hl [] rfl)
        · rw [if_neg c2] at h
          refine lv_aload_n hx hb dX0_written_81 rfl (lv_at hl 0 rfl) ?_
          refine hg_14_0 hx hb hts in_y_X0_written_X0 hown hK hP (hts _ (List.mem_cons_of_mem _ (List.mem_append_left _ (List.mem_append_left _ (List.mem_of_getElem? (i := 0) rfl))))) dX0_written_82 ?_
          refine lv_iload hx hb dX0_written_85 (lv_at hl 3 rfl) ?_
          obtain ⟨r3, hc3, h⟩ := oc_ex h
          refine kc_i (va_runV (As := [.int (L.1 5)]) (rest := []) ⟨hx, hb, hml, hown, hts⟩ (c_y_X1_kind l dC dI cy a z k (lI lZ 1 ((L.1 5))) r1.2 r3 hc3 H.size) (cwV 1 hts g_y_X0_written_X1_kind_V87 rfl rfl rfl hd_y_X1_kind ⟨Nat.le_of_ble_eq_true rfl, Nat.le_of_ble_eq_true rfl⟩) ⟨nb_blind, va_recv hK hP (ci := 1) (q0 := 0) rfl rfl, (kb_pre hK hG hP hD)⟩ rfl rfl hl.1 rfl (lv_room (Nat.le_of_ble_eq_true rfl)) dX0_written_87 ⟨Nat.le_refl _, Nat.le_refl _⟩) hA hP hD hS (fun H locs hP hD hS => ?_)
          refine lv_bipush (v := 6) hx hb dX0_written_90 (by decide) ?_
          refine lv_icmp_ne (tgt := 106) hx hb dX0_written_92 (by decide) (fun c4 => ?_) (fun c4 => ?_)
          · rw [if_neg c4] at h
            exact ih.2.2.2.2.2.2.1 L r3.2 r h H locs ls hP hD hS (lv_sub hl [] rfl)
          · rw [if_pos c4] at h
            refine lv_aload_n hx hb dX0_written_95 rfl (lv_at hl 0 rfl) ?_
            refine lv_iload_n hx hb dX0_written_96 rfl (lv_at hl 1 rfl) ?_
            refine lv_iload_n hx hb dX0_written_97 rfl (lv_at hl 2 rfl) ?_
            refine lv_iload hx hb dX0_written_98 (lv_at hl 3 rfl) ?_
            obtain ⟨r5, hc5, h⟩ := oc_ex h
            refine kc_i (va_runV (As := [.int (L.1 2), .int (L.1 3), .int (L.1 5)]) (rest := []) ⟨hx, hb, hml, hown, hts⟩ (c_y_X0_withImages l dC dI cy a z k (lI (lI (lI lZ 1 ((L.1 2))) 2 ((L.1 3))) 3 ((L.1 5))) r3.2 r5 hc5 H.size) (cwV 3 hts g_y_X0_written_X0_withImages_V285 rfl rfl rfl hd_y_X0_withImages ⟨Nat.le_of_ble_eq_true rfl, Nat.le_of_ble_eq_true rfl⟩) ⟨nb_blind, va_recv hK hP (ci := 0) (q0 := 14) rfl rfl, (kb_pre hK hG hP hD)⟩ rfl rfl hl.1 rfl (lv_room (Nat.le_of_ble_eq_true rfl)) dX0_written_100 ⟨Nat.le_refl _, Nat.le_refl _⟩) hA hP hD hS (fun H locs hP hD hS => ?_)
            refine lv_goto (tgt := 108) hx hb dX0_written_103 (by decide) ?_
            exact ih.2.2.2.2.2.2.2 (lI L 100 r5.1) r5.2 r h H locs ls hP hD hS (lv_sub hl [] rfl)
      · intro L σ r h H locs ls hP hD hS hl
        rw [y_X0_written] at h
        refine lv_aload_n hx hb dX0_written_50 rfl (lv_at hl 0 rfl) ?_
        refine lv_iload_n hx hb dX0_written_51 rfl (lv_at hl 1 rfl) ?_
        refine lv_iload_n hx hb dX0_written_52 rfl (lv_at hl 2 rfl) ?_
        refine lv_iload hx hb dX0_written_53 (lv_at hl 3 rfl) ?_
        obtain ⟨r1, hc1, h⟩ := oc_ex h
        refine kc_i (va_runV (As := [.int (L.1 2), .int (L.1 3), .int (L.1 5)]) (rest := []) ⟨hx, hb, hml, hown, hts⟩ (c_y_X0_withMember l dC dI cy a z k (lI (lI (lI lZ 1 ((L.1 2))) 2 ((L.1 3))) 3 ((L.1 5))) σ r1 hc1 H.size) (cwV 3 hts g_y_X0_written_X0_withMember_V279 rfl rfl rfl hd_y_X0_withMember ⟨Nat.le_of_ble_eq_true rfl, Nat.le_of_ble_eq_true rfl⟩) ⟨nb_blind, va_recv hK hP (ci := 0) (q0 := 14) rfl rfl, (kb_pre hK hG hP hD)⟩ rfl rfl hl.1 rfl (lv_room (Nat.le_of_ble_eq_true rfl)) dX0_written_55 ⟨Nat.le_refl _, Nat.le_refl _⟩) hA hP hD hS (fun H locs hP hD hS => ?_)
        exact ih.2.2.2.2.2.1 (lI L 100 r1.1) r1.2 r h H locs ls hP hD hS (lv_sub hl [] rfl)
      · intro L σ r h H locs ls hP hD hS hl
        rw [y_X0_written] at h
        obtain rfl := Option.some.inj h
        exact W.iret (v := (L.1 100)) hx hb hr (fun t ht hW => ⟨⟨(L.1 100), (), rfl, rfl, by rw [ht]; exact hP, va_K.moved hW.alike hK, hD⟩, hS.F ht⟩) hS.2.2 dX0_written_58
      · intro L σ r h H locs ls hP hD hS hl
        rw [y_X0_written] at h
        refine lv_ldc (v := (-268435455)) hx hb hown (hts _ (List.mem_cons_of_mem _ (List.mem_append_left _ (List.mem_append_left _ (List.mem_of_getElem? (i := 21) rfl))))) dX0_written_106 ?_
        exact ih.2.2.2.2.2.2.2 (lI L 100 ((-268435455))) σ r h H locs ls hP hD hS (lv_sub hl [] rfl)
      · intro L σ r h H locs ls hP hD hS hl
        rw [y_X0_written] at h
        obtain rfl := Option.some.inj h
        exact W.iret (v := (L.1 100)) hx hb hr (fun t ht hW => ⟨⟨(L.1 100), (), rfl, rfl, by rw [ht]; exact hP, va_K.moved hW.alike hK, hD⟩, hS.F ht⟩) hS.2.2 dX0_written_108
  exact (blk k0).1 L0 σ0 r0 h0 s.heap [] ls hP hD hS hl
/-! X0_remainder -/
def y_X0_remainder : Nat → Nat → LV → CS → Option (Int32 × CS)
  | 0, _, _, _ => none
  | k + 1, 0, L, σ => oc (y_X1_length k 0 (lI lZ 1 ((L.1 1))) σ) (fun r1 => if ((L.1 2)) = 2 then (y_X0_remainder k 2 (lI (lI L 3 r1.1) 100 0) r1.2) else (y_X0_remainder k 1 (lI L 3 r1.1) r1.2))
  | k + 1, 1, L, σ => y_X0_remainder k 2 (lI L 100 1) σ
  | k + 1, 2, L, σ => if ((L.1 2)) = 2 then (y_X0_remainder k 4 (lI (lI L 4 ((L.1 100))) 100 ((((L.1 3)) - 1))) σ) else (y_X0_remainder k 3 (lI L 4 ((L.1 100))) σ)
  | k + 1, 3, L, σ => y_X0_remainder k 4 (lI L 100 ((L.1 3))) σ
  | k + 1, 4, L, σ => oc (y_X1_kind k 0 (lI lZ 1 ((L.1 1))) σ) (fun r1 => if r1.1 = 4 then (oc (y_X1_copyBytes__a15 k 0 (lI (lI (lI (lI lZ 1 ((L.1 1))) 2 ((L.1 4))) 3 ((((L.1 100)) - ((L.1 4))))) 5 0) r1.2) (fun r3 => oc (y_X1_makeString__a15 k 0 (lI (lI lZ 2 0) 3 ((((L.1 100)) - ((L.1 4))))) r3.2) (fun r4 => some (r4.1, r4.2)))) else (y_X0_remainder k 5 (lI L 5 ((L.1 100))) r1.2))
  | k + 1, 5, L, σ => oc (y_X0_load k 0 (lI (lI (lI (lI lZ 1 ((L.1 1))) 2 ((L.1 4))) 3 ((L.1 5))) 4 0) σ) (fun r1 => if ((L.1 2)) = 0 then (oc (y_X1_makeRow__a16 k 0 (lI (lI (lI lZ 1 6) 3 0) 4 r1.1) r1.2) (fun r3 => y_X0_remainder k 7 (lI L 100 r3.1) r3.2)) else (y_X0_remainder k 6 (lI L 6 r1.1) r1.2))
  | k + 1, 6, L, σ => oc (y_X1_makeTuple__a16 k 0 (lI (lI lZ 2 0) 3 ((L.1 6))) σ) (fun r1 => y_X0_remainder k 7 (lI L 100 r1.1) r1.2)
  | k + 1, 7, L, σ => some ((L.1 100), σ)
  | _ + 1, _ + 8, _, _ => none
def o_y_X0_remainder : List Cond := [.fieldLink RX0 22 "SetHouse$Algebra" "heap" "LSetHouse$Heap;", .methodLink RX0 100 yX1_length, .instanceMethod yX1_length, .selects RX1 yX1_length yX1_length, .initialized RX1, .methodLink RX0 87 yX1_kind, .instanceMethod yX1_kind, .selects RX1 yX1_kind yX1_kind, .fieldLink RX0 9 "SetHouse$Algebra" "bytes" "[B", .methodLink RX0 114 yX1_copyBytes, .instanceMethod yX1_copyBytes, .selects RX1 yX1_copyBytes yX1_copyBytes, .methodLink RX0 118 yX1_makeString, .instanceMethod yX1_makeString, .selects RX1 yX1_makeString yX1_makeString, .methodLink RX0 103 yX0_load, .instanceMethod yX0_load, .selects RX0 yX0_load yX0_load, .initialized RX0, .fieldLink RX0 15 "SetHouse$Algebra" "row" "[I", .methodLink RX0 160 yX1_makeRow, .instanceMethod yX1_makeRow, .selects RX1 yX1_makeRow yX1_makeRow, .methodLink RX0 107 yX1_makeTuple, .instanceMethod yX1_makeTuple, .selects RX1 yX1_makeTuple yX1_makeTuple]
theorem o_y_X0_remainder_good : o_y_X0_remainder.all goodWord = true := by decide +kernel
def p_y_X0_remainder : List Cond := o_y_X0_remainder ++ ((.code yX1_length cX1_length 2 (some .int) :: p_y_X1_length) ++ ((.code yX1_kind cX1_kind 2 (some .int) :: p_y_X1_kind) ++ ((.code yX1_copyBytes cX1_copyBytes 8 (some .int) :: p_y_X1_copyBytes__a15) ++ ((.code yX1_makeString cX1_makeString 9 (some .int) :: p_y_X1_makeString__a15) ++ ((.code yX0_load cX0_load 6 (some .int) :: p_y_X0_load) ++ ((.code yX1_makeRow cX1_makeRow 11 (some .int) :: p_y_X1_makeRow__a16) ++ ((.code yX1_makeTuple cX1_makeTuple 6 (some .int) :: p_y_X1_makeTuple__a16) ++ [])))))))
theorem p_y_X0_remainder_good : p_y_X0_remainder.all goodWord = true := nb_all2 o_y_X0_remainder_good (nb_all2 (nb_allc (by decide +kernel) p_y_X1_length_good) (nb_all2 (nb_allc (by decide +kernel) p_y_X1_kind_good) (nb_all2 (nb_allc (by decide +kernel) p_y_X1_copyBytes__a15_good) (nb_all2 (nb_allc (by decide +kernel) p_y_X1_makeString__a15_good) (nb_all2 (nb_allc (by decide +kernel) p_y_X0_load_good) (nb_all2 (nb_allc (by decide +kernel) p_y_X1_makeRow__a16_good) (nb_all2 (nb_allc (by decide +kernel) p_y_X1_makeTuple__a16_good) rfl)))))))
def w_y_X0_remainder : List Cond := .code yX0_remainder cX0_remainder 7 (some .int) :: (p_y_X0_remainder ++ fC)
theorem w_y_X0_remainder_good : w_y_X0_remainder.all goodWord = true := nb_allc (by decide +kernel) (nb_all2 p_y_X0_remainder_good fC_good)
theorem in_y_X0_remainder_X0 : ∀ w ∈ wsX00, w ∈ w_y_X0_remainder := fun _ h => List.mem_cons_of_mem _ (List.mem_append_right _ (List.mem_append_left _ h))
theorem hd_y_X0_remainder : yX0_remainder.cls = RX0 ∧ yX0_remainder.cls ≠ "java/lang/invoke/MethodHandle" ∧ yX0_remainder.cls ≠ "java/lang/invoke/VarHandle" ∧ (parseMethodDescriptor yX0_remainder.desc).map (fun d => d.parameters.length) = some 2 := by decide +kernel
theorem gg_y_X0_remainder_X0_load : GoodIn w_y_X0_remainder w_y_X0_load := goodIn_sub (fun w h => (List.mem_cons.mp h).elim (fun e => (List.mem_cons_of_mem _ (List.mem_append_left _ (List.mem_append_right _ (List.mem_append_right _ (List.mem_append_right _ (List.mem_append_right _ (List.mem_append_right _ (List.mem_append_left _ (List.mem_cons.mpr (Or.inl e))))))))))) (fun h => (List.mem_append.mp h).elim (fun h => (List.mem_cons_of_mem _ (List.mem_append_left _ (List.mem_append_right _ (List.mem_append_right _ (List.mem_append_right _ (List.mem_append_right _ (List.mem_append_right _ (List.mem_append_left _ (List.mem_cons_of_mem _ h)))))))))) (fun h => List.mem_cons_of_mem _ (List.mem_append_right _ h)))) w_y_X0_load_good
theorem g_y_X0_remainder_X0_load_V103 : GoodIn w_y_X0_remainder (wsV RX0 103 RX0 yX0_load w_y_X0_load) := goodIn_app (nb_g4 (List.mem_cons_of_mem _ (List.mem_append_left _ (List.mem_append_left _ (List.mem_of_getElem? (i := 15) rfl)))) (List.mem_cons_of_mem _ (List.mem_append_left _ (List.mem_append_left _ (List.mem_of_getElem? (i := 16) rfl)))) (List.mem_cons_of_mem _ (List.mem_append_left _ (List.mem_append_left _ (List.mem_of_getElem? (i := 17) rfl)))) (List.mem_cons_of_mem _ (List.mem_append_left _ (List.mem_append_left _ (List.mem_of_getElem? (i := 18) rfl)))) (by decide +kernel)) gg_y_X0_remainder_X0_load
theorem gg_y_X0_remainder_X1_copyBytes__a15 : GoodIn w_y_X0_remainder w_y_X1_copyBytes__a15 := goodIn_sub (fun w h => (List.mem_cons.mp h).elim (fun e => (List.mem_cons_of_mem _ (List.mem_append_left _ (List.mem_append_right _ (List.mem_append_right _ (List.mem_append_right _ (List.mem_append_left _ (List.mem_cons.mpr (Or.inl e))))))))) (fun h => (List.mem_append.mp h).elim (fun h => (List.mem_cons_of_mem _ (List.mem_append_left _ (List.mem_append_right _ (List.mem_append_right _ (List.mem_append_right _ (List.mem_append_left _ (List.mem_cons_of_mem _ h)))))))) (fun h => List.mem_cons_of_mem _ (List.mem_append_right _ h)))) w_y_X1_copyBytes__a15_good
theorem g_y_X0_remainder_X1_copyBytes__a15_V114 : GoodIn w_y_X0_remainder (wsV RX0 114 RX1 yX1_copyBytes w_y_X1_copyBytes__a15) := goodIn_app (nb_g4 (List.mem_cons_of_mem _ (List.mem_append_left _ (List.mem_append_left _ (List.mem_of_getElem? (i := 9) rfl)))) (List.mem_cons_of_mem _ (List.mem_append_left _ (List.mem_append_left _ (List.mem_of_getElem? (i := 10) rfl)))) (List.mem_cons_of_mem _ (List.mem_append_left _ (List.mem_append_left _ (List.mem_of_getElem? (i := 11) rfl)))) (List.mem_cons_of_mem _ (List.mem_append_left _ (List.mem_append_left _ (List.mem_of_getElem? (i := 4) rfl)))) (by decide +kernel)) gg_y_X0_remainder_X1_copyBytes__a15
theorem gg_y_X0_remainder_X1_kind : GoodIn w_y_X0_remainder w_y_X1_kind := goodIn_sub (fun w h => (List.mem_cons.mp h).elim (fun e => (List.mem_cons_of_mem _ (List.mem_append_left _ (List.mem_append_right _ (List.mem_append_right _ (List.mem_append_left _ (List.mem_cons.mpr (Or.inl e)))))))) (fun h => (List.mem_append.mp h).elim (fun h => (List.mem_cons_of_mem _ (List.mem_append_left _ (List.mem_append_right _ (List.mem_append_right _ (List.mem_append_left _ (List.mem_cons_of_mem _ h))))))) (fun h => List.mem_cons_of_mem _ (List.mem_append_right _ h)))) w_y_X1_kind_good
theorem g_y_X0_remainder_X1_kind_V87 : GoodIn w_y_X0_remainder (wsV RX0 87 RX1 yX1_kind w_y_X1_kind) := goodIn_app (nb_g4 (List.mem_cons_of_mem _ (List.mem_append_left _ (List.mem_append_left _ (List.mem_of_getElem? (i := 5) rfl)))) (List.mem_cons_of_mem _ (List.mem_append_left _ (List.mem_append_left _ (List.mem_of_getElem? (i := 6) rfl)))) (List.mem_cons_of_mem _ (List.mem_append_left _ (List.mem_append_left _ (List.mem_of_getElem? (i := 7) rfl)))) (List.mem_cons_of_mem _ (List.mem_append_left _ (List.mem_append_left _ (List.mem_of_getElem? (i := 4) rfl)))) (by decide +kernel)) gg_y_X0_remainder_X1_kind
theorem gg_y_X0_remainder_X1_length : GoodIn w_y_X0_remainder w_y_X1_length := goodIn_sub (fun w h => (List.mem_cons.mp h).elim (fun e => (List.mem_cons_of_mem _ (List.mem_append_left _ (List.mem_append_right _ (List.mem_append_left _ (List.mem_cons.mpr (Or.inl e))))))) (fun h => (List.mem_append.mp h).elim (fun h => (List.mem_cons_of_mem _ (List.mem_append_left _ (List.mem_append_right _ (List.mem_append_left _ (List.mem_cons_of_mem _ h)))))) (fun h => List.mem_cons_of_mem _ (List.mem_append_right _ h)))) w_y_X1_length_good
theorem g_y_X0_remainder_X1_length_V100 : GoodIn w_y_X0_remainder (wsV RX0 100 RX1 yX1_length w_y_X1_length) := goodIn_app (nb_g4 (List.mem_cons_of_mem _ (List.mem_append_left _ (List.mem_append_left _ (List.mem_of_getElem? (i := 1) rfl)))) (List.mem_cons_of_mem _ (List.mem_append_left _ (List.mem_append_left _ (List.mem_of_getElem? (i := 2) rfl)))) (List.mem_cons_of_mem _ (List.mem_append_left _ (List.mem_append_left _ (List.mem_of_getElem? (i := 3) rfl)))) (List.mem_cons_of_mem _ (List.mem_append_left _ (List.mem_append_left _ (List.mem_of_getElem? (i := 4) rfl)))) (by decide +kernel)) gg_y_X0_remainder_X1_length
theorem gg_y_X0_remainder_X1_makeRow__a16 : GoodIn w_y_X0_remainder w_y_X1_makeRow__a16 := goodIn_sub (fun w h => (List.mem_cons.mp h).elim (fun e => (List.mem_cons_of_mem _ (List.mem_append_left _ (List.mem_append_right _ (List.mem_append_right _ (List.mem_append_right _ (List.mem_append_right _ (List.mem_append_right _ (List.mem_append_right _ (List.mem_append_left _ (List.mem_cons.mpr (Or.inl e)))))))))))) (fun h => (List.mem_append.mp h).elim (fun h => (List.mem_cons_of_mem _ (List.mem_append_left _ (List.mem_append_right _ (List.mem_append_right _ (List.mem_append_right _ (List.mem_append_right _ (List.mem_append_right _ (List.mem_append_right _ (List.mem_append_left _ (List.mem_cons_of_mem _ h))))))))))) (fun h => List.mem_cons_of_mem _ (List.mem_append_right _ h)))) w_y_X1_makeRow__a16_good
theorem g_y_X0_remainder_X1_makeRow__a16_V160 : GoodIn w_y_X0_remainder (wsV RX0 160 RX1 yX1_makeRow w_y_X1_makeRow__a16) := goodIn_app (nb_g4 (List.mem_cons_of_mem _ (List.mem_append_left _ (List.mem_append_left _ (List.mem_of_getElem? (i := 20) rfl)))) (List.mem_cons_of_mem _ (List.mem_append_left _ (List.mem_append_left _ (List.mem_of_getElem? (i := 21) rfl)))) (List.mem_cons_of_mem _ (List.mem_append_left _ (List.mem_append_left _ (List.mem_of_getElem? (i := 22) rfl)))) (List.mem_cons_of_mem _ (List.mem_append_left _ (List.mem_append_left _ (List.mem_of_getElem? (i := 4) rfl)))) (by decide +kernel)) gg_y_X0_remainder_X1_makeRow__a16
theorem gg_y_X0_remainder_X1_makeString__a15 : GoodIn w_y_X0_remainder w_y_X1_makeString__a15 := goodIn_sub (fun w h => (List.mem_cons.mp h).elim (fun e => (List.mem_cons_of_mem _ (List.mem_append_left _ (List.mem_append_right _ (List.mem_append_right _ (List.mem_append_right _ (List.mem_append_right _ (List.mem_append_left _ (List.mem_cons.mpr (Or.inl e)))))))))) (fun h => (List.mem_append.mp h).elim (fun h => (List.mem_cons_of_mem _ (List.mem_append_left _ (List.mem_append_right _ (List.mem_append_right _ (List.mem_append_right _ (List.mem_append_right _ (List.mem_append_left _ (List.mem_cons_of_mem _ h))))))))) (fun h => List.mem_cons_of_mem _ (List.mem_append_right _ h)))) w_y_X1_makeString__a15_good
theorem g_y_X0_remainder_X1_makeString__a15_V118 : GoodIn w_y_X0_remainder (wsV RX0 118 RX1 yX1_makeString w_y_X1_makeString__a15) := goodIn_app (nb_g4 (List.mem_cons_of_mem _ (List.mem_append_left _ (List.mem_append_left _ (List.mem_of_getElem? (i := 12) rfl)))) (List.mem_cons_of_mem _ (List.mem_append_left _ (List.mem_append_left _ (List.mem_of_getElem? (i := 13) rfl)))) (List.mem_cons_of_mem _ (List.mem_append_left _ (List.mem_append_left _ (List.mem_of_getElem? (i := 14) rfl)))) (List.mem_cons_of_mem _ (List.mem_append_left _ (List.mem_append_left _ (List.mem_of_getElem? (i := 4) rfl)))) (by decide +kernel)) gg_y_X0_remainder_X1_makeString__a15
theorem gg_y_X0_remainder_X1_makeTuple__a16 : GoodIn w_y_X0_remainder w_y_X1_makeTuple__a16 := goodIn_sub (fun w h => (List.mem_cons.mp h).elim (fun e => (List.mem_cons_of_mem _ (List.mem_append_left _ (List.mem_append_right _ (List.mem_append_right _ (List.mem_append_right _ (List.mem_append_right _ (List.mem_append_right _ (List.mem_append_right _ (List.mem_append_right _ (List.mem_append_left _ (List.mem_cons.mpr (Or.inl e))))))))))))) (fun h => (List.mem_append.mp h).elim (fun h => (List.mem_cons_of_mem _ (List.mem_append_left _ (List.mem_append_right _ (List.mem_append_right _ (List.mem_append_right _ (List.mem_append_right _ (List.mem_append_right _ (List.mem_append_right _ (List.mem_append_right _ (List.mem_append_left _ (List.mem_cons_of_mem _ h)))))))))))) (fun h => List.mem_cons_of_mem _ (List.mem_append_right _ h)))) w_y_X1_makeTuple__a16_good
theorem g_y_X0_remainder_X1_makeTuple__a16_V107 : GoodIn w_y_X0_remainder (wsV RX0 107 RX1 yX1_makeTuple w_y_X1_makeTuple__a16) := goodIn_app (nb_g4 (List.mem_cons_of_mem _ (List.mem_append_left _ (List.mem_append_left _ (List.mem_of_getElem? (i := 23) rfl)))) (List.mem_cons_of_mem _ (List.mem_append_left _ (List.mem_append_left _ (List.mem_of_getElem? (i := 24) rfl)))) (List.mem_cons_of_mem _ (List.mem_append_left _ (List.mem_append_left _ (List.mem_of_getElem? (i := 25) rfl)))) (List.mem_cons_of_mem _ (List.mem_append_left _ (List.mem_append_left _ (List.mem_of_getElem? (i := 4) rfl)))) (by decide +kernel)) gg_y_X0_remainder_X1_makeTuple__a16
set_option maxHeartbeats 40000000 in
set_option maxRecDepth 100000 in
theorem c_y_X0_remainder (l : Launch) (dC : Nat → ClassId) (dI : Nat → Nat → Nat) (cy : Nat → ClassId) (a z : Nat → Nat) (k0 : Nat) (L0 : LV) (σ0 : CS) (r0 : Int32 × CS) (h0 : y_X0_remainder k0 0 L0 σ0 = some r0) (sz : Nat) : Met l yX0_remainder w_y_X0_remainder ({ frames := 3, cells := 0, slots := 0, locals := 115 }) (va_Pc [.ref (a 14), .int (L0.1 1), .int (L0.1 2)] (nIn (dC, dI) cy sz (vC cy a z σ0))) (va_Qi (fun (x : Int32) (_ : Unit) => x = r0.1) (fun _ t => nOut (dC, dI) cy (va_A (vC cy a z σ0) sz) (vC cy a z r0.2) t) (va_A (vC cy a z σ0) sz)) 0 0 (va_A (vC cy a z σ0) sz) := by
  refine Met.ofW (cc := cX0_remainder) (maxL := 7) (ret := (some .int)) (by decide) rfl ?_
  intro p e s m args below meth c s₁ B hml hv
  obtain ⟨rfl, hsz, hP, hK, hD0, hG⟩ := hv
  have hx := B.exec
  have hb := B.bytes
  have hr := B.returns
  have hts := atoms_spec (ws := w_y_X0_remainder) B.pre
  have hown : s.vm.findClass RX0 = some m.cls := findClass_of_methodNamed B.named
  have hlocks := B.notSynchronized
  subst hsz
  have hD := hD0.self (sz := s.heap.size)
  generalize hAe : va_A (vC cy a z σ0) s.heap.size = A at hD ⊢
  have hA : ∀ q : Nat, s.heap.size ≤ q → A q := fun q h => by rw [← hAe]; exact Or.inr h
  have hS : va_S A s.heap s.heap [] := va_S.rf
  have hl := lv_entry ([.ref (a 14), .int (L0.1 1), .int (L0.1 2)]) (n := 7) (Nat.le_of_ble_eq_true rfl)
  rw [lg_entry_eq]
  generalize (lg_sl ([.ref (a 14), .int (L0.1 1), .int (L0.1 2)]) ++ List.replicate (7 - (lg_sl ([.ref (a 14), .int (L0.1 1), .int (L0.1 2)])).length) Slot.unset).toArray = ls at hl ⊢
  have hl : lv_has ls 7 [(0, .ref (a 14)), (1, .int (L0.1 1)), (2, .int (L0.1 2))] := hl
  have blk : ∀ k : Nat, (bC p l e (headSpec w_y_X0_remainder ({ frames := 3, cells := 0, slots := 0, locals := 115 })).room s m #[.ref (a 14), .int (L0.1 1), .int (L0.1 2)] below meth c dC dI cy a z A (kI dC dI cy a z A below #[.ref (a 14), .int (L0.1 1), .int (L0.1 2)] s) 7 (y_X0_remainder k 0) (fun L => [(0, .ref (a 14)), (1, .int (L.1 1)), (2, .int (L.1 2))]) 0 (fun L => [])) ∧ (bC p l e (headSpec w_y_X0_remainder ({ frames := 3, cells := 0, slots := 0, locals := 115 })).room s m #[.ref (a 14), .int (L0.1 1), .int (L0.1 2)] below meth c dC dI cy a z A (kI dC dI cy a z A below #[.ref (a 14), .int (L0.1 1), .int (L0.1 2)] s) 7 (y_X0_remainder k 1) (fun L => [(0, .ref (a 14)), (1, .int (L.1 1)), (2, .int (L.1 2)), (3, .int (L.1 3))]) 18 (fun L => [])) ∧ (bC p l e (headSpec w_y_X0_remainder ({ frames := 3, cells := 0, slots := 0, locals := 115 })).room s m #[.ref (a 14), .int (L0.1 1), .int (L0.1 2)] below meth c dC dI cy a z A (kI dC dI cy a z A below #[.ref (a 14), .int (L0.1 1), .int (L0.1 2)] s) 7 (y_X0_remainder k 2) (fun L => [(0, .ref (a 14)), (1, .int (L.1 1)), (2, .int (L.1 2)), (3, .int (L.1 3))]) 19 (fun L => [.int (L.1 100)])) ∧ (bC p l e (headSpec w_y_X0_remainder ({ frames := 3, cells := 0, slots := 0, locals := 115 })).room s m #[.ref (a 14), .int (L0.1 1), .int (L0.1 2)] below meth c dC dI cy a z A (kI dC dI cy a z A below #[.ref (a 14), .int (L0.1 1), .int (L0.1 2)] s) 7 (y_X0_remainder k 3) (fun L => [(0, .ref (a 14)), (1, .int (L.1 1)), (2, .int (L.1 2)), (3, .int (L.1 3)), (4, .int (L.1 4))]) 32 (fun L => [])) ∧ (bC p l e (headSpec w_y_X0_remainder ({ frames := 3, cells := 0, slots := 0, locals := 115 })).room s m #[.ref (a 14), .int (L0.1 1), .int (L0.1 2)] below meth c dC dI cy a z A (kI dC dI cy a z A below #[.ref (a 14), .int (L0.1 1), .int (L0.1 2)] s) 7 (y_X0_remainder k 4) (fun L => [(0, .ref (a 14)), (1, .int (L.1 1)), (2, .int (L.1 2)), (4, .int (L.1 4))]) 33 (fun L => [.int (L.1 100)])) ∧ (bC p l e (headSpec w_y_X0_remainder ({ frames := 3, cells := 0, slots := 0, locals := 115 })).room s m #[.ref (a 14), .int (L0.1 1), .int (L0.1 2)] below meth c dC dI cy a z A (kI dC dI cy a z A below #[.ref (a 14), .int (L0.1 1), .int (L0.1 2)] s) 7 (y_X0_remainder k 5) (fun L => [(0, .ref (a 14)), (1, .int (L.1 1)), (2, .int (L.1 2)), (4, .int (L.1 4)), (5, .int (L.1 5))]) 86 (fun L => [])) ∧ (bC p l e (headSpec w_y_X0_remainder ({ frames := 3, cells := 0, slots := 0, locals := 115 })).room s m #[.ref (a 14), .int (L0.1 1), .int (L0.1 2)] below meth c dC dI cy a z A (kI dC dI cy a z A below #[.ref (a 14), .int (L0.1 1), .int (L0.1 2)] s) 7 (y_X0_remainder k 6) (fun L => [(0, .ref (a 14)), (6, .int (L.1 6))]) 121 (fun L => [])) ∧ (bC p l e (headSpec w_y_X0_remainder ({ frames := 3, cells := 0, slots := 0, locals := 115 })).room s m #[.ref (a 14), .int (L0.1 1), .int (L0.1 2)] below meth c dC dI cy a z A (kI dC dI cy a z A below #[.ref (a 14), .int (L0.1 1), .int (L0.1 2)] s) 7 (y_X0_remainder k 7) (fun L => []) 135 (fun L => [.int (L.1 100)])) := by
    intro k
    induction k with
    | zero => exact ⟨fun L σ r h => (by cases h), fun L σ r h => (by cases h), fun L σ r h => (by cases h), fun L σ r h => (by cases h), fun L σ r h => (by cases h), fun L σ r h => (by cases h), fun L σ r h => (by cases h), fun L σ r h => (by cases h)⟩
    | succ k ih =>
      refine ⟨?_, ?_, ?_, ?_, ?_, ?_, ?_, ?_⟩
      · intro L σ r h H locs ls hP hD hS hl
        rw [y_X0_remainder] at h
        refine lv_aload_n hx hb dX0_remainder_0 rfl (lv_at hl 0 rfl) ?_
        refine hg_14_0 hx hb hts in_y_X0_remainder_X0 hown hK hP (hts _ (List.mem_cons_of_mem _ (List.mem_append_left _ (List.mem_append_left _ (List.mem_of_getElem? (i := 0) rfl))))) dX0_remainder_1 ?_
        refine lv_iload_n hx hb dX0_remainder_4 rfl (lv_at hl 1 rfl) ?_
        obtain ⟨r1, hc1, h⟩ := oc_ex h
        refine kc_i (va_runV (As := [.int (L.1 1)]) (rest := []) ⟨hx, hb, hml, hown, hts⟩ (c_y_X1_length l dC dI cy a z k (lI lZ 1 ((L.1 1))) σ r1 hc1 H.size) (cwV 1 hts g_y_X0_remainder_X1_length_V100 rfl rfl rfl hd_y_X1_length ⟨Nat.le_of_ble_eq_true rfl, Nat.le_of_ble_eq_true rfl⟩) ⟨nb_blind, va_recv hK hP (ci := 1) (q0 := 0) rfl rfl, (kb_pre hK hG hP hD)⟩ rfl rfl hl.1 rfl (lv_room (Nat.le_of_ble_eq_true rfl)) dX0_remainder_5 ⟨Nat.le_refl _, Nat.le_refl _⟩) hA hP hD hS (fun H locs hP hD hS => ?_)
        refine lv_istore_n (lv' := [(3, .int r1.1), (0, .ref (a 14)), (1, .int (L.1 1)), (2, .int (L.1 2))]) hx hb dX0_remainder_8 rfl hl (by decide) rfl (fun ls hl => ?_)
        refine lv_iload_n hx hb dX0_remainder_9 rfl (lv_at hl 3 rfl) ?_
        refine lv_iconst (v := 2) hx hb dX0_remainder_10 (by decide) ?_
        refine lv_icmp_ne (tgt := 18) hx hb dX0_remainder_11 (by decide) (fun c2 => ?_) (fun c2 => ?_)
        · rw [if_neg c2] at h
          exact ih.2.1 (lI L 3 r1.1) r1.2 r h H locs ls hP hD hS (lv_sub hl [1, 2, 3, 0] rfl)
        · rw [if_pos c2] at h
          refine lv_iconst (v := 0) hx hb dX0_remainder_14 (by decide) ?_
          refine lv_goto (tgt := 19) hx hb dX0_remainder_15 (by decide) ?_
          exact ih.2.2.1 (lI (lI L 3 r1.1) 100 0) r1.2 r h H locs ls hP hD hS (lv_sub hl [1, 2, 3, 0] rfl)
      · intro L σ r h H locs ls hP hD hS hl
        rw [y_X0_remainder] at h
        refine lv_iconst (v := 1) hx hb dX0_remainder_18 (by decide) ?_
        exact ih.2.2.1 (lI L 100 1) σ r h H locs ls hP hD hS (lv_sub hl [0, 1, 2, 3] rfl)
      · intro L σ r h H locs ls hP hD hS hl
        rw [y_X0_remainder] at h
        refine lv_istore (lv' := [(4, .int (L.1 100)), (0, .ref (a 14)), (1, .int (L.1 1)), (2, .int (L.1 2)), (3, .int (L.1 3))]) hx hb dX0_remainder_19 hl (by decide) rfl (fun ls hl => ?_)
        refine lv_iload_n hx hb dX0_remainder_21 rfl (lv_at hl 3 rfl) ?_
        refine lv_iconst (v := 2) hx hb dX0_remainder_22 (by decide) ?_
        refine lv_icmp_ne (tgt := 32) hx hb dX0_remainder_23 (by decide) (fun c1 => ?_) (fun c1 => ?_)
        · rw [if_neg c1] at h
          exact ih.2.2.2.1 (lI L 4 ((L.1 100))) σ r h H locs ls hP hD hS (lv_sub hl [1, 2, 3, 4, 0] rfl)
        · rw [if_pos c1] at h
          refine lv_iload_n hx hb dX0_remainder_26 rfl (lv_at hl 4 rfl) ?_
          refine lv_iconst (v := 1) hx hb dX0_remainder_27 (by decide) ?_
          refine lv_isub hx hb dX0_remainder_28 ?_
          refine lv_goto (tgt := 33) hx hb dX0_remainder_29 (by decide) ?_
          exact ih.2.2.2.2.1 (lI (lI L 4 ((L.1 100))) 100 ((((L.1 3)) - 1))) σ r h H locs ls hP hD hS (lv_sub hl [1, 2, 3, 0] rfl)
      · intro L σ r h H locs ls hP hD hS hl
        rw [y_X0_remainder] at h
        refine lv_iload_n hx hb dX0_remainder_32 rfl (lv_at hl 3 rfl) ?_
        exact ih.2.2.2.2.1 (lI L 100 ((L.1 3))) σ r h H locs ls hP hD hS (lv_sub hl [0, 1, 2, 4] rfl)
      · intro L σ r h H locs ls hP hD hS hl
        rw [y_X0_remainder] at h
        refine lv_istore (lv' := [(5, .int (L.1 100)), (0, .ref (a 14)), (1, .int (L.1 1)), (2, .int (L.1 2)), (4, .int (L.1 4))]) hx hb dX0_remainder_33 hl (by decide) rfl (fun ls hl => ?_)
        refine lv_aload_n hx hb dX0_remainder_35 rfl (lv_at hl 1 rfl) ?_
        refine hg_14_0 hx hb hts in_y_X0_remainder_X0 hown hK hP (hts _ (List.mem_cons_of_mem _ (List.mem_append_left _ (List.mem_append_left _ (List.mem_of_getElem? (i := 0) rfl))))) dX0_remainder_36 ?_
        refine lv_iload_n hx hb dX0_remainder_39 rfl (lv_at hl 2 rfl) ?_
        obtain ⟨r1, hc1, h⟩ := oc_ex h
        refine kc_i (va_runV (As := [.int (L.1 1)]) (rest := []) ⟨hx, hb, hml, hown, hts⟩ (c_y_X1_kind l dC dI cy a z k (lI lZ 1 ((L.1 1))) σ r1 hc1 H.size) (cwV 1 hts g_y_X0_remainder_X1_kind_V87 rfl rfl rfl hd_y_X1_kind ⟨Nat.le_of_ble_eq_true rfl, Nat.le_of_ble_eq_true rfl⟩) ⟨nb_blind, va_recv hK hP (ci := 1) (q0 := 0) rfl rfl, (kb_pre hK hG hP hD)⟩ rfl rfl hl.1 rfl (lv_room (Nat.le_of_ble_eq_true rfl)) dX0_remainder_40 ⟨Nat.le_refl _, Nat.le_refl _⟩) hA hP hD hS (fun H locs hP hD hS => ?_)
        refine lv_iconst (v := 4) hx hb dX0_remainder_43 (by decide) ?_
        refine lv_icmp_ne (tgt := 86) hx hb dX0_remainder_44 (by decide) (fun c2 => ?_) (fun c2 => ?_)
        · rw [if_neg c2] at h
          exact ih.2.2.2.2.2.1 (lI L 5 ((L.1 100))) r1.2 r h H locs ls hP hD hS (lv_sub hl [1, 2, 3, 4, 0] rfl)
        · rw [if_pos c2] at h
          refine lv_aload_n hx hb dX0_remainder_47 rfl (lv_at hl 1 rfl) ?_
          refine hg_14_0 hx hb hts in_y_X0_remainder_X0 hown hK hP (hts _ (List.mem_cons_of_mem _ (List.mem_append_left _ (List.mem_append_left _ (List.mem_of_getElem? (i := 0) rfl))))) dX0_remainder_48 ?_
          refine lv_iload_n hx hb dX0_remainder_51 rfl (lv_at hl 2 rfl) ?_
          refine lv_iload hx hb dX0_remainder_52 (lv_at hl 4 rfl) ?_
          refine lv_iload hx hb dX0_remainder_54 (lv_at hl 0 rfl) ?_
          refine lv_iload hx hb dX0_remainder_56 (lv_at hl 4 rfl) ?_
          refine lv_isub hx hb dX0_remainder_58 ?_
          refine lv_aload_n hx hb dX0_remainder_59 rfl (lv_at hl 1 rfl) ?_
          refine hg_14_3 hx hb hts in_y_X0_remainder_X0 hown hK hP (hts _ (List.mem_cons_of_mem _ (List.mem_append_left _ (List.mem_append_left _ (List.mem_of_getElem? (i := 8) rfl))))) dX0_remainder_60 ?_
          refine lv_iconst (v := 0) hx hb dX0_remainder_63 (by decide) ?_
          obtain ⟨r3, hc3, h⟩ := oc_ex h
          refine kc_i (va_runV (As := [.int (L.1 1), .int (L.1 4), .int (((L.1 100)) - ((L.1 4))), .ref (a 15), .int 0]) (rest := []) ⟨hx, hb, hml, hown, hts⟩ (c_y_X1_copyBytes__a15 l dC dI cy a z k (lI (lI (lI (lI lZ 1 ((L.1 1))) 2 ((L.1 4))) 3 ((((L.1 100)) - ((L.1 4))))) 5 0) r1.2 r3 hc3 H.size) (cwV 5 hts g_y_X0_remainder_X1_copyBytes__a15_V114 rfl rfl rfl hd_y_X1_copyBytes__a15 ⟨Nat.le_of_ble_eq_true rfl, Nat.le_of_ble_eq_true rfl⟩) ⟨nb_blind, va_recv hK hP (ci := 1) (q0 := 0) rfl rfl, (kb_pre hK hG hP hD)⟩ rfl rfl hl.1 rfl (lv_room (Nat.le_of_ble_eq_true rfl)) dX0_remainder_64 ⟨Nat.le_refl _, Nat.le_refl _⟩) hA hP hD hS (fun H locs hP hD hS => ?_)
          refine lv_pop hx hb dX0_remainder_67 rfl ?_
          refine lv_aload_n hx hb dX0_remainder_68 rfl (lv_at hl 1 rfl) ?_
          refine hg_14_0 hx hb hts in_y_X0_remainder_X0 hown hK hP (hts _ (List.mem_cons_of_mem _ (List.mem_append_left _ (List.mem_append_left _ (List.mem_of_getElem? (i := 0) rfl))))) dX0_remainder_69 ?_
          refine lv_aload_n hx hb dX0_remainder_72 rfl (lv_at hl 1 rfl) ?_
          refine hg_14_3 hx hb hts in_y_X0_remainder_X0 hown hK hP (hts _ (List.mem_cons_of_mem _ (List.mem_append_left _ (List.mem_append_left _ (List.mem_of_getElem? (i := 8) rfl))))) dX0_remainder_73 ?_
          refine lv_iconst (v := 0) hx hb dX0_remainder_76 (by decide) ?_
          refine lv_iload hx hb dX0_remainder_77 (lv_at hl 0 rfl) ?_
          refine lv_iload hx hb dX0_remainder_79 (lv_at hl 4 rfl) ?_
          refine lv_isub hx hb dX0_remainder_81 ?_
          obtain ⟨r4, hc4, h⟩ := oc_ex h
          refine kc_i (va_runV (As := [.ref (a 15), .int 0, .int (((L.1 100)) - ((L.1 4)))]) (rest := []) ⟨hx, hb, hml, hown, hts⟩ (c_y_X1_makeString__a15 l dC dI cy a z k (lI (lI lZ 2 0) 3 ((((L.1 100)) - ((L.1 4))))) r3.2 r4 hc4 H.size) (cwV 3 hts g_y_X0_remainder_X1_makeString__a15_V118 rfl rfl rfl hd_y_X1_makeString__a15 ⟨Nat.le_of_ble_eq_true rfl, Nat.le_of_ble_eq_true rfl⟩) ⟨nb_blind, va_recv hK hP (ci := 1) (q0 := 0) rfl rfl, (kb_pre hK hG hP hD)⟩ rfl rfl hl.1 rfl (lv_room (Nat.le_of_ble_eq_true rfl)) dX0_remainder_82 ⟨Nat.le_refl _, Nat.le_refl _⟩) hA hP hD hS (fun H locs hP hD hS => ?_)
          obtain rfl := Option.some.inj h
          exact W.iret (v := r4.1) hx hb hr (fun t ht hW => ⟨⟨r4.1, (), rfl, rfl, by rw [ht]; exact hP, va_K.moved hW.alike hK, hD⟩, hS.F ht⟩) hS.2.2 dX0_remainder_85
      · intro L σ r h H locs ls hP hD hS hl
        rw [y_X0_remainder] at h
        refine lv_aload_n hx hb dX0_remainder_86 rfl (lv_at hl 0 rfl) ?_
        refine lv_iload_n hx hb dX0_remainder_87 rfl (lv_at hl 1 rfl) ?_
        refine lv_iload hx hb dX0_remainder_88 (lv_at hl 3 rfl) ?_
        refine lv_iload hx hb dX0_remainder_90 (lv_at hl 4 rfl) ?_
        refine lv_iconst (v := 0) hx hb dX0_remainder_92 (by decide) ?_
        obtain ⟨r1, hc1, h⟩ := oc_ex h
        refine kc_i (va_runV (As := [.int (L.1 1), .int (L.1 4), .int (L.1 5), .int 0]) (rest := []) ⟨hx, hb, hml, hown, hts⟩ (c_y_X0_load l dC dI cy a z k (lI (lI (lI (lI lZ 1 ((L.1 1))) 2 ((L.1 4))) 3 ((L.1 5))) 4 0) σ r1 hc1 H.size) (cwV 4 hts g_y_X0_remainder_X0_load_V103 rfl rfl rfl hd_y_X0_load ⟨Nat.le_of_ble_eq_true rfl, Nat.le_of_ble_eq_true rfl⟩) ⟨nb_blind, va_recv hK hP (ci := 0) (q0 := 14) rfl rfl, (kb_pre hK hG hP hD)⟩ rfl rfl hl.1 rfl (lv_room (Nat.le_of_ble_eq_true rfl)) dX0_remainder_93 ⟨Nat.le_refl _, Nat.le_refl _⟩) hA hP hD hS (fun H locs hP hD hS => ?_)
        refine lv_istore (lv' := [(6, .int r1.1), (0, .ref (a 14)), (1, .int (L.1 1)), (2, .int (L.1 2)), (4, .int (L.1 4)), (5, .int (L.1 5))]) hx hb dX0_remainder_96 hl (by decide) rfl (fun ls hl => ?_)
        refine lv_iload_n hx hb dX0_remainder_98 rfl (lv_at hl 3 rfl) ?_
        refine lv_if_ne (tgt := 121) hx hb dX0_remainder_99 (by decide) (fun c2 => ?_) (fun c2 => ?_)
        · rw [if_neg c2] at h
          exact ih.2.2.2.2.2.2.1 (lI L 6 r1.1) r1.2 r h H locs ls hP hD hS (lv_sub hl [1, 0] rfl)
        · rw [if_pos c2] at h
          refine lv_aload_n hx hb dX0_remainder_102 rfl (lv_at hl 1 rfl) ?_
          refine hg_14_0 hx hb hts in_y_X0_remainder_X0 hown hK hP (hts _ (List.mem_cons_of_mem _ (List.mem_append_left _ (List.mem_append_left _ (List.mem_of_getElem? (i := 0) rfl))))) dX0_remainder_103 ?_
          refine lv_bipush (v := 6) hx hb dX0_remainder_106 (by decide) ?_
          refine lv_aload_n hx hb dX0_remainder_108 rfl (lv_at hl 1 rfl) ?_
          refine hg_14_4 hx hb hts in_y_X0_remainder_X0 hown hK hP (hts _ (List.mem_cons_of_mem _ (List.mem_append_left _ (List.mem_append_left _ (List.mem_of_getElem? (i := 19) rfl))))) dX0_remainder_109 ?_
          refine lv_iconst (v := 0) hx hb dX0_remainder_112 (by decide) ?_
          refine lv_iload hx hb dX0_remainder_113 (lv_at hl 0 rfl) ?_
          obtain ⟨r3, hc3, h⟩ := oc_ex h
          refine kc_i (va_runV (As := [.int 6, .ref (a 16), .int 0, .int r1.1]) (rest := []) ⟨hx, hb, hml, hown, hts⟩ (c_y_X1_makeRow__a16 l dC dI cy a z k (lI (lI (lI lZ 1 6) 3 0) 4 r1.1) r1.2 r3 hc3 H.size) (cwV 4 hts g_y_X0_remainder_X1_makeRow__a16_V160 rfl rfl rfl hd_y_X1_makeRow__a16 ⟨Nat.le_of_ble_eq_true rfl, Nat.le_of_ble_eq_true rfl⟩) ⟨nb_blind, va_recv hK hP (ci := 1) (q0 := 0) rfl rfl, (kb_pre hK hG hP hD)⟩ rfl rfl hl.1 rfl (lv_room (Nat.le_of_ble_eq_true rfl)) dX0_remainder_115 ⟨Nat.le_refl _, Nat.le_refl _⟩) hA hP hD hS (fun H locs hP hD hS => ?_)
          refine lv_goto (tgt := 135) hx hb dX0_remainder_118 (by decide) ?_
          exact ih.2.2.2.2.2.2.2 (lI L 100 r3.1) r3.2 r h H locs ls hP hD hS (lv_sub hl [] rfl)
      · intro L σ r h H locs ls hP hD hS hl
        rw [y_X0_remainder] at h
        refine lv_aload_n hx hb dX0_remainder_121 rfl (lv_at hl 0 rfl) ?_
        refine hg_14_0 hx hb hts in_y_X0_remainder_X0 hown hK hP (hts _ (List.mem_cons_of_mem _ (List.mem_append_left _ (List.mem_append_left _ (List.mem_of_getElem? (i := 0) rfl))))) dX0_remainder_122 ?_
        refine lv_aload_n hx hb dX0_remainder_125 rfl (lv_at hl 0 rfl) ?_
        refine hg_14_4 hx hb hts in_y_X0_remainder_X0 hown hK hP (hts _ (List.mem_cons_of_mem _ (List.mem_append_left _ (List.mem_append_left _ (List.mem_of_getElem? (i := 19) rfl))))) dX0_remainder_126 ?_
        refine lv_iconst (v := 0) hx hb dX0_remainder_129 (by decide) ?_
        refine lv_iload hx hb dX0_remainder_130 (lv_at hl 1 rfl) ?_
        obtain ⟨r1, hc1, h⟩ := oc_ex h
        refine kc_i (va_runV (As := [.ref (a 16), .int 0, .int (L.1 6)]) (rest := []) ⟨hx, hb, hml, hown, hts⟩ (c_y_X1_makeTuple__a16 l dC dI cy a z k (lI (lI lZ 2 0) 3 ((L.1 6))) σ r1 hc1 H.size) (cwV 3 hts g_y_X0_remainder_X1_makeTuple__a16_V107 rfl rfl rfl hd_y_X1_makeTuple__a16 ⟨Nat.le_of_ble_eq_true rfl, Nat.le_of_ble_eq_true rfl⟩) ⟨nb_blind, va_recv hK hP (ci := 1) (q0 := 0) rfl rfl, (kb_pre hK hG hP hD)⟩ rfl rfl hl.1 rfl (lv_room (Nat.le_of_ble_eq_true rfl)) dX0_remainder_132 ⟨Nat.le_refl _, Nat.le_refl _⟩) hA hP hD hS (fun H locs hP hD hS => ?_)
        exact ih.2.2.2.2.2.2.2 (lI L 100 r1.1) r1.2 r h H locs ls hP hD hS (lv_sub hl [] rfl)
      · intro L σ r h H locs ls hP hD hS hl
        rw [y_X0_remainder] at h
        obtain rfl := Option.some.inj h
        exact W.iret (v := (L.1 100)) hx hb hr (fun t ht hW => ⟨⟨(L.1 100), (), rfl, rfl, by rw [ht]; exact hP, va_K.moved hW.alike hK, hD⟩, hS.F ht⟩) hS.2.2 dX0_remainder_135
  exact (blk k0).1 L0 σ0 r0 h0 s.heap [] ls hP hD hS hl
/-! X1_wordsBehind -/
def y_X1_wordsBehind : Nat → Nat → LV → CS → Option (Int32 × CS)
  | 0, _, _, _ => none
  | k + 1, 0, L, σ => if ((((L.1 0)) &&& 7)) = 4 then (y_X1_wordsBehind k 2 (lI L 100 (((((((((((L.1 0)).toUInt32 >>> ((4 : Int32).toUInt32 &&& Int32.toUInt32 31)).toInt32)) &&& 4095)) + 3)) >>> ((2 : Int32) &&& 31)))) σ) else (y_X1_wordsBehind k 1 (lI L 1 (((((((L.1 0)).toUInt32 >>> ((4 : Int32).toUInt32 &&& Int32.toUInt32 31)).toInt32)) &&& 4095))) σ)
  | k + 1, 1, L, σ => y_X1_wordsBehind k 2 (lI L 100 ((L.1 1))) σ
  | k + 1, 2, L, σ => some ((L.1 100), σ)
  | _ + 1, _ + 3, _, _ => none
def o_y_X1_wordsBehind : List Cond := []
theorem o_y_X1_wordsBehind_good : o_y_X1_wordsBehind.all goodWord = true := by decide +kernel
def p_y_X1_wordsBehind : List Cond := o_y_X1_wordsBehind ++ []
theorem p_y_X1_wordsBehind_good : p_y_X1_wordsBehind.all goodWord = true := nb_all2 o_y_X1_wordsBehind_good rfl
def w_y_X1_wordsBehind : List Cond := .code yX1_wordsBehind cX1_wordsBehind 2 (some .int) :: (p_y_X1_wordsBehind ++ fC)
theorem w_y_X1_wordsBehind_good : w_y_X1_wordsBehind.all goodWord = true := nb_allc (by decide +kernel) (nb_all2 p_y_X1_wordsBehind_good fC_good)
theorem hd_y_X1_wordsBehind : yX1_wordsBehind.cls ≠ "java/lang/invoke/MethodHandle" ∧ yX1_wordsBehind.cls ≠ "java/lang/invoke/VarHandle" ∧ (parseMethodDescriptor yX1_wordsBehind.desc).map (fun d => d.parameters.length) = some 1 := by decide +kernel
set_option maxHeartbeats 40000000 in
set_option maxRecDepth 100000 in
theorem c_y_X1_wordsBehind (l : Launch) (dC : Nat → ClassId) (dI : Nat → Nat → Nat) (cy : Nat → ClassId) (a z : Nat → Nat) (k0 : Nat) (L0 : LV) (σ0 : CS) (r0 : Int32 × CS) (h0 : y_X1_wordsBehind k0 0 L0 σ0 = some r0) (sz : Nat) : Met l yX1_wordsBehind w_y_X1_wordsBehind ({ frames := 0, cells := 0, slots := 0, locals := 0 }) (va_Pc [.int (L0.1 0)] (nIn (dC, dI) cy sz (vC cy a z σ0))) (va_Qi (fun (x : Int32) (_ : Unit) => x = r0.1) (fun _ t => nOut (dC, dI) cy (va_A (vC cy a z σ0) sz) (vC cy a z r0.2) t) (va_A (vC cy a z σ0) sz)) 0 0 (va_A (vC cy a z σ0) sz) := by
  refine Met.ofW (cc := cX1_wordsBehind) (maxL := 2) (ret := (some .int)) (by decide) rfl ?_
  intro p e s m args below meth c s₁ B hml hv
  obtain ⟨rfl, hsz, hP, hK, hD0, hG⟩ := hv
  have hx := B.exec
  have hb := B.bytes
  have hr := B.returns
  have hts := atoms_spec (ws := w_y_X1_wordsBehind) B.pre
  have hown : s.vm.findClass RX1 = some m.cls := findClass_of_methodNamed B.named
  have hlocks := B.notSynchronized
  subst hsz
  have hD := hD0.self (sz := s.heap.size)
  generalize hAe : va_A (vC cy a z σ0) s.heap.size = A at hD ⊢
  have hA : ∀ q : Nat, s.heap.size ≤ q → A q := fun q h => by rw [← hAe]; exact Or.inr h
  have hS : va_S A s.heap s.heap [] := va_S.rf
  have hl := lv_entry ([.int (L0.1 0)]) (n := 2) (Nat.le_of_ble_eq_true rfl)
  rw [lg_entry_eq]
  generalize (lg_sl ([.int (L0.1 0)]) ++ List.replicate (2 - (lg_sl ([.int (L0.1 0)])).length) Slot.unset).toArray = ls at hl ⊢
  have hl : lv_has ls 2 [(0, .int (L0.1 0))] := hl
  have blk : ∀ k : Nat, (bC p l e (headSpec w_y_X1_wordsBehind ({ frames := 0, cells := 0, slots := 0, locals := 0 })).room s m #[.int (L0.1 0)] below meth c dC dI cy a z A (kI dC dI cy a z A below #[.int (L0.1 0)] s) 2 (y_X1_wordsBehind k 0) (fun L => [(0, .int (L.1 0))]) 0 (fun L => [])) ∧ (bC p l e (headSpec w_y_X1_wordsBehind ({ frames := 0, cells := 0, slots := 0, locals := 0 })).room s m #[.int (L0.1 0)] below meth c dC dI cy a z A (kI dC dI cy a z A below #[.int (L0.1 0)] s) 2 (y_X1_wordsBehind k 1) (fun L => [(1, .int (L.1 1))]) 24 (fun L => [])) ∧ (bC p l e (headSpec w_y_X1_wordsBehind ({ frames := 0, cells := 0, slots := 0, locals := 0 })).room s m #[.int (L0.1 0)] below meth c dC dI cy a z A (kI dC dI cy a z A below #[.int (L0.1 0)] s) 2 (y_X1_wordsBehind k 2) (fun L => []) 25 (fun L => [.int (L.1 100)])) := by
    intro k
    induction k with
    | zero => exact ⟨fun L σ r h => (by cases h), fun L σ r h => (by cases h), fun L σ r h => (by cases h)⟩
    | succ k ih =>
      refine ⟨?_, ?_, ?_⟩
      · intro L σ r h H locs ls hP hD hS hl
        rw [y_X1_wordsBehind] at h
        refine lv_iload_n hx hb dX1_wordsBehind_0 rfl (lv_at hl 0 rfl) ?_
        refine lv_iconst (v := 4) hx hb dX1_wordsBehind_1 (by decide) ?_
        refine lv_iushr (v := (((L.1 0)).toUInt32 >>> ((4 : Int32).toUInt32 &&& Int32.toUInt32 31)).toInt32) hx hb dX1_wordsBehind_2 rfl ?_
        refine lv_sipush (v := 4095) hx hb dX1_wordsBehind_3 (by decide) ?_
        refine lv_iand hx hb dX1_wordsBehind_6 ?_
        refine lv_istore_n (lv' := [(1, .int ((((((L.1 0)).toUInt32 >>> ((4 : Int32).toUInt32 &&& Int32.toUInt32 31)).toInt32)) &&& 4095)), (0, .int (L.1 0))]) hx hb dX1_wordsBehind_7 rfl hl (by decide) rfl (fun ls hl => ?_)
        refine lv_iload_n hx hb dX1_wordsBehind_8 rfl (lv_at hl 1 rfl) ?_
        refine lv_bipush (v := 7) hx hb dX1_wordsBehind_9 (by decide) ?_
        refine lv_iand hx hb dX1_wordsBehind_11 ?_
        refine lv_iconst (v := 4) hx hb dX1_wordsBehind_12 (by decide) ?_
        refine lv_icmp_ne (tgt := 24) hx hb dX1_wordsBehind_13 (by decide) (fun c1 => ?_) (fun c1 => ?_)
        · rw [if_neg c1] at h
          exact ih.2.1 (lI L 1 (((((((L.1 0)).toUInt32 >>> ((4 : Int32).toUInt32 &&& Int32.toUInt32 31)).toInt32)) &&& 4095))) σ r h H locs ls hP hD hS (lv_sub hl [0] rfl)
        · rw [if_pos c1] at h
          refine lv_iload_n hx hb dX1_wordsBehind_16 rfl (lv_at hl 0 rfl) ?_
          refine lv_iconst (v := 3) hx hb dX1_wordsBehind_17 (by decide) ?_
          refine lv_iadd hx hb dX1_wordsBehind_18 ?_
          refine lv_iconst (v := 2) hx hb dX1_wordsBehind_19 (by decide) ?_
          refine lv_ishr hx hb dX1_wordsBehind_20 ?_
          refine lv_goto (tgt := 25) hx hb dX1_wordsBehind_21 (by decide) ?_
          exact ih.2.2 (lI L 100 (((((((((((L.1 0)).toUInt32 >>> ((4 : Int32).toUInt32 &&& Int32.toUInt32 31)).toInt32)) &&& 4095)) + 3)) >>> ((2 : Int32) &&& 31)))) σ r h H locs ls hP hD hS (lv_sub hl [] rfl)
      · intro L σ r h H locs ls hP hD hS hl
        rw [y_X1_wordsBehind] at h
        refine lv_iload_n hx hb dX1_wordsBehind_24 rfl (lv_at hl 0 rfl) ?_
        exact ih.2.2 (lI L 100 ((L.1 1))) σ r h H locs ls hP hD hS (lv_sub hl [] rfl)
      · intro L σ r h H locs ls hP hD hS hl
        rw [y_X1_wordsBehind] at h
        obtain rfl := Option.some.inj h
        exact W.iret (v := (L.1 100)) hx hb hr (fun t ht hW => ⟨⟨(L.1 100), (), rfl, rfl, by rw [ht]; exact hP, va_K.moved hW.alike hK, hD⟩, hS.F ht⟩) hS.2.2 dX1_wordsBehind_25
  exact (blk k0).1 L0 σ0 r0 h0 s.heap [] ls hP hD hS hl
/-! X1_isTight -/
def y_X1_isTight : Nat → Nat → LV → CS → Option (Int32 × CS)
  | 0, _, _, _ => none
  | k + 1, 0, L, σ => if 4000 ≤ ((((Int32.ofNat (sN σ 3))) - ((σ.1 1)))) then (y_X1_isTight k 1 L σ) else (y_X1_isTight k 2 (lI L 100 1) σ)
  | k + 1, 1, L, σ => y_X1_isTight k 2 (lI L 100 0) σ
  | k + 1, 2, L, σ => if ((L.1 100)) = 0 ∨ ((L.1 100)) = 1 then some ((L.1 100), σ) else none
  | _ + 1, _ + 3, _, _ => none
def o_y_X1_isTight : List Cond := [.fieldLink RX1 11 "SetHouse$Heap" "mem" "[I", .fieldLink RX1 15 "SetHouse$Heap" "top" "I"]
theorem o_y_X1_isTight_good : o_y_X1_isTight.all goodWord = true := by decide +kernel
def p_y_X1_isTight : List Cond := o_y_X1_isTight ++ []
theorem p_y_X1_isTight_good : p_y_X1_isTight.all goodWord = true := nb_all2 o_y_X1_isTight_good rfl
def w_y_X1_isTight : List Cond := .code yX1_isTight cX1_isTight 1 (some .boolean) :: (p_y_X1_isTight ++ fC)
theorem w_y_X1_isTight_good : w_y_X1_isTight.all goodWord = true := nb_allc (by decide +kernel) (nb_all2 p_y_X1_isTight_good fC_good)
theorem in_y_X1_isTight_X1 : ∀ w ∈ wsX10, w ∈ w_y_X1_isTight := fun _ h => List.mem_cons_of_mem _ (List.mem_append_right _ (List.mem_append_right _ (List.mem_append_left _ h)))
theorem hd_y_X1_isTight : yX1_isTight.cls = RX1 ∧ yX1_isTight.cls ≠ "java/lang/invoke/MethodHandle" ∧ yX1_isTight.cls ≠ "java/lang/invoke/VarHandle" ∧ (parseMethodDescriptor yX1_isTight.desc).map (fun d => d.parameters.length) = some 0 := by decide +kernel
set_option maxHeartbeats 40000000 in
set_option maxRecDepth 100000 in
theorem c_y_X1_isTight (l : Launch) (dC : Nat → ClassId) (dI : Nat → Nat → Nat) (cy : Nat → ClassId) (a z : Nat → Nat) (k0 : Nat) (L0 : LV) (σ0 : CS) (r0 : Int32 × CS) (h0 : y_X1_isTight k0 0 L0 σ0 = some r0) (sz : Nat) : Met l yX1_isTight w_y_X1_isTight ({ frames := 0, cells := 0, slots := 0, locals := 0 }) (va_Pc [.ref (a 0)] (nIn (dC, dI) cy sz (vC cy a z σ0))) (va_Qi (fun (x : Int32) (_ : Unit) => x = r0.1) (fun _ t => nOut (dC, dI) cy (va_A (vC cy a z σ0) sz) (vC cy a z r0.2) t) (va_A (vC cy a z σ0) sz)) 0 0 (va_A (vC cy a z σ0) sz) := by
  refine Met.ofW (cc := cX1_isTight) (maxL := 1) (ret := (some .boolean)) (by decide) rfl ?_
  intro p e s m args below meth c s₁ B hml hv
  obtain ⟨rfl, hsz, hP, hK, hD0, hG⟩ := hv
  have hx := B.exec
  have hb := B.bytes
  have hr := B.returns
  have hts := atoms_spec (ws := w_y_X1_isTight) B.pre
  have hown : s.vm.findClass RX1 = some m.cls := findClass_of_methodNamed B.named
  have hlocks := B.notSynchronized
  subst hsz
  have hD := hD0.self (sz := s.heap.size)
  generalize hAe : va_A (vC cy a z σ0) s.heap.size = A at hD ⊢
  have hA : ∀ q : Nat, s.heap.size ≤ q → A q := fun q h => by rw [← hAe]; exact Or.inr h
  have hS : va_S A s.heap s.heap [] := va_S.rf
  have hl := lv_entry ([.ref (a 0)]) (n := 1) (Nat.le_of_ble_eq_true rfl)
  rw [lg_entry_eq]
  generalize (lg_sl ([.ref (a 0)]) ++ List.replicate (1 - (lg_sl ([.ref (a 0)])).length) Slot.unset).toArray = ls at hl ⊢
  have hl : lv_has ls 1 [(0, .ref (a 0))] := hl
  have blk : ∀ k : Nat, (bC p l e (headSpec w_y_X1_isTight ({ frames := 0, cells := 0, slots := 0, locals := 0 })).room s m #[.ref (a 0)] below meth c dC dI cy a z A (kI dC dI cy a z A below #[.ref (a 0)] s) 1 (y_X1_isTight k 0) (fun L => [(0, .ref (a 0))]) 0 (fun L => [])) ∧ (bC p l e (headSpec w_y_X1_isTight ({ frames := 0, cells := 0, slots := 0, locals := 0 })).room s m #[.ref (a 0)] below meth c dC dI cy a z A (kI dC dI cy a z A below #[.ref (a 0)] s) 1 (y_X1_isTight k 1) (fun L => []) 20 (fun L => [])) ∧ (bC p l e (headSpec w_y_X1_isTight ({ frames := 0, cells := 0, slots := 0, locals := 0 })).room s m #[.ref (a 0)] below meth c dC dI cy a z A (kI dC dI cy a z A below #[.ref (a 0)] s) 1 (y_X1_isTight k 2) (fun L => []) 21 (fun L => [.int (L.1 100)])) := by
    intro k
    induction k with
    | zero => exact ⟨fun L σ r h => (by cases h), fun L σ r h => (by cases h), fun L σ r h => (by cases h)⟩
    | succ k ih =>
      refine ⟨?_, ?_, ?_⟩
      · intro L σ r h H locs ls hP hD hS hl
        rw [y_X1_isTight] at h
        refine lv_aload_n hx hb dX1_isTight_0 rfl (lv_at hl 0 rfl) ?_
        refine hg_0_0 hx hb hts in_y_X1_isTight_X1 hown hK hP (hts _ (List.mem_cons_of_mem _ (List.mem_append_left _ (List.mem_append_left _ (List.mem_of_getElem? (i := 0) rfl))))) dX1_isTight_1 ?_
        refine hn_3 hx hb hK hP dX1_isTight_4 ?_
        refine lv_aload_n hx hb dX1_isTight_5 rfl (lv_at hl 0 rfl) ?_
        refine hg_0_1 hx hb hts in_y_X1_isTight_X1 hown hK hP (hts _ (List.mem_cons_of_mem _ (List.mem_append_left _ (List.mem_append_left _ (List.mem_of_getElem? (i := 1) rfl))))) dX1_isTight_6 ?_
        refine lv_isub hx hb dX1_isTight_9 ?_
        refine lv_sipush (v := 4000) hx hb dX1_isTight_10 (by decide) ?_
        refine lv_icmp_ge (tgt := 20) hx hb dX1_isTight_13 (by decide) (fun c1 => ?_) (fun c1 => ?_)
        · rw [if_pos c1] at h
          exact ih.2.1 L σ r h H locs ls hP hD hS (lv_sub hl [] rfl)
        · rw [if_neg c1] at h
          refine lv_iconst (v := 1) hx hb dX1_isTight_16 (by decide) ?_
          refine lv_goto (tgt := 21) hx hb dX1_isTight_17 (by decide) ?_
          exact ih.2.2 (lI L 100 1) σ r h H locs ls hP hD hS (lv_sub hl [] rfl)
      · intro L σ r h H locs ls hP hD hS hl
        rw [y_X1_isTight] at h
        refine lv_iconst (v := 0) hx hb dX1_isTight_20 (by decide) ?_
        exact ih.2.2 (lI L 100 0) σ r h H locs ls hP hD hS (lv_sub hl [] rfl)
      · intro L σ r h H locs ls hP hD hS hl
        rw [y_X1_isTight] at h
        obtain ⟨q1, h⟩ := kb_ite1 h
        obtain rfl := Option.some.inj h
        exact W.zret (v := (L.1 100)) hx hb hr (nb_bz q1) (fun t ht hW => ⟨⟨(L.1 100), (), rfl, rfl, by rw [ht]; exact hP, va_K.moved hW.alike hK, hD⟩, hS.F ht⟩) hS.2.2 dX1_isTight_21
  exact (blk k0).1 L0 σ0 r0 h0 s.heap [] ls hP hD hS hl
/-! X1_isScarce -/
def y_X1_isScarce : Nat → Nat → LV → CS → Option (Int32 × CS)
  | 0, _, _, _ => none
  | k + 1, 0, L, σ => if (8 : Int32) = 0 then none else (if ((((Int32.ofNat (sN σ 3))) / 8)) ≤ ((((Int32.ofNat (sN σ 3))) - ((σ.1 1)))) then (y_X1_isScarce k 1 L σ) else (y_X1_isScarce k 2 (lI L 100 1) σ))
  | k + 1, 1, L, σ => y_X1_isScarce k 2 (lI L 100 0) σ
  | k + 1, 2, L, σ => if ((L.1 100)) = 0 ∨ ((L.1 100)) = 1 then some ((L.1 100), σ) else none
  | _ + 1, _ + 3, _, _ => none
def o_y_X1_isScarce : List Cond := [.fieldLink RX1 11 "SetHouse$Heap" "mem" "[I", .fieldLink RX1 15 "SetHouse$Heap" "top" "I"]
theorem o_y_X1_isScarce_good : o_y_X1_isScarce.all goodWord = true := by decide +kernel
def p_y_X1_isScarce : List Cond := o_y_X1_isScarce ++ []
theorem p_y_X1_isScarce_good : p_y_X1_isScarce.all goodWord = true := nb_all2 o_y_X1_isScarce_good rfl
def w_y_X1_isScarce : List Cond := .code yX1_isScarce cX1_isScarce 1 (some .boolean) :: (p_y_X1_isScarce ++ fC)
theorem w_y_X1_isScarce_good : w_y_X1_isScarce.all goodWord = true := nb_allc (by decide +kernel) (nb_all2 p_y_X1_isScarce_good fC_good)
theorem in_y_X1_isScarce_X1 : ∀ w ∈ wsX10, w ∈ w_y_X1_isScarce := fun _ h => List.mem_cons_of_mem _ (List.mem_append_right _ (List.mem_append_right _ (List.mem_append_left _ h)))
theorem hd_y_X1_isScarce : yX1_isScarce.cls = RX1 ∧ yX1_isScarce.cls ≠ "java/lang/invoke/MethodHandle" ∧ yX1_isScarce.cls ≠ "java/lang/invoke/VarHandle" ∧ (parseMethodDescriptor yX1_isScarce.desc).map (fun d => d.parameters.length) = some 0 := by decide +kernel
set_option maxHeartbeats 40000000 in
set_option maxRecDepth 100000 in
theorem c_y_X1_isScarce (l : Launch) (dC : Nat → ClassId) (dI : Nat → Nat → Nat) (cy : Nat → ClassId) (a z : Nat → Nat) (k0 : Nat) (L0 : LV) (σ0 : CS) (r0 : Int32 × CS) (h0 : y_X1_isScarce k0 0 L0 σ0 = some r0) (sz : Nat) : Met l yX1_isScarce w_y_X1_isScarce ({ frames := 0, cells := 0, slots := 0, locals := 0 }) (va_Pc [.ref (a 0)] (nIn (dC, dI) cy sz (vC cy a z σ0))) (va_Qi (fun (x : Int32) (_ : Unit) => x = r0.1) (fun _ t => nOut (dC, dI) cy (va_A (vC cy a z σ0) sz) (vC cy a z r0.2) t) (va_A (vC cy a z σ0) sz)) 0 0 (va_A (vC cy a z σ0) sz) := by
  refine Met.ofW (cc := cX1_isScarce) (maxL := 1) (ret := (some .boolean)) (by decide) rfl ?_
  intro p e s m args below meth c s₁ B hml hv
  obtain ⟨rfl, hsz, hP, hK, hD0, hG⟩ := hv
  have hx := B.exec
  have hb := B.bytes
  have hr := B.returns
  have hts := atoms_spec (ws := w_y_X1_isScarce) B.pre
  have hown : s.vm.findClass RX1 = some m.cls := findClass_of_methodNamed B.named
  have hlocks := B.notSynchronized
  subst hsz
  have hD := hD0.self (sz := s.heap.size)
  generalize hAe : va_A (vC cy a z σ0) s.heap.size = A at hD ⊢
  have hA : ∀ q : Nat, s.heap.size ≤ q → A q := fun q h => by rw [← hAe]; exact Or.inr h
  have hS : va_S A s.heap s.heap [] := va_S.rf
  have hl := lv_entry ([.ref (a 0)]) (n := 1) (Nat.le_of_ble_eq_true rfl)
  rw [lg_entry_eq]
  generalize (lg_sl ([.ref (a 0)]) ++ List.replicate (1 - (lg_sl ([.ref (a 0)])).length) Slot.unset).toArray = ls at hl ⊢
  have hl : lv_has ls 1 [(0, .ref (a 0))] := hl
  have blk : ∀ k : Nat, (bC p l e (headSpec w_y_X1_isScarce ({ frames := 0, cells := 0, slots := 0, locals := 0 })).room s m #[.ref (a 0)] below meth c dC dI cy a z A (kI dC dI cy a z A below #[.ref (a 0)] s) 1 (y_X1_isScarce k 0) (fun L => [(0, .ref (a 0))]) 0 (fun L => [])) ∧ (bC p l e (headSpec w_y_X1_isScarce ({ frames := 0, cells := 0, slots := 0, locals := 0 })).room s m #[.ref (a 0)] below meth c dC dI cy a z A (kI dC dI cy a z A below #[.ref (a 0)] s) 1 (y_X1_isScarce k 1) (fun L => []) 25 (fun L => [])) ∧ (bC p l e (headSpec w_y_X1_isScarce ({ frames := 0, cells := 0, slots := 0, locals := 0 })).room s m #[.ref (a 0)] below meth c dC dI cy a z A (kI dC dI cy a z A below #[.ref (a 0)] s) 1 (y_X1_isScarce k 2) (fun L => []) 26 (fun L => [.int (L.1 100)])) := by
    intro k
    induction k with
    | zero => exact ⟨fun L σ r h => (by cases h), fun L σ r h => (by cases h), fun L σ r h => (by cases h)⟩
    | succ k ih =>
      refine ⟨?_, ?_, ?_⟩
      · intro L σ r h H locs ls hP hD hS hl
        rw [y_X1_isScarce] at h
        refine lv_aload_n hx hb dX1_isScarce_0 rfl (lv_at hl 0 rfl) ?_
        refine hg_0_0 hx hb hts in_y_X1_isScarce_X1 hown hK hP (hts _ (List.mem_cons_of_mem _ (List.mem_append_left _ (List.mem_append_left _ (List.mem_of_getElem? (i := 0) rfl))))) dX1_isScarce_1 ?_
        refine hn_3 hx hb hK hP dX1_isScarce_4 ?_
        refine lv_aload_n hx hb dX1_isScarce_5 rfl (lv_at hl 0 rfl) ?_
        refine hg_0_1 hx hb hts in_y_X1_isScarce_X1 hown hK hP (hts _ (List.mem_cons_of_mem _ (List.mem_append_left _ (List.mem_append_left _ (List.mem_of_getElem? (i := 1) rfl))))) dX1_isScarce_6 ?_
        refine lv_isub hx hb dX1_isScarce_9 ?_
        refine lv_aload_n hx hb dX1_isScarce_10 rfl (lv_at hl 0 rfl) ?_
        refine hg_0_0 hx hb hts in_y_X1_isScarce_X1 hown hK hP (hts _ (List.mem_cons_of_mem _ (List.mem_append_left _ (List.mem_append_left _ (List.mem_of_getElem? (i := 0) rfl))))) dX1_isScarce_11 ?_
        refine hn_3 hx hb hK hP dX1_isScarce_14 ?_
        refine lv_bipush (v := 8) hx hb dX1_isScarce_15 (by decide) ?_
        obtain ⟨q1, h⟩ := kb_ite0 h
        refine lv_idiv hx hb dX1_isScarce_17 q1 ?_
        refine lv_icmp_ge (tgt := 25) hx hb dX1_isScarce_18 (by decide) (fun c2 => ?_) (fun c2 => ?_)
        · rw [if_pos c2] at h
          exact ih.2.1 L σ r h H locs ls hP hD hS (lv_sub hl [] rfl)
        · rw [if_neg c2] at h
          refine lv_iconst (v := 1) hx hb dX1_isScarce_21 (by decide) ?_
          refine lv_goto (tgt := 26) hx hb dX1_isScarce_22 (by decide) ?_
          exact ih.2.2 (lI L 100 1) σ r h H locs ls hP hD hS (lv_sub hl [] rfl)
      · intro L σ r h H locs ls hP hD hS hl
        rw [y_X1_isScarce] at h
        refine lv_iconst (v := 0) hx hb dX1_isScarce_25 (by decide) ?_
        exact ih.2.2 (lI L 100 0) σ r h H locs ls hP hD hS (lv_sub hl [] rfl)
      · intro L σ r h H locs ls hP hD hS hl
        rw [y_X1_isScarce] at h
        obtain ⟨q1, h⟩ := kb_ite1 h
        obtain rfl := Option.some.inj h
        exact W.zret (v := (L.1 100)) hx hb hr (nb_bz q1) (fun t ht hW => ⟨⟨(L.1 100), (), rfl, rfl, by rw [ht]; exact hP, va_K.moved hW.alike hK, hD⟩, hS.F ht⟩) hS.2.2 dX1_isScarce_26
  exact (blk k0).1 L0 σ0 r0 h0 s.heap [] ls hP hD hS hl
/-! J7_fill_53178__z1 -/
def y_J7_fill_53178__z1 : Nat → Nat → LV → CS → Option (Int32 × CS)
  | 0, _, _, _ => none
  | k + 1, 0, L, σ => y_J7_fill_53178__z1 k 1 (lI (lI L 2 0) 3 ((Int32.ofNat (sN σ 1)))) σ
  | k + 1, 1, L, σ => if ((L.1 3)) ≤ ((L.1 2)) then (y_J7_fill_53178__z1 k 2 L σ) else (if ¬ (((L.1 2)) < 0 ∨ (sN σ 1) ≤ ((L.1 2)).toNatClampNeg) then (y_J7_fill_53178__z1 k 1 (lI L 2 ((((L.1 2)) + 1))) (uA σ 1 ((L.1 2)).toNatClampNeg ((L.1 1)))) else none)
  | k + 1, 2, L, σ => some (0, σ)
  | _ + 1, _ + 3, _, _ => none
def o_y_J7_fill_53178__z1 : List Cond := []
theorem o_y_J7_fill_53178__z1_good : o_y_J7_fill_53178__z1.all goodWord = true := by decide +kernel
def p_y_J7_fill_53178__z1 : List Cond := o_y_J7_fill_53178__z1 ++ []
theorem p_y_J7_fill_53178__z1_good : p_y_J7_fill_53178__z1.all goodWord = true := nb_all2 o_y_J7_fill_53178__z1_good rfl
def w_y_J7_fill_53178__z1 : List Cond := .code yJ7_fill_53178 cJ7_fill_53178 4 none :: (p_y_J7_fill_53178__z1 ++ fC)
theorem w_y_J7_fill_53178__z1_good : w_y_J7_fill_53178__z1.all goodWord = true := nb_allc (by decide +kernel) (nb_all2 p_y_J7_fill_53178__z1_good fC_good)
theorem hd_y_J7_fill_53178__z1 : yJ7_fill_53178.cls ≠ "java/lang/invoke/MethodHandle" ∧ yJ7_fill_53178.cls ≠ "java/lang/invoke/VarHandle" ∧ (parseMethodDescriptor yJ7_fill_53178.desc).map (fun d => d.parameters.length) = some 2 := by decide +kernel
set_option maxHeartbeats 40000000 in
set_option maxRecDepth 100000 in
theorem c_y_J7_fill_53178__z1 (l : Launch) (dC : Nat → ClassId) (dI : Nat → Nat → Nat) (cy : Nat → ClassId) (a z : Nat → Nat) (k0 : Nat) (L0 : LV) (σ0 : CS) (r0 : Int32 × CS) (h0 : y_J7_fill_53178__z1 k0 0 L0 σ0 = some r0) (sz : Nat) : Met l yJ7_fill_53178 w_y_J7_fill_53178__z1 ({ frames := 0, cells := 0, slots := 0, locals := 0 }) (va_Pc [.ref (z 1), .int (L0.1 1)] (nIn (dC, dI) cy sz (vC cy a z σ0))) (va_Qv (fun _ : Unit => True) (fun _ t => nOut (dC, dI) cy (va_A (vC cy a z σ0) sz) (vC cy a z r0.2) t) (va_A (vC cy a z σ0) sz)) 0 0 (va_A (vC cy a z σ0) sz) := by
  refine Met.ofW (cc := cJ7_fill_53178) (maxL := 4) (ret := none) (by decide) rfl ?_
  intro p e s m args below meth c s₁ B hml hv
  obtain ⟨rfl, hsz, hP, hK, hD0, hG⟩ := hv
  have hx := B.exec
  have hb := B.bytes
  have hr := B.returns
  have hts := atoms_spec (ws := w_y_J7_fill_53178__z1) B.pre
  have hown : s.vm.findClass RJ7 = some m.cls := findClass_of_methodNamed B.named
  have hlocks := B.notSynchronized
  subst hsz
  have hD := hD0.self (sz := s.heap.size)
  generalize hAe : va_A (vC cy a z σ0) s.heap.size = A at hD ⊢
  have hA : ∀ q : Nat, s.heap.size ≤ q → A q := fun q h => by rw [← hAe]; exact Or.inr h
  have hS : va_S A s.heap s.heap [] := va_S.rf
  have hl := lv_entry ([.ref (z 1), .int (L0.1 1)]) (n := 4) (Nat.le_of_ble_eq_true rfl)
  rw [lg_entry_eq]
  generalize (lg_sl ([.ref (z 1), .int (L0.1 1)]) ++ List.replicate (4 - (lg_sl ([.ref (z 1), .int (L0.1 1)])).length) Slot.unset).toArray = ls at hl ⊢
  have hl : lv_has ls 4 [(0, .ref (z 1)), (1, .int (L0.1 1))] := hl
  have blk : ∀ k : Nat, (bC p l e (headSpec w_y_J7_fill_53178__z1 ({ frames := 0, cells := 0, slots := 0, locals := 0 })).room s m #[.ref (z 1), .int (L0.1 1)] below meth c dC dI cy a z A (kV dC dI cy a z A below #[.ref (z 1), .int (L0.1 1)] s) 4 (y_J7_fill_53178__z1 k 0) (fun L => [(0, .ref (z 1)), (1, .int (L.1 1))]) 0 (fun L => [])) ∧ (bC p l e (headSpec w_y_J7_fill_53178__z1 ({ frames := 0, cells := 0, slots := 0, locals := 0 })).room s m #[.ref (z 1), .int (L0.1 1)] below meth c dC dI cy a z A (kV dC dI cy a z A below #[.ref (z 1), .int (L0.1 1)] s) 4 (y_J7_fill_53178__z1 k 1) (fun L => [(0, .ref (z 1)), (1, .int (L.1 1)), (2, .int (L.1 2)), (3, .int (L.1 3))]) 5 (fun L => [])) ∧ (bC p l e (headSpec w_y_J7_fill_53178__z1 ({ frames := 0, cells := 0, slots := 0, locals := 0 })).room s m #[.ref (z 1), .int (L0.1 1)] below meth c dC dI cy a z A (kV dC dI cy a z A below #[.ref (z 1), .int (L0.1 1)] s) 4 (y_J7_fill_53178__z1 k 2) (fun L => []) 20 (fun L => [])) := by
    intro k
    induction k with
    | zero => exact ⟨fun L σ r h => (by cases h), fun L σ r h => (by cases h), fun L σ r h => (by cases h)⟩
    | succ k ih =>
      refine ⟨?_, ?_, ?_⟩
      · intro L σ r h H locs ls hP hD hS hl
        rw [y_J7_fill_53178__z1] at h
        refine lv_iconst (v := 0) hx hb dJ7_fill_53178_0 (by decide) ?_
        refine lv_istore_n (lv' := [(2, .int 0), (0, .ref (z 1)), (1, .int (L.1 1))]) hx hb dJ7_fill_53178_1 rfl hl (by decide) rfl (fun ls hl => ?_)
        refine lv_aload_n hx hb dJ7_fill_53178_2 rfl (lv_at hl 1 rfl) ?_
        refine hn_1 hx hb hK hP dJ7_fill_53178_3 ?_
        refine lv_istore_n (lv' := [(3, .int (Int32.ofNat (sN σ 1))), (2, .int 0), (0, .ref (z 1)), (1, .int (L.1 1))]) hx hb dJ7_fill_53178_4 rfl hl (by decide) rfl (fun ls hl => ?_)
        exact ih.2.1 (lI (lI L 2 0) 3 ((Int32.ofNat (sN σ 1)))) σ r h H locs ls hP hD hS (lv_sub hl [2, 3, 1, 0] rfl)
      · intro L σ r h H locs ls hP hD hS hl
        rw [y_J7_fill_53178__z1] at h
        refine lv_iload_n hx hb dJ7_fill_53178_5 rfl (lv_at hl 2 rfl) ?_
        refine lv_iload_n hx hb dJ7_fill_53178_6 rfl (lv_at hl 3 rfl) ?_
        refine lv_icmp_ge (tgt := 20) hx hb dJ7_fill_53178_7 (by decide) (fun c1 => ?_) (fun c1 => ?_)
        · rw [if_pos c1] at h
          exact ih.2.2 L σ r h H locs ls hP hD hS (lv_sub hl [] rfl)
        · rw [if_neg c1] at h
          refine lv_aload_n hx hb dJ7_fill_53178_10 rfl (lv_at hl 0 rfl) ?_
          refine lv_iload_n hx hb dJ7_fill_53178_11 rfl (lv_at hl 2 rfl) ?_
          refine lv_iload_n hx hb dJ7_fill_53178_12 rfl (lv_at hl 1 rfl) ?_
          obtain ⟨q2, h⟩ := kb_ite1 h
          refine hs_1 hx hb hK hP hD hS q2 dJ7_fill_53178_13 (fun H locs hP hD hS => ?_)
          refine lv_iinc (v := ((L.1 2)) + 1) (lv' := [(2, .int (((L.1 2)) + 1)), (0, .ref (z 1)), (1, .int (L.1 1)), (3, .int (L.1 3))]) hx hb dJ7_fill_53178_14 hl (k := 2) rfl rfl (by decide) rfl (fun ls hl => ?_)
          refine lv_goto (tgt := 5) hx hb dJ7_fill_53178_17 (by decide) ?_
          exact ih.2.1 (lI L 2 ((((L.1 2)) + 1))) (uA σ 1 ((L.1 2)).toNatClampNeg ((L.1 1))) r h H locs ls hP hD hS (lv_sub hl [1, 2, 0, 3] rfl)
      · intro L σ r h H locs ls hP hD hS hl
        rw [y_J7_fill_53178__z1] at h
        obtain rfl := Option.some.inj h
        exact W.vret hx hb hr (fun t ht hW => ⟨⟨(), rfl, trivial, by rw [ht]; exact hP, va_K.moved hW.alike hK, hD⟩, hS.F ht⟩) hS.2.2 dJ7_fill_53178_20
  exact (blk k0).1 L0 σ0 r0 h0 s.heap [] ls hP hD hS hl
/-! X1_beginMarking -/
def y_X1_beginMarking : Nat → Nat → LV → CS → Option (Int32 × CS)
  | 0, _, _, _ => none
  | k + 1, 0, L, σ => oc (y_J7_fill_53178__z1 k 0 (lI lZ 1 0) σ) (fun r1 => if ¬ ((0 : Int32) < 0 ∨ (sN r1.2 1) ≤ (0 : Int32).toNatClampNeg) then (some (0, (uA r1.2 1 (0 : Int32).toNatClampNeg 7))) else none)
  | _ + 1, _ + 1, _, _ => none
def o_y_X1_beginMarking : List Cond := [.fieldLink RX1 19 "SetHouse$Heap" "used" "[I", .methodLink RX1 79 yJ7_fill_53178, .static yJ7_fill_53178, .initialized RJ7]
theorem o_y_X1_beginMarking_good : o_y_X1_beginMarking.all goodWord = true := by decide +kernel
def p_y_X1_beginMarking : List Cond := o_y_X1_beginMarking ++ ((.code yJ7_fill_53178 cJ7_fill_53178 4 none :: p_y_J7_fill_53178__z1) ++ [])
theorem p_y_X1_beginMarking_good : p_y_X1_beginMarking.all goodWord = true := nb_all2 o_y_X1_beginMarking_good (nb_all2 (nb_allc (by decide +kernel) p_y_J7_fill_53178__z1_good) rfl)
def w_y_X1_beginMarking : List Cond := .code yX1_beginMarking cX1_beginMarking 1 none :: (p_y_X1_beginMarking ++ fC)
theorem w_y_X1_beginMarking_good : w_y_X1_beginMarking.all goodWord = true := nb_allc (by decide +kernel) (nb_all2 p_y_X1_beginMarking_good fC_good)
theorem in_y_X1_beginMarking_X1 : ∀ w ∈ wsX10, w ∈ w_y_X1_beginMarking := fun _ h => List.mem_cons_of_mem _ (List.mem_append_right _ (List.mem_append_right _ (List.mem_append_left _ h)))
theorem hd_y_X1_beginMarking : yX1_beginMarking.cls = RX1 ∧ yX1_beginMarking.cls ≠ "java/lang/invoke/MethodHandle" ∧ yX1_beginMarking.cls ≠ "java/lang/invoke/VarHandle" ∧ (parseMethodDescriptor yX1_beginMarking.desc).map (fun d => d.parameters.length) = some 0 := by decide +kernel
theorem gg_y_X1_beginMarking_J7_fill_53178__z1 : GoodIn w_y_X1_beginMarking w_y_J7_fill_53178__z1 := goodIn_sub (fun w h => (List.mem_cons.mp h).elim (fun e => (List.mem_cons_of_mem _ (List.mem_append_left _ (List.mem_append_right _ (List.mem_append_left _ (List.mem_cons.mpr (Or.inl e))))))) (fun h => (List.mem_append.mp h).elim (fun h => (List.mem_cons_of_mem _ (List.mem_append_left _ (List.mem_append_right _ (List.mem_append_left _ (List.mem_cons_of_mem _ h)))))) (fun h => List.mem_cons_of_mem _ (List.mem_append_right _ h)))) w_y_J7_fill_53178__z1_good
theorem g_y_X1_beginMarking_J7_fill_53178__z1_S79 : GoodIn w_y_X1_beginMarking (va_wsS RX1 79 yJ7_fill_53178 w_y_J7_fill_53178__z1) := goodIn_app (nb_g3 (List.mem_cons_of_mem _ (List.mem_append_left _ (List.mem_append_left _ (List.mem_of_getElem? (i := 1) rfl)))) (List.mem_cons_of_mem _ (List.mem_append_left _ (List.mem_append_left _ (List.mem_of_getElem? (i := 2) rfl)))) (List.mem_cons_of_mem _ (List.mem_append_left _ (List.mem_append_left _ (List.mem_of_getElem? (i := 3) rfl)))) (by decide +kernel)) gg_y_X1_beginMarking_J7_fill_53178__z1
set_option maxHeartbeats 40000000 in
set_option maxRecDepth 100000 in
theorem c_y_X1_beginMarking (l : Launch) (dC : Nat → ClassId) (dI : Nat → Nat → Nat) (cy : Nat → ClassId) (a z : Nat → Nat) (k0 : Nat) (L0 : LV) (σ0 : CS) (r0 : Int32 × CS) (h0 : y_X1_beginMarking k0 0 L0 σ0 = some r0) (sz : Nat) : Met l yX1_beginMarking w_y_X1_beginMarking ({ frames := 1, cells := 0, slots := 0, locals := 23 }) (va_Pc [.ref (a 0)] (nIn (dC, dI) cy sz (vC cy a z σ0))) (va_Qv (fun _ : Unit => True) (fun _ t => nOut (dC, dI) cy (va_A (vC cy a z σ0) sz) (vC cy a z r0.2) t) (va_A (vC cy a z σ0) sz)) 0 0 (va_A (vC cy a z σ0) sz) := by
  refine Met.ofW (cc := cX1_beginMarking) (maxL := 1) (ret := none) (by decide) rfl ?_
  intro p e s m args below meth c s₁ B hml hv
  obtain ⟨rfl, hsz, hP, hK, hD0, hG⟩ := hv
  have hx := B.exec
  have hb := B.bytes
  have hr := B.returns
  have hts := atoms_spec (ws := w_y_X1_beginMarking) B.pre
  have hown : s.vm.findClass RX1 = some m.cls := findClass_of_methodNamed B.named
  have hlocks := B.notSynchronized
  subst hsz
  have hD := hD0.self (sz := s.heap.size)
  generalize hAe : va_A (vC cy a z σ0) s.heap.size = A at hD ⊢
  have hA : ∀ q : Nat, s.heap.size ≤ q → A q := fun q h => by rw [← hAe]; exact Or.inr h
  have hS : va_S A s.heap s.heap [] := va_S.rf
  have hl := lv_entry ([.ref (a 0)]) (n := 1) (Nat.le_of_ble_eq_true rfl)
  rw [lg_entry_eq]
  generalize (lg_sl ([.ref (a 0)]) ++ List.replicate (1 - (lg_sl ([.ref (a 0)])).length) Slot.unset).toArray = ls at hl ⊢
  have hl : lv_has ls 1 [(0, .ref (a 0))] := hl
  have blk : ∀ k : Nat, (bC p l e (headSpec w_y_X1_beginMarking ({ frames := 1, cells := 0, slots := 0, locals := 23 })).room s m #[.ref (a 0)] below meth c dC dI cy a z A (kV dC dI cy a z A below #[.ref (a 0)] s) 1 (y_X1_beginMarking k 0) (fun L => [(0, .ref (a 0))]) 0 (fun L => [])) := by
    intro k
    induction k with
    | zero => exact fun L σ r h => (by cases h)
    | succ k ih =>
      skip
      · intro L σ r h H locs ls hP hD hS hl
        rw [y_X1_beginMarking] at h
        refine lv_aload_n hx hb dX1_beginMarking_0 rfl (lv_at hl 0 rfl) ?_
        refine hg_0_2 hx hb hts in_y_X1_beginMarking_X1 hown hK hP (hts _ (List.mem_cons_of_mem _ (List.mem_append_left _ (List.mem_append_left _ (List.mem_of_getElem? (i := 0) rfl))))) dX1_beginMarking_1 ?_
        refine lv_iconst (v := 0) hx hb dX1_beginMarking_4 (by decide) ?_
        obtain ⟨r1, hc1, h⟩ := oc_ex h
        refine kc_v (va_runS (As := [.ref (z 1), .int 0]) (rest := []) ⟨hx, hb, hml, hown, hts⟩ (c_y_J7_fill_53178__z1 l dC dI cy a z k (lI lZ 1 0) σ r1 hc1 H.size) (va_cwS 2 hts g_y_X1_beginMarking_J7_fill_53178__z1_S79 rfl rfl rfl hd_y_J7_fill_53178__z1 ⟨Nat.le_of_ble_eq_true rfl, Nat.le_of_ble_eq_true rfl⟩) ⟨nb_blind, (kb_pre hK hG hP hD)⟩ rfl rfl hl.1 rfl (lv_room (Nat.le_of_ble_eq_true rfl)) dX1_beginMarking_5 ⟨Nat.le_refl _, Nat.le_refl _⟩) hA hP hD hS (fun H locs hP hD hS => ?_)
        refine lv_aload_n hx hb dX1_beginMarking_8 rfl (lv_at hl 0 rfl) ?_
        refine hg_0_2 hx hb hts in_y_X1_beginMarking_X1 hown hK hP (hts _ (List.mem_cons_of_mem _ (List.mem_append_left _ (List.mem_append_left _ (List.mem_of_getElem? (i := 0) rfl))))) dX1_beginMarking_9 ?_
        refine lv_iconst (v := 0) hx hb dX1_beginMarking_12 (by decide) ?_
        refine lv_bipush (v := 7) hx hb dX1_beginMarking_13 (by decide) ?_
        obtain ⟨q2, h⟩ := kb_ite1 h
        refine hs_1 hx hb hK hP hD hS q2 dX1_beginMarking_15 (fun H locs hP hD hS => ?_)
        obtain rfl := Option.some.inj h
        exact W.vret hx hb hr (fun t ht hW => ⟨⟨(), rfl, trivial, by rw [ht]; exact hP, va_K.moved hW.alike hK, hD⟩, hS.F ht⟩) hS.2.2 dX1_beginMarking_16
  exact (blk k0) L0 σ0 r0 h0 s.heap [] ls hP hD hS hl
/-! H2: X1.markCell -/
def t_X1_markCell (X : Nat → Nat → Nat → LV → CS → Option (Int32 × CS)) (K d : Nat) (b : Nat) (L : LV) (σ : CS) : Option (Int32 × CS) := match b with
  | 0 => if ¬ (((((L.1 1)) >>> ((5 : Int32) &&& 31))) < 0 ∨ (sN σ 1) ≤ ((((L.1 1)) >>> ((5 : Int32) &&& 31))).toNatClampNeg) then (if (((((((σ.2.2.1 1 ((((L.1 1)) >>> ((5 : Int32) &&& 31))).toNatClampNeg)).toUInt32 >>> (((((L.1 1)) &&& 31)).toUInt32 &&& Int32.toUInt32 31)).toInt32)) &&& 1)) = 0 then (X d 0 1 L σ) else (some (0, σ))) else none
  | 1 => if ¬ (((L.1 1)) < 0 ∨ (sN σ 3) ≤ ((L.1 1)).toNatClampNeg) then (if ¬ (((L.1 1)) < 0 ∨ (sN σ 3) ≤ ((L.1 1)).toNatClampNeg) then (if ((((σ.2.2.1 3 ((L.1 1)).toNatClampNeg)) &&& 7)) = 4 then (X d 0 3 (lI (lI (lI L 2 ((((σ.2.2.1 3 ((L.1 1)).toNatClampNeg)) &&& 7))) 100 (((((((((((σ.2.2.1 3 ((L.1 1)).toNatClampNeg)).toUInt32 >>> ((4 : Int32).toUInt32 &&& Int32.toUInt32 31)).toInt32)) &&& 4095)) + 3)) >>> ((2 : Int32) &&& 31)))) 101 ((L.1 1))) σ) else (X d 0 2 (lI (lI (lI L 2 ((((σ.2.2.1 3 ((L.1 1)).toNatClampNeg)) &&& 7))) 3 (((((((σ.2.2.1 3 ((L.1 1)).toNatClampNeg)).toUInt32 >>> ((4 : Int32).toUInt32 &&& Int32.toUInt32 31)).toInt32)) &&& 4095))) 100 ((L.1 1))) σ)) else none) else none
  | 2 => X d 0 3 (lI (lI L 100 ((L.1 3))) 101 ((L.1 100))) σ
  | 3 => X d 0 4 (lI (lI L 4 ((((L.1 101)) + ((L.1 100))))) 5 ((L.1 1))) σ
  | 4 => if ((L.1 4)) < ((L.1 5)) then (X d 0 5 L σ) else (if ¬ (((((L.1 5)) >>> ((5 : Int32) &&& 31))) < 0 ∨ (sN σ 1) ≤ ((((L.1 5)) >>> ((5 : Int32) &&& 31))).toNatClampNeg) then (if ¬ (((((L.1 5)) >>> ((5 : Int32) &&& 31))) < 0 ∨ (sN σ 1) ≤ ((((L.1 5)) >>> ((5 : Int32) &&& 31))).toNatClampNeg) then (X d 0 4 (lI L 5 ((((L.1 5)) + 1))) (uA σ 1 ((((L.1 5)) >>> ((5 : Int32) &&& 31))).toNatClampNeg ((((σ.2.2.1 1 ((((L.1 5)) >>> ((5 : Int32) &&& 31))).toNatClampNeg)) ||| (((1 : Int32) <<< (((((L.1 5)) &&& 31)) &&& 31))))))) else none) else none)
  | 5 => X d 0 6 (lI L 5 ((((L.1 1)) + 1))) σ
  | 6 => if ((L.1 4)) < ((L.1 5)) then (X d 0 7 L σ) else (if ((L.1 2)) < 5 then (X d 0 7 L σ) else (if ¬ (((L.1 5)) < 0 ∨ (sN σ 3) ≤ ((L.1 5)).toNatClampNeg) then (if ((σ.2.2.1 3 ((L.1 5)).toNatClampNeg)) < 3 then (X d 0 8 L σ) else (if ¬ (((L.1 5)) < 0 ∨ (sN σ 3) ≤ ((L.1 5)).toNatClampNeg) then (oe d (fun e6 => oc (X e6 0 0 (lI lZ 1 ((σ.2.2.1 3 ((L.1 5)).toNatClampNeg))) σ) (fun r6 => X d 0 8 L r6.2))) else none)) else none))
  | 7 => some (0, σ)
  | 8 => X d 0 6 (lI L 5 ((((L.1 5)) + 1))) σ
  | _ => none
theorem t_X1_markCell_0 (X : Nat → Nat → Nat → LV → CS → Option (Int32 × CS)) (K d : Nat) (L : LV) (σ : CS) : t_X1_markCell X K d 0 L σ = (if ¬ (((((L.1 1)) >>> ((5 : Int32) &&& 31))) < 0 ∨ (sN σ 1) ≤ ((((L.1 1)) >>> ((5 : Int32) &&& 31))).toNatClampNeg) then (if (((((((σ.2.2.1 1 ((((L.1 1)) >>> ((5 : Int32) &&& 31))).toNatClampNeg)).toUInt32 >>> (((((L.1 1)) &&& 31)).toUInt32 &&& Int32.toUInt32 31)).toInt32)) &&& 1)) = 0 then (X d 0 1 L σ) else (some (0, σ))) else none) := rfl
theorem t_X1_markCell_1 (X : Nat → Nat → Nat → LV → CS → Option (Int32 × CS)) (K d : Nat) (L : LV) (σ : CS) : t_X1_markCell X K d 1 L σ = (if ¬ (((L.1 1)) < 0 ∨ (sN σ 3) ≤ ((L.1 1)).toNatClampNeg) then (if ¬ (((L.1 1)) < 0 ∨ (sN σ 3) ≤ ((L.1 1)).toNatClampNeg) then (if ((((σ.2.2.1 3 ((L.1 1)).toNatClampNeg)) &&& 7)) = 4 then (X d 0 3 (lI (lI (lI L 2 ((((σ.2.2.1 3 ((L.1 1)).toNatClampNeg)) &&& 7))) 100 (((((((((((σ.2.2.1 3 ((L.1 1)).toNatClampNeg)).toUInt32 >>> ((4 : Int32).toUInt32 &&& Int32.toUInt32 31)).toInt32)) &&& 4095)) + 3)) >>> ((2 : Int32) &&& 31)))) 101 ((L.1 1))) σ) else (X d 0 2 (lI (lI (lI L 2 ((((σ.2.2.1 3 ((L.1 1)).toNatClampNeg)) &&& 7))) 3 (((((((σ.2.2.1 3 ((L.1 1)).toNatClampNeg)).toUInt32 >>> ((4 : Int32).toUInt32 &&& Int32.toUInt32 31)).toInt32)) &&& 4095))) 100 ((L.1 1))) σ)) else none) else none) := rfl
theorem t_X1_markCell_2 (X : Nat → Nat → Nat → LV → CS → Option (Int32 × CS)) (K d : Nat) (L : LV) (σ : CS) : t_X1_markCell X K d 2 L σ = (X d 0 3 (lI (lI L 100 ((L.1 3))) 101 ((L.1 100))) σ) := rfl
theorem t_X1_markCell_3 (X : Nat → Nat → Nat → LV → CS → Option (Int32 × CS)) (K d : Nat) (L : LV) (σ : CS) : t_X1_markCell X K d 3 L σ = (X d 0 4 (lI (lI L 4 ((((L.1 101)) + ((L.1 100))))) 5 ((L.1 1))) σ) := rfl
theorem t_X1_markCell_4 (X : Nat → Nat → Nat → LV → CS → Option (Int32 × CS)) (K d : Nat) (L : LV) (σ : CS) : t_X1_markCell X K d 4 L σ = (if ((L.1 4)) < ((L.1 5)) then (X d 0 5 L σ) else (if ¬ (((((L.1 5)) >>> ((5 : Int32) &&& 31))) < 0 ∨ (sN σ 1) ≤ ((((L.1 5)) >>> ((5 : Int32) &&& 31))).toNatClampNeg) then (if ¬ (((((L.1 5)) >>> ((5 : Int32) &&& 31))) < 0 ∨ (sN σ 1) ≤ ((((L.1 5)) >>> ((5 : Int32) &&& 31))).toNatClampNeg) then (X d 0 4 (lI L 5 ((((L.1 5)) + 1))) (uA σ 1 ((((L.1 5)) >>> ((5 : Int32) &&& 31))).toNatClampNeg ((((σ.2.2.1 1 ((((L.1 5)) >>> ((5 : Int32) &&& 31))).toNatClampNeg)) ||| (((1 : Int32) <<< (((((L.1 5)) &&& 31)) &&& 31))))))) else none) else none)) := rfl
theorem t_X1_markCell_5 (X : Nat → Nat → Nat → LV → CS → Option (Int32 × CS)) (K d : Nat) (L : LV) (σ : CS) : t_X1_markCell X K d 5 L σ = (X d 0 6 (lI L 5 ((((L.1 1)) + 1))) σ) := rfl
theorem t_X1_markCell_6 (X : Nat → Nat → Nat → LV → CS → Option (Int32 × CS)) (K d : Nat) (L : LV) (σ : CS) : t_X1_markCell X K d 6 L σ = (if ((L.1 4)) < ((L.1 5)) then (X d 0 7 L σ) else (if ((L.1 2)) < 5 then (X d 0 7 L σ) else (if ¬ (((L.1 5)) < 0 ∨ (sN σ 3) ≤ ((L.1 5)).toNatClampNeg) then (if ((σ.2.2.1 3 ((L.1 5)).toNatClampNeg)) < 3 then (X d 0 8 L σ) else (if ¬ (((L.1 5)) < 0 ∨ (sN σ 3) ≤ ((L.1 5)).toNatClampNeg) then (oe d (fun e6 => oc (X e6 0 0 (lI lZ 1 ((σ.2.2.1 3 ((L.1 5)).toNatClampNeg))) σ) (fun r6 => X d 0 8 L r6.2))) else none)) else none))) := rfl
theorem t_X1_markCell_7 (X : Nat → Nat → Nat → LV → CS → Option (Int32 × CS)) (K d : Nat) (L : LV) (σ : CS) : t_X1_markCell X K d 7 L σ = (some (0, σ)) := rfl
theorem t_X1_markCell_8 (X : Nat → Nat → Nat → LV → CS → Option (Int32 × CS)) (K d : Nat) (L : LV) (σ : CS) : t_X1_markCell X K d 8 L σ = (X d 0 6 (lI L 5 ((((L.1 5)) + 1))) σ) := rfl
def y_H2 : Nat → Nat → Nat → Nat → LV → CS → Option (Int32 × CS)
  | 0 => fun _ _ _ _ _ => none
  | k + 1 => fun d m b L σ => match m with
    | 0 => t_X1_markCell (y_H2 k) k d b L σ
    | _ => none
theorem y_H2_0 (k d b : Nat) (L : LV) (σ : CS) : y_H2 (k + 1) d 0 b L σ = t_X1_markCell (y_H2 k) k d b L σ := rfl
def o_y_H2 : List Cond := [.code yX1_markCell cX1_markCell 6 none, .fieldLink RX1 19 "SetHouse$Heap" "used" "[I", .fieldLink RX1 11 "SetHouse$Heap" "mem" "[I", .methodLink RX1 85 yX1_markCell, .instanceMethod yX1_markCell, .selects RX1 yX1_markCell yX1_markCell, .initialized RX1]
theorem o_y_H2_good : o_y_H2.all goodWord = true := by decide +kernel
def p_y_H2 : List Cond := o_y_H2 ++ []
theorem p_y_H2_good : p_y_H2.all goodWord = true := nb_all2 o_y_H2_good rfl
def w_y_X1_markCell : List Cond := .code yX1_markCell cX1_markCell 6 none :: (p_y_H2 ++ fC)
theorem w_y_X1_markCell_good : w_y_X1_markCell.all goodWord = true := nb_allc (by decide +kernel) (nb_all2 p_y_H2_good fC_good)
theorem in_y_X1_markCell_X1 : ∀ w ∈ wsX10, w ∈ w_y_X1_markCell := fun _ h => List.mem_cons_of_mem _ (List.mem_append_right _ (List.mem_append_right _ (List.mem_append_left _ h)))
theorem hd_y_X1_markCell : yX1_markCell.cls = RX1 ∧ yX1_markCell.cls ≠ "java/lang/invoke/MethodHandle" ∧ yX1_markCell.cls ≠ "java/lang/invoke/VarHandle" ∧ (parseMethodDescriptor yX1_markCell.desc).map (fun d => d.parameters.length) = some 1 := by decide +kernel
abbrev P_H2 (l : Launch) (dC : Nat → ClassId) (dI : Nat → Nat → Nat) (cy : Nat → ClassId) (a z : Nat → Nat) (k0 : Nat) : Prop := (∀ (d : Nat) (L0 : LV) (σ0 : CS) (r0 : Int32 × CS), y_H2 k0 d 0 0 L0 σ0 = some r0 → ∀ (sz : Nat), Met l yX1_markCell w_y_X1_markCell ({ frames := 0 + d, cells := 0, slots := 0, locals := 0 + 25 * d }) (va_Pc [.ref (a 0), .int (L0.1 1)] (nIn (dC, dI) cy sz (vC cy a z σ0))) (va_Qv (fun _ : Unit => True) (fun _ t => nOut (dC, dI) cy (va_A (vC cy a z σ0) sz) (vC cy a z r0.2) t) (va_A (vC cy a z σ0) sz)) 0 0 (va_A (vC cy a z σ0) sz))
theorem gg_y_X1_markCell_X1_markCell : GoodIn w_y_X1_markCell w_y_X1_markCell := goodIn_sub (fun w h => (List.mem_cons.mp h).elim (fun e => e ▸ (List.mem_cons_of_mem _ (List.mem_append_left _ (List.mem_append_left _ (List.mem_of_getElem? (i := 0) rfl))))) (fun h => List.mem_cons_of_mem _ h)) w_y_X1_markCell_good
theorem g_y_X1_markCell_X1_markCell_V85 : GoodIn w_y_X1_markCell (wsV RX1 85 RX1 yX1_markCell w_y_X1_markCell) := goodIn_app (nb_g4 (List.mem_cons_of_mem _ (List.mem_append_left _ (List.mem_append_left _ (List.mem_of_getElem? (i := 3) rfl)))) (List.mem_cons_of_mem _ (List.mem_append_left _ (List.mem_append_left _ (List.mem_of_getElem? (i := 4) rfl)))) (List.mem_cons_of_mem _ (List.mem_append_left _ (List.mem_append_left _ (List.mem_of_getElem? (i := 5) rfl)))) (List.mem_cons_of_mem _ (List.mem_append_left _ (List.mem_append_left _ (List.mem_of_getElem? (i := 6) rfl)))) (by decide +kernel)) gg_y_X1_markCell_X1_markCell
set_option maxHeartbeats 40000000 in
set_option maxRecDepth 100000 in
theorem c_t_X1_markCell (l : Launch) (dC : Nat → ClassId) (dI : Nat → Nat → Nat) (cy : Nat → ClassId) (a z : Nat → Nat) (k0 : Nat) (IH : ∀ j : Nat, j < k0 → P_H2 l dC dI cy a z j) (d : Nat) (L0 : LV) (σ0 : CS) (r0 : Int32 × CS) (h0 : y_H2 k0 d 0 0 L0 σ0 = some r0) (sz : Nat) : Met l yX1_markCell w_y_X1_markCell ({ frames := 0 + d, cells := 0, slots := 0, locals := 0 + 25 * d }) (va_Pc [.ref (a 0), .int (L0.1 1)] (nIn (dC, dI) cy sz (vC cy a z σ0))) (va_Qv (fun _ : Unit => True) (fun _ t => nOut (dC, dI) cy (va_A (vC cy a z σ0) sz) (vC cy a z r0.2) t) (va_A (vC cy a z σ0) sz)) 0 0 (va_A (vC cy a z σ0) sz) := by
  refine Met.ofW (cc := cX1_markCell) (maxL := 6) (ret := none) (by decide) rfl ?_
  intro p e s m args below meth c s₁ B hml hv
  obtain ⟨rfl, hsz, hP, hK, hD0, hG⟩ := hv
  have hx := B.exec
  have hb := B.bytes
  have hr := B.returns
  have hts := atoms_spec (ws := w_y_X1_markCell) B.pre
  have hown : s.vm.findClass RX1 = some m.cls := findClass_of_methodNamed B.named
  have hlocks := B.notSynchronized
  subst hsz
  have hD := hD0.self (sz := s.heap.size)
  generalize hAe : va_A (vC cy a z σ0) s.heap.size = A at hD ⊢
  have hA : ∀ q : Nat, s.heap.size ≤ q → A q := fun q h => by rw [← hAe]; exact Or.inr h
  have hS : va_S A s.heap s.heap [] := va_S.rf
  have hl := lv_entry ([.ref (a 0), .int (L0.1 1)]) (n := 6) (Nat.le_of_ble_eq_true rfl)
  rw [lg_entry_eq]
  generalize (lg_sl ([.ref (a 0), .int (L0.1 1)]) ++ List.replicate (6 - (lg_sl ([.ref (a 0), .int (L0.1 1)])).length) Slot.unset).toArray = ls at hl ⊢
  have hl : lv_has ls 6 [(0, .ref (a 0)), (1, .int (L0.1 1))] := hl
  have blk : ∀ k : Nat, k ≤ k0 → (bC p l e (headSpec w_y_X1_markCell ({ frames := 0 + d, cells := 0, slots := 0, locals := 0 + 25 * d })).room s m #[.ref (a 0), .int (L0.1 1)] below meth c dC dI cy a z A (kV dC dI cy a z A below #[.ref (a 0), .int (L0.1 1)] s) 6 (y_H2 k d 0 0) (fun L => [(0, .ref (a 0)), (1, .int (L.1 1))]) 0 (fun L => [])) ∧ (bC p l e (headSpec w_y_X1_markCell ({ frames := 0 + d, cells := 0, slots := 0, locals := 0 + 25 * d })).room s m #[.ref (a 0), .int (L0.1 1)] below meth c dC dI cy a z A (kV dC dI cy a z A below #[.ref (a 0), .int (L0.1 1)] s) 6 (y_H2 k d 0 1) (fun L => [(0, .ref (a 0)), (1, .int (L.1 1))]) 19 (fun L => [])) ∧ (bC p l e (headSpec w_y_X1_markCell ({ frames := 0 + d, cells := 0, slots := 0, locals := 0 + 25 * d })).room s m #[.ref (a 0), .int (L0.1 1)] below meth c dC dI cy a z A (kV dC dI cy a z A below #[.ref (a 0), .int (L0.1 1)] s) 6 (y_H2 k d 0 2) (fun L => [(0, .ref (a 0)), (1, .int (L.1 1)), (2, .int (L.1 2)), (3, .int (L.1 3))]) 56 (fun L => [.int (L.1 100)])) ∧ (bC p l e (headSpec w_y_X1_markCell ({ frames := 0 + d, cells := 0, slots := 0, locals := 0 + 25 * d })).room s m #[.ref (a 0), .int (L0.1 1)] below meth c dC dI cy a z A (kV dC dI cy a z A below #[.ref (a 0), .int (L0.1 1)] s) 6 (y_H2 k d 0 3) (fun L => [(0, .ref (a 0)), (1, .int (L.1 1)), (2, .int (L.1 2))]) 57 (fun L => [.int (L.1 100), .int (L.1 101)])) ∧ (bC p l e (headSpec w_y_X1_markCell ({ frames := 0 + d, cells := 0, slots := 0, locals := 0 + 25 * d })).room s m #[.ref (a 0), .int (L0.1 1)] below meth c dC dI cy a z A (kV dC dI cy a z A below #[.ref (a 0), .int (L0.1 1)] s) 6 (y_H2 k d 0 4) (fun L => [(0, .ref (a 0)), (1, .int (L.1 1)), (2, .int (L.1 2)), (4, .int (L.1 4)), (5, .int (L.1 5))]) 63 (fun L => [])) ∧ (bC p l e (headSpec w_y_X1_markCell ({ frames := 0 + d, cells := 0, slots := 0, locals := 0 + 25 * d })).room s m #[.ref (a 0), .int (L0.1 1)] below meth c dC dI cy a z A (kV dC dI cy a z A below #[.ref (a 0), .int (L0.1 1)] s) 6 (y_H2 k d 0 5) (fun L => [(0, .ref (a 0)), (1, .int (L.1 1)), (2, .int (L.1 2)), (4, .int (L.1 4))]) 95 (fun L => [])) ∧ (bC p l e (headSpec w_y_X1_markCell ({ frames := 0 + d, cells := 0, slots := 0, locals := 0 + 25 * d })).room s m #[.ref (a 0), .int (L0.1 1)] below meth c dC dI cy a z A (kV dC dI cy a z A below #[.ref (a 0), .int (L0.1 1)] s) 6 (y_H2 k d 0 6) (fun L => [(0, .ref (a 0)), (2, .int (L.1 2)), (4, .int (L.1 4)), (5, .int (L.1 5))]) 100 (fun L => [])) ∧ (bC p l e (headSpec w_y_X1_markCell ({ frames := 0 + d, cells := 0, slots := 0, locals := 0 + 25 * d })).room s m #[.ref (a 0), .int (L0.1 1)] below meth c dC dI cy a z A (kV dC dI cy a z A below #[.ref (a 0), .int (L0.1 1)] s) 6 (y_H2 k d 0 7) (fun L => []) 140 (fun L => [])) ∧ (bC p l e (headSpec w_y_X1_markCell ({ frames := 0 + d, cells := 0, slots := 0, locals := 0 + 25 * d })).room s m #[.ref (a 0), .int (L0.1 1)] below meth c dC dI cy a z A (kV dC dI cy a z A below #[.ref (a 0), .int (L0.1 1)] s) 6 (y_H2 k d 0 8) (fun L => [(0, .ref (a 0)), (2, .int (L.1 2)), (4, .int (L.1 4)), (5, .int (L.1 5))]) 134 (fun L => [])) := by
    intro k
    induction k with
    | zero => exact fun _ => ⟨fun L σ r h => (by cases h), fun L σ r h => (by cases h), fun L σ r h => (by cases h), fun L σ r h => (by cases h), fun L σ r h => (by cases h), fun L σ r h => (by cases h), fun L σ r h => (by cases h), fun L σ r h => (by cases h), fun L σ r h => (by cases h)⟩
    | succ k ih =>
      intro hk
      replace ih := ih (by omega)
      refine ⟨?_, ?_, ?_, ?_, ?_, ?_, ?_, ?_, ?_⟩
      · intro L σ r h H locs ls hP hD hS hl
        rw [y_H2_0, t_X1_markCell_0] at h
        refine lv_aload_n hx hb dX1_markCell_0 rfl (lv_at hl 0 rfl) ?_
        refine hg_0_2 hx hb hts in_y_X1_markCell_X1 hown hK hP (hts _ (List.mem_cons_of_mem _ (List.mem_append_left _ (List.mem_append_left _ (List.mem_of_getElem? (i := 1) rfl))))) dX1_markCell_1 ?_
        refine lv_iload_n hx hb dX1_markCell_4 rfl (lv_at hl 1 rfl) ?_
        refine lv_iconst (v := 5) hx hb dX1_markCell_5 (by decide) ?_
        refine lv_ishr hx hb dX1_markCell_6 ?_
        obtain ⟨q1, h⟩ := kb_ite1 h
        refine hl_1 hx hb hK hP q1 dX1_markCell_7 ?_
        refine lv_iload_n hx hb dX1_markCell_8 rfl (lv_at hl 1 rfl) ?_
        refine lv_bipush (v := 31) hx hb dX1_markCell_9 (by decide) ?_
        refine lv_iand hx hb dX1_markCell_11 ?_
        refine lv_iushr (v := (((σ.2.2.1 1 ((((L.1 1)) >>> ((5 : Int32) &&& 31))).toNatClampNeg)).toUInt32 >>> (((((L.1 1)) &&& 31)).toUInt32 &&& Int32.toUInt32 31)).toInt32) hx hb dX1_markCell_12 rfl ?_
        refine lv_iconst (v := 1) hx hb dX1_markCell_13 (by decide) ?_
        refine lv_iand hx hb dX1_markCell_14 ?_
        refine lv_if_eq (tgt := 19) hx hb dX1_markCell_15 (by decide) (fun c2 => ?_) (fun c2 => ?_)
        · rw [if_pos c2] at h
          exact ih.2.1 L σ r h H locs ls hP hD hS (lv_sub hl [0, 1] rfl)
        · rw [if_neg c2] at h
          obtain rfl := Option.some.inj h
          exact W.vret hx hb hr (fun t ht hW => ⟨⟨(), rfl, trivial, by rw [ht]; exact hP, va_K.moved hW.alike hK, hD⟩, hS.F ht⟩) hS.2.2 dX1_markCell_18
      · intro L σ r h H locs ls hP hD hS hl
        rw [y_H2_0, t_X1_markCell_1] at h
        refine lv_aload_n hx hb dX1_markCell_19 rfl (lv_at hl 0 rfl) ?_
        refine hg_0_0 hx hb hts in_y_X1_markCell_X1 hown hK hP (hts _ (List.mem_cons_of_mem _ (List.mem_append_left _ (List.mem_append_left _ (List.mem_of_getElem? (i := 2) rfl))))) dX1_markCell_20 ?_
        refine lv_iload_n hx hb dX1_markCell_23 rfl (lv_at hl 1 rfl) ?_
        obtain ⟨q1, h⟩ := kb_ite1 h
        refine hl_3 hx hb hK hP q1 dX1_markCell_24 ?_
        refine lv_bipush (v := 7) hx hb dX1_markCell_25 (by decide) ?_
        refine lv_iand hx hb dX1_markCell_27 ?_
        refine lv_istore_n (lv' := [(2, .int (((σ.2.2.1 3 ((L.1 1)).toNatClampNeg)) &&& 7)), (0, .ref (a 0)), (1, .int (L.1 1))]) hx hb dX1_markCell_28 rfl hl (by decide) rfl (fun ls hl => ?_)
        refine lv_aload_n hx hb dX1_markCell_29 rfl (lv_at hl 1 rfl) ?_
        refine hg_0_0 hx hb hts in_y_X1_markCell_X1 hown hK hP (hts _ (List.mem_cons_of_mem _ (List.mem_append_left _ (List.mem_append_left _ (List.mem_of_getElem? (i := 2) rfl))))) dX1_markCell_30 ?_
        refine lv_iload_n hx hb dX1_markCell_33 rfl (lv_at hl 2 rfl) ?_
        obtain ⟨q2, h⟩ := kb_ite1 h
        refine hl_3 hx hb hK hP q2 dX1_markCell_34 ?_
        refine lv_iconst (v := 4) hx hb dX1_markCell_35 (by decide) ?_
        refine lv_iushr (v := (((σ.2.2.1 3 ((L.1 1)).toNatClampNeg)).toUInt32 >>> ((4 : Int32).toUInt32 &&& Int32.toUInt32 31)).toInt32) hx hb dX1_markCell_36 rfl ?_
        refine lv_sipush (v := 4095) hx hb dX1_markCell_37 (by decide) ?_
        refine lv_iand hx hb dX1_markCell_40 ?_
        refine lv_istore_n (lv' := [(3, .int ((((((σ.2.2.1 3 ((L.1 1)).toNatClampNeg)).toUInt32 >>> ((4 : Int32).toUInt32 &&& Int32.toUInt32 31)).toInt32)) &&& 4095)), (2, .int (((σ.2.2.1 3 ((L.1 1)).toNatClampNeg)) &&& 7)), (0, .ref (a 0)), (1, .int (L.1 1))]) hx hb dX1_markCell_41 rfl hl (by decide) rfl (fun ls hl => ?_)
        refine lv_iload_n hx hb dX1_markCell_42 rfl (lv_at hl 3 rfl) ?_
        refine lv_iload_n hx hb dX1_markCell_43 rfl (lv_at hl 1 rfl) ?_
        refine lv_iconst (v := 4) hx hb dX1_markCell_44 (by decide) ?_
        refine lv_icmp_ne (tgt := 56) hx hb dX1_markCell_45 (by decide) (fun c3 => ?_) (fun c3 => ?_)
        · rw [if_neg c3] at h
          exact ih.2.2.1 (lI (lI (lI L 2 ((((σ.2.2.1 3 ((L.1 1)).toNatClampNeg)) &&& 7))) 3 (((((((σ.2.2.1 3 ((L.1 1)).toNatClampNeg)).toUInt32 >>> ((4 : Int32).toUInt32 &&& Int32.toUInt32 31)).toInt32)) &&& 4095))) 100 ((L.1 1))) σ r h H locs ls hP hD hS (lv_sub hl [2, 3, 1, 0] rfl)
        · rw [if_pos c3] at h
          refine lv_iload_n hx hb dX1_markCell_48 rfl (lv_at hl 0 rfl) ?_
          refine lv_iconst (v := 3) hx hb dX1_markCell_49 (by decide) ?_
          refine lv_iadd hx hb dX1_markCell_50 ?_
          refine lv_iconst (v := 2) hx hb dX1_markCell_51 (by decide) ?_
          refine lv_ishr hx hb dX1_markCell_52 ?_
          refine lv_goto (tgt := 57) hx hb dX1_markCell_53 (by decide) ?_
          exact ih.2.2.2.1 (lI (lI (lI L 2 ((((σ.2.2.1 3 ((L.1 1)).toNatClampNeg)) &&& 7))) 100 (((((((((((σ.2.2.1 3 ((L.1 1)).toNatClampNeg)).toUInt32 >>> ((4 : Int32).toUInt32 &&& Int32.toUInt32 31)).toInt32)) &&& 4095)) + 3)) >>> ((2 : Int32) &&& 31)))) 101 ((L.1 1))) σ r h H locs ls hP hD hS (lv_sub hl [2, 3, 1] rfl)
      · intro L σ r h H locs ls hP hD hS hl
        rw [y_H2_0, t_X1_markCell_2] at h
        refine lv_iload_n hx hb dX1_markCell_56 rfl (lv_at hl 3 rfl) ?_
        exact ih.2.2.2.1 (lI (lI L 100 ((L.1 3))) 101 ((L.1 100))) σ r h H locs ls hP hD hS (lv_sub hl [0, 1, 2] rfl)
      · intro L σ r h H locs ls hP hD hS hl
        rw [y_H2_0, t_X1_markCell_3] at h
        refine lv_iadd hx hb dX1_markCell_57 ?_
        refine lv_istore (lv' := [(4, .int (((L.1 101)) + ((L.1 100)))), (0, .ref (a 0)), (1, .int (L.1 1)), (2, .int (L.1 2))]) hx hb dX1_markCell_58 hl (by decide) rfl (fun ls hl => ?_)
        refine lv_iload_n hx hb dX1_markCell_60 rfl (lv_at hl 2 rfl) ?_
        refine lv_istore (lv' := [(5, .int (L.1 1)), (4, .int (((L.1 101)) + ((L.1 100)))), (0, .ref (a 0)), (1, .int (L.1 1)), (2, .int (L.1 2))]) hx hb dX1_markCell_61 hl (by decide) rfl (fun ls hl => ?_)
        exact ih.2.2.2.2.1 (lI (lI L 4 ((((L.1 101)) + ((L.1 100))))) 5 ((L.1 1))) σ r h H locs ls hP hD hS (lv_sub hl [2, 3, 4, 1, 0] rfl)
      · intro L σ r h H locs ls hP hD hS hl
        rw [y_H2_0, t_X1_markCell_4] at h
        refine lv_iload hx hb dX1_markCell_63 (lv_at hl 4 rfl) ?_
        refine lv_iload hx hb dX1_markCell_65 (lv_at hl 3 rfl) ?_
        refine lv_icmp_gt (tgt := 95) hx hb dX1_markCell_67 (by decide) (fun c1 => ?_) (fun c1 => ?_)
        · rw [if_pos c1] at h
          exact ih.2.2.2.2.2.1 L σ r h H locs ls hP hD hS (lv_sub hl [0, 1, 2, 3] rfl)
        · rw [if_neg c1] at h
          refine lv_aload_n hx hb dX1_markCell_70 rfl (lv_at hl 0 rfl) ?_
          refine hg_0_2 hx hb hts in_y_X1_markCell_X1 hown hK hP (hts _ (List.mem_cons_of_mem _ (List.mem_append_left _ (List.mem_append_left _ (List.mem_of_getElem? (i := 1) rfl))))) dX1_markCell_71 ?_
          refine lv_iload hx hb dX1_markCell_74 (lv_at hl 4 rfl) ?_
          refine lv_iconst (v := 5) hx hb dX1_markCell_76 (by decide) ?_
          refine lv_ishr hx hb dX1_markCell_77 ?_
          refine lv_dup2_11 hx hb dX1_markCell_78 rfl rfl ?_
          obtain ⟨q2, h⟩ := kb_ite1 h
          refine hl_1 hx hb hK hP q2 dX1_markCell_79 ?_
          refine lv_iconst (v := 1) hx hb dX1_markCell_80 (by decide) ?_
          refine lv_iload hx hb dX1_markCell_81 (lv_at hl 4 rfl) ?_
          refine lv_bipush (v := 31) hx hb dX1_markCell_83 (by decide) ?_
          refine lv_iand hx hb dX1_markCell_85 ?_
          refine lv_ishl hx hb dX1_markCell_86 ?_
          refine lv_ior hx hb dX1_markCell_87 ?_
          obtain ⟨q3, h⟩ := kb_ite1 h
          refine hs_1 hx hb hK hP hD hS q3 dX1_markCell_88 (fun H locs hP hD hS => ?_)
          refine lv_iinc (v := ((L.1 5)) + 1) (lv' := [(5, .int (((L.1 5)) + 1)), (0, .ref (a 0)), (1, .int (L.1 1)), (2, .int (L.1 2)), (4, .int (L.1 4))]) hx hb dX1_markCell_89 hl (k := 4) rfl rfl (by decide) rfl (fun ls hl => ?_)
          refine lv_goto (tgt := 63) hx hb dX1_markCell_92 (by decide) ?_
          exact ih.2.2.2.2.1 (lI L 5 ((((L.1 5)) + 1))) (uA σ 1 ((((L.1 5)) >>> ((5 : Int32) &&& 31))).toNatClampNeg ((((σ.2.2.1 1 ((((L.1 5)) >>> ((5 : Int32) &&& 31))).toNatClampNeg)) ||| (((1 : Int32) <<< (((((L.1 5)) &&& 31)) &&& 31)))))) r h H locs ls hP hD hS (lv_sub hl [1, 2, 3, 4, 0] rfl)
      · intro L σ r h H locs ls hP hD hS hl
        rw [y_H2_0, t_X1_markCell_5] at h
        refine lv_iload_n hx hb dX1_markCell_95 rfl (lv_at hl 1 rfl) ?_
        refine lv_iconst (v := 1) hx hb dX1_markCell_96 (by decide) ?_
        refine lv_iadd hx hb dX1_markCell_97 ?_
        refine lv_istore (lv' := [(5, .int (((L.1 1)) + 1)), (0, .ref (a 0)), (1, .int (L.1 1)), (2, .int (L.1 2)), (4, .int (L.1 4))]) hx hb dX1_markCell_98 hl (by decide) rfl (fun ls hl => ?_)
        exact ih.2.2.2.2.2.2.1 (lI L 5 ((((L.1 1)) + 1))) σ r h H locs ls hP hD hS (lv_sub hl [1, 3, 4, 0] rfl)
      · intro L σ r h H locs ls hP hD hS hl
        rw [y_H2_0, t_X1_markCell_6] at h
        refine lv_iload hx hb dX1_markCell_100 (lv_at hl 3 rfl) ?_
        refine lv_iload hx hb dX1_markCell_102 (lv_at hl 2 rfl) ?_
        refine lv_icmp_gt (tgt := 140) hx hb dX1_markCell_104 (by decide) (fun c1 => ?_) (fun c1 => ?_)
        · rw [if_pos c1] at h
          exact ih.2.2.2.2.2.2.2.1 L σ r h H locs ls hP hD hS (lv_sub hl [] rfl)
        · rw [if_neg c1] at h
          refine lv_iload_n hx hb dX1_markCell_107 rfl (lv_at hl 1 rfl) ?_
          refine lv_iconst (v := 5) hx hb dX1_markCell_108 (by decide) ?_
          refine lv_icmp_lt (tgt := 140) hx hb dX1_markCell_109 (by decide) (fun c2 => ?_) (fun c2 => ?_)
          · rw [if_pos c2] at h
            exact ih.2.2.2.2.2.2.2.1 L σ r h H locs ls hP hD hS (lv_sub hl [] rfl)
          · rw [if_neg c2] at h
            refine lv_aload_n hx hb dX1_markCell_112 rfl (lv_at hl 0 rfl) ?_
            refine hg_0_0 hx hb hts in_y_X1_markCell_X1 hown hK hP (hts _ (List.mem_cons_of_mem _ (List.mem_append_left _ (List.mem_append_left _ (List.mem_of_getElem? (i := 2) rfl))))) dX1_markCell_113 ?_
            refine lv_iload hx hb dX1_markCell_116 (lv_at hl 3 rfl) ?_
            obtain ⟨q3, h⟩ := kb_ite1 h
            refine hl_3 hx hb hK hP q3 dX1_markCell_118 ?_
            refine lv_iconst (v := 3) hx hb dX1_markCell_119 (by decide) ?_
            refine lv_icmp_lt (tgt := 134) hx hb dX1_markCell_120 (by decide) (fun c4 => ?_) (fun c4 => ?_)
            · rw [if_pos c4] at h
              exact ih.2.2.2.2.2.2.2.2 L σ r h H locs ls hP hD hS (lv_sub hl [0, 1, 2, 3] rfl)
            · rw [if_neg c4] at h
              refine lv_aload_n hx hb dX1_markCell_123 rfl (lv_at hl 0 rfl) ?_
              refine lv_aload_n hx hb dX1_markCell_124 rfl (lv_at hl 0 rfl) ?_
              refine hg_0_0 hx hb hts in_y_X1_markCell_X1 hown hK hP (hts _ (List.mem_cons_of_mem _ (List.mem_append_left _ (List.mem_append_left _ (List.mem_of_getElem? (i := 2) rfl))))) dX1_markCell_125 ?_
              refine lv_iload hx hb dX1_markCell_128 (lv_at hl 3 rfl) ?_
              obtain ⟨q5, h⟩ := kb_ite1 h
              refine hl_3 hx hb hK hP q5 dX1_markCell_130 ?_
              obtain ⟨e6, he6, h⟩ := oe_ex h
              obtain ⟨r6, hc6, h⟩ := oc_ex h
              refine kc_v (va_runV (As := [.int (σ.2.2.1 3 ((L.1 5)).toNatClampNeg)]) (rest := []) ⟨hx, hb, hml, hown, hts⟩ ((IH k (by omega)) e6 (lI lZ 1 ((σ.2.2.1 3 ((L.1 5)).toNatClampNeg))) σ r6 hc6 H.size) (cwV 1 hts g_y_X1_markCell_X1_markCell_V85 rfl rfl rfl hd_y_X1_markCell (by show (0 + e6) + 1 ≤ 0 + d ∧ 8 + (6 + 11) + (0 + 25 * e6) ≤ 0 + 25 * d; omega)) ⟨nb_blind, va_recv hK hP (ci := 1) (q0 := 0) rfl rfl, (kb_pre hK hG hP hD)⟩ rfl rfl hl.1 rfl (lv_room (Nat.le_of_ble_eq_true rfl)) dX1_markCell_131 ⟨Nat.le_refl _, Nat.le_refl _⟩) hA hP hD hS (fun H locs hP hD hS => ?_)
              exact ih.2.2.2.2.2.2.2.2 L r6.2 r h H locs ls hP hD hS (lv_sub hl [0, 1, 2, 3] rfl)
      · intro L σ r h H locs ls hP hD hS hl
        rw [y_H2_0, t_X1_markCell_7] at h
        obtain rfl := Option.some.inj h
        exact W.vret hx hb hr (fun t ht hW => ⟨⟨(), rfl, trivial, by rw [ht]; exact hP, va_K.moved hW.alike hK, hD⟩, hS.F ht⟩) hS.2.2 dX1_markCell_140
      · intro L σ r h H locs ls hP hD hS hl
        rw [y_H2_0, t_X1_markCell_8] at h
        refine lv_iinc (v := ((L.1 5)) + 1) (lv' := [(5, .int (((L.1 5)) + 1)), (0, .ref (a 0)), (2, .int (L.1 2)), (4, .int (L.1 4))]) hx hb dX1_markCell_134 hl (k := 3) rfl rfl (by decide) rfl (fun ls hl => ?_)
        refine lv_goto (tgt := 100) hx hb dX1_markCell_137 (by decide) ?_
        exact ih.2.2.2.2.2.2.1 (lI L 5 ((((L.1 5)) + 1))) σ r h H locs ls hP hD hS (lv_sub hl [1, 2, 3, 0] rfl)
  exact (blk k0 (Nat.le_refl _)).1 L0 σ0 r0 h0 s.heap [] ls hP hD hS hl
theorem c_H2 (l : Launch) (dC : Nat → ClassId) (dI : Nat → Nat → Nat) (cy : Nat → ClassId) (a z : Nat → Nat) : ∀ k0 : Nat, P_H2 l dC dI cy a z k0 := by
  intro k0
  induction k0 using Nat.strongRecOn with
  | ind k0 IH => exact c_t_X1_markCell l dC dI cy a z k0 IH
def y_X1_markCell (k b : Nat) (L : LV) (σ : CS) : Option (Int32 × CS) := y_H2 k 60 0 b L σ
theorem c_y_X1_markCell (l : Launch) (dC : Nat → ClassId) (dI : Nat → Nat → Nat) (cy : Nat → ClassId) (a z : Nat → Nat) (k0 : Nat) (L0 : LV) (σ0 : CS) (r0 : Int32 × CS) (h0 : y_X1_markCell k0 0 L0 σ0 = some r0) (sz : Nat) : Met l yX1_markCell w_y_X1_markCell ({ frames := 60, cells := 0, slots := 0, locals := 1500 }) (va_Pc [.ref (a 0), .int (L0.1 1)] (nIn (dC, dI) cy sz (vC cy a z σ0))) (va_Qv (fun _ : Unit => True) (fun _ t => nOut (dC, dI) cy (va_A (vC cy a z σ0) sz) (vC cy a z r0.2) t) (va_A (vC cy a z σ0) sz)) 0 0 (va_A (vC cy a z σ0) sz) := (c_H2 l dC dI cy a z k0) 60 L0 σ0 r0 h0 sz
/-! J6_bitCount_0f7a4 -/
def y_J6_bitCount_0f7a4 : Nat → Nat → LV → CS → Option (Int32 × CS)
  | 0, _, _, _ => none
  | k + 1, 0, L, σ => some ((((((((((((((((((L.1 0)) - (((((((L.1 0)).toUInt32 >>> ((1 : Int32).toUInt32 &&& Int32.toUInt32 31)).toInt32)) &&& 1431655765)))) &&& 858993459)) + (((((((((L.1 0)) - (((((((L.1 0)).toUInt32 >>> ((1 : Int32).toUInt32 &&& Int32.toUInt32 31)).toInt32)) &&& 1431655765)))).toUInt32 >>> ((2 : Int32).toUInt32 &&& Int32.toUInt32 31)).toInt32)) &&& 858993459)))) + (((((((((((L.1 0)) - (((((((L.1 0)).toUInt32 >>> ((1 : Int32).toUInt32 &&& Int32.toUInt32 31)).toInt32)) &&& 1431655765)))) &&& 858993459)) + (((((((((L.1 0)) - (((((((L.1 0)).toUInt32 >>> ((1 : Int32).toUInt32 &&& Int32.toUInt32 31)).toInt32)) &&& 1431655765)))).toUInt32 >>> ((2 : Int32).toUInt32 &&& Int32.toUInt32 31)).toInt32)) &&& 858993459)))).toUInt32 >>> ((4 : Int32).toUInt32 &&& Int32.toUInt32 31)).toInt32)))) &&& 252645135)) + (((((((((((((((L.1 0)) - (((((((L.1 0)).toUInt32 >>> ((1 : Int32).toUInt32 &&& Int32.toUInt32 31)).toInt32)) &&& 1431655765)))) &&& 858993459)) + (((((((((L.1 0)) - (((((((L.1 0)).toUInt32 >>> ((1 : Int32).toUInt32 &&& Int32.toUInt32 31)).toInt32)) &&& 1431655765)))).toUInt32 >>> ((2 : Int32).toUInt32 &&& Int32.toUInt32 31)).toInt32)) &&& 858993459)))) + (((((((((((L.1 0)) - (((((((L.1 0)).toUInt32 >>> ((1 : Int32).toUInt32 &&& Int32.toUInt32 31)).toInt32)) &&& 1431655765)))) &&& 858993459)) + (((((((((L.1 0)) - (((((((L.1 0)).toUInt32 >>> ((1 : Int32).toUInt32 &&& Int32.toUInt32 31)).toInt32)) &&& 1431655765)))).toUInt32 >>> ((2 : Int32).toUInt32 &&& Int32.toUInt32 31)).toInt32)) &&& 858993459)))).toUInt32 >>> ((4 : Int32).toUInt32 &&& Int32.toUInt32 31)).toInt32)))) &&& 252645135)).toUInt32 >>> ((8 : Int32).toUInt32 &&& Int32.toUInt32 31)).toInt32)))) + (((((((((((((((((L.1 0)) - (((((((L.1 0)).toUInt32 >>> ((1 : Int32).toUInt32 &&& Int32.toUInt32 31)).toInt32)) &&& 1431655765)))) &&& 858993459)) + (((((((((L.1 0)) - (((((((L.1 0)).toUInt32 >>> ((1 : Int32).toUInt32 &&& Int32.toUInt32 31)).toInt32)) &&& 1431655765)))).toUInt32 >>> ((2 : Int32).toUInt32 &&& Int32.toUInt32 31)).toInt32)) &&& 858993459)))) + (((((((((((L.1 0)) - (((((((L.1 0)).toUInt32 >>> ((1 : Int32).toUInt32 &&& Int32.toUInt32 31)).toInt32)) &&& 1431655765)))) &&& 858993459)) + (((((((((L.1 0)) - (((((((L.1 0)).toUInt32 >>> ((1 : Int32).toUInt32 &&& Int32.toUInt32 31)).toInt32)) &&& 1431655765)))).toUInt32 >>> ((2 : Int32).toUInt32 &&& Int32.toUInt32 31)).toInt32)) &&& 858993459)))).toUInt32 >>> ((4 : Int32).toUInt32 &&& Int32.toUInt32 31)).toInt32)))) &&& 252645135)) + (((((((((((((((L.1 0)) - (((((((L.1 0)).toUInt32 >>> ((1 : Int32).toUInt32 &&& Int32.toUInt32 31)).toInt32)) &&& 1431655765)))) &&& 858993459)) + (((((((((L.1 0)) - (((((((L.1 0)).toUInt32 >>> ((1 : Int32).toUInt32 &&& Int32.toUInt32 31)).toInt32)) &&& 1431655765)))).toUInt32 >>> ((2 : Int32).toUInt32 &&& Int32.toUInt32 31)).toInt32)) &&& 858993459)))) + (((((((((((L.1 0)) - (((((((L.1 0)).toUInt32 >>> ((1 : Int32).toUInt32 &&& Int32.toUInt32 31)).toInt32)) &&& 1431655765)))) &&& 858993459)) + (((((((((L.1 0)) - (((((((L.1 0)).toUInt32 >>> ((1 : Int32).toUInt32 &&& Int32.toUInt32 31)).toInt32)) &&& 1431655765)))).toUInt32 >>> ((2 : Int32).toUInt32 &&& Int32.toUInt32 31)).toInt32)) &&& 858993459)))).toUInt32 >>> ((4 : Int32).toUInt32 &&& Int32.toUInt32 31)).toInt32)))) &&& 252645135)).toUInt32 >>> ((8 : Int32).toUInt32 &&& Int32.toUInt32 31)).toInt32)))).toUInt32 >>> ((16 : Int32).toUInt32 &&& Int32.toUInt32 31)).toInt32)))) &&& 63), σ)
  | _ + 1, _ + 1, _, _ => none
def o_y_J6_bitCount_0f7a4 : List Cond := [.constant RJ6 265 (1431655765), .constant RJ6 266 (858993459), .constant RJ6 267 (252645135)]
theorem o_y_J6_bitCount_0f7a4_good : o_y_J6_bitCount_0f7a4.all goodWord = true := by decide +kernel
def p_y_J6_bitCount_0f7a4 : List Cond := o_y_J6_bitCount_0f7a4 ++ []
theorem p_y_J6_bitCount_0f7a4_good : p_y_J6_bitCount_0f7a4.all goodWord = true := nb_all2 o_y_J6_bitCount_0f7a4_good rfl
def w_y_J6_bitCount_0f7a4 : List Cond := .code yJ6_bitCount_0f7a4 cJ6_bitCount_0f7a4 1 (some .int) :: (p_y_J6_bitCount_0f7a4 ++ fC)
theorem w_y_J6_bitCount_0f7a4_good : w_y_J6_bitCount_0f7a4.all goodWord = true := nb_allc (by decide +kernel) (nb_all2 p_y_J6_bitCount_0f7a4_good fC_good)
theorem hd_y_J6_bitCount_0f7a4 : yJ6_bitCount_0f7a4.cls ≠ "java/lang/invoke/MethodHandle" ∧ yJ6_bitCount_0f7a4.cls ≠ "java/lang/invoke/VarHandle" ∧ (parseMethodDescriptor yJ6_bitCount_0f7a4.desc).map (fun d => d.parameters.length) = some 1 := by decide +kernel
set_option maxHeartbeats 40000000 in
set_option maxRecDepth 100000 in
theorem c_y_J6_bitCount_0f7a4 (l : Launch) (dC : Nat → ClassId) (dI : Nat → Nat → Nat) (cy : Nat → ClassId) (a z : Nat → Nat) (k0 : Nat) (L0 : LV) (σ0 : CS) (r0 : Int32 × CS) (h0 : y_J6_bitCount_0f7a4 k0 0 L0 σ0 = some r0) (sz : Nat) : Met l yJ6_bitCount_0f7a4 w_y_J6_bitCount_0f7a4 ({ frames := 0, cells := 0, slots := 0, locals := 0 }) (va_Pc [.int (L0.1 0)] (nIn (dC, dI) cy sz (vC cy a z σ0))) (va_Qi (fun (x : Int32) (_ : Unit) => x = r0.1) (fun _ t => nOut (dC, dI) cy (va_A (vC cy a z σ0) sz) (vC cy a z r0.2) t) (va_A (vC cy a z σ0) sz)) 0 0 (va_A (vC cy a z σ0) sz) := by
  refine Met.ofW (cc := cJ6_bitCount_0f7a4) (maxL := 1) (ret := (some .int)) (by decide) rfl ?_
  intro p e s m args below meth c s₁ B hml hv
  obtain ⟨rfl, hsz, hP, hK, hD0, hG⟩ := hv
  have hx := B.exec
  have hb := B.bytes
  have hr := B.returns
  have hts := atoms_spec (ws := w_y_J6_bitCount_0f7a4) B.pre
  have hown : s.vm.findClass RJ6 = some m.cls := findClass_of_methodNamed B.named
  have hlocks := B.notSynchronized
  subst hsz
  have hD := hD0.self (sz := s.heap.size)
  generalize hAe : va_A (vC cy a z σ0) s.heap.size = A at hD ⊢
  have hA : ∀ q : Nat, s.heap.size ≤ q → A q := fun q h => by rw [← hAe]; exact Or.inr h
  have hS : va_S A s.heap s.heap [] := va_S.rf
  have hl := lv_entry ([.int (L0.1 0)]) (n := 1) (Nat.le_of_ble_eq_true rfl)
  rw [lg_entry_eq]
  generalize (lg_sl ([.int (L0.1 0)]) ++ List.replicate (1 - (lg_sl ([.int (L0.1 0)])).length) Slot.unset).toArray = ls at hl ⊢
  have hl : lv_has ls 1 [(0, .int (L0.1 0))] := hl
  have blk : ∀ k : Nat, (bC p l e (headSpec w_y_J6_bitCount_0f7a4 ({ frames := 0, cells := 0, slots := 0, locals := 0 })).room s m #[.int (L0.1 0)] below meth c dC dI cy a z A (kI dC dI cy a z A below #[.int (L0.1 0)] s) 1 (y_J6_bitCount_0f7a4 k 0) (fun L => [(0, .int (L.1 0))]) 0 (fun L => [])) := by
    intro k
    induction k with
    | zero => exact fun L σ r h => (by cases h)
    | succ k ih =>
      skip
      · intro L σ r h H locs ls hP hD hS hl
        rw [y_J6_bitCount_0f7a4] at h
        refine lv_iload_n hx hb dJ6_bitCount_0f7a4_0 rfl (lv_at hl 0 rfl) ?_
        refine lv_iload_n hx hb dJ6_bitCount_0f7a4_1 rfl (lv_at hl 0 rfl) ?_
        refine lv_iconst (v := 1) hx hb dJ6_bitCount_0f7a4_2 (by decide) ?_
        refine lv_iushr (v := (((L.1 0)).toUInt32 >>> ((1 : Int32).toUInt32 &&& Int32.toUInt32 31)).toInt32) hx hb dJ6_bitCount_0f7a4_3 rfl ?_
        refine lv_ldcw (v := 1431655765) hx hb hown (hts _ (List.mem_cons_of_mem _ (List.mem_append_left _ (List.mem_append_left _ (List.mem_of_getElem? (i := 0) rfl))))) dJ6_bitCount_0f7a4_4 ?_
        refine lv_iand hx hb dJ6_bitCount_0f7a4_7 ?_
        refine lv_isub hx hb dJ6_bitCount_0f7a4_8 ?_
        refine lv_istore_n (lv' := [(0, .int (((L.1 0)) - (((((((L.1 0)).toUInt32 >>> ((1 : Int32).toUInt32 &&& Int32.toUInt32 31)).toInt32)) &&& 1431655765))))]) hx hb dJ6_bitCount_0f7a4_9 rfl hl (by decide) rfl (fun ls hl => ?_)
        refine lv_iload_n hx hb dJ6_bitCount_0f7a4_10 rfl (lv_at hl 0 rfl) ?_
        refine lv_ldcw (v := 858993459) hx hb hown (hts _ (List.mem_cons_of_mem _ (List.mem_append_left _ (List.mem_append_left _ (List.mem_of_getElem? (i := 1) rfl))))) dJ6_bitCount_0f7a4_11 ?_
        refine lv_iand hx hb dJ6_bitCount_0f7a4_14 ?_
        refine lv_iload_n hx hb dJ6_bitCount_0f7a4_15 rfl (lv_at hl 0 rfl) ?_
        refine lv_iconst (v := 2) hx hb dJ6_bitCount_0f7a4_16 (by decide) ?_
        refine lv_iushr (v := (((((L.1 0)) - (((((((L.1 0)).toUInt32 >>> ((1 : Int32).toUInt32 &&& Int32.toUInt32 31)).toInt32)) &&& 1431655765)))).toUInt32 >>> ((2 : Int32).toUInt32 &&& Int32.toUInt32 31)).toInt32) hx hb dJ6_bitCount_0f7a4_17 rfl ?_
        refine lv_ldcw (v := 858993459) hx hb hown (hts _ (List.mem_cons_of_mem _ (List.mem_append_left _ (List.mem_append_left _ (List.mem_of_getElem? (i := 1) rfl))))) dJ6_bitCount_0f7a4_18 ?_
        refine lv_iand hx hb dJ6_bitCount_0f7a4_21 ?_
        refine lv_iadd hx hb dJ6_bitCount_0f7a4_22 ?_
        refine lv_istore_n (lv' := [(0, .int (((((((L.1 0)) - (((((((L.1 0)).toUInt32 >>> ((1 : Int32).toUInt32 &&& Int32.toUInt32 31)).toInt32)) &&& 1431655765)))) &&& 858993459)) + (((((((((L.1 0)) - (((((((L.1 0)).toUInt32 >>> ((1 : Int32).toUInt32 &&& Int32.toUInt32 31)).toInt32)) &&& 1431655765)))).toUInt32 >>> ((2 : Int32).toUInt32 &&& Int32.toUInt32 31)).toInt32)) &&& 858993459))))]) hx hb dJ6_bitCount_0f7a4_23 rfl hl (by decide) rfl (fun ls hl => ?_)
        refine lv_iload_n hx hb dJ6_bitCount_0f7a4_24 rfl (lv_at hl 0 rfl) ?_
        refine lv_iload_n hx hb dJ6_bitCount_0f7a4_25 rfl (lv_at hl 0 rfl) ?_
        refine lv_iconst (v := 4) hx hb dJ6_bitCount_0f7a4_26 (by decide) ?_
        refine lv_iushr (v := (((((((((L.1 0)) - (((((((L.1 0)).toUInt32 >>> ((1 : Int32).toUInt32 &&& Int32.toUInt32 31)).toInt32)) &&& 1431655765)))) &&& 858993459)) + (((((((((L.1 0)) - (((((((L.1 0)).toUInt32 >>> ((1 : Int32).toUInt32 &&& Int32.toUInt32 31)).toInt32)) &&& 1431655765)))).toUInt32 >>> ((2 : Int32).toUInt32 &&& Int32.toUInt32 31)).toInt32)) &&& 858993459)))).toUInt32 >>> ((4 : Int32).toUInt32 &&& Int32.toUInt32 31)).toInt32) hx hb dJ6_bitCount_0f7a4_27 rfl ?_
        refine lv_iadd hx hb dJ6_bitCount_0f7a4_28 ?_
        refine lv_ldcw (v := 252645135) hx hb hown (hts _ (List.mem_cons_of_mem _ (List.mem_append_left _ (List.mem_append_left _ (List.mem_of_getElem? (i := 2) rfl))))) dJ6_bitCount_0f7a4_29 ?_
        refine lv_iand hx hb dJ6_bitCount_0f7a4_32 ?_
        refine lv_istore_n (lv' := [(0, .int (((((((((((L.1 0)) - (((((((L.1 0)).toUInt32 >>> ((1 : Int32).toUInt32 &&& Int32.toUInt32 31)).toInt32)) &&& 1431655765)))) &&& 858993459)) + (((((((((L.1 0)) - (((((((L.1 0)).toUInt32 >>> ((1 : Int32).toUInt32 &&& Int32.toUInt32 31)).toInt32)) &&& 1431655765)))).toUInt32 >>> ((2 : Int32).toUInt32 &&& Int32.toUInt32 31)).toInt32)) &&& 858993459)))) + (((((((((((L.1 0)) - (((((((L.1 0)).toUInt32 >>> ((1 : Int32).toUInt32 &&& Int32.toUInt32 31)).toInt32)) &&& 1431655765)))) &&& 858993459)) + (((((((((L.1 0)) - (((((((L.1 0)).toUInt32 >>> ((1 : Int32).toUInt32 &&& Int32.toUInt32 31)).toInt32)) &&& 1431655765)))).toUInt32 >>> ((2 : Int32).toUInt32 &&& Int32.toUInt32 31)).toInt32)) &&& 858993459)))).toUInt32 >>> ((4 : Int32).toUInt32 &&& Int32.toUInt32 31)).toInt32)))) &&& 252645135))]) hx hb dJ6_bitCount_0f7a4_33 rfl hl (by decide) rfl (fun ls hl => ?_)
        refine lv_iload_n hx hb dJ6_bitCount_0f7a4_34 rfl (lv_at hl 0 rfl) ?_
        refine lv_iload_n hx hb dJ6_bitCount_0f7a4_35 rfl (lv_at hl 0 rfl) ?_
        refine lv_bipush (v := 8) hx hb dJ6_bitCount_0f7a4_36 (by decide) ?_
        refine lv_iushr (v := (((((((((((((L.1 0)) - (((((((L.1 0)).toUInt32 >>> ((1 : Int32).toUInt32 &&& Int32.toUInt32 31)).toInt32)) &&& 1431655765)))) &&& 858993459)) + (((((((((L.1 0)) - (((((((L.1 0)).toUInt32 >>> ((1 : Int32).toUInt32 &&& Int32.toUInt32 31)).toInt32)) &&& 1431655765)))).toUInt32 >>> ((2 : Int32).toUInt32 &&& Int32.toUInt32 31)).toInt32)) &&& 858993459)))) + (((((((((((L.1 0)) - (((((((L.1 0)).toUInt32 >>> ((1 : Int32).toUInt32 &&& Int32.toUInt32 31)).toInt32)) &&& 1431655765)))) &&& 858993459)) + (((((((((L.1 0)) - (((((((L.1 0)).toUInt32 >>> ((1 : Int32).toUInt32 &&& Int32.toUInt32 31)).toInt32)) &&& 1431655765)))).toUInt32 >>> ((2 : Int32).toUInt32 &&& Int32.toUInt32 31)).toInt32)) &&& 858993459)))).toUInt32 >>> ((4 : Int32).toUInt32 &&& Int32.toUInt32 31)).toInt32)))) &&& 252645135)).toUInt32 >>> ((8 : Int32).toUInt32 &&& Int32.toUInt32 31)).toInt32) hx hb dJ6_bitCount_0f7a4_38 rfl ?_
        refine lv_iadd hx hb dJ6_bitCount_0f7a4_39 ?_
        refine lv_istore_n (lv' := [(0, .int (((((((((((((L.1 0)) - (((((((L.1 0)).toUInt32 >>> ((1 : Int32).toUInt32 &&& Int32.toUInt32 31)).toInt32)) &&& 1431655765)))) &&& 858993459)) + (((((((((L.1 0)) - (((((((L.1 0)).toUInt32 >>> ((1 : Int32).toUInt32 &&& Int32.toUInt32 31)).toInt32)) &&& 1431655765)))).toUInt32 >>> ((2 : Int32).toUInt32 &&& Int32.toUInt32 31)).toInt32)) &&& 858993459)))) + (((((((((((L.1 0)) - (((((((L.1 0)).toUInt32 >>> ((1 : Int32).toUInt32 &&& Int32.toUInt32 31)).toInt32)) &&& 1431655765)))) &&& 858993459)) + (((((((((L.1 0)) - (((((((L.1 0)).toUInt32 >>> ((1 : Int32).toUInt32 &&& Int32.toUInt32 31)).toInt32)) &&& 1431655765)))).toUInt32 >>> ((2 : Int32).toUInt32 &&& Int32.toUInt32 31)).toInt32)) &&& 858993459)))).toUInt32 >>> ((4 : Int32).toUInt32 &&& Int32.toUInt32 31)).toInt32)))) &&& 252645135)) + (((((((((((((((L.1 0)) - (((((((L.1 0)).toUInt32 >>> ((1 : Int32).toUInt32 &&& Int32.toUInt32 31)).toInt32)) &&& 1431655765)))) &&& 858993459)) + (((((((((L.1 0)) - (((((((L.1 0)).toUInt32 >>> ((1 : Int32).toUInt32 &&& Int32.toUInt32 31)).toInt32)) &&& 1431655765)))).toUInt32 >>> ((2 : Int32).toUInt32 &&& Int32.toUInt32 31)).toInt32)) &&& 858993459)))) + (((((((((((L.1 0)) - (((((((L.1 0)).toUInt32 >>> ((1 : Int32).toUInt32 &&& Int32.toUInt32 31)).toInt32)) &&& 1431655765)))) &&& 858993459)) + (((((((((L.1 0)) - (((((((L.1 0)).toUInt32 >>> ((1 : Int32).toUInt32 &&& Int32.toUInt32 31)).toInt32)) &&& 1431655765)))).toUInt32 >>> ((2 : Int32).toUInt32 &&& Int32.toUInt32 31)).toInt32)) &&& 858993459)))).toUInt32 >>> ((4 : Int32).toUInt32 &&& Int32.toUInt32 31)).toInt32)))) &&& 252645135)).toUInt32 >>> ((8 : Int32).toUInt32 &&& Int32.toUInt32 31)).toInt32))))]) hx hb dJ6_bitCount_0f7a4_40 rfl hl (by decide) rfl (fun ls hl => ?_)
        refine lv_iload_n hx hb dJ6_bitCount_0f7a4_41 rfl (lv_at hl 0 rfl) ?_
        refine lv_iload_n hx hb dJ6_bitCount_0f7a4_42 rfl (lv_at hl 0 rfl) ?_
        refine lv_bipush (v := 16) hx hb dJ6_bitCount_0f7a4_43 (by decide) ?_
        refine lv_iushr (v := (((((((((((((((L.1 0)) - (((((((L.1 0)).toUInt32 >>> ((1 : Int32).toUInt32 &&& Int32.toUInt32 31)).toInt32)) &&& 1431655765)))) &&& 858993459)) + (((((((((L.1 0)) - (((((((L.1 0)).toUInt32 >>> ((1 : Int32).toUInt32 &&& Int32.toUInt32 31)).toInt32)) &&& 1431655765)))).toUInt32 >>> ((2 : Int32).toUInt32 &&& Int32.toUInt32 31)).toInt32)) &&& 858993459)))) + (((((((((((L.1 0)) - (((((((L.1 0)).toUInt32 >>> ((1 : Int32).toUInt32 &&& Int32.toUInt32 31)).toInt32)) &&& 1431655765)))) &&& 858993459)) + (((((((((L.1 0)) - (((((((L.1 0)).toUInt32 >>> ((1 : Int32).toUInt32 &&& Int32.toUInt32 31)).toInt32)) &&& 1431655765)))).toUInt32 >>> ((2 : Int32).toUInt32 &&& Int32.toUInt32 31)).toInt32)) &&& 858993459)))).toUInt32 >>> ((4 : Int32).toUInt32 &&& Int32.toUInt32 31)).toInt32)))) &&& 252645135)) + (((((((((((((((L.1 0)) - (((((((L.1 0)).toUInt32 >>> ((1 : Int32).toUInt32 &&& Int32.toUInt32 31)).toInt32)) &&& 1431655765)))) &&& 858993459)) + (((((((((L.1 0)) - (((((((L.1 0)).toUInt32 >>> ((1 : Int32).toUInt32 &&& Int32.toUInt32 31)).toInt32)) &&& 1431655765)))).toUInt32 >>> ((2 : Int32).toUInt32 &&& Int32.toUInt32 31)).toInt32)) &&& 858993459)))) + (((((((((((L.1 0)) - (((((((L.1 0)).toUInt32 >>> ((1 : Int32).toUInt32 &&& Int32.toUInt32 31)).toInt32)) &&& 1431655765)))) &&& 858993459)) + (((((((((L.1 0)) - (((((((L.1 0)).toUInt32 >>> ((1 : Int32).toUInt32 &&& Int32.toUInt32 31)).toInt32)) &&& 1431655765)))).toUInt32 >>> ((2 : Int32).toUInt32 &&& Int32.toUInt32 31)).toInt32)) &&& 858993459)))).toUInt32 >>> ((4 : Int32).toUInt32 &&& Int32.toUInt32 31)).toInt32)))) &&& 252645135)).toUInt32 >>> ((8 : Int32).toUInt32 &&& Int32.toUInt32 31)).toInt32)))).toUInt32 >>> ((16 : Int32).toUInt32 &&& Int32.toUInt32 31)).toInt32) hx hb dJ6_bitCount_0f7a4_45 rfl ?_
        refine lv_iadd hx hb dJ6_bitCount_0f7a4_46 ?_
        refine lv_istore_n (lv' := [(0, .int (((((((((((((((L.1 0)) - (((((((L.1 0)).toUInt32 >>> ((1 : Int32).toUInt32 &&& Int32.toUInt32 31)).toInt32)) &&& 1431655765)))) &&& 858993459)) + (((((((((L.1 0)) - (((((((L.1 0)).toUInt32 >>> ((1 : Int32).toUInt32 &&& Int32.toUInt32 31)).toInt32)) &&& 1431655765)))).toUInt32 >>> ((2 : Int32).toUInt32 &&& Int32.toUInt32 31)).toInt32)) &&& 858993459)))) + (((((((((((L.1 0)) - (((((((L.1 0)).toUInt32 >>> ((1 : Int32).toUInt32 &&& Int32.toUInt32 31)).toInt32)) &&& 1431655765)))) &&& 858993459)) + (((((((((L.1 0)) - (((((((L.1 0)).toUInt32 >>> ((1 : Int32).toUInt32 &&& Int32.toUInt32 31)).toInt32)) &&& 1431655765)))).toUInt32 >>> ((2 : Int32).toUInt32 &&& Int32.toUInt32 31)).toInt32)) &&& 858993459)))).toUInt32 >>> ((4 : Int32).toUInt32 &&& Int32.toUInt32 31)).toInt32)))) &&& 252645135)) + (((((((((((((((L.1 0)) - (((((((L.1 0)).toUInt32 >>> ((1 : Int32).toUInt32 &&& Int32.toUInt32 31)).toInt32)) &&& 1431655765)))) &&& 858993459)) + (((((((((L.1 0)) - (((((((L.1 0)).toUInt32 >>> ((1 : Int32).toUInt32 &&& Int32.toUInt32 31)).toInt32)) &&& 1431655765)))).toUInt32 >>> ((2 : Int32).toUInt32 &&& Int32.toUInt32 31)).toInt32)) &&& 858993459)))) + (((((((((((L.1 0)) - (((((((L.1 0)).toUInt32 >>> ((1 : Int32).toUInt32 &&& Int32.toUInt32 31)).toInt32)) &&& 1431655765)))) &&& 858993459)) + (((((((((L.1 0)) - (((((((L.1 0)).toUInt32 >>> ((1 : Int32).toUInt32 &&& Int32.toUInt32 31)).toInt32)) &&& 1431655765)))).toUInt32 >>> ((2 : Int32).toUInt32 &&& Int32.toUInt32 31)).toInt32)) &&& 858993459)))).toUInt32 >>> ((4 : Int32).toUInt32 &&& Int32.toUInt32 31)).toInt32)))) &&& 252645135)).toUInt32 >>> ((8 : Int32).toUInt32 &&& Int32.toUInt32 31)).toInt32)))) + (((((((((((((((((L.1 0)) - (((((((L.1 0)).toUInt32 >>> ((1 : Int32).toUInt32 &&& Int32.toUInt32 31)).toInt32)) &&& 1431655765)))) &&& 858993459)) + (((((((((L.1 0)) - (((((((L.1 0)).toUInt32 >>> ((1 : Int32).toUInt32 &&& Int32.toUInt32 31)).toInt32)) &&& 1431655765)))).toUInt32 >>> ((2 : Int32).toUInt32 &&& Int32.toUInt32 31)).toInt32)) &&& 858993459)))) + (((((((((((L.1 0)) - (((((((L.1 0)).toUInt32 >>> ((1 : Int32).toUInt32 &&& Int32.toUInt32 31)).toInt32)) &&& 1431655765)))) &&& 858993459)) + (((((((((L.1 0)) - (((((((L.1 0)).toUInt32 >>> ((1 : Int32).toUInt32 &&& Int32.toUInt32 31)).toInt32)) &&& 1431655765)))).toUInt32 >>> ((2 : Int32).toUInt32 &&& Int32.toUInt32 31)).toInt32)) &&& 858993459)))).toUInt32 >>> ((4 : Int32).toUInt32 &&& Int32.toUInt32 31)).toInt32)))) &&& 252645135)) + (((((((((((((((L.1 0)) - (((((((L.1 0)).toUInt32 >>> ((1 : Int32).toUInt32 &&& Int32.toUInt32 31)).toInt32)) &&& 1431655765)))) &&& 858993459)) + (((((((((L.1 0)) - (((((((L.1 0)).toUInt32 >>> ((1 : Int32).toUInt32 &&& Int32.toUInt32 31)).toInt32)) &&& 1431655765)))).toUInt32 >>> ((2 : Int32).toUInt32 &&& Int32.toUInt32 31)).toInt32)) &&& 858993459)))) + (((((((((((L.1 0)) - (((((((L.1 0)).toUInt32 >>> ((1 : Int32).toUInt32 &&& Int32.toUInt32 31)).toInt32)) &&& 1431655765)))) &&& 858993459)) + (((((((((L.1 0)) - (((((((L.1 0)).toUInt32 >>> ((1 : Int32).toUInt32 &&& Int32.toUInt32 31)).toInt32)) &&& 1431655765)))).toUInt32 >>> ((2 : Int32).toUInt32 &&& Int32.toUInt32 31)).toInt32)) &&& 858993459)))).toUInt32 >>> ((4 : Int32).toUInt32 &&& Int32.toUInt32 31)).toInt32)))) &&& 252645135)).toUInt32 >>> ((8 : Int32).toUInt32 &&& Int32.toUInt32 31)).toInt32)))).toUInt32 >>> ((16 : Int32).toUInt32 &&& Int32.toUInt32 31)).toInt32))))]) hx hb dJ6_bitCount_0f7a4_47 rfl hl (by decide) rfl (fun ls hl => ?_)
        refine lv_iload_n hx hb dJ6_bitCount_0f7a4_48 rfl (lv_at hl 0 rfl) ?_
        refine lv_bipush (v := 63) hx hb dJ6_bitCount_0f7a4_49 (by decide) ?_
        refine lv_iand hx hb dJ6_bitCount_0f7a4_51 ?_
        obtain rfl := Option.some.inj h
        exact W.iret (v := (((((((((((((((((L.1 0)) - (((((((L.1 0)).toUInt32 >>> ((1 : Int32).toUInt32 &&& Int32.toUInt32 31)).toInt32)) &&& 1431655765)))) &&& 858993459)) + (((((((((L.1 0)) - (((((((L.1 0)).toUInt32 >>> ((1 : Int32).toUInt32 &&& Int32.toUInt32 31)).toInt32)) &&& 1431655765)))).toUInt32 >>> ((2 : Int32).toUInt32 &&& Int32.toUInt32 31)).toInt32)) &&& 858993459)))) + (((((((((((L.1 0)) - (((((((L.1 0)).toUInt32 >>> ((1 : Int32).toUInt32 &&& Int32.toUInt32 31)).toInt32)) &&& 1431655765)))) &&& 858993459)) + (((((((((L.1 0)) - (((((((L.1 0)).toUInt32 >>> ((1 : Int32).toUInt32 &&& Int32.toUInt32 31)).toInt32)) &&& 1431655765)))).toUInt32 >>> ((2 : Int32).toUInt32 &&& Int32.toUInt32 31)).toInt32)) &&& 858993459)))).toUInt32 >>> ((4 : Int32).toUInt32 &&& Int32.toUInt32 31)).toInt32)))) &&& 252645135)) + (((((((((((((((L.1 0)) - (((((((L.1 0)).toUInt32 >>> ((1 : Int32).toUInt32 &&& Int32.toUInt32 31)).toInt32)) &&& 1431655765)))) &&& 858993459)) + (((((((((L.1 0)) - (((((((L.1 0)).toUInt32 >>> ((1 : Int32).toUInt32 &&& Int32.toUInt32 31)).toInt32)) &&& 1431655765)))).toUInt32 >>> ((2 : Int32).toUInt32 &&& Int32.toUInt32 31)).toInt32)) &&& 858993459)))) + (((((((((((L.1 0)) - (((((((L.1 0)).toUInt32 >>> ((1 : Int32).toUInt32 &&& Int32.toUInt32 31)).toInt32)) &&& 1431655765)))) &&& 858993459)) + (((((((((L.1 0)) - (((((((L.1 0)).toUInt32 >>> ((1 : Int32).toUInt32 &&& Int32.toUInt32 31)).toInt32)) &&& 1431655765)))).toUInt32 >>> ((2 : Int32).toUInt32 &&& Int32.toUInt32 31)).toInt32)) &&& 858993459)))).toUInt32 >>> ((4 : Int32).toUInt32 &&& Int32.toUInt32 31)).toInt32)))) &&& 252645135)).toUInt32 >>> ((8 : Int32).toUInt32 &&& Int32.toUInt32 31)).toInt32)))) + (((((((((((((((((L.1 0)) - (((((((L.1 0)).toUInt32 >>> ((1 : Int32).toUInt32 &&& Int32.toUInt32 31)).toInt32)) &&& 1431655765)))) &&& 858993459)) + (((((((((L.1 0)) - (((((((L.1 0)).toUInt32 >>> ((1 : Int32).toUInt32 &&& Int32.toUInt32 31)).toInt32)) &&& 1431655765)))).toUInt32 >>> ((2 : Int32).toUInt32 &&& Int32.toUInt32 31)).toInt32)) &&& 858993459)))) + (((((((((((L.1 0)) - (((((((L.1 0)).toUInt32 >>> ((1 : Int32).toUInt32 &&& Int32.toUInt32 31)).toInt32)) &&& 1431655765)))) &&& 858993459)) + (((((((((L.1 0)) - (((((((L.1 0)).toUInt32 >>> ((1 : Int32).toUInt32 &&& Int32.toUInt32 31)).toInt32)) &&& 1431655765)))).toUInt32 >>> ((2 : Int32).toUInt32 &&& Int32.toUInt32 31)).toInt32)) &&& 858993459)))).toUInt32 >>> ((4 : Int32).toUInt32 &&& Int32.toUInt32 31)).toInt32)))) &&& 252645135)) + (((((((((((((((L.1 0)) - (((((((L.1 0)).toUInt32 >>> ((1 : Int32).toUInt32 &&& Int32.toUInt32 31)).toInt32)) &&& 1431655765)))) &&& 858993459)) + (((((((((L.1 0)) - (((((((L.1 0)).toUInt32 >>> ((1 : Int32).toUInt32 &&& Int32.toUInt32 31)).toInt32)) &&& 1431655765)))).toUInt32 >>> ((2 : Int32).toUInt32 &&& Int32.toUInt32 31)).toInt32)) &&& 858993459)))) + (((((((((((L.1 0)) - (((((((L.1 0)).toUInt32 >>> ((1 : Int32).toUInt32 &&& Int32.toUInt32 31)).toInt32)) &&& 1431655765)))) &&& 858993459)) + (((((((((L.1 0)) - (((((((L.1 0)).toUInt32 >>> ((1 : Int32).toUInt32 &&& Int32.toUInt32 31)).toInt32)) &&& 1431655765)))).toUInt32 >>> ((2 : Int32).toUInt32 &&& Int32.toUInt32 31)).toInt32)) &&& 858993459)))).toUInt32 >>> ((4 : Int32).toUInt32 &&& Int32.toUInt32 31)).toInt32)))) &&& 252645135)).toUInt32 >>> ((8 : Int32).toUInt32 &&& Int32.toUInt32 31)).toInt32)))).toUInt32 >>> ((16 : Int32).toUInt32 &&& Int32.toUInt32 31)).toInt32)))) &&& 63)) hx hb hr (fun t ht hW => ⟨⟨(((((((((((((((((L.1 0)) - (((((((L.1 0)).toUInt32 >>> ((1 : Int32).toUInt32 &&& Int32.toUInt32 31)).toInt32)) &&& 1431655765)))) &&& 858993459)) + (((((((((L.1 0)) - (((((((L.1 0)).toUInt32 >>> ((1 : Int32).toUInt32 &&& Int32.toUInt32 31)).toInt32)) &&& 1431655765)))).toUInt32 >>> ((2 : Int32).toUInt32 &&& Int32.toUInt32 31)).toInt32)) &&& 858993459)))) + (((((((((((L.1 0)) - (((((((L.1 0)).toUInt32 >>> ((1 : Int32).toUInt32 &&& Int32.toUInt32 31)).toInt32)) &&& 1431655765)))) &&& 858993459)) + (((((((((L.1 0)) - (((((((L.1 0)).toUInt32 >>> ((1 : Int32).toUInt32 &&& Int32.toUInt32 31)).toInt32)) &&& 1431655765)))).toUInt32 >>> ((2 : Int32).toUInt32 &&& Int32.toUInt32 31)).toInt32)) &&& 858993459)))).toUInt32 >>> ((4 : Int32).toUInt32 &&& Int32.toUInt32 31)).toInt32)))) &&& 252645135)) + (((((((((((((((L.1 0)) - (((((((L.1 0)).toUInt32 >>> ((1 : Int32).toUInt32 &&& Int32.toUInt32 31)).toInt32)) &&& 1431655765)))) &&& 858993459)) + (((((((((L.1 0)) - (((((((L.1 0)).toUInt32 >>> ((1 : Int32).toUInt32 &&& Int32.toUInt32 31)).toInt32)) &&& 1431655765)))).toUInt32 >>> ((2 : Int32).toUInt32 &&& Int32.toUInt32 31)).toInt32)) &&& 858993459)))) + (((((((((((L.1 0)) - (((((((L.1 0)).toUInt32 >>> ((1 : Int32).toUInt32 &&& Int32.toUInt32 31)).toInt32)) &&& 1431655765)))) &&& 858993459)) + (((((((((L.1 0)) - (((((((L.1 0)).toUInt32 >>> ((1 : Int32).toUInt32 &&& Int32.toUInt32 31)).toInt32)) &&& 1431655765)))).toUInt32 >>> ((2 : Int32).toUInt32 &&& Int32.toUInt32 31)).toInt32)) &&& 858993459)))).toUInt32 >>> ((4 : Int32).toUInt32 &&& Int32.toUInt32 31)).toInt32)))) &&& 252645135)).toUInt32 >>> ((8 : Int32).toUInt32 &&& Int32.toUInt32 31)).toInt32)))) + (((((((((((((((((L.1 0)) - (((((((L.1 0)).toUInt32 >>> ((1 : Int32).toUInt32 &&& Int32.toUInt32 31)).toInt32)) &&& 1431655765)))) &&& 858993459)) + (((((((((L.1 0)) - (((((((L.1 0)).toUInt32 >>> ((1 : Int32).toUInt32 &&& Int32.toUInt32 31)).toInt32)) &&& 1431655765)))).toUInt32 >>> ((2 : Int32).toUInt32 &&& Int32.toUInt32 31)).toInt32)) &&& 858993459)))) + (((((((((((L.1 0)) - (((((((L.1 0)).toUInt32 >>> ((1 : Int32).toUInt32 &&& Int32.toUInt32 31)).toInt32)) &&& 1431655765)))) &&& 858993459)) + (((((((((L.1 0)) - (((((((L.1 0)).toUInt32 >>> ((1 : Int32).toUInt32 &&& Int32.toUInt32 31)).toInt32)) &&& 1431655765)))).toUInt32 >>> ((2 : Int32).toUInt32 &&& Int32.toUInt32 31)).toInt32)) &&& 858993459)))).toUInt32 >>> ((4 : Int32).toUInt32 &&& Int32.toUInt32 31)).toInt32)))) &&& 252645135)) + (((((((((((((((L.1 0)) - (((((((L.1 0)).toUInt32 >>> ((1 : Int32).toUInt32 &&& Int32.toUInt32 31)).toInt32)) &&& 1431655765)))) &&& 858993459)) + (((((((((L.1 0)) - (((((((L.1 0)).toUInt32 >>> ((1 : Int32).toUInt32 &&& Int32.toUInt32 31)).toInt32)) &&& 1431655765)))).toUInt32 >>> ((2 : Int32).toUInt32 &&& Int32.toUInt32 31)).toInt32)) &&& 858993459)))) + (((((((((((L.1 0)) - (((((((L.1 0)).toUInt32 >>> ((1 : Int32).toUInt32 &&& Int32.toUInt32 31)).toInt32)) &&& 1431655765)))) &&& 858993459)) + (((((((((L.1 0)) - (((((((L.1 0)).toUInt32 >>> ((1 : Int32).toUInt32 &&& Int32.toUInt32 31)).toInt32)) &&& 1431655765)))).toUInt32 >>> ((2 : Int32).toUInt32 &&& Int32.toUInt32 31)).toInt32)) &&& 858993459)))).toUInt32 >>> ((4 : Int32).toUInt32 &&& Int32.toUInt32 31)).toInt32)))) &&& 252645135)).toUInt32 >>> ((8 : Int32).toUInt32 &&& Int32.toUInt32 31)).toInt32)))).toUInt32 >>> ((16 : Int32).toUInt32 &&& Int32.toUInt32 31)).toInt32)))) &&& 63), (), rfl, rfl, by rw [ht]; exact hP, va_K.moved hW.alike hK, hD⟩, hS.F ht⟩) hS.2.2 dJ6_bitCount_0f7a4_52
  exact (blk k0) L0 σ0 r0 h0 s.heap [] ls hP hD hS hl
/-! X1_endMarking -/
def y_X1_endMarking : Nat → Nat → LV → CS → Option (Int32 × CS)
  | 0, _, _, _ => none
  | k + 1, 0, L, σ => y_X1_endMarking k 1 (lI (lI L 1 0) 2 0) σ
  | k + 1, 1, L, σ => if ((Int32.ofNat (sN σ 1))) ≤ ((L.1 2)) then (y_X1_endMarking k 2 L σ) else (if ¬ (((L.1 2)) < 0 ∨ (sN σ 2) ≤ ((L.1 2)).toNatClampNeg) then (if ¬ (((L.1 2)) < 0 ∨ (sN (uA σ 2 ((L.1 2)).toNatClampNeg ((L.1 1))) 1) ≤ ((L.1 2)).toNatClampNeg) then (oc (y_J6_bitCount_0f7a4 k 0 (lI lZ 0 (((uA σ 2 ((L.1 2)).toNatClampNeg ((L.1 1))).2.2.1 1 ((L.1 2)).toNatClampNeg))) (uA σ 2 ((L.1 2)).toNatClampNeg ((L.1 1)))) (fun r4 => y_X1_endMarking k 1 (lI (lI L 1 ((((L.1 1)) + r4.1))) 2 ((((L.1 2)) + 1))) r4.2)) else none) else none)
  | k + 1, 2, L, σ => some (0, σ)
  | _ + 1, _ + 3, _, _ => none
def o_y_X1_endMarking : List Cond := [.fieldLink RX1 19 "SetHouse$Heap" "used" "[I", .fieldLink RX1 22 "SetHouse$Heap" "before" "[I", .methodLink RX1 89 yJ6_bitCount_0f7a4, .static yJ6_bitCount_0f7a4, .initialized RJ6]
theorem o_y_X1_endMarking_good : o_y_X1_endMarking.all goodWord = true := by decide +kernel
def p_y_X1_endMarking : List Cond := o_y_X1_endMarking ++ ((.code yJ6_bitCount_0f7a4 cJ6_bitCount_0f7a4 1 (some .int) :: p_y_J6_bitCount_0f7a4) ++ [])
theorem p_y_X1_endMarking_good : p_y_X1_endMarking.all goodWord = true := nb_all2 o_y_X1_endMarking_good (nb_all2 (nb_allc (by decide +kernel) p_y_J6_bitCount_0f7a4_good) rfl)
def w_y_X1_endMarking : List Cond := .code yX1_endMarking cX1_endMarking 3 none :: (p_y_X1_endMarking ++ fC)
theorem w_y_X1_endMarking_good : w_y_X1_endMarking.all goodWord = true := nb_allc (by decide +kernel) (nb_all2 p_y_X1_endMarking_good fC_good)
theorem in_y_X1_endMarking_X1 : ∀ w ∈ wsX10, w ∈ w_y_X1_endMarking := fun _ h => List.mem_cons_of_mem _ (List.mem_append_right _ (List.mem_append_right _ (List.mem_append_left _ h)))
theorem hd_y_X1_endMarking : yX1_endMarking.cls = RX1 ∧ yX1_endMarking.cls ≠ "java/lang/invoke/MethodHandle" ∧ yX1_endMarking.cls ≠ "java/lang/invoke/VarHandle" ∧ (parseMethodDescriptor yX1_endMarking.desc).map (fun d => d.parameters.length) = some 0 := by decide +kernel
theorem gg_y_X1_endMarking_J6_bitCount_0f7a4 : GoodIn w_y_X1_endMarking w_y_J6_bitCount_0f7a4 := goodIn_sub (fun w h => (List.mem_cons.mp h).elim (fun e => (List.mem_cons_of_mem _ (List.mem_append_left _ (List.mem_append_right _ (List.mem_append_left _ (List.mem_cons.mpr (Or.inl e))))))) (fun h => (List.mem_append.mp h).elim (fun h => (List.mem_cons_of_mem _ (List.mem_append_left _ (List.mem_append_right _ (List.mem_append_left _ (List.mem_cons_of_mem _ h)))))) (fun h => List.mem_cons_of_mem _ (List.mem_append_right _ h)))) w_y_J6_bitCount_0f7a4_good
theorem g_y_X1_endMarking_J6_bitCount_0f7a4_S89 : GoodIn w_y_X1_endMarking (va_wsS RX1 89 yJ6_bitCount_0f7a4 w_y_J6_bitCount_0f7a4) := goodIn_app (nb_g3 (List.mem_cons_of_mem _ (List.mem_append_left _ (List.mem_append_left _ (List.mem_of_getElem? (i := 2) rfl)))) (List.mem_cons_of_mem _ (List.mem_append_left _ (List.mem_append_left _ (List.mem_of_getElem? (i := 3) rfl)))) (List.mem_cons_of_mem _ (List.mem_append_left _ (List.mem_append_left _ (List.mem_of_getElem? (i := 4) rfl)))) (by decide +kernel)) gg_y_X1_endMarking_J6_bitCount_0f7a4
set_option maxHeartbeats 40000000 in
set_option maxRecDepth 100000 in
theorem c_y_X1_endMarking (l : Launch) (dC : Nat → ClassId) (dI : Nat → Nat → Nat) (cy : Nat → ClassId) (a z : Nat → Nat) (k0 : Nat) (L0 : LV) (σ0 : CS) (r0 : Int32 × CS) (h0 : y_X1_endMarking k0 0 L0 σ0 = some r0) (sz : Nat) : Met l yX1_endMarking w_y_X1_endMarking ({ frames := 1, cells := 0, slots := 0, locals := 20 }) (va_Pc [.ref (a 0)] (nIn (dC, dI) cy sz (vC cy a z σ0))) (va_Qv (fun _ : Unit => True) (fun _ t => nOut (dC, dI) cy (va_A (vC cy a z σ0) sz) (vC cy a z r0.2) t) (va_A (vC cy a z σ0) sz)) 0 0 (va_A (vC cy a z σ0) sz) := by
  refine Met.ofW (cc := cX1_endMarking) (maxL := 3) (ret := none) (by decide) rfl ?_
  intro p e s m args below meth c s₁ B hml hv
  obtain ⟨rfl, hsz, hP, hK, hD0, hG⟩ := hv
  have hx := B.exec
  have hb := B.bytes
  have hr := B.returns
  have hts := atoms_spec (ws := w_y_X1_endMarking) B.pre
  have hown : s.vm.findClass RX1 = some m.cls := findClass_of_methodNamed B.named
  have hlocks := B.notSynchronized
  subst hsz
  have hD := hD0.self (sz := s.heap.size)
  generalize hAe : va_A (vC cy a z σ0) s.heap.size = A at hD ⊢
  have hA : ∀ q : Nat, s.heap.size ≤ q → A q := fun q h => by rw [← hAe]; exact Or.inr h
  have hS : va_S A s.heap s.heap [] := va_S.rf
  have hl := lv_entry ([.ref (a 0)]) (n := 3) (Nat.le_of_ble_eq_true rfl)
  rw [lg_entry_eq]
  generalize (lg_sl ([.ref (a 0)]) ++ List.replicate (3 - (lg_sl ([.ref (a 0)])).length) Slot.unset).toArray = ls at hl ⊢
  have hl : lv_has ls 3 [(0, .ref (a 0))] := hl
  have blk : ∀ k : Nat, (bC p l e (headSpec w_y_X1_endMarking ({ frames := 1, cells := 0, slots := 0, locals := 20 })).room s m #[.ref (a 0)] below meth c dC dI cy a z A (kV dC dI cy a z A below #[.ref (a 0)] s) 3 (y_X1_endMarking k 0) (fun L => [(0, .ref (a 0))]) 0 (fun L => [])) ∧ (bC p l e (headSpec w_y_X1_endMarking ({ frames := 1, cells := 0, slots := 0, locals := 20 })).room s m #[.ref (a 0)] below meth c dC dI cy a z A (kV dC dI cy a z A below #[.ref (a 0)] s) 3 (y_X1_endMarking k 1) (fun L => [(0, .ref (a 0)), (1, .int (L.1 1)), (2, .int (L.1 2))]) 4 (fun L => [])) ∧ (bC p l e (headSpec w_y_X1_endMarking ({ frames := 1, cells := 0, slots := 0, locals := 20 })).room s m #[.ref (a 0)] below meth c dC dI cy a z A (kV dC dI cy a z A below #[.ref (a 0)] s) 3 (y_X1_endMarking k 2) (fun L => []) 38 (fun L => [])) := by
    intro k
    induction k with
    | zero => exact ⟨fun L σ r h => (by cases h), fun L σ r h => (by cases h), fun L σ r h => (by cases h)⟩
    | succ k ih =>
      refine ⟨?_, ?_, ?_⟩
      · intro L σ r h H locs ls hP hD hS hl
        rw [y_X1_endMarking] at h
        refine lv_iconst (v := 0) hx hb dX1_endMarking_0 (by decide) ?_
        refine lv_istore_n (lv' := [(1, .int 0), (0, .ref (a 0))]) hx hb dX1_endMarking_1 rfl hl (by decide) rfl (fun ls hl => ?_)
        refine lv_iconst (v := 0) hx hb dX1_endMarking_2 (by decide) ?_
        refine lv_istore_n (lv' := [(2, .int 0), (1, .int 0), (0, .ref (a 0))]) hx hb dX1_endMarking_3 rfl hl (by decide) rfl (fun ls hl => ?_)
        exact ih.2.1 (lI (lI L 1 0) 2 0) σ r h H locs ls hP hD hS (lv_sub hl [2, 1, 0] rfl)
      · intro L σ r h H locs ls hP hD hS hl
        rw [y_X1_endMarking] at h
        refine lv_iload_n hx hb dX1_endMarking_4 rfl (lv_at hl 2 rfl) ?_
        refine lv_aload_n hx hb dX1_endMarking_5 rfl (lv_at hl 0 rfl) ?_
        refine hg_0_2 hx hb hts in_y_X1_endMarking_X1 hown hK hP (hts _ (List.mem_cons_of_mem _ (List.mem_append_left _ (List.mem_append_left _ (List.mem_of_getElem? (i := 0) rfl))))) dX1_endMarking_6 ?_
        refine hn_1 hx hb hK hP dX1_endMarking_9 ?_
        refine lv_icmp_ge (tgt := 38) hx hb dX1_endMarking_10 (by decide) (fun c1 => ?_) (fun c1 => ?_)
        · rw [if_pos c1] at h
          exact ih.2.2 L σ r h H locs ls hP hD hS (lv_sub hl [] rfl)
        · rw [if_neg c1] at h
          refine lv_aload_n hx hb dX1_endMarking_13 rfl (lv_at hl 0 rfl) ?_
          refine hg_0_3 hx hb hts in_y_X1_endMarking_X1 hown hK hP (hts _ (List.mem_cons_of_mem _ (List.mem_append_left _ (List.mem_append_left _ (List.mem_of_getElem? (i := 1) rfl))))) dX1_endMarking_14 ?_
          refine lv_iload_n hx hb dX1_endMarking_17 rfl (lv_at hl 2 rfl) ?_
          refine lv_iload_n hx hb dX1_endMarking_18 rfl (lv_at hl 1 rfl) ?_
          obtain ⟨q2, h⟩ := kb_ite1 h
          refine hs_2 hx hb hK hP hD hS q2 dX1_endMarking_19 (fun H locs hP hD hS => ?_)
          refine lv_iload_n hx hb dX1_endMarking_20 rfl (lv_at hl 1 rfl) ?_
          refine lv_aload_n hx hb dX1_endMarking_21 rfl (lv_at hl 0 rfl) ?_
          refine hg_0_2 hx hb hts in_y_X1_endMarking_X1 hown hK hP (hts _ (List.mem_cons_of_mem _ (List.mem_append_left _ (List.mem_append_left _ (List.mem_of_getElem? (i := 0) rfl))))) dX1_endMarking_22 ?_
          refine lv_iload_n hx hb dX1_endMarking_25 rfl (lv_at hl 2 rfl) ?_
          obtain ⟨q3, h⟩ := kb_ite1 h
          refine hl_1 hx hb hK hP q3 dX1_endMarking_26 ?_
          obtain ⟨r4, hc4, h⟩ := oc_ex h
          refine kc_i (va_runS (As := [.int ((uA σ 2 ((L.1 2)).toNatClampNeg ((L.1 1))).2.2.1 1 ((L.1 2)).toNatClampNeg)]) (rest := [.int (L.1 1)]) ⟨hx, hb, hml, hown, hts⟩ (c_y_J6_bitCount_0f7a4 l dC dI cy a z k (lI lZ 0 (((uA σ 2 ((L.1 2)).toNatClampNeg ((L.1 1))).2.2.1 1 ((L.1 2)).toNatClampNeg))) (uA σ 2 ((L.1 2)).toNatClampNeg ((L.1 1))) r4 hc4 H.size) (va_cwS 1 hts g_y_X1_endMarking_J6_bitCount_0f7a4_S89 rfl rfl rfl hd_y_J6_bitCount_0f7a4 ⟨Nat.le_of_ble_eq_true rfl, Nat.le_of_ble_eq_true rfl⟩) ⟨nb_blind, (kb_pre hK hG hP hD)⟩ rfl rfl hl.1 rfl (lv_room (Nat.le_of_ble_eq_true rfl)) dX1_endMarking_27 ⟨Nat.le_refl _, Nat.le_refl _⟩) hA hP hD hS (fun H locs hP hD hS => ?_)
          refine lv_iadd hx hb dX1_endMarking_30 ?_
          refine lv_istore_n (lv' := [(1, .int (((L.1 1)) + r4.1)), (0, .ref (a 0)), (2, .int (L.1 2))]) hx hb dX1_endMarking_31 rfl hl (by decide) rfl (fun ls hl => ?_)
          refine lv_iinc (v := ((L.1 2)) + 1) (lv' := [(2, .int (((L.1 2)) + 1)), (1, .int (((L.1 1)) + r4.1)), (0, .ref (a 0))]) hx hb dX1_endMarking_32 hl (k := 2) rfl rfl (by decide) rfl (fun ls hl => ?_)
          refine lv_goto (tgt := 4) hx hb dX1_endMarking_35 (by decide) ?_
          exact ih.2.1 (lI (lI L 1 ((((L.1 1)) + r4.1))) 2 ((((L.1 2)) + 1))) r4.2 r h H locs ls hP hD hS (lv_sub hl [2, 1, 0] rfl)
      · intro L σ r h H locs ls hP hD hS hl
        rw [y_X1_endMarking] at h
        obtain rfl := Option.some.inj h
        exact W.vret hx hb hr (fun t ht hW => ⟨⟨(), rfl, trivial, by rw [ht]; exact hP, va_K.moved hW.alike hK, hD⟩, hS.F ht⟩) hS.2.2 dX1_endMarking_38
  exact (blk k0).1 L0 σ0 r0 h0 s.heap [] ls hP hD hS hl

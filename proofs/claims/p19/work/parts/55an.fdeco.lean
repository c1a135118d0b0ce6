/-! X5_refuse -/
def f_X5_refuse : Nat → Nat → LV → CS → Option RS
  | 0, _, _, _ => none
  | k + 1, 0, L, σ => some ((1, 0), (uI (uI σ 4006 ((L.1 1))) 4007 ((L.1 2))), (1, 6))
  | _ + 1, _ + 1, _, _ => none
def o_f_X5_refuse : List Cond := [.fieldLink RX5 75 "SetHouse$Parser" "faultCode" "I", .fieldLink RX5 81 "SetHouse$Parser" "faultPlace" "I", .classLink RX5 70 "java/lang/IllegalArgumentException", .initialized "java/lang/IllegalArgumentException"]
theorem o_f_X5_refuse_good : o_f_X5_refuse.all goodWord = true := by decide +kernel
def p_f_X5_refuse : List Cond := o_f_X5_refuse ++ (((vx_at0 RX5 124 "java/lang/IllegalArgumentException" ["java/lang/RuntimeException", "java/lang/Exception"]).filter goodWord) ++ [])
theorem p_f_X5_refuse_good : p_f_X5_refuse.all goodWord = true := nb_all2 o_f_X5_refuse_good (nb_all2 (nb_fg _) rfl)
def w_f_X5_refuse : List Cond := .code yX5_refuse cX5_refuse 3 none :: (p_f_X5_refuse ++ fC)
theorem w_f_X5_refuse_good : w_f_X5_refuse.all goodWord = true := nb_allc (by decide +kernel) (nb_all2 p_f_X5_refuse_good fC_good)
theorem in_f_X5_refuse_X5 : ∀ w ∈ wsX50, w ∈ w_f_X5_refuse := fun _ h => List.mem_cons_of_mem _ (List.mem_append_right _ (List.mem_append_right _ (List.mem_append_right _ (List.mem_append_right _ (List.mem_append_right _ (List.mem_append_left _ h))))))
theorem hd_f_X5_refuse : yX5_refuse.cls = RX5 ∧ yX5_refuse.cls ≠ "java/lang/invoke/MethodHandle" ∧ yX5_refuse.cls ≠ "java/lang/invoke/VarHandle" ∧ (parseMethodDescriptor yX5_refuse.desc).map (fun d => d.parameters.length) = some 2 := by decide +kernel
set_option maxHeartbeats 40000000 in
set_option maxRecDepth 100000 in
theorem c_f_X5_refuse (l : Launch) (hl0 : l.stackTraces = false) (dC : Nat → ClassId) (dI : Nat → Nat → Nat) (cy : Nat → ClassId) (ek a : Nat → Nat) (k0 : Nat) (L0 : LV) (σ0 : CS) (r0 : RS) (h0 : f_X5_refuse k0 0 L0 σ0 = some r0) (z : Nat → Nat) (sz : Nat) : vx_Met l yX5_refuse w_f_X5_refuse ({ frames := 6, cells := r0.2.2.1, slots := r0.2.2.2, locals := 100 }) (va_Pc [.ref (a 40), .int (L0.1 1), .int (L0.1 2)] (nInF (dC, dI) cy ek sz (vC cy a z σ0))) (xV dC dI cy a (va_A (vC cy a z σ0) sz) [] z r0) (xX dC dI cy a (va_A (vC cy a z σ0) sz) [] z r0) r0.2.2.1 r0.2.2.2 (va_A (vC cy a z σ0) sz) := by
  refine vx_ofW (cc := cX5_refuse) (maxL := 3) (ret := none) (by decide) rfl ?_
  intro p e s m args below meth c s₁ B hml hno hv
  obtain ⟨rfl, ⟨⟨hsz, hP, hK, hD0, hG⟩, hE⟩, hT⟩ := hv
  have hx := B.exec
  have hb := B.bytes
  have hr := B.returns
  have hts := atoms_spec (ws := w_f_X5_refuse) B.pre
  have hown : s.vm.findClass RX5 = some m.cls := findClass_of_methodNamed B.named
  have hlocks := B.notSynchronized
  subst hsz
  have hD := hD0.self (sz := s.heap.size)
  generalize hAe : va_A (vC cy a z σ0) s.heap.size = A at hD hE hT ⊢
  have hA : ∀ q : Nat, s.heap.size ≤ q → A q := fun q h => by rw [← hAe]; exact Or.inr h
  have hS : va_S A s.heap s.heap [] := va_S.rf
  have hl := lv_entry ([.ref (a 40), .int (L0.1 1), .int (L0.1 2)]) (n := 3) (Nat.le_of_ble_eq_true rfl)
  rw [lg_entry_eq]
  generalize (lg_sl ([.ref (a 40), .int (L0.1 1), .int (L0.1 2)]) ++ List.replicate (3 - (lg_sl ([.ref (a 40), .int (L0.1 1), .int (L0.1 2)])).length) Slot.unset).toArray = ls at hl ⊢
  have hl : lv_has ls 3 [(0, .ref (a 40)), (1, .int (L0.1 1)), (2, .int (L0.1 2))] := hl
  generalize hmc : r0.2.2.1 = mc
  generalize hms : r0.2.2.2 = ms
  have blk : ∀ k : Nat, (bX p l e (headSpec w_f_X5_refuse ({ frames := 6, cells := mc, slots := ms, locals := 100 })).room s m #[.ref (a 40), .int (L0.1 1), .int (L0.1 2)] below meth c dC dI cy a A (fun r => vx_MQ below (xV dC dI cy a A [] z r) (xX dC dI cy a A [] z r) #[.ref (a 40), .int (L0.1 1), .int (L0.1 2)] s mc ms A) [] z mc ms 3 (f_X5_refuse k 0) (fun z L => [(0, .ref (a 40)), (1, .int (L.1 1)), (2, .int (L.1 2))]) 0 (fun z L => [])) := by
    intro k
    induction k with
    | zero => exact fun z c1 c2 L σ r h => (by cases h)
    | succ k ih =>
      skip
      · intro z cells slots L σ r h hzk hc hs H locs ls hP hD hS hl
        rw [f_X5_refuse] at h
        refine lv_aload_n hx hb dX5_refuse_0 rfl (lv_at hl 0 rfl) ?_
        refine lv_iload_n hx hb dX5_refuse_1 rfl (lv_at hl 1 rfl) ?_
        refine hp_40_6 hx hb hts in_f_X5_refuse_X5 hown hK hP hD hS (hts _ (List.mem_cons_of_mem _ (List.mem_append_left _ (List.mem_append_left _ (List.mem_of_getElem? (i := 0) rfl))))) dX5_refuse_2 (fun H locs hP hD hS => ?_)
        refine lv_aload_n hx hb dX5_refuse_5 rfl (lv_at hl 0 rfl) ?_
        refine lv_iload_n hx hb dX5_refuse_6 rfl (lv_at hl 2 rfl) ?_
        refine hp_40_7 hx hb hts in_f_X5_refuse_X5 hown hK hP hD hS (hts _ (List.mem_cons_of_mem _ (List.mem_append_left _ (List.mem_append_left _ (List.mem_of_getElem? (i := 1) rfl))))) dX5_refuse_7 (fun H locs hP hD hS => ?_)
        obtain rfl := Option.some.inj h
        exact vx_throw0 (cls := "java/lang/IllegalArgumentException") (names := ["java/lang/RuntimeException", "java/lang/Exception"]) hx hb hl0 hown (by decide) (by decide) (hts _ (List.mem_cons_of_mem _ (List.mem_append_left _ (List.mem_append_left _ (List.mem_of_getElem? (i := 2) rfl))))) (hts _ (List.mem_cons_of_mem _ (List.mem_append_left _ (List.mem_append_left _ (List.mem_of_getElem? (i := 3) rfl))))) (vx_hat (B := [.castable "java/lang/IllegalArgumentException" "java/lang/IllegalArgumentException", .declares (Bundle.init0 "java/lang/RuntimeException"), .declares (Bundle.init0 "java/lang/Exception"), .declares (Bundle.init0 Bundle.tN)]) (fun w h => hts w (List.mem_cons_of_mem _ (List.mem_append_left _ (List.mem_append_right _ (List.mem_append_left _ h))))) (by decide +kernel) (vx_c (va_Nw.use (by decide +kernel) (hT.2.2.1 _ (List.mem_of_getElem? (i := 1) rfl))) (vx_c (va_Nw.use (by decide +kernel) (hT.2.2.1 _ (List.mem_of_getElem? (i := 4) rfl))) (vx_c (va_Nw.use (by decide +kernel) (hT.2.2.1 _ (List.mem_of_getElem? (i := 5) rfl))) (vx_c (va_Nw.use (by decide +kernel) (hT.2.2.1 _ (List.mem_of_getElem? (i := 6) rfl))) vx_n))))) (fun w h => List.all_eq_true.mp (by decide +kernel : (Cond.classLink RX5 70 "java/lang/IllegalArgumentException" :: Cond.initialized "java/lang/IllegalArgumentException" :: (vx_at0 RX5 124 "java/lang/IllegalArgumentException" ["java/lang/RuntimeException", "java/lang/Exception"])).all vx_ot = true) w h) hT.1 hT.2.1 hS (hl.1.trans hml.symm) dX5_refuse_10 dX5_refuse_13 dX5_refuse_14 dX5_refuse_17 (fun x h => (hno x h).elim) (Nat.le_of_ble_eq_true rfl) (Nat.le_of_ble_eq_true rfl) (Nat.le_of_eq hc) (Nat.le_of_eq hs) hlocks (xt_x (n := 1) (by decide) hK hzk hP hD hS) hS.2.2 (Nat.le_of_eq hc) (Nat.le_of_eq hs)
  exact (blk k0) z 0 0 L0 σ0 r0 h0 (zk_rf _ _) ((Nat.zero_add _).trans hmc) ((Nat.zero_add _).trans hms) s.heap [] ls hP hD hS hl
/-! X5_checkName -/
def f_X5_checkName : Nat → Nat → LV → CS → Option RS
  | 0, _, _, _ => none
  | k + 1, 0, L, σ => if ((σ.1 3702)) = 2 then (f_X5_checkName k 1 L σ) else (ox (f_X5_refuse k 0 (lI (lI lZ 1 2) 2 ((σ.1 3703))) σ) (fun r2 => f_X5_checkName k 1 L r2.2.1))
  | k + 1, 1, L, σ => oP (sPp σ) (fun b1 => op (y_X7_isToldFrom__P k 0 (lJ (lJ (lI (lB lZ 0 b1) 1 ((L.1 1))) 2 ((σ.2.1 3705))) 4 ((σ.2.1 3706))) σ) (fun r2 => if r2.1 = 0 then (f_X5_checkName k 2 L r2.2) else (ox (f_X5_refuse k 0 (lI (lI lZ 1 4) 2 ((r2.2.1 3703))) r2.2) (fun r4 => f_X5_checkName k 2 L r4.2.1))))
  | k + 1, 2, L, σ => oP (sPp σ) (fun b1 => if ¬ (((σ.1 4003)) < 0 ∨ 42 ≤ ((σ.1 4003)).toNatClampNeg) then (if ((σ.2.2.1 (pR16 b1) ((σ.1 4003)).toNatClampNeg)) < 60 then (f_X5_checkName k 3 L σ) else (ox (f_X5_refuse k 0 (lI (lI lZ 1 8) 2 ((σ.1 3703))) σ) (fun r4 => f_X5_checkName k 3 L r4.2.1))) else none)
  | k + 1, 3, L, σ => oP (sPp σ) (fun b1 => if ¬ (((σ.1 4003)) < 0 ∨ 42 ≤ ((σ.1 4003)).toNatClampNeg) then (if ¬ (((σ.1 4003)) < 0 ∨ 42 ≤ ((σ.1 4003)).toNatClampNeg) then (some ((0, 0), (uA σ (pR16 b1) ((σ.1 4003)).toNatClampNeg ((((σ.2.2.1 (pR16 b1) ((σ.1 4003)).toNatClampNeg)) + 1))), (0, 0))) else none) else none)
  | _ + 1, _ + 4, _, _ => none
def o_f_X5_checkName : List Cond := [.fieldLink RX5 18 "SetHouse$Parser" "lex" "LSetHouse$Lexer;", .methodLink RX5 125 yX5_refuse, .instanceMethod yX5_refuse, .selects RX5 yX5_refuse yX5_refuse, .initialized RX5, .fieldLink RX5 93 "SetHouse$Parser" "p" "LSetHouse$Program;", .methodLink RX5 164 yX7_isToldFrom, .instanceMethod yX7_isToldFrom, .selects RX7 yX7_isToldFrom yX7_isToldFrom, .initialized RX7, .fieldLink RX5 97 "SetHouse$Parser" "unit" "I"]
theorem o_f_X5_checkName_good : o_f_X5_checkName.all goodWord = true := by decide +kernel
def p_f_X5_checkName : List Cond := o_f_X5_checkName ++ ((.code yX5_refuse cX5_refuse 3 none :: p_f_X5_refuse) ++ ((.code yX7_isToldFrom cX7_isToldFrom 7 (some .boolean) :: p_y_X7_isToldFrom__P) ++ []))
theorem p_f_X5_checkName_good : p_f_X5_checkName.all goodWord = true := nb_all2 o_f_X5_checkName_good (nb_all2 (nb_allc (by decide +kernel) p_f_X5_refuse_good) (nb_all2 (nb_allc (by decide +kernel) p_y_X7_isToldFrom__P_good) rfl))
def w_f_X5_checkName : List Cond := .code yX5_checkName cX5_checkName 2 none :: (p_f_X5_checkName ++ fC)
theorem w_f_X5_checkName_good : w_f_X5_checkName.all goodWord = true := nb_allc (by decide +kernel) (nb_all2 p_f_X5_checkName_good fC_good)
theorem in_f_X5_checkName_X2 : ∀ w ∈ wsX20, w ∈ w_f_X5_checkName := fun _ h => List.mem_cons_of_mem _ (List.mem_append_right _ (List.mem_append_right _ (List.mem_append_right _ (List.mem_append_left _ h))))
theorem in_f_X5_checkName_X5 : ∀ w ∈ wsX50, w ∈ w_f_X5_checkName := fun _ h => List.mem_cons_of_mem _ (List.mem_append_right _ (List.mem_append_right _ (List.mem_append_right _ (List.mem_append_right _ (List.mem_append_right _ (List.mem_append_left _ h))))))
theorem in_f_X5_checkName_X7 : ∀ w ∈ wsX70, w ∈ w_f_X5_checkName := fun _ h => List.mem_cons_of_mem _ (List.mem_append_right _ (List.mem_append_right _ (List.mem_append_right _ (List.mem_append_right _ (List.mem_append_right _ (List.mem_append_right _ (List.mem_append_right _ (List.mem_append_left _ h))))))))
theorem hd_f_X5_checkName : yX5_checkName.cls = RX5 ∧ yX5_checkName.cls ≠ "java/lang/invoke/MethodHandle" ∧ yX5_checkName.cls ≠ "java/lang/invoke/VarHandle" ∧ (parseMethodDescriptor yX5_checkName.desc).map (fun d => d.parameters.length) = some 1 := by decide +kernel
theorem gg_f_X5_checkName_X5_refuse : GoodIn w_f_X5_checkName w_f_X5_refuse := goodIn_sub (fun w h => (List.mem_cons.mp h).elim (fun e => (List.mem_cons_of_mem _ (List.mem_append_left _ (List.mem_append_right _ (List.mem_append_left _ (List.mem_cons.mpr (Or.inl e))))))) (fun h => (List.mem_append.mp h).elim (fun h => (List.mem_cons_of_mem _ (List.mem_append_left _ (List.mem_append_right _ (List.mem_append_left _ (List.mem_cons_of_mem _ h)))))) (fun h => List.mem_cons_of_mem _ (List.mem_append_right _ h)))) w_f_X5_refuse_good
theorem g_f_X5_checkName_X5_refuse_V125 : GoodIn w_f_X5_checkName (wsV RX5 125 RX5 yX5_refuse w_f_X5_refuse) := goodIn_app (nb_g4 (List.mem_cons_of_mem _ (List.mem_append_left _ (List.mem_append_left _ (List.mem_of_getElem? (i := 1) rfl)))) (List.mem_cons_of_mem _ (List.mem_append_left _ (List.mem_append_left _ (List.mem_of_getElem? (i := 2) rfl)))) (List.mem_cons_of_mem _ (List.mem_append_left _ (List.mem_append_left _ (List.mem_of_getElem? (i := 3) rfl)))) (List.mem_cons_of_mem _ (List.mem_append_left _ (List.mem_append_left _ (List.mem_of_getElem? (i := 4) rfl)))) (by decide +kernel)) gg_f_X5_checkName_X5_refuse
theorem gg_f_X5_checkName_X7_isToldFrom__P : GoodIn w_f_X5_checkName w_y_X7_isToldFrom__P := goodIn_sub (fun w h => (List.mem_cons.mp h).elim (fun e => (List.mem_cons_of_mem _ (List.mem_append_left _ (List.mem_append_right _ (List.mem_append_right _ (List.mem_append_left _ (List.mem_cons.mpr (Or.inl e)))))))) (fun h => (List.mem_append.mp h).elim (fun h => (List.mem_cons_of_mem _ (List.mem_append_left _ (List.mem_append_right _ (List.mem_append_right _ (List.mem_append_left _ (List.mem_cons_of_mem _ h))))))) (fun h => List.mem_cons_of_mem _ (List.mem_append_right _ h)))) w_y_X7_isToldFrom__P_good
theorem g_y_X5_checkName_X7_isToldFrom__P_V164 : GoodIn w_f_X5_checkName (wsV RX5 164 RX7 yX7_isToldFrom w_y_X7_isToldFrom__P) := goodIn_app (nb_g4 (List.mem_cons_of_mem _ (List.mem_append_left _ (List.mem_append_left _ (List.mem_of_getElem? (i := 6) rfl)))) (List.mem_cons_of_mem _ (List.mem_append_left _ (List.mem_append_left _ (List.mem_of_getElem? (i := 7) rfl)))) (List.mem_cons_of_mem _ (List.mem_append_left _ (List.mem_append_left _ (List.mem_of_getElem? (i := 8) rfl)))) (List.mem_cons_of_mem _ (List.mem_append_left _ (List.mem_append_left _ (List.mem_of_getElem? (i := 9) rfl)))) (by decide +kernel)) gg_f_X5_checkName_X7_isToldFrom__P
set_option maxHeartbeats 40000000 in
set_option maxRecDepth 100000 in
theorem c_f_X5_checkName (l : Launch) (hl0 : l.stackTraces = false) (dC : Nat → ClassId) (dI : Nat → Nat → Nat) (cy : Nat → ClassId) (ek a : Nat → Nat) (k0 : Nat) (L0 : LV) (σ0 : CS) (r0 : RS) (h0 : f_X5_checkName k0 0 L0 σ0 = some r0) (z : Nat → Nat) (sz : Nat) : vx_Met l yX5_checkName w_f_X5_checkName ({ frames := 7, cells := r0.2.2.1, slots := r0.2.2.2, locals := 122 }) (va_Pc [.ref (a 40), .int (L0.1 1)] (nInF (dC, dI) cy ek sz (vC cy a z σ0))) (xV dC dI cy a (va_A (vC cy a z σ0) sz) [] z r0) (xX dC dI cy a (va_A (vC cy a z σ0) sz) [] z r0) r0.2.2.1 r0.2.2.2 (va_A (vC cy a z σ0) sz) := by
  refine vx_ofW (cc := cX5_checkName) (maxL := 2) (ret := none) (by decide) rfl ?_
  intro p e s m args below meth c s₁ B hml hno hv
  obtain ⟨rfl, ⟨⟨hsz, hP, hK, hD0, hG⟩, hE⟩, hT⟩ := hv
  have hx := B.exec
  have hb := B.bytes
  have hr := B.returns
  have hts := atoms_spec (ws := w_f_X5_checkName) B.pre
  have hown : s.vm.findClass RX5 = some m.cls := findClass_of_methodNamed B.named
  have hlocks := B.notSynchronized
  subst hsz
  have hD := hD0.self (sz := s.heap.size)
  generalize hAe : va_A (vC cy a z σ0) s.heap.size = A at hD hE hT ⊢
  have hA : ∀ q : Nat, s.heap.size ≤ q → A q := fun q h => by rw [← hAe]; exact Or.inr h
  have hS : va_S A s.heap s.heap [] := va_S.rf
  have hl := lv_entry ([.ref (a 40), .int (L0.1 1)]) (n := 2) (Nat.le_of_ble_eq_true rfl)
  rw [lg_entry_eq]
  generalize (lg_sl ([.ref (a 40), .int (L0.1 1)]) ++ List.replicate (2 - (lg_sl ([.ref (a 40), .int (L0.1 1)])).length) Slot.unset).toArray = ls at hl ⊢
  have hl : lv_has ls 2 [(0, .ref (a 40)), (1, .int (L0.1 1))] := hl
  generalize hmc : r0.2.2.1 = mc
  generalize hms : r0.2.2.2 = ms
  have blk : ∀ k : Nat, (bX p l e (headSpec w_f_X5_checkName ({ frames := 7, cells := mc, slots := ms, locals := 122 })).room s m #[.ref (a 40), .int (L0.1 1)] below meth c dC dI cy a A (fun r => vx_MQ below (xV dC dI cy a A [] z r) (xX dC dI cy a A [] z r) #[.ref (a 40), .int (L0.1 1)] s mc ms A) [] z mc ms 2 (f_X5_checkName k 0) (fun z L => [(0, .ref (a 40)), (1, .int (L.1 1))]) 0 (fun z L => [])) ∧ (bX p l e (headSpec w_f_X5_checkName ({ frames := 7, cells := mc, slots := ms, locals := 122 })).room s m #[.ref (a 40), .int (L0.1 1)] below meth c dC dI cy a A (fun r => vx_MQ below (xV dC dI cy a A [] z r) (xX dC dI cy a A [] z r) #[.ref (a 40), .int (L0.1 1)] s mc ms A) [] z mc ms 2 (f_X5_checkName k 1) (fun z L => [(0, .ref (a 40)), (1, .int (L.1 1))]) 23 (fun z L => [])) ∧ (bX p l e (headSpec w_f_X5_checkName ({ frames := 7, cells := mc, slots := ms, locals := 122 })).room s m #[.ref (a 40), .int (L0.1 1)] below meth c dC dI cy a A (fun r => vx_MQ below (xV dC dI cy a A [] z r) (xX dC dI cy a A [] z r) #[.ref (a 40), .int (L0.1 1)] s mc ms A) [] z mc ms 2 (f_X5_checkName k 2) (fun z L => [(0, .ref (a 40))]) 60 (fun z L => [])) ∧ (bX p l e (headSpec w_f_X5_checkName ({ frames := 7, cells := mc, slots := ms, locals := 122 })).room s m #[.ref (a 40), .int (L0.1 1)] below meth c dC dI cy a A (fun r => vx_MQ below (xV dC dI cy a A [] z r) (xX dC dI cy a A [] z r) #[.ref (a 40), .int (L0.1 1)] s mc ms A) [] z mc ms 2 (f_X5_checkName k 3) (fun z L => [(0, .ref (a 40))]) 90 (fun z L => [])) := by
    intro k
    induction k with
    | zero => exact ⟨fun z c1 c2 L σ r h => (by cases h), fun z c1 c2 L σ r h => (by cases h), fun z c1 c2 L σ r h => (by cases h), fun z c1 c2 L σ r h => (by cases h)⟩
    | succ k ih =>
      refine ⟨?_, ?_, ?_, ?_⟩
      · intro z cells slots L σ r h hzk hc hs H locs ls hP hD hS hl
        rw [f_X5_checkName] at h
        refine lv_aload_n hx hb dX5_checkName_0 rfl (lv_at hl 0 rfl) ?_
        refine hg_40_0 hx hb hts in_f_X5_checkName_X5 hown hK hP (hts _ (List.mem_cons_of_mem _ (List.mem_append_left _ (List.mem_append_left _ (List.mem_of_getElem? (i := 0) rfl))))) dX5_checkName_1 ?_
        refine hg_37_2n hx hb hts in_f_X5_checkName_X2 hown hK hP (va_Nw.use rfl (hG.1 _ (List.mem_of_getElem? (i := 52) rfl))) dX5_checkName_4 ?_
        refine lv_iconst (v := 2) hx hb dX5_checkName_7 (by decide) ?_
        refine lv_icmp_eq (tgt := 23) hx hb dX5_checkName_8 (by decide) (fun c1 => ?_) (fun c1 => ?_)
        · rw [if_pos c1] at h
          exact ih.2.1 z _ _ L σ _ h hzk hc hs H locs ls hP hD hS (lv_sub hl [0, 1] rfl)
        · rw [if_neg c1] at h
          refine lv_aload_n hx hb dX5_checkName_11 rfl (lv_at hl 0 rfl) ?_
          refine lv_iconst (v := 2) hx hb dX5_checkName_12 (by decide) ?_
          refine lv_aload_n hx hb dX5_checkName_13 rfl (lv_at hl 0 rfl) ?_
          refine hg_40_0 hx hb hts in_f_X5_checkName_X5 hown hK hP (hts _ (List.mem_cons_of_mem _ (List.mem_append_left _ (List.mem_append_left _ (List.mem_of_getElem? (i := 0) rfl))))) dX5_checkName_14 ?_
          refine hg_37_3n hx hb hts in_f_X5_checkName_X2 hown hK hP (va_Nw.use rfl (hG.1 _ (List.mem_of_getElem? (i := 54) rfl))) dX5_checkName_17 ?_
          obtain ⟨r2, hc2, hle2, h9⟩ := ox_ex h
          clear h
          refine kx_v (vx_runV (As := [.int 2, .int (σ.1 3703)]) (rest := []) ⟨hx, hb, hml, hown, hts⟩ (c_f_X5_refuse l hl0 dC dI cy ek a k (lI (lI lZ 1 2) 2 ((σ.1 3703))) σ r2 hc2 z H.size) (cwV 2 hts g_f_X5_checkName_X5_refuse_V125 rfl rfl rfl hd_f_X5_refuse ⟨Nat.le_of_ble_eq_true rfl, Nat.le_of_ble_eq_true rfl⟩) ⟨nb_blindF, va_recv hK hP (ci := 4) (q0 := 40) rfl rfl, (kx_pre hK hG hE hT hA hP hD hS)⟩ rfl rfl hl.1 rfl (lv_room (Nat.le_of_ble_eq_true rfl)) dX5_checkName_20 ⟨Nat.le_trans (Nat.add_le_add_left hle2.1 _) (Nat.le_of_eq hc), Nat.le_trans (Nat.add_le_add_left hle2.2 _) (Nat.le_of_eq hs)⟩) hK hA hzk hP hD hS (by decide) hno hlocks ?_
          rcases h9 with ⟨h00, y2, hny2, hy⟩ | ⟨h00, hy⟩
          · subst hy
            have h := hny2
            refine Or.inl ⟨h00, fun u H locs hz2 hzk hP hD hS => ?_⟩
            obtain rfl := (zk_nil hz2).symm
            replace hc := (Nat.add_assoc _ _ _).trans hc
            replace hs := (Nat.add_assoc _ _ _).trans hs
            exact ih.2.1 z _ _ L r2.2.1 _ h hzk hc hs H locs ls hP hD hS (lv_sub hl [0, 1] rfl)
          · subst hy
            exact Or.inr ⟨h00, rfl, hc, hs⟩
      · intro z cells slots L σ r h hzk hc hs H locs ls hP hD hS hl
        rw [f_X5_checkName] at h
        refine lv_aload_n hx hb dX5_checkName_23 rfl (lv_at hl 0 rfl) ?_
        obtain ⟨b1, hb1, h⟩ := oP_ex h
        refine hgq_40_2 hx hb hts in_f_X5_checkName_X5 hown hK hP (hts _ (List.mem_cons_of_mem _ (List.mem_append_left _ (List.mem_append_left _ (List.mem_of_getElem? (i := 5) rfl))))) hb1 dX5_checkName_24 ?_
        refine lv_iload_n hx hb dX5_checkName_27 rfl (lv_at hl 1 rfl) ?_
        refine lv_aload_n hx hb dX5_checkName_28 rfl (lv_at hl 0 rfl) ?_
        refine hg_40_0 hx hb hts in_f_X5_checkName_X5 hown hK hP (hts _ (List.mem_cons_of_mem _ (List.mem_append_left _ (List.mem_append_left _ (List.mem_of_getElem? (i := 0) rfl))))) dX5_checkName_29 ?_
        refine hg_37_5n hx hb hts in_f_X5_checkName_X2 hown hK hP (va_Nw.use rfl (hG.1 _ (List.mem_of_getElem? (i := 58) rfl))) dX5_checkName_32 ?_
        refine lv_aload_n hx hb dX5_checkName_35 rfl (lv_at hl 0 rfl) ?_
        refine hg_40_0 hx hb hts in_f_X5_checkName_X5 hown hK hP (hts _ (List.mem_cons_of_mem _ (List.mem_append_left _ (List.mem_append_left _ (List.mem_of_getElem? (i := 0) rfl))))) dX5_checkName_36 ?_
        refine hg_37_6n hx hb hts in_f_X5_checkName_X2 hown hK hP (va_Nw.use rfl (hG.1 _ (List.mem_of_getElem? (i := 60) rfl))) dX5_checkName_39 ?_
        obtain ⟨r2, hc2, h⟩ := op_ex h
        refine kc_i (va_runV (As := [.int (L.1 1), .long (σ.2.1 3705), .long (σ.2.1 3706)]) (rest := []) ⟨hx, hb, hml, hown, hts⟩ (c_y_X7_isToldFrom__P l dC dI cy a z k (lJ (lJ (lI (lB lZ 0 b1) 1 ((L.1 1))) 2 ((σ.2.1 3705))) 4 ((σ.2.1 3706))) σ r2 hc2 H.size) (cwV 3 hts g_y_X5_checkName_X7_isToldFrom__P_V164 rfl rfl rfl hd_y_X7_isToldFrom__P ⟨Nat.le_of_ble_eq_true rfl, Nat.le_of_ble_eq_true rfl⟩) ⟨nb_blind, recvP b1 hK hP, (kb_pre hK hG hP hD)⟩ rfl rfl hl.1 rfl (lv_room (Nat.le_of_ble_eq_true rfl)) dX5_checkName_42 ⟨(Nat.le_trans (Nat.le_add_right _ _) (Nat.le_of_eq hc)), (Nat.le_trans (Nat.le_add_right _ _) (Nat.le_of_eq hs))⟩) hA hP hD hS (fun H locs hP hD hS => ?_)
        refine lv_if_eq (tgt := 60) hx hb dX5_checkName_45 (by decide) (fun c3 => ?_) (fun c3 => ?_)
        · rw [if_pos c3] at h
          exact ih.2.2.1 z _ _ L r2.2 _ h hzk hc hs H locs ls hP hD hS (lv_sub hl [0] rfl)
        · rw [if_neg c3] at h
          refine lv_aload_n hx hb dX5_checkName_48 rfl (lv_at hl 0 rfl) ?_
          refine lv_iconst (v := 4) hx hb dX5_checkName_49 (by decide) ?_
          refine lv_aload_n hx hb dX5_checkName_50 rfl (lv_at hl 0 rfl) ?_
          refine hg_40_0 hx hb hts in_f_X5_checkName_X5 hown hK hP (hts _ (List.mem_cons_of_mem _ (List.mem_append_left _ (List.mem_append_left _ (List.mem_of_getElem? (i := 0) rfl))))) dX5_checkName_51 ?_
          refine hg_37_3n hx hb hts in_f_X5_checkName_X2 hown hK hP (va_Nw.use rfl (hG.1 _ (List.mem_of_getElem? (i := 54) rfl))) dX5_checkName_54 ?_
          obtain ⟨r4, hc4, hle4, h9⟩ := ox_ex h
          clear h
          refine kx_v (vx_runV (As := [.int 4, .int (r2.2.1 3703)]) (rest := []) ⟨hx, hb, hml, hown, hts⟩ (c_f_X5_refuse l hl0 dC dI cy ek a k (lI (lI lZ 1 4) 2 ((r2.2.1 3703))) r2.2 r4 hc4 z H.size) (cwV 2 hts g_f_X5_checkName_X5_refuse_V125 rfl rfl rfl hd_f_X5_refuse ⟨Nat.le_of_ble_eq_true rfl, Nat.le_of_ble_eq_true rfl⟩) ⟨nb_blindF, va_recv hK hP (ci := 4) (q0 := 40) rfl rfl, (kx_pre hK hG hE hT hA hP hD hS)⟩ rfl rfl hl.1 rfl (lv_room (Nat.le_of_ble_eq_true rfl)) dX5_checkName_57 ⟨Nat.le_trans (Nat.add_le_add_left hle4.1 _) (Nat.le_of_eq hc), Nat.le_trans (Nat.add_le_add_left hle4.2 _) (Nat.le_of_eq hs)⟩) hK hA hzk hP hD hS (by decide) hno hlocks ?_
          rcases h9 with ⟨h00, y4, hny4, hy⟩ | ⟨h00, hy⟩
          · subst hy
            have h := hny4
            refine Or.inl ⟨h00, fun u H locs hz4 hzk hP hD hS => ?_⟩
            obtain rfl := (zk_nil hz4).symm
            replace hc := (Nat.add_assoc _ _ _).trans hc
            replace hs := (Nat.add_assoc _ _ _).trans hs
            exact ih.2.2.1 z _ _ L r4.2.1 _ h hzk hc hs H locs ls hP hD hS (lv_sub hl [0] rfl)
          · subst hy
            exact Or.inr ⟨h00, rfl, hc, hs⟩
      · intro z cells slots L σ r h hzk hc hs H locs ls hP hD hS hl
        rw [f_X5_checkName] at h
        refine lv_aload_n hx hb dX5_checkName_60 rfl (lv_at hl 0 rfl) ?_
        obtain ⟨b1, hb1, h⟩ := oP_ex h
        refine hgq_40_2 hx hb hts in_f_X5_checkName_X5 hown hK hP (hts _ (List.mem_cons_of_mem _ (List.mem_append_left _ (List.mem_append_left _ (List.mem_of_getElem? (i := 5) rfl))))) hb1 dX5_checkName_61 ?_
        refine hg_P_16n b1 hx hb hts in_f_X5_checkName_X7 hown hK hP (va_Nw.use rfl (hG.1 _ (List.mem_of_getElem? (i := 88) rfl))) dX5_checkName_64 ?_
        refine lv_aload_n hx hb dX5_checkName_67 rfl (lv_at hl 0 rfl) ?_
        refine hg_40_3 hx hb hts in_f_X5_checkName_X5 hown hK hP (hts _ (List.mem_cons_of_mem _ (List.mem_append_left _ (List.mem_append_left _ (List.mem_of_getElem? (i := 10) rfl))))) dX5_checkName_68 ?_
        obtain ⟨q2, h⟩ := kr_ite1 h
        refine hl_P16 b1 hx hb hK hP q2 dX5_checkName_71 ?_
        refine lv_bipush (v := 60) hx hb dX5_checkName_72 (by decide) ?_
        refine lv_icmp_lt (tgt := 90) hx hb dX5_checkName_74 (by decide) (fun c3 => ?_) (fun c3 => ?_)
        · rw [if_pos c3] at h
          exact ih.2.2.2 z _ _ L σ _ h hzk hc hs H locs ls hP hD hS (lv_sub hl [0] rfl)
        · rw [if_neg c3] at h
          refine lv_aload_n hx hb dX5_checkName_77 rfl (lv_at hl 0 rfl) ?_
          refine lv_bipush (v := 8) hx hb dX5_checkName_78 (by decide) ?_
          refine lv_aload_n hx hb dX5_checkName_80 rfl (lv_at hl 0 rfl) ?_
          refine hg_40_0 hx hb hts in_f_X5_checkName_X5 hown hK hP (hts _ (List.mem_cons_of_mem _ (List.mem_append_left _ (List.mem_append_left _ (List.mem_of_getElem? (i := 0) rfl))))) dX5_checkName_81 ?_
          refine hg_37_3n hx hb hts in_f_X5_checkName_X2 hown hK hP (va_Nw.use rfl (hG.1 _ (List.mem_of_getElem? (i := 54) rfl))) dX5_checkName_84 ?_
          obtain ⟨r4, hc4, hle4, h9⟩ := ox_ex h
          clear h
          refine kx_v (vx_runV (As := [.int 8, .int (σ.1 3703)]) (rest := []) ⟨hx, hb, hml, hown, hts⟩ (c_f_X5_refuse l hl0 dC dI cy ek a k (lI (lI lZ 1 8) 2 ((σ.1 3703))) σ r4 hc4 z H.size) (cwV 2 hts g_f_X5_checkName_X5_refuse_V125 rfl rfl rfl hd_f_X5_refuse ⟨Nat.le_of_ble_eq_true rfl, Nat.le_of_ble_eq_true rfl⟩) ⟨nb_blindF, va_recv hK hP (ci := 4) (q0 := 40) rfl rfl, (kx_pre hK hG hE hT hA hP hD hS)⟩ rfl rfl hl.1 rfl (lv_room (Nat.le_of_ble_eq_true rfl)) dX5_checkName_87 ⟨Nat.le_trans (Nat.add_le_add_left hle4.1 _) (Nat.le_of_eq hc), Nat.le_trans (Nat.add_le_add_left hle4.2 _) (Nat.le_of_eq hs)⟩) hK hA hzk hP hD hS (by decide) hno hlocks ?_
          rcases h9 with ⟨h00, y4, hny4, hy⟩ | ⟨h00, hy⟩
          · subst hy
            have h := hny4
            refine Or.inl ⟨h00, fun u H locs hz4 hzk hP hD hS => ?_⟩
            obtain rfl := (zk_nil hz4).symm
            replace hc := (Nat.add_assoc _ _ _).trans hc
            replace hs := (Nat.add_assoc _ _ _).trans hs
            exact ih.2.2.2 z _ _ L r4.2.1 _ h hzk hc hs H locs ls hP hD hS (lv_sub hl [0] rfl)
          · subst hy
            exact Or.inr ⟨h00, rfl, hc, hs⟩
      · intro z cells slots L σ r h hzk hc hs H locs ls hP hD hS hl
        rw [f_X5_checkName] at h
        refine lv_aload_n hx hb dX5_checkName_90 rfl (lv_at hl 0 rfl) ?_
        obtain ⟨b1, hb1, h⟩ := oP_ex h
        refine hgq_40_2 hx hb hts in_f_X5_checkName_X5 hown hK hP (hts _ (List.mem_cons_of_mem _ (List.mem_append_left _ (List.mem_append_left _ (List.mem_of_getElem? (i := 5) rfl))))) hb1 dX5_checkName_91 ?_
        refine hg_P_16n b1 hx hb hts in_f_X5_checkName_X7 hown hK hP (va_Nw.use rfl (hG.1 _ (List.mem_of_getElem? (i := 88) rfl))) dX5_checkName_94 ?_
        refine lv_aload_n hx hb dX5_checkName_97 rfl (lv_at hl 0 rfl) ?_
        refine hg_40_3 hx hb hts in_f_X5_checkName_X5 hown hK hP (hts _ (List.mem_cons_of_mem _ (List.mem_append_left _ (List.mem_append_left _ (List.mem_of_getElem? (i := 10) rfl))))) dX5_checkName_98 ?_
        refine lv_dup2_11 hx hb dX5_checkName_101 rfl rfl ?_
        obtain ⟨q2, h⟩ := kr_ite1 h
        refine hl_P16 b1 hx hb hK hP q2 dX5_checkName_102 ?_
        refine lv_iconst (v := 1) hx hb dX5_checkName_103 (by decide) ?_
        refine lv_iadd hx hb dX5_checkName_104 ?_
        obtain ⟨q3, h⟩ := kr_ite1 h
        refine hs_P16 b1 hx hb hK hP hD hS q3 dX5_checkName_105 (fun H locs hP hD hS => ?_)
        obtain rfl := Option.some.inj h
        subst hc
        subst hs
        exact xr_v hx hb hr hK hzk hP hD hS hlocks dX5_checkName_106
  exact (blk k0).1 z 0 0 L0 σ0 r0 h0 (zk_rf _ _) ((Nat.zero_add _).trans hmc) ((Nat.zero_add _).trans hms) s.heap [] ls hP hD hS hl
/-! X5_tellVariable -/
def f_X5_tellVariable : Nat → Nat → LV → CS → Option RS
  | 0, _, _, _ => none
  | k + 1, 0, L, σ => ox (f_X5_checkName k 0 (lI lZ 1 ((L.1 1))) σ) (fun r1 => oP (sPp r1.2.1) (fun b2 => if ¬ (((r1.2.1.1 4003)) < 0 ∨ 42 ≤ ((r1.2.1.1 4003)).toNatClampNeg) then (if ¬ (((r1.2.1.1 4003)) < 0 ∨ 42 ≤ ((r1.2.1.1 4003)).toNatClampNeg) then (oP (sPp (uA r1.2.1 (pR17 b2) ((r1.2.1.1 4003)).toNatClampNeg ((((r1.2.1.2.2.1 (pR17 b2) ((r1.2.1.1 4003)).toNatClampNeg)) + 1)))) (fun b5 => oP (sPp (uA r1.2.1 (pR17 b2) ((r1.2.1.1 4003)).toNatClampNeg ((((r1.2.1.2.2.1 (pR17 b2) ((r1.2.1.1 4003)).toNatClampNeg)) + 1)))) (fun b6 => op (y_X7_newSlots__P k 0 (lI (lI (lB lZ 0 b6) 1 (((uA r1.2.1 (pR17 b2) ((r1.2.1.1 4003)).toNatClampNeg ((((r1.2.1.2.2.1 (pR17 b2) ((r1.2.1.1 4003)).toNatClampNeg)) + 1))).1 4003))) 2 1) (uA r1.2.1 (pR17 b2) ((r1.2.1.1 4003)).toNatClampNeg ((((r1.2.1.2.2.1 (pR17 b2) ((r1.2.1.1 4003)).toNatClampNeg)) + 1)))) (fun r7 => op (y_X7_tell__P k 0 (lI (lI (lI (lJ (lJ (lB lZ 0 b5) 1 (((uA r1.2.1 (pR17 b2) ((r1.2.1.1 4003)).toNatClampNeg ((((r1.2.1.2.2.1 (pR17 b2) ((r1.2.1.1 4003)).toNatClampNeg)) + 1))).2.1 3705))) 3 (((uA r1.2.1 (pR17 b2) ((r1.2.1.1 4003)).toNatClampNeg ((((r1.2.1.2.2.1 (pR17 b2) ((r1.2.1.1 4003)).toNatClampNeg)) + 1))).2.1 3706))) 5 0) 6 (((uA r1.2.1 (pR17 b2) ((r1.2.1.1 4003)).toNatClampNeg ((((r1.2.1.2.2.1 (pR17 b2) ((r1.2.1.1 4003)).toNatClampNeg)) + 1))).1 4003))) 7 r7.1) r7.2) (fun r8 => ox (f_X2_advance k 0 lZ r8.2) (fun r9 => some ((0, 0), r9.2.1, (0, 0)))))))) else none) else none))
  | _ + 1, _ + 1, _, _ => none
def o_f_X5_tellVariable : List Cond := [.methodLink RX5 144 yX5_checkName, .instanceMethod yX5_checkName, .selects RX5 yX5_checkName yX5_checkName, .initialized RX5, .fieldLink RX5 93 "SetHouse$Parser" "p" "LSetHouse$Program;", .fieldLink RX5 97 "SetHouse$Parser" "unit" "I", .fieldLink RX5 18 "SetHouse$Parser" "lex" "LSetHouse$Lexer;", .methodLink RX5 157 yX7_newSlots, .instanceMethod yX7_newSlots, .selects RX7 yX7_newSlots yX7_newSlots, .initialized RX7, .methodLink RX5 160 yX7_tell, .instanceMethod yX7_tell, .selects RX7 yX7_tell yX7_tell, .methodLink RX5 30 yX2_advance, .instanceMethod yX2_advance, .selects RX2 yX2_advance yX2_advance, .initialized RX2]
theorem o_f_X5_tellVariable_good : o_f_X5_tellVariable.all goodWord = true := by decide +kernel
def p_f_X5_tellVariable : List Cond := o_f_X5_tellVariable ++ ((.code yX5_checkName cX5_checkName 2 none :: p_f_X5_checkName) ++ ((.code yX7_newSlots cX7_newSlots 3 (some .int) :: p_y_X7_newSlots__P) ++ ((.code yX7_tell cX7_tell 8 none :: p_y_X7_tell__P) ++ ((.code yX2_advance cX2_advance 7 none :: p_f_X2_advance) ++ []))))
theorem p_f_X5_tellVariable_good : p_f_X5_tellVariable.all goodWord = true := nb_all2 o_f_X5_tellVariable_good (nb_all2 (nb_allc (by decide +kernel) p_f_X5_checkName_good) (nb_all2 (nb_allc (by decide +kernel) p_y_X7_newSlots__P_good) (nb_all2 (nb_allc (by decide +kernel) p_y_X7_tell__P_good) (nb_all2 (nb_allc (by decide +kernel) p_f_X2_advance_good) rfl))))
def w_f_X5_tellVariable : List Cond := .code yX5_tellVariable cX5_tellVariable 2 none :: (p_f_X5_tellVariable ++ fC)
theorem w_f_X5_tellVariable_good : w_f_X5_tellVariable.all goodWord = true := nb_allc (by decide +kernel) (nb_all2 p_f_X5_tellVariable_good fC_good)
theorem in_f_X5_tellVariable_X2 : ∀ w ∈ wsX20, w ∈ w_f_X5_tellVariable := fun _ h => List.mem_cons_of_mem _ (List.mem_append_right _ (List.mem_append_right _ (List.mem_append_right _ (List.mem_append_left _ h))))
theorem in_f_X5_tellVariable_X5 : ∀ w ∈ wsX50, w ∈ w_f_X5_tellVariable := fun _ h => List.mem_cons_of_mem _ (List.mem_append_right _ (List.mem_append_right _ (List.mem_append_right _ (List.mem_append_right _ (List.mem_append_right _ (List.mem_append_left _ h))))))
theorem in_f_X5_tellVariable_X7 : ∀ w ∈ wsX70, w ∈ w_f_X5_tellVariable := fun _ h => List.mem_cons_of_mem _ (List.mem_append_right _ (List.mem_append_right _ (List.mem_append_right _ (List.mem_append_right _ (List.mem_append_right _ (List.mem_append_right _ (List.mem_append_right _ (List.mem_append_left _ h))))))))
theorem hd_f_X5_tellVariable : yX5_tellVariable.cls = RX5 ∧ yX5_tellVariable.cls ≠ "java/lang/invoke/MethodHandle" ∧ yX5_tellVariable.cls ≠ "java/lang/invoke/VarHandle" ∧ (parseMethodDescriptor yX5_tellVariable.desc).map (fun d => d.parameters.length) = some 1 := by decide +kernel
theorem gg_f_X5_tellVariable_X2_advance : GoodIn w_f_X5_tellVariable w_f_X2_advance := goodIn_sub (fun w h => (List.mem_cons.mp h).elim (fun e => (List.mem_cons_of_mem _ (List.mem_append_left _ (List.mem_append_right _ (List.mem_append_right _ (List.mem_append_right _ (List.mem_append_right _ (List.mem_append_left _ (List.mem_cons.mpr (Or.inl e)))))))))) (fun h => (List.mem_append.mp h).elim (fun h => (List.mem_cons_of_mem _ (List.mem_append_left _ (List.mem_append_right _ (List.mem_append_right _ (List.mem_append_right _ (List.mem_append_right _ (List.mem_append_left _ (List.mem_cons_of_mem _ h))))))))) (fun h => List.mem_cons_of_mem _ (List.mem_append_right _ h)))) w_f_X2_advance_good
theorem g_f_X5_tellVariable_X2_advance_V30 : GoodIn w_f_X5_tellVariable (wsV RX5 30 RX2 yX2_advance w_f_X2_advance) := goodIn_app (nb_g4 (List.mem_cons_of_mem _ (List.mem_append_left _ (List.mem_append_left _ (List.mem_of_getElem? (i := 14) rfl)))) (List.mem_cons_of_mem _ (List.mem_append_left _ (List.mem_append_left _ (List.mem_of_getElem? (i := 15) rfl)))) (List.mem_cons_of_mem _ (List.mem_append_left _ (List.mem_append_left _ (List.mem_of_getElem? (i := 16) rfl)))) (List.mem_cons_of_mem _ (List.mem_append_left _ (List.mem_append_left _ (List.mem_of_getElem? (i := 17) rfl)))) (by decide +kernel)) gg_f_X5_tellVariable_X2_advance
theorem gg_f_X5_tellVariable_X5_checkName : GoodIn w_f_X5_tellVariable w_f_X5_checkName := goodIn_sub (fun w h => (List.mem_cons.mp h).elim (fun e => (List.mem_cons_of_mem _ (List.mem_append_left _ (List.mem_append_right _ (List.mem_append_left _ (List.mem_cons.mpr (Or.inl e))))))) (fun h => (List.mem_append.mp h).elim (fun h => (List.mem_cons_of_mem _ (List.mem_append_left _ (List.mem_append_right _ (List.mem_append_left _ (List.mem_cons_of_mem _ h)))))) (fun h => List.mem_cons_of_mem _ (List.mem_append_right _ h)))) w_f_X5_checkName_good
theorem g_f_X5_tellVariable_X5_checkName_V144 : GoodIn w_f_X5_tellVariable (wsV RX5 144 RX5 yX5_checkName w_f_X5_checkName) := goodIn_app (nb_g4 (List.mem_cons_of_mem _ (List.mem_append_left _ (List.mem_append_left _ (List.mem_of_getElem? (i := 0) rfl)))) (List.mem_cons_of_mem _ (List.mem_append_left _ (List.mem_append_left _ (List.mem_of_getElem? (i := 1) rfl)))) (List.mem_cons_of_mem _ (List.mem_append_left _ (List.mem_append_left _ (List.mem_of_getElem? (i := 2) rfl)))) (List.mem_cons_of_mem _ (List.mem_append_left _ (List.mem_append_left _ (List.mem_of_getElem? (i := 3) rfl)))) (by decide +kernel)) gg_f_X5_tellVariable_X5_checkName
theorem gg_f_X5_tellVariable_X7_newSlots__P : GoodIn w_f_X5_tellVariable w_y_X7_newSlots__P := goodIn_sub (fun w h => (List.mem_cons.mp h).elim (fun e => (List.mem_cons_of_mem _ (List.mem_append_left _ (List.mem_append_right _ (List.mem_append_right _ (List.mem_append_left _ (List.mem_cons.mpr (Or.inl e)))))))) (fun h => (List.mem_append.mp h).elim (fun h => (List.mem_cons_of_mem _ (List.mem_append_left _ (List.mem_append_right _ (List.mem_append_right _ (List.mem_append_left _ (List.mem_cons_of_mem _ h))))))) (fun h => List.mem_cons_of_mem _ (List.mem_append_right _ h)))) w_y_X7_newSlots__P_good
theorem g_y_X5_tellVariable_X7_newSlots__P_V157 : GoodIn w_f_X5_tellVariable (wsV RX5 157 RX7 yX7_newSlots w_y_X7_newSlots__P) := goodIn_app (nb_g4 (List.mem_cons_of_mem _ (List.mem_append_left _ (List.mem_append_left _ (List.mem_of_getElem? (i := 7) rfl)))) (List.mem_cons_of_mem _ (List.mem_append_left _ (List.mem_append_left _ (List.mem_of_getElem? (i := 8) rfl)))) (List.mem_cons_of_mem _ (List.mem_append_left _ (List.mem_append_left _ (List.mem_of_getElem? (i := 9) rfl)))) (List.mem_cons_of_mem _ (List.mem_append_left _ (List.mem_append_left _ (List.mem_of_getElem? (i := 10) rfl)))) (by decide +kernel)) gg_f_X5_tellVariable_X7_newSlots__P
theorem gg_f_X5_tellVariable_X7_tell__P : GoodIn w_f_X5_tellVariable w_y_X7_tell__P := goodIn_sub (fun w h => (List.mem_cons.mp h).elim (fun e => (List.mem_cons_of_mem _ (List.mem_append_left _ (List.mem_append_right _ (List.mem_append_right _ (List.mem_append_right _ (List.mem_append_left _ (List.mem_cons.mpr (Or.inl e))))))))) (fun h => (List.mem_append.mp h).elim (fun h => (List.mem_cons_of_mem _ (List.mem_append_left _ (List.mem_append_right _ (List.mem_append_right _ (List.mem_append_right _ (List.mem_append_left _ (List.mem_cons_of_mem _ h)))))))) (fun h => List.mem_cons_of_mem _ (List.mem_append_right _ h)))) w_y_X7_tell__P_good
theorem g_y_X5_tellVariable_X7_tell__P_V160 : GoodIn w_f_X5_tellVariable (wsV RX5 160 RX7 yX7_tell w_y_X7_tell__P) := goodIn_app (nb_g4 (List.mem_cons_of_mem _ (List.mem_append_left _ (List.mem_append_left _ (List.mem_of_getElem? (i := 11) rfl)))) (List.mem_cons_of_mem _ (List.mem_append_left _ (List.mem_append_left _ (List.mem_of_getElem? (i := 12) rfl)))) (List.mem_cons_of_mem _ (List.mem_append_left _ (List.mem_append_left _ (List.mem_of_getElem? (i := 13) rfl)))) (List.mem_cons_of_mem _ (List.mem_append_left _ (List.mem_append_left _ (List.mem_of_getElem? (i := 10) rfl)))) (by decide +kernel)) gg_f_X5_tellVariable_X7_tell__P
set_option maxHeartbeats 40000000 in
set_option maxRecDepth 100000 in
theorem c_f_X5_tellVariable (l : Launch) (hl0 : l.stackTraces = false) (dC : Nat → ClassId) (dI : Nat → Nat → Nat) (cy : Nat → ClassId) (ek a : Nat → Nat) (k0 : Nat) (L0 : LV) (σ0 : CS) (r0 : RS) (h0 : f_X5_tellVariable k0 0 L0 σ0 = some r0) (z : Nat → Nat) (sz : Nat) : vx_Met l yX5_tellVariable w_f_X5_tellVariable ({ frames := 8, cells := r0.2.2.1, slots := r0.2.2.2, locals := 143 }) (va_Pc [.ref (a 40), .int (L0.1 1)] (nInF (dC, dI) cy ek sz (vC cy a z σ0))) (xV dC dI cy a (va_A (vC cy a z σ0) sz) [] z r0) (xX dC dI cy a (va_A (vC cy a z σ0) sz) [] z r0) r0.2.2.1 r0.2.2.2 (va_A (vC cy a z σ0) sz) := by
  refine vx_ofW (cc := cX5_tellVariable) (maxL := 2) (ret := none) (by decide) rfl ?_
  intro p e s m args below meth c s₁ B hml hno hv
  obtain ⟨rfl, ⟨⟨hsz, hP, hK, hD0, hG⟩, hE⟩, hT⟩ := hv
  have hx := B.exec
  have hb := B.bytes
  have hr := B.returns
  have hts := atoms_spec (ws := w_f_X5_tellVariable) B.pre
  have hown : s.vm.findClass RX5 = some m.cls := findClass_of_methodNamed B.named
  have hlocks := B.notSynchronized
  subst hsz
  have hD := hD0.self (sz := s.heap.size)
  generalize hAe : va_A (vC cy a z σ0) s.heap.size = A at hD hE hT ⊢
  have hA : ∀ q : Nat, s.heap.size ≤ q → A q := fun q h => by rw [← hAe]; exact Or.inr h
  have hS : va_S A s.heap s.heap [] := va_S.rf
  have hl := lv_entry ([.ref (a 40), .int (L0.1 1)]) (n := 2) (Nat.le_of_ble_eq_true rfl)
  rw [lg_entry_eq]
  generalize (lg_sl ([.ref (a 40), .int (L0.1 1)]) ++ List.replicate (2 - (lg_sl ([.ref (a 40), .int (L0.1 1)])).length) Slot.unset).toArray = ls at hl ⊢
  have hl : lv_has ls 2 [(0, .ref (a 40)), (1, .int (L0.1 1))] := hl
  generalize hmc : r0.2.2.1 = mc
  generalize hms : r0.2.2.2 = ms
  have blk : ∀ k : Nat, (bX p l e (headSpec w_f_X5_tellVariable ({ frames := 8, cells := mc, slots := ms, locals := 143 })).room s m #[.ref (a 40), .int (L0.1 1)] below meth c dC dI cy a A (fun r => vx_MQ below (xV dC dI cy a A [] z r) (xX dC dI cy a A [] z r) #[.ref (a 40), .int (L0.1 1)] s mc ms A) [] z mc ms 2 (f_X5_tellVariable k 0) (fun z L => [(0, .ref (a 40)), (1, .int (L.1 1))]) 0 (fun z L => [])) := by
    intro k
    induction k with
    | zero => exact fun z c1 c2 L σ r h => (by cases h)
    | succ k ih =>
      skip
      · intro z cells slots L σ r h hzk hc hs H locs ls hP hD hS hl
        rw [f_X5_tellVariable] at h
        refine lv_aload_n hx hb dX5_tellVariable_0 rfl (lv_at hl 0 rfl) ?_
        refine lv_iload_n hx hb dX5_tellVariable_1 rfl (lv_at hl 1 rfl) ?_
        obtain ⟨r1, hc1, hle1, h9⟩ := ox_ex h
        clear h
        refine kx_v (vx_runV (As := [.int (L.1 1)]) (rest := []) ⟨hx, hb, hml, hown, hts⟩ (c_f_X5_checkName l hl0 dC dI cy ek a k (lI lZ 1 ((L.1 1))) σ r1 hc1 z H.size) (cwV 1 hts g_f_X5_tellVariable_X5_checkName_V144 rfl rfl rfl hd_f_X5_checkName ⟨Nat.le_of_ble_eq_true rfl, Nat.le_of_ble_eq_true rfl⟩) ⟨nb_blindF, va_recv hK hP (ci := 4) (q0 := 40) rfl rfl, (kx_pre hK hG hE hT hA hP hD hS)⟩ rfl rfl hl.1 rfl (lv_room (Nat.le_of_ble_eq_true rfl)) dX5_tellVariable_2 ⟨Nat.le_trans (Nat.add_le_add_left hle1.1 _) (Nat.le_of_eq hc), Nat.le_trans (Nat.add_le_add_left hle1.2 _) (Nat.le_of_eq hs)⟩) hK hA hzk hP hD hS (by decide) hno hlocks ?_
        rcases h9 with ⟨h00, y1, hny1, hy⟩ | ⟨h00, hy⟩
        · subst hy
          have h := hny1
          refine Or.inl ⟨h00, fun u H locs hz1 hzk hP hD hS => ?_⟩
          obtain rfl := (zk_nil hz1).symm
          replace hc := (Nat.add_assoc _ _ _).trans hc
          replace hs := (Nat.add_assoc _ _ _).trans hs
          refine lv_aload_n hx hb dX5_tellVariable_5 rfl (lv_at hl 0 rfl) ?_
          obtain ⟨b2, hb2, h⟩ := oP_ex h
          refine hgq_40_2 hx hb hts in_f_X5_tellVariable_X5 hown hK hP (hts _ (List.mem_cons_of_mem _ (List.mem_append_left _ (List.mem_append_left _ (List.mem_of_getElem? (i := 4) rfl))))) hb2 dX5_tellVariable_6 ?_
          refine hg_P_17n b2 hx hb hts in_f_X5_tellVariable_X7 hown hK hP (va_Nw.use rfl (hG.1 _ (List.mem_of_getElem? (i := 91) rfl))) dX5_tellVariable_9 ?_
          refine lv_aload_n hx hb dX5_tellVariable_12 rfl (lv_at hl 0 rfl) ?_
          refine hg_40_3 hx hb hts in_f_X5_tellVariable_X5 hown hK hP (hts _ (List.mem_cons_of_mem _ (List.mem_append_left _ (List.mem_append_left _ (List.mem_of_getElem? (i := 5) rfl))))) dX5_tellVariable_13 ?_
          refine lv_dup2_11 hx hb dX5_tellVariable_16 rfl rfl ?_
          obtain ⟨q3, h⟩ := kr_ite1 h
          refine hl_P17 b2 hx hb hK hP q3 dX5_tellVariable_17 ?_
          refine lv_iconst (v := 1) hx hb dX5_tellVariable_18 (by decide) ?_
          refine lv_iadd hx hb dX5_tellVariable_19 ?_
          obtain ⟨q4, h⟩ := kr_ite1 h
          refine hs_P17 b2 hx hb hK hP hD hS q4 dX5_tellVariable_20 (fun H locs hP hD hS => ?_)
          refine lv_aload_n hx hb dX5_tellVariable_21 rfl (lv_at hl 0 rfl) ?_
          obtain ⟨b5, hb5, h⟩ := oP_ex h
          refine hgq_40_2 hx hb hts in_f_X5_tellVariable_X5 hown hK hP (hts _ (List.mem_cons_of_mem _ (List.mem_append_left _ (List.mem_append_left _ (List.mem_of_getElem? (i := 4) rfl))))) hb5 dX5_tellVariable_22 ?_
          refine lv_aload_n hx hb dX5_tellVariable_25 rfl (lv_at hl 0 rfl) ?_
          refine hg_40_0 hx hb hts in_f_X5_tellVariable_X5 hown hK hP (hts _ (List.mem_cons_of_mem _ (List.mem_append_left _ (List.mem_append_left _ (List.mem_of_getElem? (i := 6) rfl))))) dX5_tellVariable_26 ?_
          refine hg_37_5n hx hb hts in_f_X5_tellVariable_X2 hown hK hP (va_Nw.use rfl (hG.1 _ (List.mem_of_getElem? (i := 58) rfl))) dX5_tellVariable_29 ?_
          refine lv_aload_n hx hb dX5_tellVariable_32 rfl (lv_at hl 0 rfl) ?_
          refine hg_40_0 hx hb hts in_f_X5_tellVariable_X5 hown hK hP (hts _ (List.mem_cons_of_mem _ (List.mem_append_left _ (List.mem_append_left _ (List.mem_of_getElem? (i := 6) rfl))))) dX5_tellVariable_33 ?_
          refine hg_37_6n hx hb hts in_f_X5_tellVariable_X2 hown hK hP (va_Nw.use rfl (hG.1 _ (List.mem_of_getElem? (i := 60) rfl))) dX5_tellVariable_36 ?_
          refine lv_iconst (v := 0) hx hb dX5_tellVariable_39 (by decide) ?_
          refine lv_aload_n hx hb dX5_tellVariable_40 rfl (lv_at hl 0 rfl) ?_
          refine hg_40_3 hx hb hts in_f_X5_tellVariable_X5 hown hK hP (hts _ (List.mem_cons_of_mem _ (List.mem_append_left _ (List.mem_append_left _ (List.mem_of_getElem? (i := 5) rfl))))) dX5_tellVariable_41 ?_
          refine lv_aload_n hx hb dX5_tellVariable_44 rfl (lv_at hl 0 rfl) ?_
          obtain ⟨b6, hb6, h⟩ := oP_ex h
          refine hgq_40_2 hx hb hts in_f_X5_tellVariable_X5 hown hK hP (hts _ (List.mem_cons_of_mem _ (List.mem_append_left _ (List.mem_append_left _ (List.mem_of_getElem? (i := 4) rfl))))) hb6 dX5_tellVariable_45 ?_
          refine lv_aload_n hx hb dX5_tellVariable_48 rfl (lv_at hl 0 rfl) ?_
          refine hg_40_3 hx hb hts in_f_X5_tellVariable_X5 hown hK hP (hts _ (List.mem_cons_of_mem _ (List.mem_append_left _ (List.mem_append_left _ (List.mem_of_getElem? (i := 5) rfl))))) dX5_tellVariable_49 ?_
          refine lv_iconst (v := 1) hx hb dX5_tellVariable_52 (by decide) ?_
          obtain ⟨r7, hc7, h⟩ := op_ex h
          refine kc_i (va_runV (As := [.int ((uA r1.2.1 (pR17 b2) ((r1.2.1.1 4003)).toNatClampNeg ((((r1.2.1.2.2.1 (pR17 b2) ((r1.2.1.1 4003)).toNatClampNeg)) + 1))).1 4003), .int 1]) (rest := [.int ((uA r1.2.1 (pR17 b2) ((r1.2.1.1 4003)).toNatClampNeg ((((r1.2.1.2.2.1 (pR17 b2) ((r1.2.1.1 4003)).toNatClampNeg)) + 1))).1 4003), .int 0, .long ((uA r1.2.1 (pR17 b2) ((r1.2.1.1 4003)).toNatClampNeg ((((r1.2.1.2.2.1 (pR17 b2) ((r1.2.1.1 4003)).toNatClampNeg)) + 1))).2.1 3706), .long ((uA r1.2.1 (pR17 b2) ((r1.2.1.1 4003)).toNatClampNeg ((((r1.2.1.2.2.1 (pR17 b2) ((r1.2.1.1 4003)).toNatClampNeg)) + 1))).2.1 3705), .ref (a (pA b5))]) ⟨hx, hb, hml, hown, hts⟩ (c_y_X7_newSlots__P l dC dI cy a z k (lI (lI (lB lZ 0 b6) 1 (((uA r1.2.1 (pR17 b2) ((r1.2.1.1 4003)).toNatClampNeg ((((r1.2.1.2.2.1 (pR17 b2) ((r1.2.1.1 4003)).toNatClampNeg)) + 1))).1 4003))) 2 1) (uA r1.2.1 (pR17 b2) ((r1.2.1.1 4003)).toNatClampNeg ((((r1.2.1.2.2.1 (pR17 b2) ((r1.2.1.1 4003)).toNatClampNeg)) + 1))) r7 hc7 H.size) (cwV 2 hts g_y_X5_tellVariable_X7_newSlots__P_V157 rfl rfl rfl hd_y_X7_newSlots__P ⟨Nat.le_of_ble_eq_true rfl, Nat.le_of_ble_eq_true rfl⟩) ⟨nb_blind, recvP b6 hK hP, (kb_pre hK hG hP hD)⟩ rfl rfl hl.1 rfl (lv_room (Nat.le_of_ble_eq_true rfl)) dX5_tellVariable_53 ⟨(Nat.le_trans (Nat.le_add_right _ _) (Nat.le_of_eq hc)), (Nat.le_trans (Nat.le_add_right _ _) (Nat.le_of_eq hs))⟩) hA hP hD hS (fun H locs hP hD hS => ?_)
          obtain ⟨r8, hc8, h⟩ := op_ex h
          refine kc_v (va_runV (As := [.long ((uA r1.2.1 (pR17 b2) ((r1.2.1.1 4003)).toNatClampNeg ((((r1.2.1.2.2.1 (pR17 b2) ((r1.2.1.1 4003)).toNatClampNeg)) + 1))).2.1 3705), .long ((uA r1.2.1 (pR17 b2) ((r1.2.1.1 4003)).toNatClampNeg ((((r1.2.1.2.2.1 (pR17 b2) ((r1.2.1.1 4003)).toNatClampNeg)) + 1))).2.1 3706), .int 0, .int ((uA r1.2.1 (pR17 b2) ((r1.2.1.1 4003)).toNatClampNeg ((((r1.2.1.2.2.1 (pR17 b2) ((r1.2.1.1 4003)).toNatClampNeg)) + 1))).1 4003), .int r7.1]) (rest := []) ⟨hx, hb, hml, hown, hts⟩ (c_y_X7_tell__P l dC dI cy a z k (lI (lI (lI (lJ (lJ (lB lZ 0 b5) 1 (((uA r1.2.1 (pR17 b2) ((r1.2.1.1 4003)).toNatClampNeg ((((r1.2.1.2.2.1 (pR17 b2) ((r1.2.1.1 4003)).toNatClampNeg)) + 1))).2.1 3705))) 3 (((uA r1.2.1 (pR17 b2) ((r1.2.1.1 4003)).toNatClampNeg ((((r1.2.1.2.2.1 (pR17 b2) ((r1.2.1.1 4003)).toNatClampNeg)) + 1))).2.1 3706))) 5 0) 6 (((uA r1.2.1 (pR17 b2) ((r1.2.1.1 4003)).toNatClampNeg ((((r1.2.1.2.2.1 (pR17 b2) ((r1.2.1.1 4003)).toNatClampNeg)) + 1))).1 4003))) 7 r7.1) r7.2 r8 hc8 H.size) (cwV 5 hts g_y_X5_tellVariable_X7_tell__P_V160 rfl rfl rfl hd_y_X7_tell__P ⟨Nat.le_of_ble_eq_true rfl, Nat.le_of_ble_eq_true rfl⟩) ⟨nb_blind, recvP b5 hK hP, (kb_pre hK hG hP hD)⟩ rfl rfl hl.1 rfl (lv_room (Nat.le_of_ble_eq_true rfl)) dX5_tellVariable_56 ⟨(Nat.le_trans (Nat.le_add_right _ _) (Nat.le_of_eq hc)), (Nat.le_trans (Nat.le_add_right _ _) (Nat.le_of_eq hs))⟩) hA hP hD hS (fun H locs hP hD hS => ?_)
          refine lv_aload_n hx hb dX5_tellVariable_59 rfl (lv_at hl 0 rfl) ?_
          refine hg_40_0 hx hb hts in_f_X5_tellVariable_X5 hown hK hP (hts _ (List.mem_cons_of_mem _ (List.mem_append_left _ (List.mem_append_left _ (List.mem_of_getElem? (i := 6) rfl))))) dX5_tellVariable_60 ?_
          obtain ⟨r9, hc9, hle9, h9⟩ := ox_ex h
          clear h
          refine kx_v (r := y1) (vx_runV (As := []) (rest := []) ⟨hx, hb, hml, hown, hts⟩ (c_f_X2_advance l hl0 dC dI cy ek a k lZ r8.2 r9 hc9 z H.size) (cwV 0 hts g_f_X5_tellVariable_X2_advance_V30 rfl rfl rfl hd_f_X2_advance ⟨Nat.le_of_ble_eq_true rfl, Nat.le_of_ble_eq_true rfl⟩) ⟨nb_blindF, va_recv hK hP (ci := 2) (q0 := 37) rfl rfl, (kx_pre hK hG hE hT hA hP hD hS)⟩ rfl rfl hl.1 rfl (lv_room (Nat.le_of_ble_eq_true rfl)) dX5_tellVariable_63 ⟨Nat.le_trans (Nat.add_le_add_left hle9.1 _) (Nat.le_of_eq hc), Nat.le_trans (Nat.add_le_add_left hle9.2 _) (Nat.le_of_eq hs)⟩) hK hA hzk hP hD hS (by decide) hno hlocks ?_
          rcases h9 with ⟨h00, y9, hny9, hy⟩ | ⟨h00, hy⟩
          · subst hy
            have h := hny9
            refine Or.inl ⟨h00, fun u H locs hz9 hzk hP hD hS => ?_⟩
            obtain rfl := (zk_nil hz9).symm
            replace hc := (Nat.add_assoc _ _ _).trans hc
            replace hs := (Nat.add_assoc _ _ _).trans hs
            obtain rfl := Option.some.inj h
            subst hc
            subst hs
            exact xr_v hx hb hr hK hzk hP hD hS hlocks dX5_tellVariable_66
          · subst hy
            exact Or.inr ⟨h00, rfl, hc, hs⟩
        · subst hy
          exact Or.inr ⟨h00, rfl, hc, hs⟩
  exact (blk k0) z 0 0 L0 σ0 r0 h0 (zk_rf _ _) ((Nat.zero_add _).trans hmc) ((Nat.zero_add _).trans hms) s.heap [] ls hP hD hS hl
/-! X5_expect -/
def f_X5_expect : Nat → Nat → LV → CS → Option RS
  | 0, _, _, _ => none
  | k + 1, 0, L, σ => if ((σ.1 3702)) = ((L.1 1)) then (f_X5_expect k 1 L σ) else (ox (f_X5_refuse k 0 (lI (lI lZ 1 2) 2 ((σ.1 3703))) σ) (fun r2 => f_X5_expect k 1 L r2.2.1))
  | k + 1, 1, L, σ => ox (f_X2_advance k 0 lZ σ) (fun r1 => some ((0, 0), r1.2.1, (0, 0)))
  | _ + 1, _ + 2, _, _ => none
def o_f_X5_expect : List Cond := [.fieldLink RX5 18 "SetHouse$Parser" "lex" "LSetHouse$Lexer;", .methodLink RX5 125 yX5_refuse, .instanceMethod yX5_refuse, .selects RX5 yX5_refuse yX5_refuse, .initialized RX5, .methodLink RX5 30 yX2_advance, .instanceMethod yX2_advance, .selects RX2 yX2_advance yX2_advance, .initialized RX2]
theorem o_f_X5_expect_good : o_f_X5_expect.all goodWord = true := by decide +kernel
def p_f_X5_expect : List Cond := o_f_X5_expect ++ ((.code yX5_refuse cX5_refuse 3 none :: p_f_X5_refuse) ++ ((.code yX2_advance cX2_advance 7 none :: p_f_X2_advance) ++ []))
theorem p_f_X5_expect_good : p_f_X5_expect.all goodWord = true := nb_all2 o_f_X5_expect_good (nb_all2 (nb_allc (by decide +kernel) p_f_X5_refuse_good) (nb_all2 (nb_allc (by decide +kernel) p_f_X2_advance_good) rfl))
def w_f_X5_expect : List Cond := .code yX5_expect cX5_expect 2 none :: (p_f_X5_expect ++ fC)
theorem w_f_X5_expect_good : w_f_X5_expect.all goodWord = true := nb_allc (by decide +kernel) (nb_all2 p_f_X5_expect_good fC_good)
theorem in_f_X5_expect_X2 : ∀ w ∈ wsX20, w ∈ w_f_X5_expect := fun _ h => List.mem_cons_of_mem _ (List.mem_append_right _ (List.mem_append_right _ (List.mem_append_right _ (List.mem_append_left _ h))))
theorem in_f_X5_expect_X5 : ∀ w ∈ wsX50, w ∈ w_f_X5_expect := fun _ h => List.mem_cons_of_mem _ (List.mem_append_right _ (List.mem_append_right _ (List.mem_append_right _ (List.mem_append_right _ (List.mem_append_right _ (List.mem_append_left _ h))))))
theorem hd_f_X5_expect : yX5_expect.cls = RX5 ∧ yX5_expect.cls ≠ "java/lang/invoke/MethodHandle" ∧ yX5_expect.cls ≠ "java/lang/invoke/VarHandle" ∧ (parseMethodDescriptor yX5_expect.desc).map (fun d => d.parameters.length) = some 1 := by decide +kernel
theorem gg_f_X5_expect_X2_advance : GoodIn w_f_X5_expect w_f_X2_advance := goodIn_sub (fun w h => (List.mem_cons.mp h).elim (fun e => (List.mem_cons_of_mem _ (List.mem_append_left _ (List.mem_append_right _ (List.mem_append_right _ (List.mem_append_left _ (List.mem_cons.mpr (Or.inl e)))))))) (fun h => (List.mem_append.mp h).elim (fun h => (List.mem_cons_of_mem _ (List.mem_append_left _ (List.mem_append_right _ (List.mem_append_right _ (List.mem_append_left _ (List.mem_cons_of_mem _ h))))))) (fun h => List.mem_cons_of_mem _ (List.mem_append_right _ h)))) w_f_X2_advance_good
theorem g_f_X5_expect_X2_advance_V30 : GoodIn w_f_X5_expect (wsV RX5 30 RX2 yX2_advance w_f_X2_advance) := goodIn_app (nb_g4 (List.mem_cons_of_mem _ (List.mem_append_left _ (List.mem_append_left _ (List.mem_of_getElem? (i := 5) rfl)))) (List.mem_cons_of_mem _ (List.mem_append_left _ (List.mem_append_left _ (List.mem_of_getElem? (i := 6) rfl)))) (List.mem_cons_of_mem _ (List.mem_append_left _ (List.mem_append_left _ (List.mem_of_getElem? (i := 7) rfl)))) (List.mem_cons_of_mem _ (List.mem_append_left _ (List.mem_append_left _ (List.mem_of_getElem? (i := 8) rfl)))) (by decide +kernel)) gg_f_X5_expect_X2_advance
theorem gg_f_X5_expect_X5_refuse : GoodIn w_f_X5_expect w_f_X5_refuse := goodIn_sub (fun w h => (List.mem_cons.mp h).elim (fun e => (List.mem_cons_of_mem _ (List.mem_append_left _ (List.mem_append_right _ (List.mem_append_left _ (List.mem_cons.mpr (Or.inl e))))))) (fun h => (List.mem_append.mp h).elim (fun h => (List.mem_cons_of_mem _ (List.mem_append_left _ (List.mem_append_right _ (List.mem_append_left _ (List.mem_cons_of_mem _ h)))))) (fun h => List.mem_cons_of_mem _ (List.mem_append_right _ h)))) w_f_X5_refuse_good
theorem g_f_X5_expect_X5_refuse_V125 : GoodIn w_f_X5_expect (wsV RX5 125 RX5 yX5_refuse w_f_X5_refuse) := goodIn_app (nb_g4 (List.mem_cons_of_mem _ (List.mem_append_left _ (List.mem_append_left _ (List.mem_of_getElem? (i := 1) rfl)))) (List.mem_cons_of_mem _ (List.mem_append_left _ (List.mem_append_left _ (List.mem_of_getElem? (i := 2) rfl)))) (List.mem_cons_of_mem _ (List.mem_append_left _ (List.mem_append_left _ (List.mem_of_getElem? (i := 3) rfl)))) (List.mem_cons_of_mem _ (List.mem_append_left _ (List.mem_append_left _ (List.mem_of_getElem? (i := 4) rfl)))) (by decide +kernel)) gg_f_X5_expect_X5_refuse
set_option maxHeartbeats 40000000 in
set_option maxRecDepth 100000 in
theorem c_f_X5_expect (l : Launch) (hl0 : l.stackTraces = false) (dC : Nat → ClassId) (dI : Nat → Nat → Nat) (cy : Nat → ClassId) (ek a : Nat → Nat) (k0 : Nat) (L0 : LV) (σ0 : CS) (r0 : RS) (h0 : f_X5_expect k0 0 L0 σ0 = some r0) (z : Nat → Nat) (sz : Nat) : vx_Met l yX5_expect w_f_X5_expect ({ frames := 7, cells := r0.2.2.1, slots := r0.2.2.2, locals := 126 }) (va_Pc [.ref (a 40), .int (L0.1 1)] (nInF (dC, dI) cy ek sz (vC cy a z σ0))) (xV dC dI cy a (va_A (vC cy a z σ0) sz) [] z r0) (xX dC dI cy a (va_A (vC cy a z σ0) sz) [] z r0) r0.2.2.1 r0.2.2.2 (va_A (vC cy a z σ0) sz) := by
  refine vx_ofW (cc := cX5_expect) (maxL := 2) (ret := none) (by decide) rfl ?_
  intro p e s m args below meth c s₁ B hml hno hv
  obtain ⟨rfl, ⟨⟨hsz, hP, hK, hD0, hG⟩, hE⟩, hT⟩ := hv
  have hx := B.exec
  have hb := B.bytes
  have hr := B.returns
  have hts := atoms_spec (ws := w_f_X5_expect) B.pre
  have hown : s.vm.findClass RX5 = some m.cls := findClass_of_methodNamed B.named
  have hlocks := B.notSynchronized
  subst hsz
  have hD := hD0.self (sz := s.heap.size)
  generalize hAe : va_A (vC cy a z σ0) s.heap.size = A at hD hE hT ⊢
  have hA : ∀ q : Nat, s.heap.size ≤ q → A q := fun q h => by rw [← hAe]; exact Or.inr h
  have hS : va_S A s.heap s.heap [] := va_S.rf
  have hl := lv_entry ([.ref (a 40), .int (L0.1 1)]) (n := 2) (Nat.le_of_ble_eq_true rfl)
  rw [lg_entry_eq]
  generalize (lg_sl ([.ref (a 40), .int (L0.1 1)]) ++ List.replicate (2 - (lg_sl ([.ref (a 40), .int (L0.1 1)])).length) Slot.unset).toArray = ls at hl ⊢
  have hl : lv_has ls 2 [(0, .ref (a 40)), (1, .int (L0.1 1))] := hl
  generalize hmc : r0.2.2.1 = mc
  generalize hms : r0.2.2.2 = ms
  have blk : ∀ k : Nat, (bX p l e (headSpec w_f_X5_expect ({ frames := 7, cells := mc, slots := ms, locals := 126 })).room s m #[.ref (a 40), .int (L0.1 1)] below meth c dC dI cy a A (fun r => vx_MQ below (xV dC dI cy a A [] z r) (xX dC dI cy a A [] z r) #[.ref (a 40), .int (L0.1 1)] s mc ms A) [] z mc ms 2 (f_X5_expect k 0) (fun z L => [(0, .ref (a 40)), (1, .int (L.1 1))]) 0 (fun z L => [])) ∧ (bX p l e (headSpec w_f_X5_expect ({ frames := 7, cells := mc, slots := ms, locals := 126 })).room s m #[.ref (a 40), .int (L0.1 1)] below meth c dC dI cy a A (fun r => vx_MQ below (xV dC dI cy a A [] z r) (xX dC dI cy a A [] z r) #[.ref (a 40), .int (L0.1 1)] s mc ms A) [] z mc ms 2 (f_X5_expect k 1) (fun z L => [(0, .ref (a 40))]) 23 (fun z L => [])) := by
    intro k
    induction k with
    | zero => exact ⟨fun z c1 c2 L σ r h => (by cases h), fun z c1 c2 L σ r h => (by cases h)⟩
    | succ k ih =>
      refine ⟨?_, ?_⟩
      · intro z cells slots L σ r h hzk hc hs H locs ls hP hD hS hl
        rw [f_X5_expect] at h
        refine lv_aload_n hx hb dX5_expect_0 rfl (lv_at hl 0 rfl) ?_
        refine hg_40_0 hx hb hts in_f_X5_expect_X5 hown hK hP (hts _ (List.mem_cons_of_mem _ (List.mem_append_left _ (List.mem_append_left _ (List.mem_of_getElem? (i := 0) rfl))))) dX5_expect_1 ?_
        refine hg_37_2n hx hb hts in_f_X5_expect_X2 hown hK hP (va_Nw.use rfl (hG.1 _ (List.mem_of_getElem? (i := 52) rfl))) dX5_expect_4 ?_
        refine lv_iload_n hx hb dX5_expect_7 rfl (lv_at hl 1 rfl) ?_
        refine lv_icmp_eq (tgt := 23) hx hb dX5_expect_8 (by decide) (fun c1 => ?_) (fun c1 => ?_)
        · rw [if_pos c1] at h
          exact ih.2 z _ _ L σ _ h hzk hc hs H locs ls hP hD hS (lv_sub hl [0] rfl)
        · rw [if_neg c1] at h
          refine lv_aload_n hx hb dX5_expect_11 rfl (lv_at hl 0 rfl) ?_
          refine lv_iconst (v := 2) hx hb dX5_expect_12 (by decide) ?_
          refine lv_aload_n hx hb dX5_expect_13 rfl (lv_at hl 0 rfl) ?_
          refine hg_40_0 hx hb hts in_f_X5_expect_X5 hown hK hP (hts _ (List.mem_cons_of_mem _ (List.mem_append_left _ (List.mem_append_left _ (List.mem_of_getElem? (i := 0) rfl))))) dX5_expect_14 ?_
          refine hg_37_3n hx hb hts in_f_X5_expect_X2 hown hK hP (va_Nw.use rfl (hG.1 _ (List.mem_of_getElem? (i := 54) rfl))) dX5_expect_17 ?_
          obtain ⟨r2, hc2, hle2, h9⟩ := ox_ex h
          clear h
          refine kx_v (vx_runV (As := [.int 2, .int (σ.1 3703)]) (rest := []) ⟨hx, hb, hml, hown, hts⟩ (c_f_X5_refuse l hl0 dC dI cy ek a k (lI (lI lZ 1 2) 2 ((σ.1 3703))) σ r2 hc2 z H.size) (cwV 2 hts g_f_X5_expect_X5_refuse_V125 rfl rfl rfl hd_f_X5_refuse ⟨Nat.le_of_ble_eq_true rfl, Nat.le_of_ble_eq_true rfl⟩) ⟨nb_blindF, va_recv hK hP (ci := 4) (q0 := 40) rfl rfl, (kx_pre hK hG hE hT hA hP hD hS)⟩ rfl rfl hl.1 rfl (lv_room (Nat.le_of_ble_eq_true rfl)) dX5_expect_20 ⟨Nat.le_trans (Nat.add_le_add_left hle2.1 _) (Nat.le_of_eq hc), Nat.le_trans (Nat.add_le_add_left hle2.2 _) (Nat.le_of_eq hs)⟩) hK hA hzk hP hD hS (by decide) hno hlocks ?_
          rcases h9 with ⟨h00, y2, hny2, hy⟩ | ⟨h00, hy⟩
          · subst hy
            have h := hny2
            refine Or.inl ⟨h00, fun u H locs hz2 hzk hP hD hS => ?_⟩
            obtain rfl := (zk_nil hz2).symm
            replace hc := (Nat.add_assoc _ _ _).trans hc
            replace hs := (Nat.add_assoc _ _ _).trans hs
            exact ih.2 z _ _ L r2.2.1 _ h hzk hc hs H locs ls hP hD hS (lv_sub hl [0] rfl)
          · subst hy
            exact Or.inr ⟨h00, rfl, hc, hs⟩
      · intro z cells slots L σ r h hzk hc hs H locs ls hP hD hS hl
        rw [f_X5_expect] at h
        refine lv_aload_n hx hb dX5_expect_23 rfl (lv_at hl 0 rfl) ?_
        refine hg_40_0 hx hb hts in_f_X5_expect_X5 hown hK hP (hts _ (List.mem_cons_of_mem _ (List.mem_append_left _ (List.mem_append_left _ (List.mem_of_getElem? (i := 0) rfl))))) dX5_expect_24 ?_
        obtain ⟨r1, hc1, hle1, h9⟩ := ox_ex h
        clear h
        refine kx_v (vx_runV (As := []) (rest := []) ⟨hx, hb, hml, hown, hts⟩ (c_f_X2_advance l hl0 dC dI cy ek a k lZ σ r1 hc1 z H.size) (cwV 0 hts g_f_X5_expect_X2_advance_V30 rfl rfl rfl hd_f_X2_advance ⟨Nat.le_of_ble_eq_true rfl, Nat.le_of_ble_eq_true rfl⟩) ⟨nb_blindF, va_recv hK hP (ci := 2) (q0 := 37) rfl rfl, (kx_pre hK hG hE hT hA hP hD hS)⟩ rfl rfl hl.1 rfl (lv_room (Nat.le_of_ble_eq_true rfl)) dX5_expect_27 ⟨Nat.le_trans (Nat.add_le_add_left hle1.1 _) (Nat.le_of_eq hc), Nat.le_trans (Nat.add_le_add_left hle1.2 _) (Nat.le_of_eq hs)⟩) hK hA hzk hP hD hS (by decide) hno hlocks ?_
        rcases h9 with ⟨h00, y1, hny1, hy⟩ | ⟨h00, hy⟩
        · subst hy
          have h := hny1
          refine Or.inl ⟨h00, fun u H locs hz1 hzk hP hD hS => ?_⟩
          obtain rfl := (zk_nil hz1).symm
          replace hc := (Nat.add_assoc _ _ _).trans hc
          replace hs := (Nat.add_assoc _ _ _).trans hs
          obtain rfl := Option.some.inj h
          subst hc
          subst hs
          exact xr_v hx hb hr hK hzk hP hD hS hlocks dX5_expect_30
        · subst hy
          exact Or.inr ⟨h00, rfl, hc, hs⟩
  exact (blk k0).1 z 0 0 L0 σ0 r0 h0 (zk_rf _ _) ((Nat.zero_add _).trans hmc) ((Nat.zero_add _).trans hms) s.heap [] ls hP hD hS hl
/-! X5_variables -/
def f_X5_variables : Nat → Nat → LV → CS → Option RS
  | 0, _, _, _ => none
  | k + 1, 0, L, σ => ox (f_X2_advance k 0 lZ σ) (fun r1 => ox (f_X5_tellVariable k 0 (lI lZ 1 ((L.1 1))) r1.2.1) (fun r2 => f_X5_variables k 1 (lI L 2 0) r2.2.1))
  | k + 1, 1, L, σ => if 32768 < ((L.1 2)) then (f_X5_variables k 2 L σ) else (if ((σ.1 3702)) = 16 then (ox (f_X2_advance k 0 lZ σ) (fun r3 => ox (f_X5_tellVariable k 0 (lI lZ 1 ((L.1 1))) r3.2.1) (fun r4 => f_X5_variables k 1 (lI L 2 ((((L.1 2)) + 1))) r4.2.1))) else (f_X5_variables k 2 L σ))
  | k + 1, 2, L, σ => ox (f_X5_expect k 0 (lI lZ 1 17) σ) (fun r1 => some ((0, 0), r1.2.1, (0, 0)))
  | _ + 1, _ + 3, _, _ => none
def o_f_X5_variables : List Cond := [.fieldLink RX5 18 "SetHouse$Parser" "lex" "LSetHouse$Lexer;", .methodLink RX5 30 yX2_advance, .instanceMethod yX2_advance, .selects RX2 yX2_advance yX2_advance, .initialized RX2, .methodLink RX5 138 yX5_tellVariable, .instanceMethod yX5_tellVariable, .selects RX5 yX5_tellVariable yX5_tellVariable, .initialized RX5, .constant RX5 35 (32768), .methodLink RX5 141 yX5_expect, .instanceMethod yX5_expect, .selects RX5 yX5_expect yX5_expect]
theorem o_f_X5_variables_good : o_f_X5_variables.all goodWord = true := by decide +kernel
def p_f_X5_variables : List Cond := o_f_X5_variables ++ ((.code yX2_advance cX2_advance 7 none :: p_f_X2_advance) ++ ((.code yX5_tellVariable cX5_tellVariable 2 none :: p_f_X5_tellVariable) ++ ((.code yX5_expect cX5_expect 2 none :: p_f_X5_expect) ++ [])))
theorem p_f_X5_variables_good : p_f_X5_variables.all goodWord = true := nb_all2 o_f_X5_variables_good (nb_all2 (nb_allc (by decide +kernel) p_f_X2_advance_good) (nb_all2 (nb_allc (by decide +kernel) p_f_X5_tellVariable_good) (nb_all2 (nb_allc (by decide +kernel) p_f_X5_expect_good) rfl)))
def w_f_X5_variables : List Cond := .code yX5_variables cX5_variables 3 none :: (p_f_X5_variables ++ fC)
theorem w_f_X5_variables_good : w_f_X5_variables.all goodWord = true := nb_allc (by decide +kernel) (nb_all2 p_f_X5_variables_good fC_good)
theorem in_f_X5_variables_X2 : ∀ w ∈ wsX20, w ∈ w_f_X5_variables := fun _ h => List.mem_cons_of_mem _ (List.mem_append_right _ (List.mem_append_right _ (List.mem_append_right _ (List.mem_append_left _ h))))
theorem in_f_X5_variables_X5 : ∀ w ∈ wsX50, w ∈ w_f_X5_variables := fun _ h => List.mem_cons_of_mem _ (List.mem_append_right _ (List.mem_append_right _ (List.mem_append_right _ (List.mem_append_right _ (List.mem_append_right _ (List.mem_append_left _ h))))))
theorem hd_f_X5_variables : yX5_variables.cls = RX5 ∧ yX5_variables.cls ≠ "java/lang/invoke/MethodHandle" ∧ yX5_variables.cls ≠ "java/lang/invoke/VarHandle" ∧ (parseMethodDescriptor yX5_variables.desc).map (fun d => d.parameters.length) = some 1 := by decide +kernel
theorem gg_f_X5_variables_X2_advance : GoodIn w_f_X5_variables w_f_X2_advance := goodIn_sub (fun w h => (List.mem_cons.mp h).elim (fun e => (List.mem_cons_of_mem _ (List.mem_append_left _ (List.mem_append_right _ (List.mem_append_left _ (List.mem_cons.mpr (Or.inl e))))))) (fun h => (List.mem_append.mp h).elim (fun h => (List.mem_cons_of_mem _ (List.mem_append_left _ (List.mem_append_right _ (List.mem_append_left _ (List.mem_cons_of_mem _ h)))))) (fun h => List.mem_cons_of_mem _ (List.mem_append_right _ h)))) w_f_X2_advance_good
theorem g_f_X5_variables_X2_advance_V30 : GoodIn w_f_X5_variables (wsV RX5 30 RX2 yX2_advance w_f_X2_advance) := goodIn_app (nb_g4 (List.mem_cons_of_mem _ (List.mem_append_left _ (List.mem_append_left _ (List.mem_of_getElem? (i := 1) rfl)))) (List.mem_cons_of_mem _ (List.mem_append_left _ (List.mem_append_left _ (List.mem_of_getElem? (i := 2) rfl)))) (List.mem_cons_of_mem _ (List.mem_append_left _ (List.mem_append_left _ (List.mem_of_getElem? (i := 3) rfl)))) (List.mem_cons_of_mem _ (List.mem_append_left _ (List.mem_append_left _ (List.mem_of_getElem? (i := 4) rfl)))) (by decide +kernel)) gg_f_X5_variables_X2_advance
theorem gg_f_X5_variables_X5_expect : GoodIn w_f_X5_variables w_f_X5_expect := goodIn_sub (fun w h => (List.mem_cons.mp h).elim (fun e => (List.mem_cons_of_mem _ (List.mem_append_left _ (List.mem_append_right _ (List.mem_append_right _ (List.mem_append_right _ (List.mem_append_left _ (List.mem_cons.mpr (Or.inl e))))))))) (fun h => (List.mem_append.mp h).elim (fun h => (List.mem_cons_of_mem _ (List.mem_append_left _ (List.mem_append_right _ (List.mem_append_right _ (List.mem_append_right _ (List.mem_append_left _ (List.mem_cons_of_mem _ h)))))))) (fun h => List.mem_cons_of_mem _ (List.mem_append_right _ h)))) w_f_X5_expect_good
theorem g_f_X5_variables_X5_expect_V141 : GoodIn w_f_X5_variables (wsV RX5 141 RX5 yX5_expect w_f_X5_expect) := goodIn_app (nb_g4 (List.mem_cons_of_mem _ (List.mem_append_left _ (List.mem_append_left _ (List.mem_of_getElem? (i := 10) rfl)))) (List.mem_cons_of_mem _ (List.mem_append_left _ (List.mem_append_left _ (List.mem_of_getElem? (i := 11) rfl)))) (List.mem_cons_of_mem _ (List.mem_append_left _ (List.mem_append_left _ (List.mem_of_getElem? (i := 12) rfl)))) (List.mem_cons_of_mem _ (List.mem_append_left _ (List.mem_append_left _ (List.mem_of_getElem? (i := 8) rfl)))) (by decide +kernel)) gg_f_X5_variables_X5_expect
theorem gg_f_X5_variables_X5_tellVariable : GoodIn w_f_X5_variables w_f_X5_tellVariable := goodIn_sub (fun w h => (List.mem_cons.mp h).elim (fun e => (List.mem_cons_of_mem _ (List.mem_append_left _ (List.mem_append_right _ (List.mem_append_right _ (List.mem_append_left _ (List.mem_cons.mpr (Or.inl e)))))))) (fun h => (List.mem_append.mp h).elim (fun h => (List.mem_cons_of_mem _ (List.mem_append_left _ (List.mem_append_right _ (List.mem_append_right _ (List.mem_append_left _ (List.mem_cons_of_mem _ h))))))) (fun h => List.mem_cons_of_mem _ (List.mem_append_right _ h)))) w_f_X5_tellVariable_good
theorem g_f_X5_variables_X5_tellVariable_V138 : GoodIn w_f_X5_variables (wsV RX5 138 RX5 yX5_tellVariable w_f_X5_tellVariable) := goodIn_app (nb_g4 (List.mem_cons_of_mem _ (List.mem_append_left _ (List.mem_append_left _ (List.mem_of_getElem? (i := 5) rfl)))) (List.mem_cons_of_mem _ (List.mem_append_left _ (List.mem_append_left _ (List.mem_of_getElem? (i := 6) rfl)))) (List.mem_cons_of_mem _ (List.mem_append_left _ (List.mem_append_left _ (List.mem_of_getElem? (i := 7) rfl)))) (List.mem_cons_of_mem _ (List.mem_append_left _ (List.mem_append_left _ (List.mem_of_getElem? (i := 8) rfl)))) (by decide +kernel)) gg_f_X5_variables_X5_tellVariable
set_option maxHeartbeats 40000000 in
set_option maxRecDepth 100000 in
theorem c_f_X5_variables (l : Launch) (hl0 : l.stackTraces = false) (dC : Nat → ClassId) (dI : Nat → Nat → Nat) (cy : Nat → ClassId) (ek a : Nat → Nat) (k0 : Nat) (L0 : LV) (σ0 : CS) (r0 : RS) (h0 : f_X5_variables k0 0 L0 σ0 = some r0) (z : Nat → Nat) (sz : Nat) : vx_Met l yX5_variables w_f_X5_variables ({ frames := 9, cells := r0.2.2.1, slots := r0.2.2.2, locals := 164 }) (va_Pc [.ref (a 40), .int (L0.1 1)] (nInF (dC, dI) cy ek sz (vC cy a z σ0))) (xV dC dI cy a (va_A (vC cy a z σ0) sz) [] z r0) (xX dC dI cy a (va_A (vC cy a z σ0) sz) [] z r0) r0.2.2.1 r0.2.2.2 (va_A (vC cy a z σ0) sz) := by
  refine vx_ofW (cc := cX5_variables) (maxL := 3) (ret := none) (by decide) rfl ?_
  intro p e s m args below meth c s₁ B hml hno hv
  obtain ⟨rfl, ⟨⟨hsz, hP, hK, hD0, hG⟩, hE⟩, hT⟩ := hv
  have hx := B.exec
  have hb := B.bytes
  have hr := B.returns
  have hts := atoms_spec (ws := w_f_X5_variables) B.pre
  have hown : s.vm.findClass RX5 = some m.cls := findClass_of_methodNamed B.named
  have hlocks := B.notSynchronized
  subst hsz
  have hD := hD0.self (sz := s.heap.size)
  generalize hAe : va_A (vC cy a z σ0) s.heap.size = A at hD hE hT ⊢
  have hA : ∀ q : Nat, s.heap.size ≤ q → A q := fun q h => by rw [← hAe]; exact Or.inr h
  have hS : va_S A s.heap s.heap [] := va_S.rf
  have hl := lv_entry ([.ref (a 40), .int (L0.1 1)]) (n := 3) (Nat.le_of_ble_eq_true rfl)
  rw [lg_entry_eq]
  generalize (lg_sl ([.ref (a 40), .int (L0.1 1)]) ++ List.replicate (3 - (lg_sl ([.ref (a 40), .int (L0.1 1)])).length) Slot.unset).toArray = ls at hl ⊢
  have hl : lv_has ls 3 [(0, .ref (a 40)), (1, .int (L0.1 1))] := hl
  generalize hmc : r0.2.2.1 = mc
  generalize hms : r0.2.2.2 = ms
  have blk : ∀ k : Nat, (bX p l e (headSpec w_f_X5_variables ({ frames := 9, cells := mc, slots := ms, locals := 164 })).room s m #[.ref (a 40), .int (L0.1 1)] below meth c dC dI cy a A (fun r => vx_MQ below (xV dC dI cy a A [] z r) (xX dC dI cy a A [] z r) #[.ref (a 40), .int (L0.1 1)] s mc ms A) [] z mc ms 3 (f_X5_variables k 0) (fun z L => [(0, .ref (a 40)), (1, .int (L.1 1))]) 0 (fun z L => [])) ∧ (bX p l e (headSpec w_f_X5_variables ({ frames := 9, cells := mc, slots := ms, locals := 164 })).room s m #[.ref (a 40), .int (L0.1 1)] below meth c dC dI cy a A (fun r => vx_MQ below (xV dC dI cy a A [] z r) (xX dC dI cy a A [] z r) #[.ref (a 40), .int (L0.1 1)] s mc ms A) [] z mc ms 3 (f_X5_variables k 1) (fun z L => [(0, .ref (a 40)), (1, .int (L.1 1)), (2, .int (L.1 2))]) 14 (fun z L => [])) ∧ (bX p l e (headSpec w_f_X5_variables ({ frames := 9, cells := mc, slots := ms, locals := 164 })).room s m #[.ref (a 40), .int (L0.1 1)] below meth c dC dI cy a A (fun r => vx_MQ below (xV dC dI cy a A [] z r) (xX dC dI cy a A [] z r) #[.ref (a 40), .int (L0.1 1)] s mc ms A) [] z mc ms 3 (f_X5_variables k 2) (fun z L => [(0, .ref (a 40))]) 50 (fun z L => [])) := by
    intro k
    induction k with
    | zero => exact ⟨fun z c1 c2 L σ r h => (by cases h), fun z c1 c2 L σ r h => (by cases h), fun z c1 c2 L σ r h => (by cases h)⟩
    | succ k ih =>
      refine ⟨?_, ?_, ?_⟩
      · intro z cells slots L σ r h hzk hc hs H locs ls hP hD hS hl
        rw [f_X5_variables] at h
        refine lv_aload_n hx hb dX5_variables_0 rfl (lv_at hl 0 rfl) ?_
        refine hg_40_0 hx hb hts in_f_X5_variables_X5 hown hK hP (hts _ (List.mem_cons_of_mem _ (List.mem_append_left _ (List.mem_append_left _ (List.mem_of_getElem? (i := 0) rfl))))) dX5_variables_1 ?_
        obtain ⟨r1, hc1, hle1, h9⟩ := ox_ex h
        clear h
        refine kx_v (vx_runV (As := []) (rest := []) ⟨hx, hb, hml, hown, hts⟩ (c_f_X2_advance l hl0 dC dI cy ek a k lZ σ r1 hc1 z H.size) (cwV 0 hts g_f_X5_variables_X2_advance_V30 rfl rfl rfl hd_f_X2_advance ⟨Nat.le_of_ble_eq_true rfl, Nat.le_of_ble_eq_true rfl⟩) ⟨nb_blindF, va_recv hK hP (ci := 2) (q0 := 37) rfl rfl, (kx_pre hK hG hE hT hA hP hD hS)⟩ rfl rfl hl.1 rfl (lv_room (Nat.le_of_ble_eq_true rfl)) dX5_variables_4 ⟨Nat.le_trans (Nat.add_le_add_left hle1.1 _) (Nat.le_of_eq hc), Nat.le_trans (Nat.add_le_add_left hle1.2 _) (Nat.le_of_eq hs)⟩) hK hA hzk hP hD hS (by decide) hno hlocks ?_
        rcases h9 with ⟨h00, y1, hny1, hy⟩ | ⟨h00, hy⟩
        · subst hy
          have h := hny1
          refine Or.inl ⟨h00, fun u H locs hz1 hzk hP hD hS => ?_⟩
          obtain rfl := (zk_nil hz1).symm
          replace hc := (Nat.add_assoc _ _ _).trans hc
          replace hs := (Nat.add_assoc _ _ _).trans hs
          refine lv_aload_n hx hb dX5_variables_7 rfl (lv_at hl 0 rfl) ?_
          refine lv_iload_n hx hb dX5_variables_8 rfl (lv_at hl 1 rfl) ?_
          obtain ⟨r2, hc2, hle2, h9⟩ := ox_ex h
          clear h
          refine kx_v (r := y1) (vx_runV (As := [.int (L.1 1)]) (rest := []) ⟨hx, hb, hml, hown, hts⟩ (c_f_X5_tellVariable l hl0 dC dI cy ek a k (lI lZ 1 ((L.1 1))) r1.2.1 r2 hc2 z H.size) (cwV 1 hts g_f_X5_variables_X5_tellVariable_V138 rfl rfl rfl hd_f_X5_tellVariable ⟨Nat.le_of_ble_eq_true rfl, Nat.le_of_ble_eq_true rfl⟩) ⟨nb_blindF, va_recv hK hP (ci := 4) (q0 := 40) rfl rfl, (kx_pre hK hG hE hT hA hP hD hS)⟩ rfl rfl hl.1 rfl (lv_room (Nat.le_of_ble_eq_true rfl)) dX5_variables_9 ⟨Nat.le_trans (Nat.add_le_add_left hle2.1 _) (Nat.le_of_eq hc), Nat.le_trans (Nat.add_le_add_left hle2.2 _) (Nat.le_of_eq hs)⟩) hK hA hzk hP hD hS (by decide) hno hlocks ?_
          rcases h9 with ⟨h00, y2, hny2, hy⟩ | ⟨h00, hy⟩
          · subst hy
            have h := hny2
            refine Or.inl ⟨h00, fun u H locs hz2 hzk hP hD hS => ?_⟩
            obtain rfl := (zk_nil hz2).symm
            replace hc := (Nat.add_assoc _ _ _).trans hc
            replace hs := (Nat.add_assoc _ _ _).trans hs
            refine lv_iconst (v := 0) hx hb dX5_variables_12 (by decide) ?_
            refine lv_istore_n (lv' := [(2, .int 0), (0, .ref (a 40)), (1, .int (L.1 1))]) hx hb dX5_variables_13 rfl hl (by decide) rfl (fun ls hl => ?_)
            exact ih.2.1 z _ _ (lI L 2 0) r2.2.1 _ h hzk hc hs H locs ls hP hD hS (lv_sub hl [1, 2, 0] rfl)
          · subst hy
            exact Or.inr ⟨h00, rfl, hc, hs⟩
        · subst hy
          exact Or.inr ⟨h00, rfl, hc, hs⟩
      · intro z cells slots L σ r h hzk hc hs H locs ls hP hD hS hl
        rw [f_X5_variables] at h
        refine lv_iload_n hx hb dX5_variables_14 rfl (lv_at hl 2 rfl) ?_
        refine lv_ldc (v := 32768) hx hb hown (hts _ (List.mem_cons_of_mem _ (List.mem_append_left _ (List.mem_append_left _ (List.mem_of_getElem? (i := 9) rfl))))) dX5_variables_15 ?_
        refine lv_icmp_gt (tgt := 50) hx hb dX5_variables_17 (by decide) (fun c1 => ?_) (fun c1 => ?_)
        · rw [if_pos c1] at h
          exact ih.2.2 z _ _ L σ _ h hzk hc hs H locs ls hP hD hS (lv_sub hl [0] rfl)
        · rw [if_neg c1] at h
          refine lv_aload_n hx hb dX5_variables_20 rfl (lv_at hl 0 rfl) ?_
          refine hg_40_0 hx hb hts in_f_X5_variables_X5 hown hK hP (hts _ (List.mem_cons_of_mem _ (List.mem_append_left _ (List.mem_append_left _ (List.mem_of_getElem? (i := 0) rfl))))) dX5_variables_21 ?_
          refine hg_37_2n hx hb hts in_f_X5_variables_X2 hown hK hP (va_Nw.use rfl (hG.1 _ (List.mem_of_getElem? (i := 52) rfl))) dX5_variables_24 ?_
          refine lv_bipush (v := 16) hx hb dX5_variables_27 (by decide) ?_
          refine lv_icmp_ne (tgt := 50) hx hb dX5_variables_29 (by decide) (fun c2 => ?_) (fun c2 => ?_)
          · rw [if_neg c2] at h
            exact ih.2.2 z _ _ L σ _ h hzk hc hs H locs ls hP hD hS (lv_sub hl [0] rfl)
          · rw [if_pos c2] at h
            refine lv_aload_n hx hb dX5_variables_32 rfl (lv_at hl 0 rfl) ?_
            refine hg_40_0 hx hb hts in_f_X5_variables_X5 hown hK hP (hts _ (List.mem_cons_of_mem _ (List.mem_append_left _ (List.mem_append_left _ (List.mem_of_getElem? (i := 0) rfl))))) dX5_variables_33 ?_
            obtain ⟨r3, hc3, hle3, h9⟩ := ox_ex h
            clear h
            refine kx_v (vx_runV (As := []) (rest := []) ⟨hx, hb, hml, hown, hts⟩ (c_f_X2_advance l hl0 dC dI cy ek a k lZ σ r3 hc3 z H.size) (cwV 0 hts g_f_X5_variables_X2_advance_V30 rfl rfl rfl hd_f_X2_advance ⟨Nat.le_of_ble_eq_true rfl, Nat.le_of_ble_eq_true rfl⟩) ⟨nb_blindF, va_recv hK hP (ci := 2) (q0 := 37) rfl rfl, (kx_pre hK hG hE hT hA hP hD hS)⟩ rfl rfl hl.1 rfl (lv_room (Nat.le_of_ble_eq_true rfl)) dX5_variables_36 ⟨Nat.le_trans (Nat.add_le_add_left hle3.1 _) (Nat.le_of_eq hc), Nat.le_trans (Nat.add_le_add_left hle3.2 _) (Nat.le_of_eq hs)⟩) hK hA hzk hP hD hS (by decide) hno hlocks ?_
            rcases h9 with ⟨h00, y3, hny3, hy⟩ | ⟨h00, hy⟩
            · subst hy
              have h := hny3
              refine Or.inl ⟨h00, fun u H locs hz3 hzk hP hD hS => ?_⟩
              obtain rfl := (zk_nil hz3).symm
              replace hc := (Nat.add_assoc _ _ _).trans hc
              replace hs := (Nat.add_assoc _ _ _).trans hs
              refine lv_aload_n hx hb dX5_variables_39 rfl (lv_at hl 0 rfl) ?_
              refine lv_iload_n hx hb dX5_variables_40 rfl (lv_at hl 1 rfl) ?_
              obtain ⟨r4, hc4, hle4, h9⟩ := ox_ex h
              clear h
              refine kx_v (r := y3) (vx_runV (As := [.int (L.1 1)]) (rest := []) ⟨hx, hb, hml, hown, hts⟩ (c_f_X5_tellVariable l hl0 dC dI cy ek a k (lI lZ 1 ((L.1 1))) r3.2.1 r4 hc4 z H.size) (cwV 1 hts g_f_X5_variables_X5_tellVariable_V138 rfl rfl rfl hd_f_X5_tellVariable ⟨Nat.le_of_ble_eq_true rfl, Nat.le_of_ble_eq_true rfl⟩) ⟨nb_blindF, va_recv hK hP (ci := 4) (q0 := 40) rfl rfl, (kx_pre hK hG hE hT hA hP hD hS)⟩ rfl rfl hl.1 rfl (lv_room (Nat.le_of_ble_eq_true rfl)) dX5_variables_41 ⟨Nat.le_trans (Nat.add_le_add_left hle4.1 _) (Nat.le_of_eq hc), Nat.le_trans (Nat.add_le_add_left hle4.2 _) (Nat.le_of_eq hs)⟩) hK hA hzk hP hD hS (by decide) hno hlocks ?_
              rcases h9 with ⟨h00, y4, hny4, hy⟩ | ⟨h00, hy⟩
              · subst hy
                have h := hny4
                refine Or.inl ⟨h00, fun u H locs hz4 hzk hP hD hS => ?_⟩
                obtain rfl := (zk_nil hz4).symm
                replace hc := (Nat.add_assoc _ _ _).trans hc
                replace hs := (Nat.add_assoc _ _ _).trans hs
                refine lv_iinc (v := ((L.1 2)) + 1) (lv' := [(2, .int (((L.1 2)) + 1)), (0, .ref (a 40)), (1, .int (L.1 1))]) hx hb dX5_variables_44 hl (k := 2) rfl rfl (by decide) rfl (fun ls hl => ?_)
                refine lv_goto (tgt := 14) hx hb dX5_variables_47 (by decide) ?_
                exact ih.2.1 z _ _ (lI L 2 ((((L.1 2)) + 1))) r4.2.1 _ h hzk hc hs H locs ls hP hD hS (lv_sub hl [1, 2, 0] rfl)
              · subst hy
                exact Or.inr ⟨h00, rfl, hc, hs⟩
            · subst hy
              exact Or.inr ⟨h00, rfl, hc, hs⟩
      · intro z cells slots L σ r h hzk hc hs H locs ls hP hD hS hl
        rw [f_X5_variables] at h
        refine lv_aload_n hx hb dX5_variables_50 rfl (lv_at hl 0 rfl) ?_
        refine lv_bipush (v := 17) hx hb dX5_variables_51 (by decide) ?_
        obtain ⟨r1, hc1, hle1, h9⟩ := ox_ex h
        clear h
        refine kx_v (vx_runV (As := [.int 17]) (rest := []) ⟨hx, hb, hml, hown, hts⟩ (c_f_X5_expect l hl0 dC dI cy ek a k (lI lZ 1 17) σ r1 hc1 z H.size) (cwV 1 hts g_f_X5_variables_X5_expect_V141 rfl rfl rfl hd_f_X5_expect ⟨Nat.le_of_ble_eq_true rfl, Nat.le_of_ble_eq_true rfl⟩) ⟨nb_blindF, va_recv hK hP (ci := 4) (q0 := 40) rfl rfl, (kx_pre hK hG hE hT hA hP hD hS)⟩ rfl rfl hl.1 rfl (lv_room (Nat.le_of_ble_eq_true rfl)) dX5_variables_53 ⟨Nat.le_trans (Nat.add_le_add_left hle1.1 _) (Nat.le_of_eq hc), Nat.le_trans (Nat.add_le_add_left hle1.2 _) (Nat.le_of_eq hs)⟩) hK hA hzk hP hD hS (by decide) hno hlocks ?_
        rcases h9 with ⟨h00, y1, hny1, hy⟩ | ⟨h00, hy⟩
        · subst hy
          have h := hny1
          refine Or.inl ⟨h00, fun u H locs hz1 hzk hP hD hS => ?_⟩
          obtain rfl := (zk_nil hz1).symm
          replace hc := (Nat.add_assoc _ _ _).trans hc
          replace hs := (Nat.add_assoc _ _ _).trans hs
          obtain rfl := Option.some.inj h
          subst hc
          subst hs
          exact xr_v hx hb hr hK hzk hP hD hS hlocks dX5_variables_56
        · subst hy
          exact Or.inr ⟨h00, rfl, hc, hs⟩
  exact (blk k0).1 z 0 0 L0 σ0 r0 h0 (zk_rf _ _) ((Nat.zero_add _).trans hmc) ((Nat.zero_add _).trans hms) s.heap [] ls hP hD hS hl
/-! X5_want -/
def f_X5_want : Nat → Nat → LV → CS → Option RS
  | 0, _, _, _ => none
  | k + 1, 0, L, σ => if ((σ.1 3702)) = ((L.1 1)) then (f_X5_want k 1 L σ) else (ox (f_X5_refuse k 0 (lI (lI lZ 1 2) 2 ((σ.1 3703))) σ) (fun r2 => f_X5_want k 1 L r2.2.1))
  | k + 1, 1, L, σ => some ((0, 0), σ, (0, 0))
  | _ + 1, _ + 2, _, _ => none
def o_f_X5_want : List Cond := [.fieldLink RX5 18 "SetHouse$Parser" "lex" "LSetHouse$Lexer;", .methodLink RX5 125 yX5_refuse, .instanceMethod yX5_refuse, .selects RX5 yX5_refuse yX5_refuse, .initialized RX5]
theorem o_f_X5_want_good : o_f_X5_want.all goodWord = true := by decide +kernel
def p_f_X5_want : List Cond := o_f_X5_want ++ ((.code yX5_refuse cX5_refuse 3 none :: p_f_X5_refuse) ++ [])
theorem p_f_X5_want_good : p_f_X5_want.all goodWord = true := nb_all2 o_f_X5_want_good (nb_all2 (nb_allc (by decide +kernel) p_f_X5_refuse_good) rfl)
def w_f_X5_want : List Cond := .code yX5_want cX5_want 2 none :: (p_f_X5_want ++ fC)
theorem w_f_X5_want_good : w_f_X5_want.all goodWord = true := nb_allc (by decide +kernel) (nb_all2 p_f_X5_want_good fC_good)
theorem in_f_X5_want_X2 : ∀ w ∈ wsX20, w ∈ w_f_X5_want := fun _ h => List.mem_cons_of_mem _ (List.mem_append_right _ (List.mem_append_right _ (List.mem_append_right _ (List.mem_append_left _ h))))
theorem in_f_X5_want_X5 : ∀ w ∈ wsX50, w ∈ w_f_X5_want := fun _ h => List.mem_cons_of_mem _ (List.mem_append_right _ (List.mem_append_right _ (List.mem_append_right _ (List.mem_append_right _ (List.mem_append_right _ (List.mem_append_left _ h))))))
theorem hd_f_X5_want : yX5_want.cls = RX5 ∧ yX5_want.cls ≠ "java/lang/invoke/MethodHandle" ∧ yX5_want.cls ≠ "java/lang/invoke/VarHandle" ∧ (parseMethodDescriptor yX5_want.desc).map (fun d => d.parameters.length) = some 1 := by decide +kernel
theorem gg_f_X5_want_X5_refuse : GoodIn w_f_X5_want w_f_X5_refuse := goodIn_sub (fun w h => (List.mem_cons.mp h).elim (fun e => (List.mem_cons_of_mem _ (List.mem_append_left _ (List.mem_append_right _ (List.mem_append_left _ (List.mem_cons.mpr (Or.inl e))))))) (fun h => (List.mem_append.mp h).elim (fun h => (List.mem_cons_of_mem _ (List.mem_append_left _ (List.mem_append_right _ (List.mem_append_left _ (List.mem_cons_of_mem _ h)))))) (fun h => List.mem_cons_of_mem _ (List.mem_append_right _ h)))) w_f_X5_refuse_good
theorem g_f_X5_want_X5_refuse_V125 : GoodIn w_f_X5_want (wsV RX5 125 RX5 yX5_refuse w_f_X5_refuse) := goodIn_app (nb_g4 (List.mem_cons_of_mem _ (List.mem_append_left _ (List.mem_append_left _ (List.mem_of_getElem? (i := 1) rfl)))) (List.mem_cons_of_mem _ (List.mem_append_left _ (List.mem_append_left _ (List.mem_of_getElem? (i := 2) rfl)))) (List.mem_cons_of_mem _ (List.mem_append_left _ (List.mem_append_left _ (List.mem_of_getElem? (i := 3) rfl)))) (List.mem_cons_of_mem _ (List.mem_append_left _ (List.mem_append_left _ (List.mem_of_getElem? (i := 4) rfl)))) (by decide +kernel)) gg_f_X5_want_X5_refuse
set_option maxHeartbeats 40000000 in
set_option maxRecDepth 100000 in
theorem c_f_X5_want (l : Launch) (hl0 : l.stackTraces = false) (dC : Nat → ClassId) (dI : Nat → Nat → Nat) (cy : Nat → ClassId) (ek a : Nat → Nat) (k0 : Nat) (L0 : LV) (σ0 : CS) (r0 : RS) (h0 : f_X5_want k0 0 L0 σ0 = some r0) (z : Nat → Nat) (sz : Nat) : vx_Met l yX5_want w_f_X5_want ({ frames := 7, cells := r0.2.2.1, slots := r0.2.2.2, locals := 122 }) (va_Pc [.ref (a 40), .int (L0.1 1)] (nInF (dC, dI) cy ek sz (vC cy a z σ0))) (xV dC dI cy a (va_A (vC cy a z σ0) sz) [] z r0) (xX dC dI cy a (va_A (vC cy a z σ0) sz) [] z r0) r0.2.2.1 r0.2.2.2 (va_A (vC cy a z σ0) sz) := by
  refine vx_ofW (cc := cX5_want) (maxL := 2) (ret := none) (by decide) rfl ?_
  intro p e s m args below meth c s₁ B hml hno hv
  obtain ⟨rfl, ⟨⟨hsz, hP, hK, hD0, hG⟩, hE⟩, hT⟩ := hv
  have hx := B.exec
  have hb := B.bytes
  have hr := B.returns
  have hts := atoms_spec (ws := w_f_X5_want) B.pre
  have hown : s.vm.findClass RX5 = some m.cls := findClass_of_methodNamed B.named
  have hlocks := B.notSynchronized
  subst hsz
  have hD := hD0.self (sz := s.heap.size)
  generalize hAe : va_A (vC cy a z σ0) s.heap.size = A at hD hE hT ⊢
  have hA : ∀ q : Nat, s.heap.size ≤ q → A q := fun q h => by rw [← hAe]; exact Or.inr h
  have hS : va_S A s.heap s.heap [] := va_S.rf
  have hl := lv_entry ([.ref (a 40), .int (L0.1 1)]) (n := 2) (Nat.le_of_ble_eq_true rfl)
  rw [lg_entry_eq]
  generalize (lg_sl ([.ref (a 40), .int (L0.1 1)]) ++ List.replicate (2 - (lg_sl ([.ref (a 40), .int (L0.1 1)])).length) Slot.unset).toArray = ls at hl ⊢
  have hl : lv_has ls 2 [(0, .ref (a 40)), (1, .int (L0.1 1))] := hl
  generalize hmc : r0.2.2.1 = mc
  generalize hms : r0.2.2.2 = ms
  have blk : ∀ k : Nat, (bX p l e (headSpec w_f_X5_want ({ frames := 7, cells := mc, slots := ms, locals := 122 })).room s m #[.ref (a 40), .int (L0.1 1)] below meth c dC dI cy a A (fun r => vx_MQ below (xV dC dI cy a A [] z r) (xX dC dI cy a A [] z r) #[.ref (a 40), .int (L0.1 1)] s mc ms A) [] z mc ms 2 (f_X5_want k 0) (fun z L => [(0, .ref (a 40)), (1, .int (L.1 1))]) 0 (fun z L => [])) ∧ (bX p l e (headSpec w_f_X5_want ({ frames := 7, cells := mc, slots := ms, locals := 122 })).room s m #[.ref (a 40), .int (L0.1 1)] below meth c dC dI cy a A (fun r => vx_MQ below (xV dC dI cy a A [] z r) (xX dC dI cy a A [] z r) #[.ref (a 40), .int (L0.1 1)] s mc ms A) [] z mc ms 2 (f_X5_want k 1) (fun z L => []) 23 (fun z L => [])) := by
    intro k
    induction k with
    | zero => exact ⟨fun z c1 c2 L σ r h => (by cases h), fun z c1 c2 L σ r h => (by cases h)⟩
    | succ k ih =>
      refine ⟨?_, ?_⟩
      · intro z cells slots L σ r h hzk hc hs H locs ls hP hD hS hl
        rw [f_X5_want] at h
        refine lv_aload_n hx hb dX5_want_0 rfl (lv_at hl 0 rfl) ?_
        refine hg_40_0 hx hb hts in_f_X5_want_X5 hown hK hP (hts _ (List.mem_cons_of_mem _ (List.mem_append_left _ (List.mem_append_left _ (List.mem_of_getElem? (i := 0) rfl))))) dX5_want_1 ?_
        refine hg_37_2n hx hb hts in_f_X5_want_X2 hown hK hP (va_Nw.use rfl (hG.1 _ (List.mem_of_getElem? (i := 52) rfl))) dX5_want_4 ?_
        refine lv_iload_n hx hb dX5_want_7 rfl (lv_at hl 1 rfl) ?_
        refine lv_icmp_eq (tgt := 23) hx hb dX5_want_8 (by decide) (fun c1 => ?_) (fun c1 => ?_)
        · rw [if_pos c1] at h
          exact ih.2 z _ _ L σ _ h hzk hc hs H locs ls hP hD hS (lv_sub hl [] rfl)
        · rw [if_neg c1] at h
          refine lv_aload_n hx hb dX5_want_11 rfl (lv_at hl 0 rfl) ?_
          refine lv_iconst (v := 2) hx hb dX5_want_12 (by decide) ?_
          refine lv_aload_n hx hb dX5_want_13 rfl (lv_at hl 0 rfl) ?_
          refine hg_40_0 hx hb hts in_f_X5_want_X5 hown hK hP (hts _ (List.mem_cons_of_mem _ (List.mem_append_left _ (List.mem_append_left _ (List.mem_of_getElem? (i := 0) rfl))))) dX5_want_14 ?_
          refine hg_37_3n hx hb hts in_f_X5_want_X2 hown hK hP (va_Nw.use rfl (hG.1 _ (List.mem_of_getElem? (i := 54) rfl))) dX5_want_17 ?_
          obtain ⟨r2, hc2, hle2, h9⟩ := ox_ex h
          clear h
          refine kx_v (vx_runV (As := [.int 2, .int (σ.1 3703)]) (rest := []) ⟨hx, hb, hml, hown, hts⟩ (c_f_X5_refuse l hl0 dC dI cy ek a k (lI (lI lZ 1 2) 2 ((σ.1 3703))) σ r2 hc2 z H.size) (cwV 2 hts g_f_X5_want_X5_refuse_V125 rfl rfl rfl hd_f_X5_refuse ⟨Nat.le_of_ble_eq_true rfl, Nat.le_of_ble_eq_true rfl⟩) ⟨nb_blindF, va_recv hK hP (ci := 4) (q0 := 40) rfl rfl, (kx_pre hK hG hE hT hA hP hD hS)⟩ rfl rfl hl.1 rfl (lv_room (Nat.le_of_ble_eq_true rfl)) dX5_want_20 ⟨Nat.le_trans (Nat.add_le_add_left hle2.1 _) (Nat.le_of_eq hc), Nat.le_trans (Nat.add_le_add_left hle2.2 _) (Nat.le_of_eq hs)⟩) hK hA hzk hP hD hS (by decide) hno hlocks ?_
          rcases h9 with ⟨h00, y2, hny2, hy⟩ | ⟨h00, hy⟩
          · subst hy
            have h := hny2
            refine Or.inl ⟨h00, fun u H locs hz2 hzk hP hD hS => ?_⟩
            obtain rfl := (zk_nil hz2).symm
            replace hc := (Nat.add_assoc _ _ _).trans hc
            replace hs := (Nat.add_assoc _ _ _).trans hs
            exact ih.2 z _ _ L r2.2.1 _ h hzk hc hs H locs ls hP hD hS (lv_sub hl [] rfl)
          · subst hy
            exact Or.inr ⟨h00, rfl, hc, hs⟩
      · intro z cells slots L σ r h hzk hc hs H locs ls hP hD hS hl
        rw [f_X5_want] at h
        obtain rfl := Option.some.inj h
        subst hc
        subst hs
        exact xr_v hx hb hr hK hzk hP hD hS hlocks dX5_want_23
  exact (blk k0).1 z 0 0 L0 σ0 r0 h0 (zk_rf _ _) ((Nat.zero_add _).trans hmc) ((Nat.zero_add _).trans hms) s.heap [] ls hP hD hS hl
/-! X5_opens -/
def f_X5_opens : Nat → Nat → LV → CS → Option RS
  | 0, _, _, _ => none
  | k + 1, 0, L, σ => if ((σ.1 4005)) < 20 then (f_X5_opens k 1 L σ) else (ox (f_X5_refuse k 0 (lI (lI lZ 1 3) 2 ((σ.1 3703))) σ) (fun r2 => f_X5_opens k 1 L r2.2.1))
  | k + 1, 1, L, σ => ox (f_X2_advance k 0 lZ (uI σ 4005 ((((σ.1 4005)) + 1)))) (fun r1 => some ((0, 0), r1.2.1, (0, 0)))
  | _ + 1, _ + 2, _, _ => none
def o_f_X5_opens : List Cond := [.fieldLink RX5 103 "SetHouse$Parser" "open" "I", .fieldLink RX5 18 "SetHouse$Parser" "lex" "LSetHouse$Lexer;", .methodLink RX5 125 yX5_refuse, .instanceMethod yX5_refuse, .selects RX5 yX5_refuse yX5_refuse, .initialized RX5, .methodLink RX5 30 yX2_advance, .instanceMethod yX2_advance, .selects RX2 yX2_advance yX2_advance, .initialized RX2]
theorem o_f_X5_opens_good : o_f_X5_opens.all goodWord = true := by decide +kernel
def p_f_X5_opens : List Cond := o_f_X5_opens ++ ((.code yX5_refuse cX5_refuse 3 none :: p_f_X5_refuse) ++ ((.code yX2_advance cX2_advance 7 none :: p_f_X2_advance) ++ []))
theorem p_f_X5_opens_good : p_f_X5_opens.all goodWord = true := nb_all2 o_f_X5_opens_good (nb_all2 (nb_allc (by decide +kernel) p_f_X5_refuse_good) (nb_all2 (nb_allc (by decide +kernel) p_f_X2_advance_good) rfl))
def w_f_X5_opens : List Cond := .code yX5_opens cX5_opens 1 none :: (p_f_X5_opens ++ fC)
theorem w_f_X5_opens_good : w_f_X5_opens.all goodWord = true := nb_allc (by decide +kernel) (nb_all2 p_f_X5_opens_good fC_good)
theorem in_f_X5_opens_X2 : ∀ w ∈ wsX20, w ∈ w_f_X5_opens := fun _ h => List.mem_cons_of_mem _ (List.mem_append_right _ (List.mem_append_right _ (List.mem_append_right _ (List.mem_append_left _ h))))
theorem in_f_X5_opens_X5 : ∀ w ∈ wsX50, w ∈ w_f_X5_opens := fun _ h => List.mem_cons_of_mem _ (List.mem_append_right _ (List.mem_append_right _ (List.mem_append_right _ (List.mem_append_right _ (List.mem_append_right _ (List.mem_append_left _ h))))))
theorem hd_f_X5_opens : yX5_opens.cls = RX5 ∧ yX5_opens.cls ≠ "java/lang/invoke/MethodHandle" ∧ yX5_opens.cls ≠ "java/lang/invoke/VarHandle" ∧ (parseMethodDescriptor yX5_opens.desc).map (fun d => d.parameters.length) = some 0 := by decide +kernel
theorem gg_f_X5_opens_X2_advance : GoodIn w_f_X5_opens w_f_X2_advance := goodIn_sub (fun w h => (List.mem_cons.mp h).elim (fun e => (List.mem_cons_of_mem _ (List.mem_append_left _ (List.mem_append_right _ (List.mem_append_right _ (List.mem_append_left _ (List.mem_cons.mpr (Or.inl e)))))))) (fun h => (List.mem_append.mp h).elim (fun h => (List.mem_cons_of_mem _ (List.mem_append_left _ (List.mem_append_right _ (List.mem_append_right _ (List.mem_append_left _ (List.mem_cons_of_mem _ h))))))) (fun h => List.mem_cons_of_mem _ (List.mem_append_right _ h)))) w_f_X2_advance_good
theorem g_f_X5_opens_X2_advance_V30 : GoodIn w_f_X5_opens (wsV RX5 30 RX2 yX2_advance w_f_X2_advance) := goodIn_app (nb_g4 (List.mem_cons_of_mem _ (List.mem_append_left _ (List.mem_append_left _ (List.mem_of_getElem? (i := 6) rfl)))) (List.mem_cons_of_mem _ (List.mem_append_left _ (List.mem_append_left _ (List.mem_of_getElem? (i := 7) rfl)))) (List.mem_cons_of_mem _ (List.mem_append_left _ (List.mem_append_left _ (List.mem_of_getElem? (i := 8) rfl)))) (List.mem_cons_of_mem _ (List.mem_append_left _ (List.mem_append_left _ (List.mem_of_getElem? (i := 9) rfl)))) (by decide +kernel)) gg_f_X5_opens_X2_advance
theorem gg_f_X5_opens_X5_refuse : GoodIn w_f_X5_opens w_f_X5_refuse := goodIn_sub (fun w h => (List.mem_cons.mp h).elim (fun e => (List.mem_cons_of_mem _ (List.mem_append_left _ (List.mem_append_right _ (List.mem_append_left _ (List.mem_cons.mpr (Or.inl e))))))) (fun h => (List.mem_append.mp h).elim (fun h => (List.mem_cons_of_mem _ (List.mem_append_left _ (List.mem_append_right _ (List.mem_append_left _ (List.mem_cons_of_mem _ h)))))) (fun h => List.mem_cons_of_mem _ (List.mem_append_right _ h)))) w_f_X5_refuse_good
theorem g_f_X5_opens_X5_refuse_V125 : GoodIn w_f_X5_opens (wsV RX5 125 RX5 yX5_refuse w_f_X5_refuse) := goodIn_app (nb_g4 (List.mem_cons_of_mem _ (List.mem_append_left _ (List.mem_append_left _ (List.mem_of_getElem? (i := 2) rfl)))) (List.mem_cons_of_mem _ (List.mem_append_left _ (List.mem_append_left _ (List.mem_of_getElem? (i := 3) rfl)))) (List.mem_cons_of_mem _ (List.mem_append_left _ (List.mem_append_left _ (List.mem_of_getElem? (i := 4) rfl)))) (List.mem_cons_of_mem _ (List.mem_append_left _ (List.mem_append_left _ (List.mem_of_getElem? (i := 5) rfl)))) (by decide +kernel)) gg_f_X5_opens_X5_refuse
set_option maxHeartbeats 40000000 in
set_option maxRecDepth 100000 in
theorem c_f_X5_opens (l : Launch) (hl0 : l.stackTraces = false) (dC : Nat → ClassId) (dI : Nat → Nat → Nat) (cy : Nat → ClassId) (ek a : Nat → Nat) (k0 : Nat) (L0 : LV) (σ0 : CS) (r0 : RS) (h0 : f_X5_opens k0 0 L0 σ0 = some r0) (z : Nat → Nat) (sz : Nat) : vx_Met l yX5_opens w_f_X5_opens ({ frames := 7, cells := r0.2.2.1, slots := r0.2.2.2, locals := 126 }) (va_Pc [.ref (a 40)] (nInF (dC, dI) cy ek sz (vC cy a z σ0))) (xV dC dI cy a (va_A (vC cy a z σ0) sz) [] z r0) (xX dC dI cy a (va_A (vC cy a z σ0) sz) [] z r0) r0.2.2.1 r0.2.2.2 (va_A (vC cy a z σ0) sz) := by
  refine vx_ofW (cc := cX5_opens) (maxL := 1) (ret := none) (by decide) rfl ?_
  intro p e s m args below meth c s₁ B hml hno hv
  obtain ⟨rfl, ⟨⟨hsz, hP, hK, hD0, hG⟩, hE⟩, hT⟩ := hv
  have hx := B.exec
  have hb := B.bytes
  have hr := B.returns
  have hts := atoms_spec (ws := w_f_X5_opens) B.pre
  have hown : s.vm.findClass RX5 = some m.cls := findClass_of_methodNamed B.named
  have hlocks := B.notSynchronized
  subst hsz
  have hD := hD0.self (sz := s.heap.size)
  generalize hAe : va_A (vC cy a z σ0) s.heap.size = A at hD hE hT ⊢
  have hA : ∀ q : Nat, s.heap.size ≤ q → A q := fun q h => by rw [← hAe]; exact Or.inr h
  have hS : va_S A s.heap s.heap [] := va_S.rf
  have hl := lv_entry ([.ref (a 40)]) (n := 1) (Nat.le_of_ble_eq_true rfl)
  rw [lg_entry_eq]
  generalize (lg_sl ([.ref (a 40)]) ++ List.replicate (1 - (lg_sl ([.ref (a 40)])).length) Slot.unset).toArray = ls at hl ⊢
  have hl : lv_has ls 1 [(0, .ref (a 40))] := hl
  generalize hmc : r0.2.2.1 = mc
  generalize hms : r0.2.2.2 = ms
  have blk : ∀ k : Nat, (bX p l e (headSpec w_f_X5_opens ({ frames := 7, cells := mc, slots := ms, locals := 126 })).room s m #[.ref (a 40)] below meth c dC dI cy a A (fun r => vx_MQ below (xV dC dI cy a A [] z r) (xX dC dI cy a A [] z r) #[.ref (a 40)] s mc ms A) [] z mc ms 1 (f_X5_opens k 0) (fun z L => [(0, .ref (a 40))]) 0 (fun z L => [])) ∧ (bX p l e (headSpec w_f_X5_opens ({ frames := 7, cells := mc, slots := ms, locals := 126 })).room s m #[.ref (a 40)] below meth c dC dI cy a A (fun r => vx_MQ below (xV dC dI cy a A [] z r) (xX dC dI cy a A [] z r) #[.ref (a 40)] s mc ms A) [] z mc ms 1 (f_X5_opens k 1) (fun z L => [(0, .ref (a 40))]) 21 (fun z L => [])) := by
    intro k
    induction k with
    | zero => exact ⟨fun z c1 c2 L σ r h => (by cases h), fun z c1 c2 L σ r h => (by cases h)⟩
    | succ k ih =>
      refine ⟨?_, ?_⟩
      · intro z cells slots L σ r h hzk hc hs H locs ls hP hD hS hl
        rw [f_X5_opens] at h
        refine lv_aload_n hx hb dX5_opens_0 rfl (lv_at hl 0 rfl) ?_
        refine hg_40_5 hx hb hts in_f_X5_opens_X5 hown hK hP (hts _ (List.mem_cons_of_mem _ (List.mem_append_left _ (List.mem_append_left _ (List.mem_of_getElem? (i := 0) rfl))))) dX5_opens_1 ?_
        refine lv_bipush (v := 20) hx hb dX5_opens_4 (by decide) ?_
        refine lv_icmp_lt (tgt := 21) hx hb dX5_opens_6 (by decide) (fun c1 => ?_) (fun c1 => ?_)
        · rw [if_pos c1] at h
          exact ih.2 z _ _ L σ _ h hzk hc hs H locs ls hP hD hS (lv_sub hl [0] rfl)
        · rw [if_neg c1] at h
          refine lv_aload_n hx hb dX5_opens_9 rfl (lv_at hl 0 rfl) ?_
          refine lv_iconst (v := 3) hx hb dX5_opens_10 (by decide) ?_
          refine lv_aload_n hx hb dX5_opens_11 rfl (lv_at hl 0 rfl) ?_
          refine hg_40_0 hx hb hts in_f_X5_opens_X5 hown hK hP (hts _ (List.mem_cons_of_mem _ (List.mem_append_left _ (List.mem_append_left _ (List.mem_of_getElem? (i := 1) rfl))))) dX5_opens_12 ?_
          refine hg_37_3n hx hb hts in_f_X5_opens_X2 hown hK hP (va_Nw.use rfl (hG.1 _ (List.mem_of_getElem? (i := 54) rfl))) dX5_opens_15 ?_
          obtain ⟨r2, hc2, hle2, h9⟩ := ox_ex h
          clear h
          refine kx_v (vx_runV (As := [.int 3, .int (σ.1 3703)]) (rest := []) ⟨hx, hb, hml, hown, hts⟩ (c_f_X5_refuse l hl0 dC dI cy ek a k (lI (lI lZ 1 3) 2 ((σ.1 3703))) σ r2 hc2 z H.size) (cwV 2 hts g_f_X5_opens_X5_refuse_V125 rfl rfl rfl hd_f_X5_refuse ⟨Nat.le_of_ble_eq_true rfl, Nat.le_of_ble_eq_true rfl⟩) ⟨nb_blindF, va_recv hK hP (ci := 4) (q0 := 40) rfl rfl, (kx_pre hK hG hE hT hA hP hD hS)⟩ rfl rfl hl.1 rfl (lv_room (Nat.le_of_ble_eq_true rfl)) dX5_opens_18 ⟨Nat.le_trans (Nat.add_le_add_left hle2.1 _) (Nat.le_of_eq hc), Nat.le_trans (Nat.add_le_add_left hle2.2 _) (Nat.le_of_eq hs)⟩) hK hA hzk hP hD hS (by decide) hno hlocks ?_
          rcases h9 with ⟨h00, y2, hny2, hy⟩ | ⟨h00, hy⟩
          · subst hy
            have h := hny2
            refine Or.inl ⟨h00, fun u H locs hz2 hzk hP hD hS => ?_⟩
            obtain rfl := (zk_nil hz2).symm
            replace hc := (Nat.add_assoc _ _ _).trans hc
            replace hs := (Nat.add_assoc _ _ _).trans hs
            exact ih.2 z _ _ L r2.2.1 _ h hzk hc hs H locs ls hP hD hS (lv_sub hl [0] rfl)
          · subst hy
            exact Or.inr ⟨h00, rfl, hc, hs⟩
      · intro z cells slots L σ r h hzk hc hs H locs ls hP hD hS hl
        rw [f_X5_opens] at h
        refine lv_aload_n hx hb dX5_opens_21 rfl (lv_at hl 0 rfl) ?_
        refine lv_dup hx hb dX5_opens_22 rfl ?_
        refine hg_40_5 hx hb hts in_f_X5_opens_X5 hown hK hP (hts _ (List.mem_cons_of_mem _ (List.mem_append_left _ (List.mem_append_left _ (List.mem_of_getElem? (i := 0) rfl))))) dX5_opens_23 ?_
        refine lv_iconst (v := 1) hx hb dX5_opens_26 (by decide) ?_
        refine lv_iadd hx hb dX5_opens_27 ?_
        refine hp_40_5 hx hb hts in_f_X5_opens_X5 hown hK hP hD hS (hts _ (List.mem_cons_of_mem _ (List.mem_append_left _ (List.mem_append_left _ (List.mem_of_getElem? (i := 0) rfl))))) dX5_opens_28 (fun H locs hP hD hS => ?_)
        refine lv_aload_n hx hb dX5_opens_31 rfl (lv_at hl 0 rfl) ?_
        refine hg_40_0 hx hb hts in_f_X5_opens_X5 hown hK hP (hts _ (List.mem_cons_of_mem _ (List.mem_append_left _ (List.mem_append_left _ (List.mem_of_getElem? (i := 1) rfl))))) dX5_opens_32 ?_
        obtain ⟨r1, hc1, hle1, h9⟩ := ox_ex h
        clear h
        refine kx_v (vx_runV (As := []) (rest := []) ⟨hx, hb, hml, hown, hts⟩ (c_f_X2_advance l hl0 dC dI cy ek a k lZ (uI σ 4005 ((((σ.1 4005)) + 1))) r1 hc1 z H.size) (cwV 0 hts g_f_X5_opens_X2_advance_V30 rfl rfl rfl hd_f_X2_advance ⟨Nat.le_of_ble_eq_true rfl, Nat.le_of_ble_eq_true rfl⟩) ⟨nb_blindF, va_recv hK hP (ci := 2) (q0 := 37) rfl rfl, (kx_pre hK hG hE hT hA hP hD hS)⟩ rfl rfl hl.1 rfl (lv_room (Nat.le_of_ble_eq_true rfl)) dX5_opens_35 ⟨Nat.le_trans (Nat.add_le_add_left hle1.1 _) (Nat.le_of_eq hc), Nat.le_trans (Nat.add_le_add_left hle1.2 _) (Nat.le_of_eq hs)⟩) hK hA hzk hP hD hS (by decide) hno hlocks ?_
        rcases h9 with ⟨h00, y1, hny1, hy⟩ | ⟨h00, hy⟩
        · subst hy
          have h := hny1
          refine Or.inl ⟨h00, fun u H locs hz1 hzk hP hD hS => ?_⟩
          obtain rfl := (zk_nil hz1).symm
          replace hc := (Nat.add_assoc _ _ _).trans hc
          replace hs := (Nat.add_assoc _ _ _).trans hs
          obtain rfl := Option.some.inj h
          subst hc
          subst hs
          exact xr_v hx hb hr hK hzk hP hD hS hlocks dX5_opens_38
        · subst hy
          exact Or.inr ⟨h00, rfl, hc, hs⟩
  exact (blk k0).1 z 0 0 L0 σ0 r0 h0 (zk_rf _ _) ((Nat.zero_add _).trans hmc) ((Nat.zero_add _).trans hms) s.heap [] ls hP hD hS hl
/-! X5_tellUnit -/
def f_X5_tellUnit : Nat → Nat → LV → CS → Option RS
  | 0, _, _, _ => none
  | k + 1, 0, L, σ => ox (f_X2_advance k 0 lZ σ) (fun r1 => ox (f_X5_want k 0 (lI lZ 1 2) r1.2.1) (fun r2 => oP (sPp r2.2.1) (fun b3 => op (y_X7_isToldFrom__P k 0 (lJ (lJ (lI (lB lZ 0 b3) 1 0) 2 ((r2.2.1.2.1 3705))) 4 ((r2.2.1.2.1 3706))) r2.2.1) (fun r4 => if r4.1 = 0 then (f_X5_tellUnit k 1 L r4.2) else (ox (f_X5_refuse k 0 (lI (lI lZ 1 4) 2 ((r4.2.1 3703))) r4.2) (fun r6 => f_X5_tellUnit k 1 L r6.2.1))))))
  | k + 1, 1, L, σ => oP (sPp σ) (fun b1 => if ((σ.1 (fP b1 12))) < 40 then (f_X5_tellUnit k 2 L σ) else (ox (f_X5_refuse k 0 (lI (lI lZ 1 8) 2 ((σ.1 3703))) σ) (fun r3 => f_X5_tellUnit k 2 L r3.2.1)))
  | k + 1, 2, L, σ => oP (sPp σ) (fun b1 => oP (sPp (uI σ (fP b1 12) ((((σ.1 (fP b1 12))) + 1)))) (fun b2 => oP (sPp (uI (uI σ (fP b1 12) ((((σ.1 (fP b1 12))) + 1))) 4003 (((uI σ (fP b1 12) ((((σ.1 (fP b1 12))) + 1))).1 (fP b2 12))))) (fun b3 => op (y_X7_openUnit__P k 0 (lI (lB lZ 0 b3) 1 (((uI (uI σ (fP b1 12) ((((σ.1 (fP b1 12))) + 1))) 4003 (((uI σ (fP b1 12) ((((σ.1 (fP b1 12))) + 1))).1 (fP b2 12)))).1 4003))) (uI (uI σ (fP b1 12) ((((σ.1 (fP b1 12))) + 1))) 4003 (((uI σ (fP b1 12) ((((σ.1 (fP b1 12))) + 1))).1 (fP b2 12))))) (fun r4 => oP (sPp r4.2) (fun b5 => op (y_X7_tell__P k 0 (lI (lI (lI (lJ (lJ (lB lZ 0 b5) 1 ((r4.2.2.1 3705))) 3 ((r4.2.2.1 3706))) 5 ((L.1 1))) 6 0) 7 ((r4.2.1 4003))) r4.2) (fun r6 => ox (f_X2_advance k 0 lZ r6.2) (fun r7 => ox (f_X5_want k 0 (lI lZ 1 10) r7.2.1) (fun r8 => ox (f_X5_opens k 0 lZ r8.2.1) (fun r9 => oP (sPp r9.2.1) (fun b10 => some ((0, (r9.2.1.1 (fP b10 11))), r9.2.1, (0, 0))))))))))))
  | _ + 1, _ + 3, _, _ => none
def o_f_X5_tellUnit : List Cond := [.fieldLink RX5 18 "SetHouse$Parser" "lex" "LSetHouse$Lexer;", .methodLink RX5 30 yX2_advance, .instanceMethod yX2_advance, .selects RX2 yX2_advance yX2_advance, .initialized RX2, .methodLink RX5 61 yX5_want, .instanceMethod yX5_want, .selects RX5 yX5_want yX5_want, .initialized RX5, .fieldLink RX5 93 "SetHouse$Parser" "p" "LSetHouse$Program;", .methodLink RX5 164 yX7_isToldFrom, .instanceMethod yX7_isToldFrom, .selects RX7 yX7_isToldFrom yX7_isToldFrom, .initialized RX7, .methodLink RX5 125 yX5_refuse, .instanceMethod yX5_refuse, .selects RX5 yX5_refuse yX5_refuse, .fieldLink RX5 97 "SetHouse$Parser" "unit" "I", .methodLink RX5 87 yX7_openUnit, .instanceMethod yX7_openUnit, .selects RX7 yX7_openUnit yX7_openUnit, .methodLink RX5 160 yX7_tell, .instanceMethod yX7_tell, .selects RX7 yX7_tell yX7_tell, .methodLink RX5 173 yX5_opens, .instanceMethod yX5_opens, .selects RX5 yX5_opens yX5_opens]
theorem o_f_X5_tellUnit_good : o_f_X5_tellUnit.all goodWord = true := by decide +kernel
def p_f_X5_tellUnit : List Cond := o_f_X5_tellUnit ++ ((.code yX2_advance cX2_advance 7 none :: p_f_X2_advance) ++ ((.code yX5_want cX5_want 2 none :: p_f_X5_want) ++ ((.code yX7_isToldFrom cX7_isToldFrom 7 (some .boolean) :: p_y_X7_isToldFrom__P) ++ ((.code yX5_refuse cX5_refuse 3 none :: p_f_X5_refuse) ++ ((.code yX7_openUnit cX7_openUnit 2 none :: p_y_X7_openUnit__P) ++ ((.code yX7_tell cX7_tell 8 none :: p_y_X7_tell__P) ++ ((.code yX5_opens cX5_opens 1 none :: p_f_X5_opens) ++ [])))))))
theorem p_f_X5_tellUnit_good : p_f_X5_tellUnit.all goodWord = true := nb_all2 o_f_X5_tellUnit_good (nb_all2 (nb_allc (by decide +kernel) p_f_X2_advance_good) (nb_all2 (nb_allc (by decide +kernel) p_f_X5_want_good) (nb_all2 (nb_allc (by decide +kernel) p_y_X7_isToldFrom__P_good) (nb_all2 (nb_allc (by decide +kernel) p_f_X5_refuse_good) (nb_all2 (nb_allc (by decide +kernel) p_y_X7_openUnit__P_good) (nb_all2 (nb_allc (by decide +kernel) p_y_X7_tell__P_good) (nb_all2 (nb_allc (by decide +kernel) p_f_X5_opens_good) rfl)))))))
def w_f_X5_tellUnit : List Cond := .code yX5_tellUnit cX5_tellUnit 2 (some .int) :: (p_f_X5_tellUnit ++ fC)
theorem w_f_X5_tellUnit_good : w_f_X5_tellUnit.all goodWord = true := nb_allc (by decide +kernel) (nb_all2 p_f_X5_tellUnit_good fC_good)
theorem in_f_X5_tellUnit_X2 : ∀ w ∈ wsX20, w ∈ w_f_X5_tellUnit := fun _ h => List.mem_cons_of_mem _ (List.mem_append_right _ (List.mem_append_right _ (List.mem_append_right _ (List.mem_append_left _ h))))
theorem in_f_X5_tellUnit_X5 : ∀ w ∈ wsX50, w ∈ w_f_X5_tellUnit := fun _ h => List.mem_cons_of_mem _ (List.mem_append_right _ (List.mem_append_right _ (List.mem_append_right _ (List.mem_append_right _ (List.mem_append_right _ (List.mem_append_left _ h))))))
theorem in_f_X5_tellUnit_X7 : ∀ w ∈ wsX70, w ∈ w_f_X5_tellUnit := fun _ h => List.mem_cons_of_mem _ (List.mem_append_right _ (List.mem_append_right _ (List.mem_append_right _ (List.mem_append_right _ (List.mem_append_right _ (List.mem_append_right _ (List.mem_append_right _ (List.mem_append_left _ h))))))))
theorem hd_f_X5_tellUnit : yX5_tellUnit.cls = RX5 ∧ yX5_tellUnit.cls ≠ "java/lang/invoke/MethodHandle" ∧ yX5_tellUnit.cls ≠ "java/lang/invoke/VarHandle" ∧ (parseMethodDescriptor yX5_tellUnit.desc).map (fun d => d.parameters.length) = some 1 := by decide +kernel
theorem gg_f_X5_tellUnit_X2_advance : GoodIn w_f_X5_tellUnit w_f_X2_advance := goodIn_sub (fun w h => (List.mem_cons.mp h).elim (fun e => (List.mem_cons_of_mem _ (List.mem_append_left _ (List.mem_append_right _ (List.mem_append_left _ (List.mem_cons.mpr (Or.inl e))))))) (fun h => (List.mem_append.mp h).elim (fun h => (List.mem_cons_of_mem _ (List.mem_append_left _ (List.mem_append_right _ (List.mem_append_left _ (List.mem_cons_of_mem _ h)))))) (fun h => List.mem_cons_of_mem _ (List.mem_append_right _ h)))) w_f_X2_advance_good
theorem g_f_X5_tellUnit_X2_advance_V30 : GoodIn w_f_X5_tellUnit (wsV RX5 30 RX2 yX2_advance w_f_X2_advance) := goodIn_app (nb_g4 (List.mem_cons_of_mem _ (List.mem_append_left _ (List.mem_append_left _ (List.mem_of_getElem? (i := 1) rfl)))) (List.mem_cons_of_mem _ (List.mem_append_left _ (List.mem_append_left _ (List.mem_of_getElem? (i := 2) rfl)))) (List.mem_cons_of_mem _ (List.mem_append_left _ (List.mem_append_left _ (List.mem_of_getElem? (i := 3) rfl)))) (List.mem_cons_of_mem _ (List.mem_append_left _ (List.mem_append_left _ (List.mem_of_getElem? (i := 4) rfl)))) (by decide +kernel)) gg_f_X5_tellUnit_X2_advance
theorem gg_f_X5_tellUnit_X5_opens : GoodIn w_f_X5_tellUnit w_f_X5_opens := goodIn_sub (fun w h => (List.mem_cons.mp h).elim (fun e => (List.mem_cons_of_mem _ (List.mem_append_left _ (List.mem_append_right _ (List.mem_append_right _ (List.mem_append_right _ (List.mem_append_right _ (List.mem_append_right _ (List.mem_append_right _ (List.mem_append_right _ (List.mem_append_left _ (List.mem_cons.mpr (Or.inl e))))))))))))) (fun h => (List.mem_append.mp h).elim (fun h => (List.mem_cons_of_mem _ (List.mem_append_left _ (List.mem_append_right _ (List.mem_append_right _ (List.mem_append_right _ (List.mem_append_right _ (List.mem_append_right _ (List.mem_append_right _ (List.mem_append_right _ (List.mem_append_left _ (List.mem_cons_of_mem _ h)))))))))))) (fun h => List.mem_cons_of_mem _ (List.mem_append_right _ h)))) w_f_X5_opens_good
theorem g_f_X5_tellUnit_X5_opens_V173 : GoodIn w_f_X5_tellUnit (wsV RX5 173 RX5 yX5_opens w_f_X5_opens) := goodIn_app (nb_g4 (List.mem_cons_of_mem _ (List.mem_append_left _ (List.mem_append_left _ (List.mem_of_getElem? (i := 24) rfl)))) (List.mem_cons_of_mem _ (List.mem_append_left _ (List.mem_append_left _ (List.mem_of_getElem? (i := 25) rfl)))) (List.mem_cons_of_mem _ (List.mem_append_left _ (List.mem_append_left _ (List.mem_of_getElem? (i := 26) rfl)))) (List.mem_cons_of_mem _ (List.mem_append_left _ (List.mem_append_left _ (List.mem_of_getElem? (i := 8) rfl)))) (by decide +kernel)) gg_f_X5_tellUnit_X5_opens
theorem gg_f_X5_tellUnit_X5_refuse : GoodIn w_f_X5_tellUnit w_f_X5_refuse := goodIn_sub (fun w h => (List.mem_cons.mp h).elim (fun e => (List.mem_cons_of_mem _ (List.mem_append_left _ (List.mem_append_right _ (List.mem_append_right _ (List.mem_append_right _ (List.mem_append_right _ (List.mem_append_left _ (List.mem_cons.mpr (Or.inl e)))))))))) (fun h => (List.mem_append.mp h).elim (fun h => (List.mem_cons_of_mem _ (List.mem_append_left _ (List.mem_append_right _ (List.mem_append_right _ (List.mem_append_right _ (List.mem_append_right _ (List.mem_append_left _ (List.mem_cons_of_mem _ h))))))))) (fun h => List.mem_cons_of_mem _ (List.mem_append_right _ h)))) w_f_X5_refuse_good
theorem g_f_X5_tellUnit_X5_refuse_V125 : GoodIn w_f_X5_tellUnit (wsV RX5 125 RX5 yX5_refuse w_f_X5_refuse) := goodIn_app (nb_g4 (List.mem_cons_of_mem _ (List.mem_append_left _ (List.mem_append_left _ (List.mem_of_getElem? (i := 14) rfl)))) (List.mem_cons_of_mem _ (List.mem_append_left _ (List.mem_append_left _ (List.mem_of_getElem? (i := 15) rfl)))) (List.mem_cons_of_mem _ (List.mem_append_left _ (List.mem_append_left _ (List.mem_of_getElem? (i := 16) rfl)))) (List.mem_cons_of_mem _ (List.mem_append_left _ (List.mem_append_left _ (List.mem_of_getElem? (i := 8) rfl)))) (by decide +kernel)) gg_f_X5_tellUnit_X5_refuse
theorem gg_f_X5_tellUnit_X5_want : GoodIn w_f_X5_tellUnit w_f_X5_want := goodIn_sub (fun w h => (List.mem_cons.mp h).elim (fun e => (List.mem_cons_of_mem _ (List.mem_append_left _ (List.mem_append_right _ (List.mem_append_right _ (List.mem_append_left _ (List.mem_cons.mpr (Or.inl e)))))))) (fun h => (List.mem_append.mp h).elim (fun h => (List.mem_cons_of_mem _ (List.mem_append_left _ (List.mem_append_right _ (List.mem_append_right _ (List.mem_append_left _ (List.mem_cons_of_mem _ h))))))) (fun h => List.mem_cons_of_mem _ (List.mem_append_right _ h)))) w_f_X5_want_good
theorem g_f_X5_tellUnit_X5_want_V61 : GoodIn w_f_X5_tellUnit (wsV RX5 61 RX5 yX5_want w_f_X5_want) := goodIn_app (nb_g4 (List.mem_cons_of_mem _ (List.mem_append_left _ (List.mem_append_left _ (List.mem_of_getElem? (i := 5) rfl)))) (List.mem_cons_of_mem _ (List.mem_append_left _ (List.mem_append_left _ (List.mem_of_getElem? (i := 6) rfl)))) (List.mem_cons_of_mem _ (List.mem_append_left _ (List.mem_append_left _ (List.mem_of_getElem? (i := 7) rfl)))) (List.mem_cons_of_mem _ (List.mem_append_left _ (List.mem_append_left _ (List.mem_of_getElem? (i := 8) rfl)))) (by decide +kernel)) gg_f_X5_tellUnit_X5_want
theorem gg_f_X5_tellUnit_X7_isToldFrom__P : GoodIn w_f_X5_tellUnit w_y_X7_isToldFrom__P := goodIn_sub (fun w h => (List.mem_cons.mp h).elim (fun e => (List.mem_cons_of_mem _ (List.mem_append_left _ (List.mem_append_right _ (List.mem_append_right _ (List.mem_append_right _ (List.mem_append_left _ (List.mem_cons.mpr (Or.inl e))))))))) (fun h => (List.mem_append.mp h).elim (fun h => (List.mem_cons_of_mem _ (List.mem_append_left _ (List.mem_append_right _ (List.mem_append_right _ (List.mem_append_right _ (List.mem_append_left _ (List.mem_cons_of_mem _ h)))))))) (fun h => List.mem_cons_of_mem _ (List.mem_append_right _ h)))) w_y_X7_isToldFrom__P_good
theorem g_y_X5_tellUnit_X7_isToldFrom__P_V164 : GoodIn w_f_X5_tellUnit (wsV RX5 164 RX7 yX7_isToldFrom w_y_X7_isToldFrom__P) := goodIn_app (nb_g4 (List.mem_cons_of_mem _ (List.mem_append_left _ (List.mem_append_left _ (List.mem_of_getElem? (i := 10) rfl)))) (List.mem_cons_of_mem _ (List.mem_append_left _ (List.mem_append_left _ (List.mem_of_getElem? (i := 11) rfl)))) (List.mem_cons_of_mem _ (List.mem_append_left _ (List.mem_append_left _ (List.mem_of_getElem? (i := 12) rfl)))) (List.mem_cons_of_mem _ (List.mem_append_left _ (List.mem_append_left _ (List.mem_of_getElem? (i := 13) rfl)))) (by decide +kernel)) gg_f_X5_tellUnit_X7_isToldFrom__P
theorem gg_f_X5_tellUnit_X7_openUnit__P : GoodIn w_f_X5_tellUnit w_y_X7_openUnit__P := goodIn_sub (fun w h => (List.mem_cons.mp h).elim (fun e => (List.mem_cons_of_mem _ (List.mem_append_left _ (List.mem_append_right _ (List.mem_append_right _ (List.mem_append_right _ (List.mem_append_right _ (List.mem_append_right _ (List.mem_append_left _ (List.mem_cons.mpr (Or.inl e))))))))))) (fun h => (List.mem_append.mp h).elim (fun h => (List.mem_cons_of_mem _ (List.mem_append_left _ (List.mem_append_right _ (List.mem_append_right _ (List.mem_append_right _ (List.mem_append_right _ (List.mem_append_right _ (List.mem_append_left _ (List.mem_cons_of_mem _ h)))))))))) (fun h => List.mem_cons_of_mem _ (List.mem_append_right _ h)))) w_y_X7_openUnit__P_good
theorem g_y_X5_tellUnit_X7_openUnit__P_V87 : GoodIn w_f_X5_tellUnit (wsV RX5 87 RX7 yX7_openUnit w_y_X7_openUnit__P) := goodIn_app (nb_g4 (List.mem_cons_of_mem _ (List.mem_append_left _ (List.mem_append_left _ (List.mem_of_getElem? (i := 18) rfl)))) (List.mem_cons_of_mem _ (List.mem_append_left _ (List.mem_append_left _ (List.mem_of_getElem? (i := 19) rfl)))) (List.mem_cons_of_mem _ (List.mem_append_left _ (List.mem_append_left _ (List.mem_of_getElem? (i := 20) rfl)))) (List.mem_cons_of_mem _ (List.mem_append_left _ (List.mem_append_left _ (List.mem_of_getElem? (i := 13) rfl)))) (by decide +kernel)) gg_f_X5_tellUnit_X7_openUnit__P
theorem gg_f_X5_tellUnit_X7_tell__P : GoodIn w_f_X5_tellUnit w_y_X7_tell__P := goodIn_sub (fun w h => (List.mem_cons.mp h).elim (fun e => (List.mem_cons_of_mem _ (List.mem_append_left _ (List.mem_append_right _ (List.mem_append_right _ (List.mem_append_right _ (List.mem_append_right _ (List.mem_append_right _ (List.mem_append_right _ (List.mem_append_left _ (List.mem_cons.mpr (Or.inl e)))))))))))) (fun h => (List.mem_append.mp h).elim (fun h => (List.mem_cons_of_mem _ (List.mem_append_left _ (List.mem_append_right _ (List.mem_append_right _ (List.mem_append_right _ (List.mem_append_right _ (List.mem_append_right _ (List.mem_append_right _ (List.mem_append_left _ (List.mem_cons_of_mem _ h))))))))))) (fun h => List.mem_cons_of_mem _ (List.mem_append_right _ h)))) w_y_X7_tell__P_good
theorem g_y_X5_tellUnit_X7_tell__P_V160 : GoodIn w_f_X5_tellUnit (wsV RX5 160 RX7 yX7_tell w_y_X7_tell__P) := goodIn_app (nb_g4 (List.mem_cons_of_mem _ (List.mem_append_left _ (List.mem_append_left _ (List.mem_of_getElem? (i := 21) rfl)))) (List.mem_cons_of_mem _ (List.mem_append_left _ (List.mem_append_left _ (List.mem_of_getElem? (i := 22) rfl)))) (List.mem_cons_of_mem _ (List.mem_append_left _ (List.mem_append_left _ (List.mem_of_getElem? (i := 23) rfl)))) (List.mem_cons_of_mem _ (List.mem_append_left _ (List.mem_append_left _ (List.mem_of_getElem? (i := 13) rfl)))) (by decide +kernel)) gg_f_X5_tellUnit_X7_tell__P
set_option maxHeartbeats 40000000 in
set_option maxRecDepth 100000 in
theorem c_f_X5_tellUnit (l : Launch) (hl0 : l.stackTraces = false) (dC : Nat → ClassId) (dI : Nat → Nat → Nat) (cy : Nat → ClassId) (ek a : Nat → Nat) (k0 : Nat) (L0 : LV) (σ0 : CS) (r0 : RS) (h0 : f_X5_tellUnit k0 0 L0 σ0 = some r0) (z : Nat → Nat) (sz : Nat) : vx_Met l yX5_tellUnit w_f_X5_tellUnit ({ frames := 8, cells := r0.2.2.1, slots := r0.2.2.2, locals := 146 }) (va_Pc [.ref (a 40), .int (L0.1 1)] (nInF (dC, dI) cy ek sz (vC cy a z σ0))) (xI dC dI cy a (va_A (vC cy a z σ0) sz) [] z r0) (xX dC dI cy a (va_A (vC cy a z σ0) sz) [] z r0) r0.2.2.1 r0.2.2.2 (va_A (vC cy a z σ0) sz) := by
  refine vx_ofW (cc := cX5_tellUnit) (maxL := 2) (ret := (some .int)) (by decide) rfl ?_
  intro p e s m args below meth c s₁ B hml hno hv
  obtain ⟨rfl, ⟨⟨hsz, hP, hK, hD0, hG⟩, hE⟩, hT⟩ := hv
  have hx := B.exec
  have hb := B.bytes
  have hr := B.returns
  have hts := atoms_spec (ws := w_f_X5_tellUnit) B.pre
  have hown : s.vm.findClass RX5 = some m.cls := findClass_of_methodNamed B.named
  have hlocks := B.notSynchronized
  subst hsz
  have hD := hD0.self (sz := s.heap.size)
  generalize hAe : va_A (vC cy a z σ0) s.heap.size = A at hD hE hT ⊢
  have hA : ∀ q : Nat, s.heap.size ≤ q → A q := fun q h => by rw [← hAe]; exact Or.inr h
  have hS : va_S A s.heap s.heap [] := va_S.rf
  have hl := lv_entry ([.ref (a 40), .int (L0.1 1)]) (n := 2) (Nat.le_of_ble_eq_true rfl)
  rw [lg_entry_eq]
  generalize (lg_sl ([.ref (a 40), .int (L0.1 1)]) ++ List.replicate (2 - (lg_sl ([.ref (a 40), .int (L0.1 1)])).length) Slot.unset).toArray = ls at hl ⊢
  have hl : lv_has ls 2 [(0, .ref (a 40)), (1, .int (L0.1 1))] := hl
  generalize hmc : r0.2.2.1 = mc
  generalize hms : r0.2.2.2 = ms
  have blk : ∀ k : Nat, (bX p l e (headSpec w_f_X5_tellUnit ({ frames := 8, cells := mc, slots := ms, locals := 146 })).room s m #[.ref (a 40), .int (L0.1 1)] below meth c dC dI cy a A (fun r => vx_MQ below (xI dC dI cy a A [] z r) (xX dC dI cy a A [] z r) #[.ref (a 40), .int (L0.1 1)] s mc ms A) [] z mc ms 2 (f_X5_tellUnit k 0) (fun z L => [(0, .ref (a 40)), (1, .int (L.1 1))]) 0 (fun z L => [])) ∧ (bX p l e (headSpec w_f_X5_tellUnit ({ frames := 8, cells := mc, slots := ms, locals := 146 })).room s m #[.ref (a 40), .int (L0.1 1)] below meth c dC dI cy a A (fun r => vx_MQ below (xI dC dI cy a A [] z r) (xX dC dI cy a A [] z r) #[.ref (a 40), .int (L0.1 1)] s mc ms A) [] z mc ms 2 (f_X5_tellUnit k 1) (fun z L => [(0, .ref (a 40)), (1, .int (L.1 1))]) 49 (fun z L => [])) ∧ (bX p l e (headSpec w_f_X5_tellUnit ({ frames := 8, cells := mc, slots := ms, locals := 146 })).room s m #[.ref (a 40), .int (L0.1 1)] below meth c dC dI cy a A (fun r => vx_MQ below (xI dC dI cy a A [] z r) (xX dC dI cy a A [] z r) #[.ref (a 40), .int (L0.1 1)] s mc ms A) [] z mc ms 2 (f_X5_tellUnit k 2) (fun z L => [(0, .ref (a 40)), (1, .int (L.1 1))]) 74 (fun z L => [])) := by
    intro k
    induction k with
    | zero => exact ⟨fun z c1 c2 L σ r h => (by cases h), fun z c1 c2 L σ r h => (by cases h), fun z c1 c2 L σ r h => (by cases h)⟩
    | succ k ih =>
      refine ⟨?_, ?_, ?_⟩
      · intro z cells slots L σ r h hzk hc hs H locs ls hP hD hS hl
        rw [f_X5_tellUnit] at h
        refine lv_aload_n hx hb dX5_tellUnit_0 rfl (lv_at hl 0 rfl) ?_
        refine hg_40_0 hx hb hts in_f_X5_tellUnit_X5 hown hK hP (hts _ (List.mem_cons_of_mem _ (List.mem_append_left _ (List.mem_append_left _ (List.mem_of_getElem? (i := 0) rfl))))) dX5_tellUnit_1 ?_
        obtain ⟨r1, hc1, hle1, h9⟩ := ox_ex h
        clear h
        refine kx_v (vx_runV (As := []) (rest := []) ⟨hx, hb, hml, hown, hts⟩ (c_f_X2_advance l hl0 dC dI cy ek a k lZ σ r1 hc1 z H.size) (cwV 0 hts g_f_X5_tellUnit_X2_advance_V30 rfl rfl rfl hd_f_X2_advance ⟨Nat.le_of_ble_eq_true rfl, Nat.le_of_ble_eq_true rfl⟩) ⟨nb_blindF, va_recv hK hP (ci := 2) (q0 := 37) rfl rfl, (kx_pre hK hG hE hT hA hP hD hS)⟩ rfl rfl hl.1 rfl (lv_room (Nat.le_of_ble_eq_true rfl)) dX5_tellUnit_4 ⟨Nat.le_trans (Nat.add_le_add_left hle1.1 _) (Nat.le_of_eq hc), Nat.le_trans (Nat.add_le_add_left hle1.2 _) (Nat.le_of_eq hs)⟩) hK hA hzk hP hD hS (by decide) hno hlocks ?_
        rcases h9 with ⟨h00, y1, hny1, hy⟩ | ⟨h00, hy⟩
        · subst hy
          have h := hny1
          refine Or.inl ⟨h00, fun u H locs hz1 hzk hP hD hS => ?_⟩
          obtain rfl := (zk_nil hz1).symm
          replace hc := (Nat.add_assoc _ _ _).trans hc
          replace hs := (Nat.add_assoc _ _ _).trans hs
          refine lv_aload_n hx hb dX5_tellUnit_7 rfl (lv_at hl 0 rfl) ?_
          refine lv_iconst (v := 2) hx hb dX5_tellUnit_8 (by decide) ?_
          obtain ⟨r2, hc2, hle2, h9⟩ := ox_ex h
          clear h
          refine kx_v (r := y1) (vx_runV (As := [.int 2]) (rest := []) ⟨hx, hb, hml, hown, hts⟩ (c_f_X5_want l hl0 dC dI cy ek a k (lI lZ 1 2) r1.2.1 r2 hc2 z H.size) (cwV 1 hts g_f_X5_tellUnit_X5_want_V61 rfl rfl rfl hd_f_X5_want ⟨Nat.le_of_ble_eq_true rfl, Nat.le_of_ble_eq_true rfl⟩) ⟨nb_blindF, va_recv hK hP (ci := 4) (q0 := 40) rfl rfl, (kx_pre hK hG hE hT hA hP hD hS)⟩ rfl rfl hl.1 rfl (lv_room (Nat.le_of_ble_eq_true rfl)) dX5_tellUnit_9 ⟨Nat.le_trans (Nat.add_le_add_left hle2.1 _) (Nat.le_of_eq hc), Nat.le_trans (Nat.add_le_add_left hle2.2 _) (Nat.le_of_eq hs)⟩) hK hA hzk hP hD hS (by decide) hno hlocks ?_
          rcases h9 with ⟨h00, y2, hny2, hy⟩ | ⟨h00, hy⟩
          · subst hy
            have h := hny2
            refine Or.inl ⟨h00, fun u H locs hz2 hzk hP hD hS => ?_⟩
            obtain rfl := (zk_nil hz2).symm
            replace hc := (Nat.add_assoc _ _ _).trans hc
            replace hs := (Nat.add_assoc _ _ _).trans hs
            refine lv_aload_n hx hb dX5_tellUnit_12 rfl (lv_at hl 0 rfl) ?_
            obtain ⟨b3, hb3, h⟩ := oP_ex h
            refine hgq_40_2 hx hb hts in_f_X5_tellUnit_X5 hown hK hP (hts _ (List.mem_cons_of_mem _ (List.mem_append_left _ (List.mem_append_left _ (List.mem_of_getElem? (i := 9) rfl))))) hb3 dX5_tellUnit_13 ?_
            refine lv_iconst (v := 0) hx hb dX5_tellUnit_16 (by decide) ?_
            refine lv_aload_n hx hb dX5_tellUnit_17 rfl (lv_at hl 0 rfl) ?_
            refine hg_40_0 hx hb hts in_f_X5_tellUnit_X5 hown hK hP (hts _ (List.mem_cons_of_mem _ (List.mem_append_left _ (List.mem_append_left _ (List.mem_of_getElem? (i := 0) rfl))))) dX5_tellUnit_18 ?_
            refine hg_37_5n hx hb hts in_f_X5_tellUnit_X2 hown hK hP (va_Nw.use rfl (hG.1 _ (List.mem_of_getElem? (i := 58) rfl))) dX5_tellUnit_21 ?_
            refine lv_aload_n hx hb dX5_tellUnit_24 rfl (lv_at hl 0 rfl) ?_
            refine hg_40_0 hx hb hts in_f_X5_tellUnit_X5 hown hK hP (hts _ (List.mem_cons_of_mem _ (List.mem_append_left _ (List.mem_append_left _ (List.mem_of_getElem? (i := 0) rfl))))) dX5_tellUnit_25 ?_
            refine hg_37_6n hx hb hts in_f_X5_tellUnit_X2 hown hK hP (va_Nw.use rfl (hG.1 _ (List.mem_of_getElem? (i := 60) rfl))) dX5_tellUnit_28 ?_
            obtain ⟨r4, hc4, h⟩ := op_ex h
            refine kc_i (va_runV (As := [.int 0, .long (r2.2.1.2.1 3705), .long (r2.2.1.2.1 3706)]) (rest := []) ⟨hx, hb, hml, hown, hts⟩ (c_y_X7_isToldFrom__P l dC dI cy a z k (lJ (lJ (lI (lB lZ 0 b3) 1 0) 2 ((r2.2.1.2.1 3705))) 4 ((r2.2.1.2.1 3706))) r2.2.1 r4 hc4 H.size) (cwV 3 hts g_y_X5_tellUnit_X7_isToldFrom__P_V164 rfl rfl rfl hd_y_X7_isToldFrom__P ⟨Nat.le_of_ble_eq_true rfl, Nat.le_of_ble_eq_true rfl⟩) ⟨nb_blind, recvP b3 hK hP, (kb_pre hK hG hP hD)⟩ rfl rfl hl.1 rfl (lv_room (Nat.le_of_ble_eq_true rfl)) dX5_tellUnit_31 ⟨(Nat.le_trans (Nat.le_add_right _ _) (Nat.le_of_eq hc)), (Nat.le_trans (Nat.le_add_right _ _) (Nat.le_of_eq hs))⟩) hA hP hD hS (fun H locs hP hD hS => ?_)
            refine lv_if_eq (tgt := 49) hx hb dX5_tellUnit_34 (by decide) (fun c5 => ?_) (fun c5 => ?_)
            · rw [if_pos c5] at h
              exact ih.2.1 z _ _ L r4.2 _ h hzk hc hs H locs ls hP hD hS (lv_sub hl [0, 1] rfl)
            · rw [if_neg c5] at h
              refine lv_aload_n hx hb dX5_tellUnit_37 rfl (lv_at hl 0 rfl) ?_
              refine lv_iconst (v := 4) hx hb dX5_tellUnit_38 (by decide) ?_
              refine lv_aload_n hx hb dX5_tellUnit_39 rfl (lv_at hl 0 rfl) ?_
              refine hg_40_0 hx hb hts in_f_X5_tellUnit_X5 hown hK hP (hts _ (List.mem_cons_of_mem _ (List.mem_append_left _ (List.mem_append_left _ (List.mem_of_getElem? (i := 0) rfl))))) dX5_tellUnit_40 ?_
              refine hg_37_3n hx hb hts in_f_X5_tellUnit_X2 hown hK hP (va_Nw.use rfl (hG.1 _ (List.mem_of_getElem? (i := 54) rfl))) dX5_tellUnit_43 ?_
              obtain ⟨r6, hc6, hle6, h9⟩ := ox_ex h
              clear h
              refine kx_v (r := y2) (vx_runV (As := [.int 4, .int (r4.2.1 3703)]) (rest := []) ⟨hx, hb, hml, hown, hts⟩ (c_f_X5_refuse l hl0 dC dI cy ek a k (lI (lI lZ 1 4) 2 ((r4.2.1 3703))) r4.2 r6 hc6 z H.size) (cwV 2 hts g_f_X5_tellUnit_X5_refuse_V125 rfl rfl rfl hd_f_X5_refuse ⟨Nat.le_of_ble_eq_true rfl, Nat.le_of_ble_eq_true rfl⟩) ⟨nb_blindF, va_recv hK hP (ci := 4) (q0 := 40) rfl rfl, (kx_pre hK hG hE hT hA hP hD hS)⟩ rfl rfl hl.1 rfl (lv_room (Nat.le_of_ble_eq_true rfl)) dX5_tellUnit_46 ⟨Nat.le_trans (Nat.add_le_add_left hle6.1 _) (Nat.le_of_eq hc), Nat.le_trans (Nat.add_le_add_left hle6.2 _) (Nat.le_of_eq hs)⟩) hK hA hzk hP hD hS (by decide) hno hlocks ?_
              rcases h9 with ⟨h00, y6, hny6, hy⟩ | ⟨h00, hy⟩
              · subst hy
                have h := hny6
                refine Or.inl ⟨h00, fun u H locs hz6 hzk hP hD hS => ?_⟩
                obtain rfl := (zk_nil hz6).symm
                replace hc := (Nat.add_assoc _ _ _).trans hc
                replace hs := (Nat.add_assoc _ _ _).trans hs
                exact ih.2.1 z _ _ L r6.2.1 _ h hzk hc hs H locs ls hP hD hS (lv_sub hl [0, 1] rfl)
              · subst hy
                exact Or.inr ⟨h00, rfl, hc, hs⟩
          · subst hy
            exact Or.inr ⟨h00, rfl, hc, hs⟩
        · subst hy
          exact Or.inr ⟨h00, rfl, hc, hs⟩
      · intro z cells slots L σ r h hzk hc hs H locs ls hP hD hS hl
        rw [f_X5_tellUnit] at h
        refine lv_aload_n hx hb dX5_tellUnit_49 rfl (lv_at hl 0 rfl) ?_
        obtain ⟨b1, hb1, h⟩ := oP_ex h
        refine hgq_40_2 hx hb hts in_f_X5_tellUnit_X5 hown hK hP (hts _ (List.mem_cons_of_mem _ (List.mem_append_left _ (List.mem_append_left _ (List.mem_of_getElem? (i := 9) rfl))))) hb1 dX5_tellUnit_50 ?_
        refine hg_P_12n b1 hx hb hts in_f_X5_tellUnit_X7 hown hK hP (va_Nw.use rfl (hG.1 _ (List.mem_of_getElem? (i := 83) rfl))) dX5_tellUnit_53 ?_
        refine lv_bipush (v := 40) hx hb dX5_tellUnit_56 (by decide) ?_
        refine lv_icmp_lt (tgt := 74) hx hb dX5_tellUnit_58 (by decide) (fun c2 => ?_) (fun c2 => ?_)
        · rw [if_pos c2] at h
          exact ih.2.2 z _ _ L σ _ h hzk hc hs H locs ls hP hD hS (lv_sub hl [0, 1] rfl)
        · rw [if_neg c2] at h
          refine lv_aload_n hx hb dX5_tellUnit_61 rfl (lv_at hl 0 rfl) ?_
          refine lv_bipush (v := 8) hx hb dX5_tellUnit_62 (by decide) ?_
          refine lv_aload_n hx hb dX5_tellUnit_64 rfl (lv_at hl 0 rfl) ?_
          refine hg_40_0 hx hb hts in_f_X5_tellUnit_X5 hown hK hP (hts _ (List.mem_cons_of_mem _ (List.mem_append_left _ (List.mem_append_left _ (List.mem_of_getElem? (i := 0) rfl))))) dX5_tellUnit_65 ?_
          refine hg_37_3n hx hb hts in_f_X5_tellUnit_X2 hown hK hP (va_Nw.use rfl (hG.1 _ (List.mem_of_getElem? (i := 54) rfl))) dX5_tellUnit_68 ?_
          obtain ⟨r3, hc3, hle3, h9⟩ := ox_ex h
          clear h
          refine kx_v (vx_runV (As := [.int 8, .int (σ.1 3703)]) (rest := []) ⟨hx, hb, hml, hown, hts⟩ (c_f_X5_refuse l hl0 dC dI cy ek a k (lI (lI lZ 1 8) 2 ((σ.1 3703))) σ r3 hc3 z H.size) (cwV 2 hts g_f_X5_tellUnit_X5_refuse_V125 rfl rfl rfl hd_f_X5_refuse ⟨Nat.le_of_ble_eq_true rfl, Nat.le_of_ble_eq_true rfl⟩) ⟨nb_blindF, va_recv hK hP (ci := 4) (q0 := 40) rfl rfl, (kx_pre hK hG hE hT hA hP hD hS)⟩ rfl rfl hl.1 rfl (lv_room (Nat.le_of_ble_eq_true rfl)) dX5_tellUnit_71 ⟨Nat.le_trans (Nat.add_le_add_left hle3.1 _) (Nat.le_of_eq hc), Nat.le_trans (Nat.add_le_add_left hle3.2 _) (Nat.le_of_eq hs)⟩) hK hA hzk hP hD hS (by decide) hno hlocks ?_
          rcases h9 with ⟨h00, y3, hny3, hy⟩ | ⟨h00, hy⟩
          · subst hy
            have h := hny3
            refine Or.inl ⟨h00, fun u H locs hz3 hzk hP hD hS => ?_⟩
            obtain rfl := (zk_nil hz3).symm
            replace hc := (Nat.add_assoc _ _ _).trans hc
            replace hs := (Nat.add_assoc _ _ _).trans hs
            exact ih.2.2 z _ _ L r3.2.1 _ h hzk hc hs H locs ls hP hD hS (lv_sub hl [0, 1] rfl)
          · subst hy
            exact Or.inr ⟨h00, rfl, hc, hs⟩
      · intro z cells slots L σ r h hzk hc hs H locs ls hP hD hS hl
        rw [f_X5_tellUnit] at h
        refine lv_aload_n hx hb dX5_tellUnit_74 rfl (lv_at hl 0 rfl) ?_
        obtain ⟨b1, hb1, h⟩ := oP_ex h
        refine hgq_40_2 hx hb hts in_f_X5_tellUnit_X5 hown hK hP (hts _ (List.mem_cons_of_mem _ (List.mem_append_left _ (List.mem_append_left _ (List.mem_of_getElem? (i := 9) rfl))))) hb1 dX5_tellUnit_75 ?_
        refine lv_dup hx hb dX5_tellUnit_78 rfl ?_
        refine hg_P_12n b1 hx hb hts in_f_X5_tellUnit_X7 hown hK hP (va_Nw.use rfl (hG.1 _ (List.mem_of_getElem? (i := 83) rfl))) dX5_tellUnit_79 ?_
        refine lv_iconst (v := 1) hx hb dX5_tellUnit_82 (by decide) ?_
        refine lv_iadd hx hb dX5_tellUnit_83 ?_
        refine hp_P_12n b1 hx hb hts in_f_X5_tellUnit_X7 hown hK hP hD hS (va_Nw.use rfl (hG.1 _ (List.mem_of_getElem? (i := 83) rfl))) dX5_tellUnit_84 (fun H locs hP hD hS => ?_)
        refine lv_aload_n hx hb dX5_tellUnit_87 rfl (lv_at hl 0 rfl) ?_
        refine lv_aload_n hx hb dX5_tellUnit_88 rfl (lv_at hl 0 rfl) ?_
        obtain ⟨b2, hb2, h⟩ := oP_ex h
        refine hgq_40_2 hx hb hts in_f_X5_tellUnit_X5 hown hK hP (hts _ (List.mem_cons_of_mem _ (List.mem_append_left _ (List.mem_append_left _ (List.mem_of_getElem? (i := 9) rfl))))) hb2 dX5_tellUnit_89 ?_
        refine hg_P_12n b2 hx hb hts in_f_X5_tellUnit_X7 hown hK hP (va_Nw.use rfl (hG.1 _ (List.mem_of_getElem? (i := 83) rfl))) dX5_tellUnit_92 ?_
        refine hp_40_3 hx hb hts in_f_X5_tellUnit_X5 hown hK hP hD hS (hts _ (List.mem_cons_of_mem _ (List.mem_append_left _ (List.mem_append_left _ (List.mem_of_getElem? (i := 17) rfl))))) dX5_tellUnit_95 (fun H locs hP hD hS => ?_)
        refine lv_aload_n hx hb dX5_tellUnit_98 rfl (lv_at hl 0 rfl) ?_
        obtain ⟨b3, hb3, h⟩ := oP_ex h
        refine hgq_40_2 hx hb hts in_f_X5_tellUnit_X5 hown hK hP (hts _ (List.mem_cons_of_mem _ (List.mem_append_left _ (List.mem_append_left _ (List.mem_of_getElem? (i := 9) rfl))))) hb3 dX5_tellUnit_99 ?_
        refine lv_aload_n hx hb dX5_tellUnit_102 rfl (lv_at hl 0 rfl) ?_
        refine hg_40_3 hx hb hts in_f_X5_tellUnit_X5 hown hK hP (hts _ (List.mem_cons_of_mem _ (List.mem_append_left _ (List.mem_append_left _ (List.mem_of_getElem? (i := 17) rfl))))) dX5_tellUnit_103 ?_
        obtain ⟨r4, hc4, h⟩ := op_ex h
        refine kc_v (va_runV (As := [.int ((uI (uI σ (fP b1 12) ((((σ.1 (fP b1 12))) + 1))) 4003 (((uI σ (fP b1 12) ((((σ.1 (fP b1 12))) + 1))).1 (fP b2 12)))).1 4003)]) (rest := []) ⟨hx, hb, hml, hown, hts⟩ (c_y_X7_openUnit__P l dC dI cy a z k (lI (lB lZ 0 b3) 1 (((uI (uI σ (fP b1 12) ((((σ.1 (fP b1 12))) + 1))) 4003 (((uI σ (fP b1 12) ((((σ.1 (fP b1 12))) + 1))).1 (fP b2 12)))).1 4003))) (uI (uI σ (fP b1 12) ((((σ.1 (fP b1 12))) + 1))) 4003 (((uI σ (fP b1 12) ((((σ.1 (fP b1 12))) + 1))).1 (fP b2 12)))) r4 hc4 H.size) (cwV 1 hts g_y_X5_tellUnit_X7_openUnit__P_V87 rfl rfl rfl hd_y_X7_openUnit__P ⟨Nat.le_of_ble_eq_true rfl, Nat.le_of_ble_eq_true rfl⟩) ⟨nb_blind, recvP b3 hK hP, (kb_pre hK hG hP hD)⟩ rfl rfl hl.1 rfl (lv_room (Nat.le_of_ble_eq_true rfl)) dX5_tellUnit_106 ⟨(Nat.le_trans (Nat.le_add_right _ _) (Nat.le_of_eq hc)), (Nat.le_trans (Nat.le_add_right _ _) (Nat.le_of_eq hs))⟩) hA hP hD hS (fun H locs hP hD hS => ?_)
        refine lv_aload_n hx hb dX5_tellUnit_109 rfl (lv_at hl 0 rfl) ?_
        obtain ⟨b5, hb5, h⟩ := oP_ex h
        refine hgq_40_2 hx hb hts in_f_X5_tellUnit_X5 hown hK hP (hts _ (List.mem_cons_of_mem _ (List.mem_append_left _ (List.mem_append_left _ (List.mem_of_getElem? (i := 9) rfl))))) hb5 dX5_tellUnit_110 ?_
        refine lv_aload_n hx hb dX5_tellUnit_113 rfl (lv_at hl 0 rfl) ?_
        refine hg_40_0 hx hb hts in_f_X5_tellUnit_X5 hown hK hP (hts _ (List.mem_cons_of_mem _ (List.mem_append_left _ (List.mem_append_left _ (List.mem_of_getElem? (i := 0) rfl))))) dX5_tellUnit_114 ?_
        refine hg_37_5n hx hb hts in_f_X5_tellUnit_X2 hown hK hP (va_Nw.use rfl (hG.1 _ (List.mem_of_getElem? (i := 58) rfl))) dX5_tellUnit_117 ?_
        refine lv_aload_n hx hb dX5_tellUnit_120 rfl (lv_at hl 0 rfl) ?_
        refine hg_40_0 hx hb hts in_f_X5_tellUnit_X5 hown hK hP (hts _ (List.mem_cons_of_mem _ (List.mem_append_left _ (List.mem_append_left _ (List.mem_of_getElem? (i := 0) rfl))))) dX5_tellUnit_121 ?_
        refine hg_37_6n hx hb hts in_f_X5_tellUnit_X2 hown hK hP (va_Nw.use rfl (hG.1 _ (List.mem_of_getElem? (i := 60) rfl))) dX5_tellUnit_124 ?_
        refine lv_iload_n hx hb dX5_tellUnit_127 rfl (lv_at hl 1 rfl) ?_
        refine lv_iconst (v := 0) hx hb dX5_tellUnit_128 (by decide) ?_
        refine lv_aload_n hx hb dX5_tellUnit_129 rfl (lv_at hl 0 rfl) ?_
        refine hg_40_3 hx hb hts in_f_X5_tellUnit_X5 hown hK hP (hts _ (List.mem_cons_of_mem _ (List.mem_append_left _ (List.mem_append_left _ (List.mem_of_getElem? (i := 17) rfl))))) dX5_tellUnit_130 ?_
        obtain ⟨r6, hc6, h⟩ := op_ex h
        refine kc_v (va_runV (As := [.long (r4.2.2.1 3705), .long (r4.2.2.1 3706), .int (L.1 1), .int 0, .int (r4.2.1 4003)]) (rest := []) ⟨hx, hb, hml, hown, hts⟩ (c_y_X7_tell__P l dC dI cy a z k (lI (lI (lI (lJ (lJ (lB lZ 0 b5) 1 ((r4.2.2.1 3705))) 3 ((r4.2.2.1 3706))) 5 ((L.1 1))) 6 0) 7 ((r4.2.1 4003))) r4.2 r6 hc6 H.size) (cwV 5 hts g_y_X5_tellUnit_X7_tell__P_V160 rfl rfl rfl hd_y_X7_tell__P ⟨Nat.le_of_ble_eq_true rfl, Nat.le_of_ble_eq_true rfl⟩) ⟨nb_blind, recvP b5 hK hP, (kb_pre hK hG hP hD)⟩ rfl rfl hl.1 rfl (lv_room (Nat.le_of_ble_eq_true rfl)) dX5_tellUnit_133 ⟨(Nat.le_trans (Nat.le_add_right _ _) (Nat.le_of_eq hc)), (Nat.le_trans (Nat.le_add_right _ _) (Nat.le_of_eq hs))⟩) hA hP hD hS (fun H locs hP hD hS => ?_)
        refine lv_aload_n hx hb dX5_tellUnit_136 rfl (lv_at hl 0 rfl) ?_
        refine hg_40_0 hx hb hts in_f_X5_tellUnit_X5 hown hK hP (hts _ (List.mem_cons_of_mem _ (List.mem_append_left _ (List.mem_append_left _ (List.mem_of_getElem? (i := 0) rfl))))) dX5_tellUnit_137 ?_
        obtain ⟨r7, hc7, hle7, h9⟩ := ox_ex h
        clear h
        refine kx_v (vx_runV (As := []) (rest := []) ⟨hx, hb, hml, hown, hts⟩ (c_f_X2_advance l hl0 dC dI cy ek a k lZ r6.2 r7 hc7 z H.size) (cwV 0 hts g_f_X5_tellUnit_X2_advance_V30 rfl rfl rfl hd_f_X2_advance ⟨Nat.le_of_ble_eq_true rfl, Nat.le_of_ble_eq_true rfl⟩) ⟨nb_blindF, va_recv hK hP (ci := 2) (q0 := 37) rfl rfl, (kx_pre hK hG hE hT hA hP hD hS)⟩ rfl rfl hl.1 rfl (lv_room (Nat.le_of_ble_eq_true rfl)) dX5_tellUnit_140 ⟨Nat.le_trans (Nat.add_le_add_left hle7.1 _) (Nat.le_of_eq hc), Nat.le_trans (Nat.add_le_add_left hle7.2 _) (Nat.le_of_eq hs)⟩) hK hA hzk hP hD hS (by decide) hno hlocks ?_
        rcases h9 with ⟨h00, y7, hny7, hy⟩ | ⟨h00, hy⟩
        · subst hy
          have h := hny7
          refine Or.inl ⟨h00, fun u H locs hz7 hzk hP hD hS => ?_⟩
          obtain rfl := (zk_nil hz7).symm
          replace hc := (Nat.add_assoc _ _ _).trans hc
          replace hs := (Nat.add_assoc _ _ _).trans hs
          refine lv_aload_n hx hb dX5_tellUnit_143 rfl (lv_at hl 0 rfl) ?_
          refine lv_bipush (v := 10) hx hb dX5_tellUnit_144 (by decide) ?_
          obtain ⟨r8, hc8, hle8, h9⟩ := ox_ex h
          clear h
          refine kx_v (r := y7) (vx_runV (As := [.int 10]) (rest := []) ⟨hx, hb, hml, hown, hts⟩ (c_f_X5_want l hl0 dC dI cy ek a k (lI lZ 1 10) r7.2.1 r8 hc8 z H.size) (cwV 1 hts g_f_X5_tellUnit_X5_want_V61 rfl rfl rfl hd_f_X5_want ⟨Nat.le_of_ble_eq_true rfl, Nat.le_of_ble_eq_true rfl⟩) ⟨nb_blindF, va_recv hK hP (ci := 4) (q0 := 40) rfl rfl, (kx_pre hK hG hE hT hA hP hD hS)⟩ rfl rfl hl.1 rfl (lv_room (Nat.le_of_ble_eq_true rfl)) dX5_tellUnit_146 ⟨Nat.le_trans (Nat.add_le_add_left hle8.1 _) (Nat.le_of_eq hc), Nat.le_trans (Nat.add_le_add_left hle8.2 _) (Nat.le_of_eq hs)⟩) hK hA hzk hP hD hS (by decide) hno hlocks ?_
          rcases h9 with ⟨h00, y8, hny8, hy⟩ | ⟨h00, hy⟩
          · subst hy
            have h := hny8
            refine Or.inl ⟨h00, fun u H locs hz8 hzk hP hD hS => ?_⟩
            obtain rfl := (zk_nil hz8).symm
            replace hc := (Nat.add_assoc _ _ _).trans hc
            replace hs := (Nat.add_assoc _ _ _).trans hs
            refine lv_aload_n hx hb dX5_tellUnit_149 rfl (lv_at hl 0 rfl) ?_
            obtain ⟨r9, hc9, hle9, h9⟩ := ox_ex h
            clear h
            refine kx_v (r := y8) (vx_runV (As := []) (rest := []) ⟨hx, hb, hml, hown, hts⟩ (c_f_X5_opens l hl0 dC dI cy ek a k lZ r8.2.1 r9 hc9 z H.size) (cwV 0 hts g_f_X5_tellUnit_X5_opens_V173 rfl rfl rfl hd_f_X5_opens ⟨Nat.le_of_ble_eq_true rfl, Nat.le_of_ble_eq_true rfl⟩) ⟨nb_blindF, va_recv hK hP (ci := 4) (q0 := 40) rfl rfl, (kx_pre hK hG hE hT hA hP hD hS)⟩ rfl rfl hl.1 rfl (lv_room (Nat.le_of_ble_eq_true rfl)) dX5_tellUnit_150 ⟨Nat.le_trans (Nat.add_le_add_left hle9.1 _) (Nat.le_of_eq hc), Nat.le_trans (Nat.add_le_add_left hle9.2 _) (Nat.le_of_eq hs)⟩) hK hA hzk hP hD hS (by decide) hno hlocks ?_
            rcases h9 with ⟨h00, y9, hny9, hy⟩ | ⟨h00, hy⟩
            · subst hy
              have h := hny9
              refine Or.inl ⟨h00, fun u H locs hz9 hzk hP hD hS => ?_⟩
              obtain rfl := (zk_nil hz9).symm
              replace hc := (Nat.add_assoc _ _ _).trans hc
              replace hs := (Nat.add_assoc _ _ _).trans hs
              refine lv_aload_n hx hb dX5_tellUnit_153 rfl (lv_at hl 0 rfl) ?_
              obtain ⟨b10, hb10, h⟩ := oP_ex h
              refine hgq_40_2 hx hb hts in_f_X5_tellUnit_X5 hown hK hP (hts _ (List.mem_cons_of_mem _ (List.mem_append_left _ (List.mem_append_left _ (List.mem_of_getElem? (i := 9) rfl))))) hb10 dX5_tellUnit_154 ?_
              refine hg_P_11n b10 hx hb hts in_f_X5_tellUnit_X7 hown hK hP (va_Nw.use rfl (hG.1 _ (List.mem_of_getElem? (i := 82) rfl))) dX5_tellUnit_157 ?_
              obtain rfl := Option.some.inj h
              subst hc
              subst hs
              exact xr_i hx hb hr hK hzk hP hD hS hlocks dX5_tellUnit_160
            · subst hy
              exact Or.inr ⟨h00, rfl, hc, hs⟩
          · subst hy
            exact Or.inr ⟨h00, rfl, hc, hs⟩
        · subst hy
          exact Or.inr ⟨h00, rfl, hc, hs⟩
  exact (blk k0).1 z 0 0 L0 σ0 r0 h0 (zk_rf _ _) ((Nat.zero_add _).trans hmc) ((Nat.zero_add _).trans hms) s.heap [] ls hP hD hS hl
/-! X5_parameter -/
def f_X5_parameter : Nat → Nat → LV → CS → Option RS
  | 0, _, _, _ => none
  | k + 1, 0, L, σ => ox (f_X5_want k 0 (lI lZ 1 2) σ) (fun r1 => oP (sPp r1.2.1) (fun b2 => op (y_X7_isToldFrom__P k 0 (lJ (lJ (lI (lB lZ 0 b2) 1 ((L.1 1))) 2 ((r1.2.1.2.1 3705))) 4 ((r1.2.1.2.1 3706))) r1.2.1) (fun r3 => if r3.1 = 0 then (f_X5_parameter k 1 L r3.2) else (ox (f_X5_refuse k 0 (lI (lI lZ 1 4) 2 ((r3.2.1 3703))) r3.2) (fun r5 => f_X5_parameter k 1 L r5.2.1)))))
  | k + 1, 1, L, σ => oP (sPp σ) (fun b1 => if ¬ (((σ.1 4003)) < 0 ∨ 42 ≤ ((σ.1 4003)).toNatClampNeg) then (if ((σ.2.2.1 (pR14 b1) ((σ.1 4003)).toNatClampNeg)) < 8 then (f_X5_parameter k 2 L σ) else (ox (f_X5_refuse k 0 (lI (lI lZ 1 8) 2 ((σ.1 3703))) σ) (fun r4 => f_X5_parameter k 2 L r4.2.1))) else none)
  | k + 1, 2, L, σ => ox (f_X5_tellVariable k 0 (lI lZ 1 ((L.1 1))) σ) (fun r1 => oP (sPp r1.2.1) (fun b2 => if ¬ (((r1.2.1.1 4003)) < 0 ∨ 42 ≤ ((r1.2.1.1 4003)).toNatClampNeg) then (if ¬ (((r1.2.1.1 4003)) < 0 ∨ 42 ≤ ((r1.2.1.1 4003)).toNatClampNeg) then (some ((0, 0), (uA r1.2.1 (pR14 b2) ((r1.2.1.1 4003)).toNatClampNeg ((((r1.2.1.2.2.1 (pR14 b2) ((r1.2.1.1 4003)).toNatClampNeg)) + 1))), (0, 0))) else none) else none))
  | _ + 1, _ + 3, _, _ => none
def o_f_X5_parameter : List Cond := [.methodLink RX5 61 yX5_want, .instanceMethod yX5_want, .selects RX5 yX5_want yX5_want, .initialized RX5, .fieldLink RX5 93 "SetHouse$Parser" "p" "LSetHouse$Program;", .fieldLink RX5 18 "SetHouse$Parser" "lex" "LSetHouse$Lexer;", .methodLink RX5 164 yX7_isToldFrom, .instanceMethod yX7_isToldFrom, .selects RX7 yX7_isToldFrom yX7_isToldFrom, .initialized RX7, .methodLink RX5 125 yX5_refuse, .instanceMethod yX5_refuse, .selects RX5 yX5_refuse yX5_refuse, .fieldLink RX5 97 "SetHouse$Parser" "unit" "I", .methodLink RX5 138 yX5_tellVariable, .instanceMethod yX5_tellVariable, .selects RX5 yX5_tellVariable yX5_tellVariable]
theorem o_f_X5_parameter_good : o_f_X5_parameter.all goodWord = true := by decide +kernel
def p_f_X5_parameter : List Cond := o_f_X5_parameter ++ ((.code yX5_want cX5_want 2 none :: p_f_X5_want) ++ ((.code yX7_isToldFrom cX7_isToldFrom 7 (some .boolean) :: p_y_X7_isToldFrom__P) ++ ((.code yX5_refuse cX5_refuse 3 none :: p_f_X5_refuse) ++ ((.code yX5_tellVariable cX5_tellVariable 2 none :: p_f_X5_tellVariable) ++ []))))
theorem p_f_X5_parameter_good : p_f_X5_parameter.all goodWord = true := nb_all2 o_f_X5_parameter_good (nb_all2 (nb_allc (by decide +kernel) p_f_X5_want_good) (nb_all2 (nb_allc (by decide +kernel) p_y_X7_isToldFrom__P_good) (nb_all2 (nb_allc (by decide +kernel) p_f_X5_refuse_good) (nb_all2 (nb_allc (by decide +kernel) p_f_X5_tellVariable_good) rfl))))
def w_f_X5_parameter : List Cond := .code yX5_parameter cX5_parameter 2 none :: (p_f_X5_parameter ++ fC)
theorem w_f_X5_parameter_good : w_f_X5_parameter.all goodWord = true := nb_allc (by decide +kernel) (nb_all2 p_f_X5_parameter_good fC_good)
theorem in_f_X5_parameter_X2 : ∀ w ∈ wsX20, w ∈ w_f_X5_parameter := fun _ h => List.mem_cons_of_mem _ (List.mem_append_right _ (List.mem_append_right _ (List.mem_append_right _ (List.mem_append_left _ h))))
theorem in_f_X5_parameter_X5 : ∀ w ∈ wsX50, w ∈ w_f_X5_parameter := fun _ h => List.mem_cons_of_mem _ (List.mem_append_right _ (List.mem_append_right _ (List.mem_append_right _ (List.mem_append_right _ (List.mem_append_right _ (List.mem_append_left _ h))))))
theorem in_f_X5_parameter_X7 : ∀ w ∈ wsX70, w ∈ w_f_X5_parameter := fun _ h => List.mem_cons_of_mem _ (List.mem_append_right _ (List.mem_append_right _ (List.mem_append_right _ (List.mem_append_right _ (List.mem_append_right _ (List.mem_append_right _ (List.mem_append_right _ (List.mem_append_left _ h))))))))
theorem hd_f_X5_parameter : yX5_parameter.cls = RX5 ∧ yX5_parameter.cls ≠ "java/lang/invoke/MethodHandle" ∧ yX5_parameter.cls ≠ "java/lang/invoke/VarHandle" ∧ (parseMethodDescriptor yX5_parameter.desc).map (fun d => d.parameters.length) = some 1 := by decide +kernel
theorem gg_f_X5_parameter_X5_refuse : GoodIn w_f_X5_parameter w_f_X5_refuse := goodIn_sub (fun w h => (List.mem_cons.mp h).elim (fun e => (List.mem_cons_of_mem _ (List.mem_append_left _ (List.mem_append_right _ (List.mem_append_right _ (List.mem_append_right _ (List.mem_append_left _ (List.mem_cons.mpr (Or.inl e))))))))) (fun h => (List.mem_append.mp h).elim (fun h => (List.mem_cons_of_mem _ (List.mem_append_left _ (List.mem_append_right _ (List.mem_append_right _ (List.mem_append_right _ (List.mem_append_left _ (List.mem_cons_of_mem _ h)))))))) (fun h => List.mem_cons_of_mem _ (List.mem_append_right _ h)))) w_f_X5_refuse_good
theorem g_f_X5_parameter_X5_refuse_V125 : GoodIn w_f_X5_parameter (wsV RX5 125 RX5 yX5_refuse w_f_X5_refuse) := goodIn_app (nb_g4 (List.mem_cons_of_mem _ (List.mem_append_left _ (List.mem_append_left _ (List.mem_of_getElem? (i := 10) rfl)))) (List.mem_cons_of_mem _ (List.mem_append_left _ (List.mem_append_left _ (List.mem_of_getElem? (i := 11) rfl)))) (List.mem_cons_of_mem _ (List.mem_append_left _ (List.mem_append_left _ (List.mem_of_getElem? (i := 12) rfl)))) (List.mem_cons_of_mem _ (List.mem_append_left _ (List.mem_append_left _ (List.mem_of_getElem? (i := 3) rfl)))) (by decide +kernel)) gg_f_X5_parameter_X5_refuse
theorem gg_f_X5_parameter_X5_tellVariable : GoodIn w_f_X5_parameter w_f_X5_tellVariable := goodIn_sub (fun w h => (List.mem_cons.mp h).elim (fun e => (List.mem_cons_of_mem _ (List.mem_append_left _ (List.mem_append_right _ (List.mem_append_right _ (List.mem_append_right _ (List.mem_append_right _ (List.mem_append_left _ (List.mem_cons.mpr (Or.inl e)))))))))) (fun h => (List.mem_append.mp h).elim (fun h => (List.mem_cons_of_mem _ (List.mem_append_left _ (List.mem_append_right _ (List.mem_append_right _ (List.mem_append_right _ (List.mem_append_right _ (List.mem_append_left _ (List.mem_cons_of_mem _ h))))))))) (fun h => List.mem_cons_of_mem _ (List.mem_append_right _ h)))) w_f_X5_tellVariable_good
theorem g_f_X5_parameter_X5_tellVariable_V138 : GoodIn w_f_X5_parameter (wsV RX5 138 RX5 yX5_tellVariable w_f_X5_tellVariable) := goodIn_app (nb_g4 (List.mem_cons_of_mem _ (List.mem_append_left _ (List.mem_append_left _ (List.mem_of_getElem? (i := 14) rfl)))) (List.mem_cons_of_mem _ (List.mem_append_left _ (List.mem_append_left _ (List.mem_of_getElem? (i := 15) rfl)))) (List.mem_cons_of_mem _ (List.mem_append_left _ (List.mem_append_left _ (List.mem_of_getElem? (i := 16) rfl)))) (List.mem_cons_of_mem _ (List.mem_append_left _ (List.mem_append_left _ (List.mem_of_getElem? (i := 3) rfl)))) (by decide +kernel)) gg_f_X5_parameter_X5_tellVariable
theorem gg_f_X5_parameter_X5_want : GoodIn w_f_X5_parameter w_f_X5_want := goodIn_sub (fun w h => (List.mem_cons.mp h).elim (fun e => (List.mem_cons_of_mem _ (List.mem_append_left _ (List.mem_append_right _ (List.mem_append_left _ (List.mem_cons.mpr (Or.inl e))))))) (fun h => (List.mem_append.mp h).elim (fun h => (List.mem_cons_of_mem _ (List.mem_append_left _ (List.mem_append_right _ (List.mem_append_left _ (List.mem_cons_of_mem _ h)))))) (fun h => List.mem_cons_of_mem _ (List.mem_append_right _ h)))) w_f_X5_want_good
theorem g_f_X5_parameter_X5_want_V61 : GoodIn w_f_X5_parameter (wsV RX5 61 RX5 yX5_want w_f_X5_want) := goodIn_app (nb_g4 (List.mem_cons_of_mem _ (List.mem_append_left _ (List.mem_append_left _ (List.mem_of_getElem? (i := 0) rfl)))) (List.mem_cons_of_mem _ (List.mem_append_left _ (List.mem_append_left _ (List.mem_of_getElem? (i := 1) rfl)))) (List.mem_cons_of_mem _ (List.mem_append_left _ (List.mem_append_left _ (List.mem_of_getElem? (i := 2) rfl)))) (List.mem_cons_of_mem _ (List.mem_append_left _ (List.mem_append_left _ (List.mem_of_getElem? (i := 3) rfl)))) (by decide +kernel)) gg_f_X5_parameter_X5_want
theorem gg_f_X5_parameter_X7_isToldFrom__P : GoodIn w_f_X5_parameter w_y_X7_isToldFrom__P := goodIn_sub (fun w h => (List.mem_cons.mp h).elim (fun e => (List.mem_cons_of_mem _ (List.mem_append_left _ (List.mem_append_right _ (List.mem_append_right _ (List.mem_append_left _ (List.mem_cons.mpr (Or.inl e)))))))) (fun h => (List.mem_append.mp h).elim (fun h => (List.mem_cons_of_mem _ (List.mem_append_left _ (List.mem_append_right _ (List.mem_append_right _ (List.mem_append_left _ (List.mem_cons_of_mem _ h))))))) (fun h => List.mem_cons_of_mem _ (List.mem_append_right _ h)))) w_y_X7_isToldFrom__P_good
theorem g_y_X5_parameter_X7_isToldFrom__P_V164 : GoodIn w_f_X5_parameter (wsV RX5 164 RX7 yX7_isToldFrom w_y_X7_isToldFrom__P) := goodIn_app (nb_g4 (List.mem_cons_of_mem _ (List.mem_append_left _ (List.mem_append_left _ (List.mem_of_getElem? (i := 6) rfl)))) (List.mem_cons_of_mem _ (List.mem_append_left _ (List.mem_append_left _ (List.mem_of_getElem? (i := 7) rfl)))) (List.mem_cons_of_mem _ (List.mem_append_left _ (List.mem_append_left _ (List.mem_of_getElem? (i := 8) rfl)))) (List.mem_cons_of_mem _ (List.mem_append_left _ (List.mem_append_left _ (List.mem_of_getElem? (i := 9) rfl)))) (by decide +kernel)) gg_f_X5_parameter_X7_isToldFrom__P
set_option maxHeartbeats 40000000 in
set_option maxRecDepth 100000 in
theorem c_f_X5_parameter (l : Launch) (hl0 : l.stackTraces = false) (dC : Nat → ClassId) (dI : Nat → Nat → Nat) (cy : Nat → ClassId) (ek a : Nat → Nat) (k0 : Nat) (L0 : LV) (σ0 : CS) (r0 : RS) (h0 : f_X5_parameter k0 0 L0 σ0 = some r0) (z : Nat → Nat) (sz : Nat) : vx_Met l yX5_parameter w_f_X5_parameter ({ frames := 9, cells := r0.2.2.1, slots := r0.2.2.2, locals := 164 }) (va_Pc [.ref (a 40), .int (L0.1 1)] (nInF (dC, dI) cy ek sz (vC cy a z σ0))) (xV dC dI cy a (va_A (vC cy a z σ0) sz) [] z r0) (xX dC dI cy a (va_A (vC cy a z σ0) sz) [] z r0) r0.2.2.1 r0.2.2.2 (va_A (vC cy a z σ0) sz) := by
  refine vx_ofW (cc := cX5_parameter) (maxL := 2) (ret := none) (by decide) rfl ?_
  intro p e s m args below meth c s₁ B hml hno hv
  obtain ⟨rfl, ⟨⟨hsz, hP, hK, hD0, hG⟩, hE⟩, hT⟩ := hv
  have hx := B.exec
  have hb := B.bytes
  have hr := B.returns
  have hts := atoms_spec (ws := w_f_X5_parameter) B.pre
  have hown : s.vm.findClass RX5 = some m.cls := findClass_of_methodNamed B.named
  have hlocks := B.notSynchronized
  subst hsz
  have hD := hD0.self (sz := s.heap.size)
  generalize hAe : va_A (vC cy a z σ0) s.heap.size = A at hD hE hT ⊢
  have hA : ∀ q : Nat, s.heap.size ≤ q → A q := fun q h => by rw [← hAe]; exact Or.inr h
  have hS : va_S A s.heap s.heap [] := va_S.rf
  have hl := lv_entry ([.ref (a 40), .int (L0.1 1)]) (n := 2) (Nat.le_of_ble_eq_true rfl)
  rw [lg_entry_eq]
  generalize (lg_sl ([.ref (a 40), .int (L0.1 1)]) ++ List.replicate (2 - (lg_sl ([.ref (a 40), .int (L0.1 1)])).length) Slot.unset).toArray = ls at hl ⊢
  have hl : lv_has ls 2 [(0, .ref (a 40)), (1, .int (L0.1 1))] := hl
  generalize hmc : r0.2.2.1 = mc
  generalize hms : r0.2.2.2 = ms
  have blk : ∀ k : Nat, (bX p l e (headSpec w_f_X5_parameter ({ frames := 9, cells := mc, slots := ms, locals := 164 })).room s m #[.ref (a 40), .int (L0.1 1)] below meth c dC dI cy a A (fun r => vx_MQ below (xV dC dI cy a A [] z r) (xX dC dI cy a A [] z r) #[.ref (a 40), .int (L0.1 1)] s mc ms A) [] z mc ms 2 (f_X5_parameter k 0) (fun z L => [(0, .ref (a 40)), (1, .int (L.1 1))]) 0 (fun z L => [])) ∧ (bX p l e (headSpec w_f_X5_parameter ({ frames := 9, cells := mc, slots := ms, locals := 164 })).room s m #[.ref (a 40), .int (L0.1 1)] below meth c dC dI cy a A (fun r => vx_MQ below (xV dC dI cy a A [] z r) (xX dC dI cy a A [] z r) #[.ref (a 40), .int (L0.1 1)] s mc ms A) [] z mc ms 2 (f_X5_parameter k 1) (fun z L => [(0, .ref (a 40)), (1, .int (L.1 1))]) 42 (fun z L => [])) ∧ (bX p l e (headSpec w_f_X5_parameter ({ frames := 9, cells := mc, slots := ms, locals := 164 })).room s m #[.ref (a 40), .int (L0.1 1)] below meth c dC dI cy a A (fun r => vx_MQ below (xV dC dI cy a A [] z r) (xX dC dI cy a A [] z r) #[.ref (a 40), .int (L0.1 1)] s mc ms A) [] z mc ms 2 (f_X5_parameter k 2) (fun z L => [(0, .ref (a 40)), (1, .int (L.1 1))]) 72 (fun z L => [])) := by
    intro k
    induction k with
    | zero => exact ⟨fun z c1 c2 L σ r h => (by cases h), fun z c1 c2 L σ r h => (by cases h), fun z c1 c2 L σ r h => (by cases h)⟩
    | succ k ih =>
      refine ⟨?_, ?_, ?_⟩
      · intro z cells slots L σ r h hzk hc hs H locs ls hP hD hS hl
        rw [f_X5_parameter] at h
        refine lv_aload_n hx hb dX5_parameter_0 rfl (lv_at hl 0 rfl) ?_
        refine lv_iconst (v := 2) hx hb dX5_parameter_1 (by decide) ?_
        obtain ⟨r1, hc1, hle1, h9⟩ := ox_ex h
        clear h
        refine kx_v (vx_runV (As := [.int 2]) (rest := []) ⟨hx, hb, hml, hown, hts⟩ (c_f_X5_want l hl0 dC dI cy ek a k (lI lZ 1 2) σ r1 hc1 z H.size) (cwV 1 hts g_f_X5_parameter_X5_want_V61 rfl rfl rfl hd_f_X5_want ⟨Nat.le_of_ble_eq_true rfl, Nat.le_of_ble_eq_true rfl⟩) ⟨nb_blindF, va_recv hK hP (ci := 4) (q0 := 40) rfl rfl, (kx_pre hK hG hE hT hA hP hD hS)⟩ rfl rfl hl.1 rfl (lv_room (Nat.le_of_ble_eq_true rfl)) dX5_parameter_2 ⟨Nat.le_trans (Nat.add_le_add_left hle1.1 _) (Nat.le_of_eq hc), Nat.le_trans (Nat.add_le_add_left hle1.2 _) (Nat.le_of_eq hs)⟩) hK hA hzk hP hD hS (by decide) hno hlocks ?_
        rcases h9 with ⟨h00, y1, hny1, hy⟩ | ⟨h00, hy⟩
        · subst hy
          have h := hny1
          refine Or.inl ⟨h00, fun u H locs hz1 hzk hP hD hS => ?_⟩
          obtain rfl := (zk_nil hz1).symm
          replace hc := (Nat.add_assoc _ _ _).trans hc
          replace hs := (Nat.add_assoc _ _ _).trans hs
          refine lv_aload_n hx hb dX5_parameter_5 rfl (lv_at hl 0 rfl) ?_
          obtain ⟨b2, hb2, h⟩ := oP_ex h
          refine hgq_40_2 hx hb hts in_f_X5_parameter_X5 hown hK hP (hts _ (List.mem_cons_of_mem _ (List.mem_append_left _ (List.mem_append_left _ (List.mem_of_getElem? (i := 4) rfl))))) hb2 dX5_parameter_6 ?_
          refine lv_iload_n hx hb dX5_parameter_9 rfl (lv_at hl 1 rfl) ?_
          refine lv_aload_n hx hb dX5_parameter_10 rfl (lv_at hl 0 rfl) ?_
          refine hg_40_0 hx hb hts in_f_X5_parameter_X5 hown hK hP (hts _ (List.mem_cons_of_mem _ (List.mem_append_left _ (List.mem_append_left _ (List.mem_of_getElem? (i := 5) rfl))))) dX5_parameter_11 ?_
          refine hg_37_5n hx hb hts in_f_X5_parameter_X2 hown hK hP (va_Nw.use rfl (hG.1 _ (List.mem_of_getElem? (i := 58) rfl))) dX5_parameter_14 ?_
          refine lv_aload_n hx hb dX5_parameter_17 rfl (lv_at hl 0 rfl) ?_
          refine hg_40_0 hx hb hts in_f_X5_parameter_X5 hown hK hP (hts _ (List.mem_cons_of_mem _ (List.mem_append_left _ (List.mem_append_left _ (List.mem_of_getElem? (i := 5) rfl))))) dX5_parameter_18 ?_
          refine hg_37_6n hx hb hts in_f_X5_parameter_X2 hown hK hP (va_Nw.use rfl (hG.1 _ (List.mem_of_getElem? (i := 60) rfl))) dX5_parameter_21 ?_
          obtain ⟨r3, hc3, h⟩ := op_ex h
          refine kc_i (va_runV (As := [.int (L.1 1), .long (r1.2.1.2.1 3705), .long (r1.2.1.2.1 3706)]) (rest := []) ⟨hx, hb, hml, hown, hts⟩ (c_y_X7_isToldFrom__P l dC dI cy a z k (lJ (lJ (lI (lB lZ 0 b2) 1 ((L.1 1))) 2 ((r1.2.1.2.1 3705))) 4 ((r1.2.1.2.1 3706))) r1.2.1 r3 hc3 H.size) (cwV 3 hts g_y_X5_parameter_X7_isToldFrom__P_V164 rfl rfl rfl hd_y_X7_isToldFrom__P ⟨Nat.le_of_ble_eq_true rfl, Nat.le_of_ble_eq_true rfl⟩) ⟨nb_blind, recvP b2 hK hP, (kb_pre hK hG hP hD)⟩ rfl rfl hl.1 rfl (lv_room (Nat.le_of_ble_eq_true rfl)) dX5_parameter_24 ⟨(Nat.le_trans (Nat.le_add_right _ _) (Nat.le_of_eq hc)), (Nat.le_trans (Nat.le_add_right _ _) (Nat.le_of_eq hs))⟩) hA hP hD hS (fun H locs hP hD hS => ?_)
          refine lv_if_eq (tgt := 42) hx hb dX5_parameter_27 (by decide) (fun c4 => ?_) (fun c4 => ?_)
          · rw [if_pos c4] at h
            exact ih.2.1 z _ _ L r3.2 _ h hzk hc hs H locs ls hP hD hS (lv_sub hl [0, 1] rfl)
          · rw [if_neg c4] at h
            refine lv_aload_n hx hb dX5_parameter_30 rfl (lv_at hl 0 rfl) ?_
            refine lv_iconst (v := 4) hx hb dX5_parameter_31 (by decide) ?_
            refine lv_aload_n hx hb dX5_parameter_32 rfl (lv_at hl 0 rfl) ?_
            refine hg_40_0 hx hb hts in_f_X5_parameter_X5 hown hK hP (hts _ (List.mem_cons_of_mem _ (List.mem_append_left _ (List.mem_append_left _ (List.mem_of_getElem? (i := 5) rfl))))) dX5_parameter_33 ?_
            refine hg_37_3n hx hb hts in_f_X5_parameter_X2 hown hK hP (va_Nw.use rfl (hG.1 _ (List.mem_of_getElem? (i := 54) rfl))) dX5_parameter_36 ?_
            obtain ⟨r5, hc5, hle5, h9⟩ := ox_ex h
            clear h
            refine kx_v (r := y1) (vx_runV (As := [.int 4, .int (r3.2.1 3703)]) (rest := []) ⟨hx, hb, hml, hown, hts⟩ (c_f_X5_refuse l hl0 dC dI cy ek a k (lI (lI lZ 1 4) 2 ((r3.2.1 3703))) r3.2 r5 hc5 z H.size) (cwV 2 hts g_f_X5_parameter_X5_refuse_V125 rfl rfl rfl hd_f_X5_refuse ⟨Nat.le_of_ble_eq_true rfl, Nat.le_of_ble_eq_true rfl⟩) ⟨nb_blindF, va_recv hK hP (ci := 4) (q0 := 40) rfl rfl, (kx_pre hK hG hE hT hA hP hD hS)⟩ rfl rfl hl.1 rfl (lv_room (Nat.le_of_ble_eq_true rfl)) dX5_parameter_39 ⟨Nat.le_trans (Nat.add_le_add_left hle5.1 _) (Nat.le_of_eq hc), Nat.le_trans (Nat.add_le_add_left hle5.2 _) (Nat.le_of_eq hs)⟩) hK hA hzk hP hD hS (by decide) hno hlocks ?_
            rcases h9 with ⟨h00, y5, hny5, hy⟩ | ⟨h00, hy⟩
            · subst hy
              have h := hny5
              refine Or.inl ⟨h00, fun u H locs hz5 hzk hP hD hS => ?_⟩
              obtain rfl := (zk_nil hz5).symm
              replace hc := (Nat.add_assoc _ _ _).trans hc
              replace hs := (Nat.add_assoc _ _ _).trans hs
              exact ih.2.1 z _ _ L r5.2.1 _ h hzk hc hs H locs ls hP hD hS (lv_sub hl [0, 1] rfl)
            · subst hy
              exact Or.inr ⟨h00, rfl, hc, hs⟩
        · subst hy
          exact Or.inr ⟨h00, rfl, hc, hs⟩
      · intro z cells slots L σ r h hzk hc hs H locs ls hP hD hS hl
        rw [f_X5_parameter] at h
        refine lv_aload_n hx hb dX5_parameter_42 rfl (lv_at hl 0 rfl) ?_
        obtain ⟨b1, hb1, h⟩ := oP_ex h
        refine hgq_40_2 hx hb hts in_f_X5_parameter_X5 hown hK hP (hts _ (List.mem_cons_of_mem _ (List.mem_append_left _ (List.mem_append_left _ (List.mem_of_getElem? (i := 4) rfl))))) hb1 dX5_parameter_43 ?_
        refine hg_P_14n b1 hx hb hts in_f_X5_parameter_X7 hown hK hP (va_Nw.use rfl (hG.1 _ (List.mem_of_getElem? (i := 85) rfl))) dX5_parameter_46 ?_
        refine lv_aload_n hx hb dX5_parameter_49 rfl (lv_at hl 0 rfl) ?_
        refine hg_40_3 hx hb hts in_f_X5_parameter_X5 hown hK hP (hts _ (List.mem_cons_of_mem _ (List.mem_append_left _ (List.mem_append_left _ (List.mem_of_getElem? (i := 13) rfl))))) dX5_parameter_50 ?_
        obtain ⟨q2, h⟩ := kr_ite1 h
        refine hl_P14 b1 hx hb hK hP q2 dX5_parameter_53 ?_
        refine lv_bipush (v := 8) hx hb dX5_parameter_54 (by decide) ?_
        refine lv_icmp_lt (tgt := 72) hx hb dX5_parameter_56 (by decide) (fun c3 => ?_) (fun c3 => ?_)
        · rw [if_pos c3] at h
          exact ih.2.2 z _ _ L σ _ h hzk hc hs H locs ls hP hD hS (lv_sub hl [0, 1] rfl)
        · rw [if_neg c3] at h
          refine lv_aload_n hx hb dX5_parameter_59 rfl (lv_at hl 0 rfl) ?_
          refine lv_bipush (v := 8) hx hb dX5_parameter_60 (by decide) ?_
          refine lv_aload_n hx hb dX5_parameter_62 rfl (lv_at hl 0 rfl) ?_
          refine hg_40_0 hx hb hts in_f_X5_parameter_X5 hown hK hP (hts _ (List.mem_cons_of_mem _ (List.mem_append_left _ (List.mem_append_left _ (List.mem_of_getElem? (i := 5) rfl))))) dX5_parameter_63 ?_
          refine hg_37_3n hx hb hts in_f_X5_parameter_X2 hown hK hP (va_Nw.use rfl (hG.1 _ (List.mem_of_getElem? (i := 54) rfl))) dX5_parameter_66 ?_
          obtain ⟨r4, hc4, hle4, h9⟩ := ox_ex h
          clear h
          refine kx_v (vx_runV (As := [.int 8, .int (σ.1 3703)]) (rest := []) ⟨hx, hb, hml, hown, hts⟩ (c_f_X5_refuse l hl0 dC dI cy ek a k (lI (lI lZ 1 8) 2 ((σ.1 3703))) σ r4 hc4 z H.size) (cwV 2 hts g_f_X5_parameter_X5_refuse_V125 rfl rfl rfl hd_f_X5_refuse ⟨Nat.le_of_ble_eq_true rfl, Nat.le_of_ble_eq_true rfl⟩) ⟨nb_blindF, va_recv hK hP (ci := 4) (q0 := 40) rfl rfl, (kx_pre hK hG hE hT hA hP hD hS)⟩ rfl rfl hl.1 rfl (lv_room (Nat.le_of_ble_eq_true rfl)) dX5_parameter_69 ⟨Nat.le_trans (Nat.add_le_add_left hle4.1 _) (Nat.le_of_eq hc), Nat.le_trans (Nat.add_le_add_left hle4.2 _) (Nat.le_of_eq hs)⟩) hK hA hzk hP hD hS (by decide) hno hlocks ?_
          rcases h9 with ⟨h00, y4, hny4, hy⟩ | ⟨h00, hy⟩
          · subst hy
            have h := hny4
            refine Or.inl ⟨h00, fun u H locs hz4 hzk hP hD hS => ?_⟩
            obtain rfl := (zk_nil hz4).symm
            replace hc := (Nat.add_assoc _ _ _).trans hc
            replace hs := (Nat.add_assoc _ _ _).trans hs
            exact ih.2.2 z _ _ L r4.2.1 _ h hzk hc hs H locs ls hP hD hS (lv_sub hl [0, 1] rfl)
          · subst hy
            exact Or.inr ⟨h00, rfl, hc, hs⟩
      · intro z cells slots L σ r h hzk hc hs H locs ls hP hD hS hl
        rw [f_X5_parameter] at h
        refine lv_aload_n hx hb dX5_parameter_72 rfl (lv_at hl 0 rfl) ?_
        refine lv_iload_n hx hb dX5_parameter_73 rfl (lv_at hl 1 rfl) ?_
        obtain ⟨r1, hc1, hle1, h9⟩ := ox_ex h
        clear h
        refine kx_v (vx_runV (As := [.int (L.1 1)]) (rest := []) ⟨hx, hb, hml, hown, hts⟩ (c_f_X5_tellVariable l hl0 dC dI cy ek a k (lI lZ 1 ((L.1 1))) σ r1 hc1 z H.size) (cwV 1 hts g_f_X5_parameter_X5_tellVariable_V138 rfl rfl rfl hd_f_X5_tellVariable ⟨Nat.le_of_ble_eq_true rfl, Nat.le_of_ble_eq_true rfl⟩) ⟨nb_blindF, va_recv hK hP (ci := 4) (q0 := 40) rfl rfl, (kx_pre hK hG hE hT hA hP hD hS)⟩ rfl rfl hl.1 rfl (lv_room (Nat.le_of_ble_eq_true rfl)) dX5_parameter_74 ⟨Nat.le_trans (Nat.add_le_add_left hle1.1 _) (Nat.le_of_eq hc), Nat.le_trans (Nat.add_le_add_left hle1.2 _) (Nat.le_of_eq hs)⟩) hK hA hzk hP hD hS (by decide) hno hlocks ?_
        rcases h9 with ⟨h00, y1, hny1, hy⟩ | ⟨h00, hy⟩
        · subst hy
          have h := hny1
          refine Or.inl ⟨h00, fun u H locs hz1 hzk hP hD hS => ?_⟩
          obtain rfl := (zk_nil hz1).symm
          replace hc := (Nat.add_assoc _ _ _).trans hc
          replace hs := (Nat.add_assoc _ _ _).trans hs
          refine lv_aload_n hx hb dX5_parameter_77 rfl (lv_at hl 0 rfl) ?_
          obtain ⟨b2, hb2, h⟩ := oP_ex h
          refine hgq_40_2 hx hb hts in_f_X5_parameter_X5 hown hK hP (hts _ (List.mem_cons_of_mem _ (List.mem_append_left _ (List.mem_append_left _ (List.mem_of_getElem? (i := 4) rfl))))) hb2 dX5_parameter_78 ?_
          refine hg_P_14n b2 hx hb hts in_f_X5_parameter_X7 hown hK hP (va_Nw.use rfl (hG.1 _ (List.mem_of_getElem? (i := 85) rfl))) dX5_parameter_81 ?_
          refine lv_aload_n hx hb dX5_parameter_84 rfl (lv_at hl 0 rfl) ?_
          refine hg_40_3 hx hb hts in_f_X5_parameter_X5 hown hK hP (hts _ (List.mem_cons_of_mem _ (List.mem_append_left _ (List.mem_append_left _ (List.mem_of_getElem? (i := 13) rfl))))) dX5_parameter_85 ?_
          refine lv_dup2_11 hx hb dX5_parameter_88 rfl rfl ?_
          obtain ⟨q3, h⟩ := kr_ite1 h
          refine hl_P14 b2 hx hb hK hP q3 dX5_parameter_89 ?_
          refine lv_iconst (v := 1) hx hb dX5_parameter_90 (by decide) ?_
          refine lv_iadd hx hb dX5_parameter_91 ?_
          obtain ⟨q4, h⟩ := kr_ite1 h
          refine hs_P14 b2 hx hb hK hP hD hS q4 dX5_parameter_92 (fun H locs hP hD hS => ?_)
          obtain rfl := Option.some.inj h
          subst hc
          subst hs
          exact xr_v hx hb hr hK hzk hP hD hS hlocks dX5_parameter_93
        · subst hy
          exact Or.inr ⟨h00, rfl, hc, hs⟩
  exact (blk k0).1 z 0 0 L0 σ0 r0 h0 (zk_rf _ _) ((Nat.zero_add _).trans hmc) ((Nat.zero_add _).trans hms) s.heap [] ls hP hD hS hl

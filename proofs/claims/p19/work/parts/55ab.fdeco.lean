theorem c_F1 (l : Launch) (hl0 : l.stackTraces = false) (dC : Nat → ClassId) (dI : Nat → Nat → Nat) (cy : Nat → ClassId) (ek a : Nat → Nat) : ∀ k0 : Nat, P_F1 l dC dI cy ek a k0 := by
  intro k0
  induction k0 using Nat.strongRecOn with
  | ind k0 IH => exact ⟨c_t_X6_write l hl0 dC dI cy ek a k0 IH, c_t_X6_writeRow l hl0 dC dI cy ek a k0 IH⟩
def f_X6_write (k b : Nat) (L : LV) (σ : CS) : Option RS := f_F1 k 80 0 b L σ
theorem c_f_X6_write (l : Launch) (hl0 : l.stackTraces = false) (dC : Nat → ClassId) (dI : Nat → Nat → Nat) (cy : Nat → ClassId) (ek a : Nat → Nat) (k0 : Nat) (L0 : LV) (σ0 : CS) (r0 : RS) (h0 : f_X6_write k0 0 L0 σ0 = some r0) (z : Nat → Nat) (sz : Nat) : vx_Met l yX6_write w_f_X6_write ({ frames := 85, cells := r0.2.2.1, slots := r0.2.2.2, locals := 2110 }) (va_Pc [.ref (a 12), .int (L0.1 1)] (nInF (dC, dI) cy ek sz (vC cy a z σ0))) (xV dC dI cy a (va_A (vC cy a z σ0) sz) [] z r0) (xX dC dI cy a (va_A (vC cy a z σ0) sz) [] z r0) r0.2.2.1 r0.2.2.2 (va_A (vC cy a z σ0) sz) := (c_F1 l hl0 dC dI cy ek a k0).1 80 L0 σ0 r0 h0 z sz
def f_X6_writeRow (k b : Nat) (L : LV) (σ : CS) : Option RS := f_F1 k 80 1 b L σ
theorem c_f_X6_writeRow (l : Launch) (hl0 : l.stackTraces = false) (dC : Nat → ClassId) (dI : Nat → Nat → Nat) (cy : Nat → ClassId) (ek a : Nat → Nat) (k0 : Nat) (L0 : LV) (σ0 : CS) (r0 : RS) (h0 : f_X6_writeRow k0 0 L0 σ0 = some r0) (z : Nat → Nat) (sz : Nat) : vx_Met l yX6_writeRow w_f_X6_writeRow ({ frames := 85, cells := r0.2.2.1, slots := r0.2.2.2, locals := 2110 }) (va_Pc [.ref (a 12), .int (L0.1 1), .int (L0.1 2), .int (L0.1 3)] (nInF (dC, dI) cy ek sz (vC cy a z σ0))) (xV dC dI cy a (va_A (vC cy a z σ0) sz) [] z r0) (xX dC dI cy a (va_A (vC cy a z σ0) sz) [] z r0) r0.2.2.1 r0.2.2.2 (va_A (vC cy a z σ0) sz) := (c_F1 l hl0 dC dI cy ek a k0).2 80 L0 σ0 r0 h0 z sz
/-! X6_print -/
def f_X6_print : Nat → Nat → LV → CS → Option RS
  | 0, _, _, _ => none
  | k + 1, 0, L, σ => ox (f_X6_write k 0 (lI lZ 1 ((L.1 1))) (uI σ 1203 0)) (fun r1 => some ((0, 0), r1.2.1, (0, 0)))
  | _ + 1, _ + 1, _, _ => none
def o_f_X6_print : List Cond := [.fieldLink RX6 23 "SetHouse$Printer" "length" "I", .methodLink RX6 27 yX6_write, .instanceMethod yX6_write, .selects RX6 yX6_write yX6_write, .initialized RX6]
theorem o_f_X6_print_good : o_f_X6_print.all goodWord = true := by decide +kernel
def p_f_X6_print : List Cond := o_f_X6_print ++ ((.code yX6_write cX6_write 2 none :: p_f_F1) ++ [])
theorem p_f_X6_print_good : p_f_X6_print.all goodWord = true := nb_all2 o_f_X6_print_good (nb_all2 (nb_allc (by decide +kernel) p_f_F1_good) rfl)
def w_f_X6_print : List Cond := .code yX6_print cX6_print 2 none :: (p_f_X6_print ++ fC)
theorem w_f_X6_print_good : w_f_X6_print.all goodWord = true := nb_allc (by decide +kernel) (nb_all2 p_f_X6_print_good fC_good)
theorem in_f_X6_print_X6 : ∀ w ∈ wsX60, w ∈ w_f_X6_print := fun _ h => List.mem_cons_of_mem _ (List.mem_append_right _ (List.mem_append_right _ (List.mem_append_right _ (List.mem_append_right _ (List.mem_append_right _ (List.mem_append_right _ (List.mem_append_left _ h)))))))
theorem hd_f_X6_print : yX6_print.cls = RX6 ∧ yX6_print.cls ≠ "java/lang/invoke/MethodHandle" ∧ yX6_print.cls ≠ "java/lang/invoke/VarHandle" ∧ (parseMethodDescriptor yX6_print.desc).map (fun d => d.parameters.length) = some 1 := by decide +kernel
theorem gg_f_X6_print_X6_write : GoodIn w_f_X6_print w_f_X6_write := goodIn_sub (fun w h => (List.mem_cons.mp h).elim (fun e => (List.mem_cons_of_mem _ (List.mem_append_left _ (List.mem_append_right _ (List.mem_append_left _ (List.mem_cons.mpr (Or.inl e))))))) (fun h => (List.mem_append.mp h).elim (fun h => (List.mem_cons_of_mem _ (List.mem_append_left _ (List.mem_append_right _ (List.mem_append_left _ (List.mem_cons_of_mem _ h)))))) (fun h => List.mem_cons_of_mem _ (List.mem_append_right _ h)))) w_f_X6_write_good
theorem g_f_X6_print_X6_write_V27 : GoodIn w_f_X6_print (wsV RX6 27 RX6 yX6_write w_f_X6_write) := goodIn_app (nb_g4 (List.mem_cons_of_mem _ (List.mem_append_left _ (List.mem_append_left _ (List.mem_of_getElem? (i := 1) rfl)))) (List.mem_cons_of_mem _ (List.mem_append_left _ (List.mem_append_left _ (List.mem_of_getElem? (i := 2) rfl)))) (List.mem_cons_of_mem _ (List.mem_append_left _ (List.mem_append_left _ (List.mem_of_getElem? (i := 3) rfl)))) (List.mem_cons_of_mem _ (List.mem_append_left _ (List.mem_append_left _ (List.mem_of_getElem? (i := 4) rfl)))) (by decide +kernel)) gg_f_X6_print_X6_write
set_option maxHeartbeats 40000000 in
set_option maxRecDepth 100000 in
theorem c_f_X6_print (l : Launch) (hl0 : l.stackTraces = false) (dC : Nat → ClassId) (dI : Nat → Nat → Nat) (cy : Nat → ClassId) (ek a : Nat → Nat) (k0 : Nat) (L0 : LV) (σ0 : CS) (r0 : RS) (h0 : f_X6_print k0 0 L0 σ0 = some r0) (z : Nat → Nat) (sz : Nat) : vx_Met l yX6_print w_f_X6_print ({ frames := 86, cells := r0.2.2.1, slots := r0.2.2.2, locals := 2131 }) (va_Pc [.ref (a 12), .int (L0.1 1)] (nInF (dC, dI) cy ek sz (vC cy a z σ0))) (xV dC dI cy a (va_A (vC cy a z σ0) sz) [] z r0) (xX dC dI cy a (va_A (vC cy a z σ0) sz) [] z r0) r0.2.2.1 r0.2.2.2 (va_A (vC cy a z σ0) sz) := by
  refine vx_ofW (cc := cX6_print) (maxL := 2) (ret := none) (by decide) rfl ?_
  intro p e s m args below meth c s₁ B hml hno hv
  obtain ⟨rfl, ⟨⟨hsz, hP, hK, hD0, hG⟩, hE⟩, hT⟩ := hv
  have hx := B.exec
  have hb := B.bytes
  have hr := B.returns
  have hts := atoms_spec (ws := w_f_X6_print) B.pre
  have hown : s.vm.findClass RX6 = some m.cls := findClass_of_methodNamed B.named
  have hlocks := B.notSynchronized
  subst hsz
  have hD := hD0.self (sz := s.heap.size)
  generalize hAe : va_A (vC cy a z σ0) s.heap.size = A at hD hE hT ⊢
  have hA : ∀ q : Nat, s.heap.size ≤ q → A q := fun q h => by rw [← hAe]; exact Or.inr h
  have hS : va_S A s.heap s.heap [] := va_S.rf
  have hl := lv_entry ([.ref (a 12), .int (L0.1 1)]) (n := 2) (Nat.le_of_ble_eq_true rfl)
  rw [lg_entry_eq]
  generalize (lg_sl ([.ref (a 12), .int (L0.1 1)]) ++ List.replicate (2 - (lg_sl ([.ref (a 12), .int (L0.1 1)])).length) Slot.unset).toArray = ls at hl ⊢
  have hl : lv_has ls 2 [(0, .ref (a 12)), (1, .int (L0.1 1))] := hl
  generalize hmc : r0.2.2.1 = mc
  generalize hms : r0.2.2.2 = ms
  have blk : ∀ k : Nat, (bX p l e (headSpec w_f_X6_print ({ frames := 86, cells := mc, slots := ms, locals := 2131 })).room s m #[.ref (a 12), .int (L0.1 1)] below meth c dC dI cy a A (fun r => vx_MQ below (xV dC dI cy a A [] z r) (xX dC dI cy a A [] z r) #[.ref (a 12), .int (L0.1 1)] s mc ms A) [] z mc ms 2 (f_X6_print k 0) (fun z L => [(0, .ref (a 12)), (1, .int (L.1 1))]) 0 (fun z L => [])) := by
    intro k
    induction k with
    | zero => exact fun z c1 c2 L σ r h => (by cases h)
    | succ k ih =>
      skip
      · intro z cells slots L σ r h hzk hc hs H locs ls hP hD hS hl
        rw [f_X6_print] at h
        refine lv_aload_n hx hb dX6_print_0 rfl (lv_at hl 0 rfl) ?_
        refine lv_iconst (v := 0) hx hb dX6_print_1 (by decide) ?_
        refine hp_12_3 hx hb hts in_f_X6_print_X6 hown hK hP hD hS (hts _ (List.mem_cons_of_mem _ (List.mem_append_left _ (List.mem_append_left _ (List.mem_of_getElem? (i := 0) rfl))))) dX6_print_2 (fun H locs hP hD hS => ?_)
        refine lv_aload_n hx hb dX6_print_5 rfl (lv_at hl 0 rfl) ?_
        refine lv_iload_n hx hb dX6_print_6 rfl (lv_at hl 1 rfl) ?_
        obtain ⟨r1, hc1, hle1, h9⟩ := ox_ex h
        clear h
        refine kx_v (vx_runV (As := [.int (L.1 1)]) (rest := []) ⟨hx, hb, hml, hown, hts⟩ (c_f_X6_write l hl0 dC dI cy ek a k (lI lZ 1 ((L.1 1))) (uI σ 1203 0) r1 hc1 z H.size) (cwV 1 hts g_f_X6_print_X6_write_V27 rfl rfl rfl hd_f_X6_write ⟨Nat.le_of_ble_eq_true rfl, Nat.le_of_ble_eq_true rfl⟩) ⟨nb_blindF, va_recv hK hP (ci := 5) (q0 := 12) rfl rfl, (kx_pre hK hG hE hT hA hP hD hS)⟩ rfl rfl hl.1 rfl (lv_room (Nat.le_of_ble_eq_true rfl)) dX6_print_7 ⟨Nat.le_trans (Nat.add_le_add_left hle1.1 _) (Nat.le_of_eq hc), Nat.le_trans (Nat.add_le_add_left hle1.2 _) (Nat.le_of_eq hs)⟩) hK hA hzk hP hD hS (by decide) hno hlocks ?_
        rcases h9 with ⟨h00, y1, hny1, hy⟩ | ⟨h00, hy⟩
        · subst hy
          have h := hny1
          refine Or.inl ⟨h00, fun u H locs hz1 hzk hP hD hS => ?_⟩
          obtain rfl := (zk_nil hz1).symm
          replace hc := (Nat.add_assoc _ _ _).trans hc
          replace hs := (Nat.add_assoc _ _ _).trans hs
          obtain rfl := Option.some.inj h
          subst hc
          subst hs
          exact xr_v hx hb hr hK hzk hP hD hS hlocks dX6_print_10
        · subst hy
          exact Or.inr ⟨h00, rfl, hc, hs⟩
  exact (blk k0) z 0 0 L0 σ0 r0 h0 (zk_rf _ _) ((Nat.zero_add _).trans hmc) ((Nat.zero_add _).trans hms) s.heap [] ls hP hD hS hl
/-! X6_writeWord__ek2 -/
def f_X6_writeWord__ek2 : Nat → Nat → LV → CS → Option RS
  | 0, _, _, _ => none
  | k + 1, 0, L, σ => f_X6_writeWord__ek2 k 1 (lI L 2 0) σ
  | k + 1, 1, L, σ => if 5 ≤ ((L.1 2)) then (f_X6_writeWord__ek2 k 2 L σ) else (if ¬ ((L.1 2)) < 0 ∧ ((L.1 2)).toNatClampNeg < 5 then (op (y_X6_put k 0 (lI lZ 1 ((sx1.getD ((L.1 2)).toNatClampNeg 0 &&& 255))) σ) (fun r3 => f_X6_writeWord__ek2 k 1 (lI L 2 ((((L.1 2)) + 1))) r3.2)) else none)
  | k + 1, 2, L, σ => some ((0, 0), σ, (0, 0))
  | _ + 1, _ + 3, _, _ => none
def o_f_X6_writeWord__ek2 : List Cond := [.methodLink RX6 83 yJ0_length_8abf5, .instanceMethod yJ0_length_8abf5, .selects RJ0 yJ0_length_8abf5 yJ0_length_8abf5, .initialized RJ0, .methodLink RX6 88 yJ0_charAt_5068e, .instanceMethod yJ0_charAt_5068e, .selects RJ0 yJ0_charAt_5068e yJ0_charAt_5068e, .methodLink RX6 55 yX6_put, .instanceMethod yX6_put, .selects RX6 yX6_put yX6_put, .initialized RX6]
theorem o_f_X6_writeWord__ek2_good : o_f_X6_writeWord__ek2.all goodWord = true := by decide +kernel
def p_f_X6_writeWord__ek2 : List Cond := o_f_X6_writeWord__ek2 ++ (wsJ0_length_8abf5 ++ (wsJ0_charAt_5068e ++ ((.code yX6_put cX6_put 2 none :: p_y_X6_put) ++ [])))
theorem p_f_X6_writeWord__ek2_good : p_f_X6_writeWord__ek2.all goodWord = true := nb_all2 o_f_X6_writeWord__ek2_good (nb_all2 (by decide +kernel) (nb_all2 (by decide +kernel) (nb_all2 (nb_allc (by decide +kernel) p_y_X6_put_good) rfl)))
def w_f_X6_writeWord__ek2 : List Cond := .code yX6_writeWord cX6_writeWord 3 none :: (p_f_X6_writeWord__ek2 ++ fC)
theorem w_f_X6_writeWord__ek2_good : w_f_X6_writeWord__ek2.all goodWord = true := nb_allc (by decide +kernel) (nb_all2 p_f_X6_writeWord__ek2_good fC_good)
theorem hd_f_X6_writeWord__ek2 : yX6_writeWord.cls = RX6 ∧ yX6_writeWord.cls ≠ "java/lang/invoke/MethodHandle" ∧ yX6_writeWord.cls ≠ "java/lang/invoke/VarHandle" ∧ (parseMethodDescriptor yX6_writeWord.desc).map (fun d => d.parameters.length) = some 1 := by decide +kernel
theorem gg_f_X6_writeWord__ek2_X6_put : GoodIn w_f_X6_writeWord__ek2 w_y_X6_put := goodIn_sub (fun w h => (List.mem_cons.mp h).elim (fun e => (List.mem_cons_of_mem _ (List.mem_append_left _ (List.mem_append_right _ (List.mem_append_right _ (List.mem_append_right _ (List.mem_append_left _ (List.mem_cons.mpr (Or.inl e))))))))) (fun h => (List.mem_append.mp h).elim (fun h => (List.mem_cons_of_mem _ (List.mem_append_left _ (List.mem_append_right _ (List.mem_append_right _ (List.mem_append_right _ (List.mem_append_left _ (List.mem_cons_of_mem _ h)))))))) (fun h => List.mem_cons_of_mem _ (List.mem_append_right _ h)))) w_y_X6_put_good
theorem g_y_X6_writeWord__ek2_X6_put_V55 : GoodIn w_f_X6_writeWord__ek2 (wsV RX6 55 RX6 yX6_put w_y_X6_put) := goodIn_app (nb_g4 (List.mem_cons_of_mem _ (List.mem_append_left _ (List.mem_append_left _ (List.mem_of_getElem? (i := 7) rfl)))) (List.mem_cons_of_mem _ (List.mem_append_left _ (List.mem_append_left _ (List.mem_of_getElem? (i := 8) rfl)))) (List.mem_cons_of_mem _ (List.mem_append_left _ (List.mem_append_left _ (List.mem_of_getElem? (i := 9) rfl)))) (List.mem_cons_of_mem _ (List.mem_append_left _ (List.mem_append_left _ (List.mem_of_getElem? (i := 10) rfl)))) (by decide +kernel)) gg_f_X6_writeWord__ek2_X6_put
theorem gg_f_X6_writeWord__ek2_wsJ0_charAt_5068e : GoodIn w_f_X6_writeWord__ek2 wsJ0_charAt_5068e := goodIn_sub (fun w h => (List.mem_cons_of_mem _ (List.mem_append_left _ (List.mem_append_right _ (List.mem_append_right _ (List.mem_append_left _ h)))))) (by decide +kernel)
theorem g_f_X6_writeWord__ek2_wsJ0_charAt_5068e_88 : GoodIn w_f_X6_writeWord__ek2 (wsV RX6 88 RJ0 yJ0_charAt_5068e wsJ0_charAt_5068e) := goodIn_app (nb_g4 (List.mem_cons_of_mem _ (List.mem_append_left _ (List.mem_append_left _ (List.mem_of_getElem? (i := 4) rfl)))) (List.mem_cons_of_mem _ (List.mem_append_left _ (List.mem_append_left _ (List.mem_of_getElem? (i := 5) rfl)))) (List.mem_cons_of_mem _ (List.mem_append_left _ (List.mem_append_left _ (List.mem_of_getElem? (i := 6) rfl)))) (List.mem_cons_of_mem _ (List.mem_append_left _ (List.mem_append_left _ (List.mem_of_getElem? (i := 3) rfl)))) (by decide +kernel)) gg_f_X6_writeWord__ek2_wsJ0_charAt_5068e
theorem gg_f_X6_writeWord__ek2_wsJ0_length_8abf5 : GoodIn w_f_X6_writeWord__ek2 wsJ0_length_8abf5 := goodIn_sub (fun w h => (List.mem_cons_of_mem _ (List.mem_append_left _ (List.mem_append_right _ (List.mem_append_left _ h))))) (by decide +kernel)
theorem g_f_X6_writeWord__ek2_wsJ0_length_8abf5_83 : GoodIn w_f_X6_writeWord__ek2 (wsV RX6 83 RJ0 yJ0_length_8abf5 wsJ0_length_8abf5) := goodIn_app (nb_g4 (List.mem_cons_of_mem _ (List.mem_append_left _ (List.mem_append_left _ (List.mem_of_getElem? (i := 0) rfl)))) (List.mem_cons_of_mem _ (List.mem_append_left _ (List.mem_append_left _ (List.mem_of_getElem? (i := 1) rfl)))) (List.mem_cons_of_mem _ (List.mem_append_left _ (List.mem_append_left _ (List.mem_of_getElem? (i := 2) rfl)))) (List.mem_cons_of_mem _ (List.mem_append_left _ (List.mem_append_left _ (List.mem_of_getElem? (i := 3) rfl)))) (by decide +kernel)) gg_f_X6_writeWord__ek2_wsJ0_length_8abf5
set_option maxHeartbeats 40000000 in
set_option maxRecDepth 100000 in
theorem c_f_X6_writeWord__ek2 (l : Launch) (hl0 : l.stackTraces = false) (dC : Nat → ClassId) (dI : Nat → Nat → Nat) (cy : Nat → ClassId) (ek a : Nat → Nat) (k0 : Nat) (L0 : LV) (σ0 : CS) (r0 : RS) (h0 : f_X6_writeWord__ek2 k0 0 L0 σ0 = some r0) (z : Nat → Nat) (sz : Nat) : vx_Met l yX6_writeWord w_f_X6_writeWord__ek2 ({ frames := 4, cells := r0.2.2.1, slots := r0.2.2.2, locals := 85 }) (va_Pc [.ref (a 12), .ref (ek 2)] (nInF (dC, dI) cy ek sz (vC cy a z σ0))) (xV dC dI cy a (va_A (vC cy a z σ0) sz) [] z r0) (xX dC dI cy a (va_A (vC cy a z σ0) sz) [] z r0) r0.2.2.1 r0.2.2.2 (va_A (vC cy a z σ0) sz) := by
  refine vx_ofW (cc := cX6_writeWord) (maxL := 3) (ret := none) (by decide) rfl ?_
  intro p e s m args below meth c s₁ B hml hno hv
  obtain ⟨rfl, ⟨⟨hsz, hP, hK, hD0, hG⟩, hE⟩, hT⟩ := hv
  have hx := B.exec
  have hb := B.bytes
  have hr := B.returns
  have hts := atoms_spec (ws := w_f_X6_writeWord__ek2) B.pre
  have hown : s.vm.findClass RX6 = some m.cls := findClass_of_methodNamed B.named
  have hlocks := B.notSynchronized
  subst hsz
  have hD := hD0.self (sz := s.heap.size)
  generalize hAe : va_A (vC cy a z σ0) s.heap.size = A at hD hE hT ⊢
  have hA : ∀ q : Nat, s.heap.size ≤ q → A q := fun q h => by rw [← hAe]; exact Or.inr h
  have hS : va_S A s.heap s.heap [] := va_S.rf
  have hl := lv_entry ([.ref (a 12), .ref (ek 2)]) (n := 3) (Nat.le_of_ble_eq_true rfl)
  rw [lg_entry_eq]
  generalize (lg_sl ([.ref (a 12), .ref (ek 2)]) ++ List.replicate (3 - (lg_sl ([.ref (a 12), .ref (ek 2)])).length) Slot.unset).toArray = ls at hl ⊢
  have hl : lv_has ls 3 [(0, .ref (a 12)), (1, .ref (ek 2))] := hl
  generalize hmc : r0.2.2.1 = mc
  generalize hms : r0.2.2.2 = ms
  have blk : ∀ k : Nat, (bX p l e (headSpec w_f_X6_writeWord__ek2 ({ frames := 4, cells := mc, slots := ms, locals := 85 })).room s m #[.ref (a 12), .ref (ek 2)] below meth c dC dI cy a A (fun r => vx_MQ below (xV dC dI cy a A [] z r) (xX dC dI cy a A [] z r) #[.ref (a 12), .ref (ek 2)] s mc ms A) [] z mc ms 3 (f_X6_writeWord__ek2 k 0) (fun z L => [(0, .ref (a 12)), (1, .ref (ek 2))]) 0 (fun z L => [])) ∧ (bX p l e (headSpec w_f_X6_writeWord__ek2 ({ frames := 4, cells := mc, slots := ms, locals := 85 })).room s m #[.ref (a 12), .ref (ek 2)] below meth c dC dI cy a A (fun r => vx_MQ below (xV dC dI cy a A [] z r) (xX dC dI cy a A [] z r) #[.ref (a 12), .ref (ek 2)] s mc ms A) [] z mc ms 3 (f_X6_writeWord__ek2 k 1) (fun z L => [(0, .ref (a 12)), (1, .ref (ek 2)), (2, .int (L.1 2))]) 2 (fun z L => [])) ∧ (bX p l e (headSpec w_f_X6_writeWord__ek2 ({ frames := 4, cells := mc, slots := ms, locals := 85 })).room s m #[.ref (a 12), .ref (ek 2)] below meth c dC dI cy a A (fun r => vx_MQ below (xV dC dI cy a A [] z r) (xX dC dI cy a A [] z r) #[.ref (a 12), .ref (ek 2)] s mc ms A) [] z mc ms 3 (f_X6_writeWord__ek2 k 2) (fun z L => []) 25 (fun z L => [])) := by
    intro k
    induction k with
    | zero => exact ⟨fun z c1 c2 L σ r h => (by cases h), fun z c1 c2 L σ r h => (by cases h), fun z c1 c2 L σ r h => (by cases h)⟩
    | succ k ih =>
      refine ⟨?_, ?_, ?_⟩
      · intro z cells slots L σ r h hzk hc hs H locs ls hP hD hS hl
        rw [f_X6_writeWord__ek2] at h
        refine lv_iconst (v := 0) hx hb dX6_writeWord_0 (by decide) ?_
        refine lv_istore_n (lv' := [(2, .int 0), (0, .ref (a 12)), (1, .ref (ek 2))]) hx hb dX6_writeWord_1 rfl hl (by decide) rfl (fun ls hl => ?_)
        exact ih.2.1 z _ _ (lI L 2 0) σ _ h hzk hc hs H locs ls hP hD hS (lv_sub hl [1, 2, 0] rfl)
      · intro z cells slots L σ r h hzk hc hs H locs ls hP hD hS hl
        rw [f_X6_writeWord__ek2] at h
        refine lv_iload_n hx hb dX6_writeWord_2 rfl (lv_at hl 2 rfl) ?_
        refine lv_aload_n hx hb dX6_writeWord_3 rfl (lv_at hl 1 rfl) ?_
        refine ks_i (va_runV (As := []) (rest := [.int (L.1 2)]) ⟨hx, hb, hml, hown, hts⟩ (c_J1_len l dC dI cy ek H.size) (cwV 0 hts g_f_X6_writeWord__ek2_wsJ0_length_8abf5_83 rfl rfl rfl (by decide +kernel) ⟨Nat.le_of_ble_eq_true rfl, Nat.le_of_ble_eq_true rfl⟩) ⟨nb_blindE, (vk_recv (i := 1) hE.2.2.1 (by decide) hS), fun U hU hW => ⟨rfl, ⟨by rw [hU], nb_nil, va_K.moved hW.alike hK, nb_nilD, hG.warm hW⟩, nE.to hE hS hW hU (va_free (wc := []) hD hS hA [] rfl)⟩⟩ rfl rfl hl.1 rfl (lv_room (Nat.le_of_ble_eq_true rfl)) dX6_writeWord_4 ⟨(Nat.le_trans (Nat.le_add_right _ _) (Nat.le_of_eq hc)), (Nat.le_trans (Nat.le_add_right _ _) (Nat.le_of_eq hs))⟩) hA hP hD hS (fun H locs hP hS => ?_)
        refine lv_icmp_ge (tgt := 25) hx hb dX6_writeWord_7 (by decide) (fun c1 => ?_) (fun c1 => ?_)
        · rw [if_pos c1] at h
          exact ih.2.2 z _ _ L σ _ h hzk hc hs H locs ls hP hD hS (lv_sub hl [] rfl)
        · rw [if_neg c1] at h
          refine lv_aload_n hx hb dX6_writeWord_10 rfl (lv_at hl 0 rfl) ?_
          refine lv_aload_n hx hb dX6_writeWord_11 rfl (lv_at hl 1 rfl) ?_
          refine lv_iload_n hx hb dX6_writeWord_12 rfl (lv_at hl 2 rfl) ?_
          obtain ⟨q2, h⟩ := kr_ite1 h
          have hch := c_J1_charAt l dC dI cy ek ((L.1 2)).toNatClampNeg q2.2 H.size
          rw [nI_back q2.1] at hch
          refine ks_i (va_runV (As := [.int (L.1 2)]) (rest := [.ref (a 12)]) ⟨hx, hb, hml, hown, hts⟩ hch (cwV 1 hts g_f_X6_writeWord__ek2_wsJ0_charAt_5068e_88 rfl rfl rfl (by decide +kernel) ⟨Nat.le_of_ble_eq_true rfl, Nat.le_of_ble_eq_true rfl⟩) ⟨nb_blindE, (vk_recv (i := 1) hE.2.2.1 (by decide) hS), fun U hU hW => ⟨rfl, ⟨by rw [hU], nb_nil, va_K.moved hW.alike hK, nb_nilD, hG.warm hW⟩, nE.to hE hS hW hU (va_free (wc := []) hD hS hA [] rfl)⟩⟩ rfl rfl hl.1 rfl (lv_room (Nat.le_of_ble_eq_true rfl)) dX6_writeWord_13 ⟨(Nat.le_trans (Nat.le_add_right _ _) (Nat.le_of_eq hc)), (Nat.le_trans (Nat.le_add_right _ _) (Nat.le_of_eq hs))⟩) hA hP hD hS (fun H locs hP hS => ?_)
          obtain ⟨r3, hc3, h⟩ := op_ex h
          refine kc_v (va_runV (As := [.int (sx1.getD ((L.1 2)).toNatClampNeg 0 &&& 255)]) (rest := []) ⟨hx, hb, hml, hown, hts⟩ (c_y_X6_put l dC dI cy a z k (lI lZ 1 ((sx1.getD ((L.1 2)).toNatClampNeg 0 &&& 255))) σ r3 hc3 H.size) (cwV 1 hts g_y_X6_writeWord__ek2_X6_put_V55 rfl rfl rfl hd_y_X6_put ⟨Nat.le_of_ble_eq_true rfl, Nat.le_of_ble_eq_true rfl⟩) ⟨nb_blind, va_recv hK hP (ci := 5) (q0 := 12) rfl rfl, (kb_pre hK hG hP hD)⟩ rfl rfl hl.1 rfl (lv_room (Nat.le_of_ble_eq_true rfl)) dX6_writeWord_16 ⟨(Nat.le_trans (Nat.le_add_right _ _) (Nat.le_of_eq hc)), (Nat.le_trans (Nat.le_add_right _ _) (Nat.le_of_eq hs))⟩) hA hP hD hS (fun H locs hP hD hS => ?_)
          refine lv_iinc (v := ((L.1 2)) + 1) (lv' := [(2, .int (((L.1 2)) + 1)), (0, .ref (a 12)), (1, .ref (ek 2))]) hx hb dX6_writeWord_19 hl (k := 2) rfl rfl (by decide) rfl (fun ls hl => ?_)
          refine lv_goto (tgt := 2) hx hb dX6_writeWord_22 (by decide) ?_
          exact ih.2.1 z _ _ (lI L 2 ((((L.1 2)) + 1))) r3.2 _ h hzk hc hs H locs ls hP hD hS (lv_sub hl [1, 2, 0] rfl)
      · intro z cells slots L σ r h hzk hc hs H locs ls hP hD hS hl
        rw [f_X6_writeWord__ek2] at h
        obtain rfl := Option.some.inj h
        subst hc
        subst hs
        exact xr_v hx hb hr hK hzk hP hD hS hlocks dX6_writeWord_25
  exact (blk k0).1 z 0 0 L0 σ0 r0 h0 (zk_rf _ _) ((Nat.zero_add _).trans hmc) ((Nat.zero_add _).trans hms) s.heap [] ls hP hD hS hl
/-! X6_word__ek2 -/
def f_X6_word__ek2 : Nat → Nat → LV → CS → Option RS
  | 0, _, _, _ => none
  | k + 1, 0, L, σ => ox (f_X6_writeWord__ek2 k 0 lZ (uI σ 1203 0)) (fun r1 => op (y_X6_madeString k 0 lZ r1.2.1) (fun r2 => some ((0, r2.1), r2.2, (0, 0))))
  | _ + 1, _ + 1, _, _ => none
def o_f_X6_word__ek2 : List Cond := [.fieldLink RX6 23 "SetHouse$Printer" "length" "I", .methodLink RX6 45 yX6_writeWord, .instanceMethod yX6_writeWord, .selects RX6 yX6_writeWord yX6_writeWord, .initialized RX6, .methodLink RX6 96 yX6_madeString, .instanceMethod yX6_madeString, .selects RX6 yX6_madeString yX6_madeString]
theorem o_f_X6_word__ek2_good : o_f_X6_word__ek2.all goodWord = true := by decide +kernel
def p_f_X6_word__ek2 : List Cond := o_f_X6_word__ek2 ++ ((.code yX6_writeWord cX6_writeWord 3 none :: p_f_X6_writeWord__ek2) ++ ((.code yX6_madeString cX6_madeString 1 (some .int) :: p_y_X6_madeString) ++ []))
theorem p_f_X6_word__ek2_good : p_f_X6_word__ek2.all goodWord = true := nb_all2 o_f_X6_word__ek2_good (nb_all2 (nb_allc (by decide +kernel) p_f_X6_writeWord__ek2_good) (nb_all2 (nb_allc (by decide +kernel) p_y_X6_madeString_good) rfl))
def w_f_X6_word__ek2 : List Cond := .code yX6_word cX6_word 2 (some .int) :: (p_f_X6_word__ek2 ++ fC)
theorem w_f_X6_word__ek2_good : w_f_X6_word__ek2.all goodWord = true := nb_allc (by decide +kernel) (nb_all2 p_f_X6_word__ek2_good fC_good)
theorem in_f_X6_word__ek2_X6 : ∀ w ∈ wsX60, w ∈ w_f_X6_word__ek2 := fun _ h => List.mem_cons_of_mem _ (List.mem_append_right _ (List.mem_append_right _ (List.mem_append_right _ (List.mem_append_right _ (List.mem_append_right _ (List.mem_append_right _ (List.mem_append_left _ h)))))))
theorem hd_f_X6_word__ek2 : yX6_word.cls = RX6 ∧ yX6_word.cls ≠ "java/lang/invoke/MethodHandle" ∧ yX6_word.cls ≠ "java/lang/invoke/VarHandle" ∧ (parseMethodDescriptor yX6_word.desc).map (fun d => d.parameters.length) = some 1 := by decide +kernel
theorem gg_f_X6_word__ek2_X6_writeWord__ek2 : GoodIn w_f_X6_word__ek2 w_f_X6_writeWord__ek2 := goodIn_sub (fun w h => (List.mem_cons.mp h).elim (fun e => (List.mem_cons_of_mem _ (List.mem_append_left _ (List.mem_append_right _ (List.mem_append_left _ (List.mem_cons.mpr (Or.inl e))))))) (fun h => (List.mem_append.mp h).elim (fun h => (List.mem_cons_of_mem _ (List.mem_append_left _ (List.mem_append_right _ (List.mem_append_left _ (List.mem_cons_of_mem _ h)))))) (fun h => List.mem_cons_of_mem _ (List.mem_append_right _ h)))) w_f_X6_writeWord__ek2_good
theorem g_f_X6_word__ek2_X6_writeWord__ek2_V45 : GoodIn w_f_X6_word__ek2 (wsV RX6 45 RX6 yX6_writeWord w_f_X6_writeWord__ek2) := goodIn_app (nb_g4 (List.mem_cons_of_mem _ (List.mem_append_left _ (List.mem_append_left _ (List.mem_of_getElem? (i := 1) rfl)))) (List.mem_cons_of_mem _ (List.mem_append_left _ (List.mem_append_left _ (List.mem_of_getElem? (i := 2) rfl)))) (List.mem_cons_of_mem _ (List.mem_append_left _ (List.mem_append_left _ (List.mem_of_getElem? (i := 3) rfl)))) (List.mem_cons_of_mem _ (List.mem_append_left _ (List.mem_append_left _ (List.mem_of_getElem? (i := 4) rfl)))) (by decide +kernel)) gg_f_X6_word__ek2_X6_writeWord__ek2
theorem gg_f_X6_word__ek2_X6_madeString : GoodIn w_f_X6_word__ek2 w_y_X6_madeString := goodIn_sub (fun w h => (List.mem_cons.mp h).elim (fun e => (List.mem_cons_of_mem _ (List.mem_append_left _ (List.mem_append_right _ (List.mem_append_right _ (List.mem_append_left _ (List.mem_cons.mpr (Or.inl e)))))))) (fun h => (List.mem_append.mp h).elim (fun h => (List.mem_cons_of_mem _ (List.mem_append_left _ (List.mem_append_right _ (List.mem_append_right _ (List.mem_append_left _ (List.mem_cons_of_mem _ h))))))) (fun h => List.mem_cons_of_mem _ (List.mem_append_right _ h)))) w_y_X6_madeString_good
theorem g_y_X6_word__ek2_X6_madeString_V96 : GoodIn w_f_X6_word__ek2 (wsV RX6 96 RX6 yX6_madeString w_y_X6_madeString) := goodIn_app (nb_g4 (List.mem_cons_of_mem _ (List.mem_append_left _ (List.mem_append_left _ (List.mem_of_getElem? (i := 5) rfl)))) (List.mem_cons_of_mem _ (List.mem_append_left _ (List.mem_append_left _ (List.mem_of_getElem? (i := 6) rfl)))) (List.mem_cons_of_mem _ (List.mem_append_left _ (List.mem_append_left _ (List.mem_of_getElem? (i := 7) rfl)))) (List.mem_cons_of_mem _ (List.mem_append_left _ (List.mem_append_left _ (List.mem_of_getElem? (i := 4) rfl)))) (by decide +kernel)) gg_f_X6_word__ek2_X6_madeString
set_option maxHeartbeats 40000000 in
set_option maxRecDepth 100000 in
theorem c_f_X6_word__ek2 (l : Launch) (hl0 : l.stackTraces = false) (dC : Nat → ClassId) (dI : Nat → Nat → Nat) (cy : Nat → ClassId) (ek a : Nat → Nat) (k0 : Nat) (L0 : LV) (σ0 : CS) (r0 : RS) (h0 : f_X6_word__ek2 k0 0 L0 σ0 = some r0) (z : Nat → Nat) (sz : Nat) : vx_Met l yX6_word w_f_X6_word__ek2 ({ frames := 5, cells := r0.2.2.1, slots := r0.2.2.2, locals := 107 }) (va_Pc [.ref (a 12), .ref (ek 2)] (nInF (dC, dI) cy ek sz (vC cy a z σ0))) (xI dC dI cy a (va_A (vC cy a z σ0) sz) [] z r0) (xX dC dI cy a (va_A (vC cy a z σ0) sz) [] z r0) r0.2.2.1 r0.2.2.2 (va_A (vC cy a z σ0) sz) := by
  refine vx_ofW (cc := cX6_word) (maxL := 2) (ret := (some .int)) (by decide) rfl ?_
  intro p e s m args below meth c s₁ B hml hno hv
  obtain ⟨rfl, ⟨⟨hsz, hP, hK, hD0, hG⟩, hE⟩, hT⟩ := hv
  have hx := B.exec
  have hb := B.bytes
  have hr := B.returns
  have hts := atoms_spec (ws := w_f_X6_word__ek2) B.pre
  have hown : s.vm.findClass RX6 = some m.cls := findClass_of_methodNamed B.named
  have hlocks := B.notSynchronized
  subst hsz
  have hD := hD0.self (sz := s.heap.size)
  generalize hAe : va_A (vC cy a z σ0) s.heap.size = A at hD hE hT ⊢
  have hA : ∀ q : Nat, s.heap.size ≤ q → A q := fun q h => by rw [← hAe]; exact Or.inr h
  have hS : va_S A s.heap s.heap [] := va_S.rf
  have hl := lv_entry ([.ref (a 12), .ref (ek 2)]) (n := 2) (Nat.le_of_ble_eq_true rfl)
  rw [lg_entry_eq]
  generalize (lg_sl ([.ref (a 12), .ref (ek 2)]) ++ List.replicate (2 - (lg_sl ([.ref (a 12), .ref (ek 2)])).length) Slot.unset).toArray = ls at hl ⊢
  have hl : lv_has ls 2 [(0, .ref (a 12)), (1, .ref (ek 2))] := hl
  generalize hmc : r0.2.2.1 = mc
  generalize hms : r0.2.2.2 = ms
  have blk : ∀ k : Nat, (bX p l e (headSpec w_f_X6_word__ek2 ({ frames := 5, cells := mc, slots := ms, locals := 107 })).room s m #[.ref (a 12), .ref (ek 2)] below meth c dC dI cy a A (fun r => vx_MQ below (xI dC dI cy a A [] z r) (xX dC dI cy a A [] z r) #[.ref (a 12), .ref (ek 2)] s mc ms A) [] z mc ms 2 (f_X6_word__ek2 k 0) (fun z L => [(0, .ref (a 12)), (1, .ref (ek 2))]) 0 (fun z L => [])) := by
    intro k
    induction k with
    | zero => exact fun z c1 c2 L σ r h => (by cases h)
    | succ k ih =>
      skip
      · intro z cells slots L σ r h hzk hc hs H locs ls hP hD hS hl
        rw [f_X6_word__ek2] at h
        refine lv_aload_n hx hb dX6_word_0 rfl (lv_at hl 0 rfl) ?_
        refine lv_iconst (v := 0) hx hb dX6_word_1 (by decide) ?_
        refine hp_12_3 hx hb hts in_f_X6_word__ek2_X6 hown hK hP hD hS (hts _ (List.mem_cons_of_mem _ (List.mem_append_left _ (List.mem_append_left _ (List.mem_of_getElem? (i := 0) rfl))))) dX6_word_2 (fun H locs hP hD hS => ?_)
        refine lv_aload_n hx hb dX6_word_5 rfl (lv_at hl 0 rfl) ?_
        refine lv_aload_n hx hb dX6_word_6 rfl (lv_at hl 1 rfl) ?_
        obtain ⟨r1, hc1, hle1, h9⟩ := ox_ex h
        clear h
        refine kx_v (vx_runV (As := [.ref (ek 2)]) (rest := []) ⟨hx, hb, hml, hown, hts⟩ (c_f_X6_writeWord__ek2 l hl0 dC dI cy ek a k lZ (uI σ 1203 0) r1 hc1 z H.size) (cwV 1 hts g_f_X6_word__ek2_X6_writeWord__ek2_V45 rfl rfl rfl hd_f_X6_writeWord__ek2 ⟨Nat.le_of_ble_eq_true rfl, Nat.le_of_ble_eq_true rfl⟩) ⟨nb_blindF, va_recv hK hP (ci := 5) (q0 := 12) rfl rfl, (kx_pre hK hG hE hT hA hP hD hS)⟩ rfl rfl hl.1 rfl (lv_room (Nat.le_of_ble_eq_true rfl)) dX6_word_7 ⟨Nat.le_trans (Nat.add_le_add_left hle1.1 _) (Nat.le_of_eq hc), Nat.le_trans (Nat.add_le_add_left hle1.2 _) (Nat.le_of_eq hs)⟩) hK hA hzk hP hD hS (by decide) hno hlocks ?_
        rcases h9 with ⟨h00, y1, hny1, hy⟩ | ⟨h00, hy⟩
        · subst hy
          have h := hny1
          refine Or.inl ⟨h00, fun u H locs hz1 hzk hP hD hS => ?_⟩
          obtain rfl := (zk_nil hz1).symm
          replace hc := (Nat.add_assoc _ _ _).trans hc
          replace hs := (Nat.add_assoc _ _ _).trans hs
          refine lv_aload_n hx hb dX6_word_10 rfl (lv_at hl 0 rfl) ?_
          obtain ⟨r2, hc2, h⟩ := op_ex h
          refine kc_i (va_runV (As := []) (rest := []) ⟨hx, hb, hml, hown, hts⟩ (c_y_X6_madeString l dC dI cy a z k lZ r1.2.1 r2 hc2 H.size) (cwV 0 hts g_y_X6_word__ek2_X6_madeString_V96 rfl rfl rfl hd_y_X6_madeString ⟨Nat.le_of_ble_eq_true rfl, Nat.le_of_ble_eq_true rfl⟩) ⟨nb_blind, va_recv hK hP (ci := 5) (q0 := 12) rfl rfl, (kb_pre hK hG hP hD)⟩ rfl rfl hl.1 rfl (lv_room (Nat.le_of_ble_eq_true rfl)) dX6_word_11 ⟨(Nat.le_trans (Nat.le_add_right _ _) (Nat.le_of_eq hc)), (Nat.le_trans (Nat.le_add_right _ _) (Nat.le_of_eq hs))⟩) hA hP hD hS (fun H locs hP hD hS => ?_)
          obtain rfl := Option.some.inj h
          subst hc
          subst hs
          exact xr_i hx hb hr hK hzk hP hD hS hlocks dX6_word_14
        · subst hy
          exact Or.inr ⟨h00, rfl, hc, hs⟩
  exact (blk k0) z 0 0 L0 σ0 r0 h0 (zk_rf _ _) ((Nat.zero_add _).trans hmc) ((Nat.zero_add _).trans hms) s.heap [] ls hP hD hS hl
/-! X6_writeWord__ek4 -/
def f_X6_writeWord__ek4 : Nat → Nat → LV → CS → Option RS
  | 0, _, _, _ => none
  | k + 1, 0, L, σ => f_X6_writeWord__ek4 k 1 (lI L 2 0) σ
  | k + 1, 1, L, σ => if 5 ≤ ((L.1 2)) then (f_X6_writeWord__ek4 k 2 L σ) else (if ¬ ((L.1 2)) < 0 ∧ ((L.1 2)).toNatClampNeg < 5 then (op (y_X6_put k 0 (lI lZ 1 ((sx2.getD ((L.1 2)).toNatClampNeg 0 &&& 255))) σ) (fun r3 => f_X6_writeWord__ek4 k 1 (lI L 2 ((((L.1 2)) + 1))) r3.2)) else none)
  | k + 1, 2, L, σ => some ((0, 0), σ, (0, 0))
  | _ + 1, _ + 3, _, _ => none
def o_f_X6_writeWord__ek4 : List Cond := [.methodLink RX6 83 yJ0_length_8abf5, .instanceMethod yJ0_length_8abf5, .selects RJ0 yJ0_length_8abf5 yJ0_length_8abf5, .initialized RJ0, .methodLink RX6 88 yJ0_charAt_5068e, .instanceMethod yJ0_charAt_5068e, .selects RJ0 yJ0_charAt_5068e yJ0_charAt_5068e, .methodLink RX6 55 yX6_put, .instanceMethod yX6_put, .selects RX6 yX6_put yX6_put, .initialized RX6]
theorem o_f_X6_writeWord__ek4_good : o_f_X6_writeWord__ek4.all goodWord = true := by decide +kernel
def p_f_X6_writeWord__ek4 : List Cond := o_f_X6_writeWord__ek4 ++ (wsJ0_length_8abf5 ++ (wsJ0_charAt_5068e ++ ((.code yX6_put cX6_put 2 none :: p_y_X6_put) ++ [])))
theorem p_f_X6_writeWord__ek4_good : p_f_X6_writeWord__ek4.all goodWord = true := nb_all2 o_f_X6_writeWord__ek4_good (nb_all2 (by decide +kernel) (nb_all2 (by decide +kernel) (nb_all2 (nb_allc (by decide +kernel) p_y_X6_put_good) rfl)))
def w_f_X6_writeWord__ek4 : List Cond := .code yX6_writeWord cX6_writeWord 3 none :: (p_f_X6_writeWord__ek4 ++ fC)
theorem w_f_X6_writeWord__ek4_good : w_f_X6_writeWord__ek4.all goodWord = true := nb_allc (by decide +kernel) (nb_all2 p_f_X6_writeWord__ek4_good fC_good)
theorem hd_f_X6_writeWord__ek4 : yX6_writeWord.cls = RX6 ∧ yX6_writeWord.cls ≠ "java/lang/invoke/MethodHandle" ∧ yX6_writeWord.cls ≠ "java/lang/invoke/VarHandle" ∧ (parseMethodDescriptor yX6_writeWord.desc).map (fun d => d.parameters.length) = some 1 := by decide +kernel
theorem gg_f_X6_writeWord__ek4_X6_put : GoodIn w_f_X6_writeWord__ek4 w_y_X6_put := goodIn_sub (fun w h => (List.mem_cons.mp h).elim (fun e => (List.mem_cons_of_mem _ (List.mem_append_left _ (List.mem_append_right _ (List.mem_append_right _ (List.mem_append_right _ (List.mem_append_left _ (List.mem_cons.mpr (Or.inl e))))))))) (fun h => (List.mem_append.mp h).elim (fun h => (List.mem_cons_of_mem _ (List.mem_append_left _ (List.mem_append_right _ (List.mem_append_right _ (List.mem_append_right _ (List.mem_append_left _ (List.mem_cons_of_mem _ h)))))))) (fun h => List.mem_cons_of_mem _ (List.mem_append_right _ h)))) w_y_X6_put_good
theorem g_y_X6_writeWord__ek4_X6_put_V55 : GoodIn w_f_X6_writeWord__ek4 (wsV RX6 55 RX6 yX6_put w_y_X6_put) := goodIn_app (nb_g4 (List.mem_cons_of_mem _ (List.mem_append_left _ (List.mem_append_left _ (List.mem_of_getElem? (i := 7) rfl)))) (List.mem_cons_of_mem _ (List.mem_append_left _ (List.mem_append_left _ (List.mem_of_getElem? (i := 8) rfl)))) (List.mem_cons_of_mem _ (List.mem_append_left _ (List.mem_append_left _ (List.mem_of_getElem? (i := 9) rfl)))) (List.mem_cons_of_mem _ (List.mem_append_left _ (List.mem_append_left _ (List.mem_of_getElem? (i := 10) rfl)))) (by decide +kernel)) gg_f_X6_writeWord__ek4_X6_put
theorem gg_f_X6_writeWord__ek4_wsJ0_charAt_5068e : GoodIn w_f_X6_writeWord__ek4 wsJ0_charAt_5068e := goodIn_sub (fun w h => (List.mem_cons_of_mem _ (List.mem_append_left _ (List.mem_append_right _ (List.mem_append_right _ (List.mem_append_left _ h)))))) (by decide +kernel)
theorem g_f_X6_writeWord__ek4_wsJ0_charAt_5068e_88 : GoodIn w_f_X6_writeWord__ek4 (wsV RX6 88 RJ0 yJ0_charAt_5068e wsJ0_charAt_5068e) := goodIn_app (nb_g4 (List.mem_cons_of_mem _ (List.mem_append_left _ (List.mem_append_left _ (List.mem_of_getElem? (i := 4) rfl)))) (List.mem_cons_of_mem _ (List.mem_append_left _ (List.mem_append_left _ (List.mem_of_getElem? (i := 5) rfl)))) (List.mem_cons_of_mem _ (List.mem_append_left _ (List.mem_append_left _ (List.mem_of_getElem? (i := 6) rfl)))) (List.mem_cons_of_mem _ (List.mem_append_left _ (List.mem_append_left _ (List.mem_of_getElem? (i := 3) rfl)))) (by decide +kernel)) gg_f_X6_writeWord__ek4_wsJ0_charAt_5068e
theorem gg_f_X6_writeWord__ek4_wsJ0_length_8abf5 : GoodIn w_f_X6_writeWord__ek4 wsJ0_length_8abf5 := goodIn_sub (fun w h => (List.mem_cons_of_mem _ (List.mem_append_left _ (List.mem_append_right _ (List.mem_append_left _ h))))) (by decide +kernel)
theorem g_f_X6_writeWord__ek4_wsJ0_length_8abf5_83 : GoodIn w_f_X6_writeWord__ek4 (wsV RX6 83 RJ0 yJ0_length_8abf5 wsJ0_length_8abf5) := goodIn_app (nb_g4 (List.mem_cons_of_mem _ (List.mem_append_left _ (List.mem_append_left _ (List.mem_of_getElem? (i := 0) rfl)))) (List.mem_cons_of_mem _ (List.mem_append_left _ (List.mem_append_left _ (List.mem_of_getElem? (i := 1) rfl)))) (List.mem_cons_of_mem _ (List.mem_append_left _ (List.mem_append_left _ (List.mem_of_getElem? (i := 2) rfl)))) (List.mem_cons_of_mem _ (List.mem_append_left _ (List.mem_append_left _ (List.mem_of_getElem? (i := 3) rfl)))) (by decide +kernel)) gg_f_X6_writeWord__ek4_wsJ0_length_8abf5
set_option maxHeartbeats 40000000 in
set_option maxRecDepth 100000 in
theorem c_f_X6_writeWord__ek4 (l : Launch) (hl0 : l.stackTraces = false) (dC : Nat → ClassId) (dI : Nat → Nat → Nat) (cy : Nat → ClassId) (ek a : Nat → Nat) (k0 : Nat) (L0 : LV) (σ0 : CS) (r0 : RS) (h0 : f_X6_writeWord__ek4 k0 0 L0 σ0 = some r0) (z : Nat → Nat) (sz : Nat) : vx_Met l yX6_writeWord w_f_X6_writeWord__ek4 ({ frames := 4, cells := r0.2.2.1, slots := r0.2.2.2, locals := 85 }) (va_Pc [.ref (a 12), .ref (ek 4)] (nInF (dC, dI) cy ek sz (vC cy a z σ0))) (xV dC dI cy a (va_A (vC cy a z σ0) sz) [] z r0) (xX dC dI cy a (va_A (vC cy a z σ0) sz) [] z r0) r0.2.2.1 r0.2.2.2 (va_A (vC cy a z σ0) sz) := by
  refine vx_ofW (cc := cX6_writeWord) (maxL := 3) (ret := none) (by decide) rfl ?_
  intro p e s m args below meth c s₁ B hml hno hv
  obtain ⟨rfl, ⟨⟨hsz, hP, hK, hD0, hG⟩, hE⟩, hT⟩ := hv
  have hx := B.exec
  have hb := B.bytes
  have hr := B.returns
  have hts := atoms_spec (ws := w_f_X6_writeWord__ek4) B.pre
  have hown : s.vm.findClass RX6 = some m.cls := findClass_of_methodNamed B.named
  have hlocks := B.notSynchronized
  subst hsz
  have hD := hD0.self (sz := s.heap.size)
  generalize hAe : va_A (vC cy a z σ0) s.heap.size = A at hD hE hT ⊢
  have hA : ∀ q : Nat, s.heap.size ≤ q → A q := fun q h => by rw [← hAe]; exact Or.inr h
  have hS : va_S A s.heap s.heap [] := va_S.rf
  have hl := lv_entry ([.ref (a 12), .ref (ek 4)]) (n := 3) (Nat.le_of_ble_eq_true rfl)
  rw [lg_entry_eq]
  generalize (lg_sl ([.ref (a 12), .ref (ek 4)]) ++ List.replicate (3 - (lg_sl ([.ref (a 12), .ref (ek 4)])).length) Slot.unset).toArray = ls at hl ⊢
  have hl : lv_has ls 3 [(0, .ref (a 12)), (1, .ref (ek 4))] := hl
  generalize hmc : r0.2.2.1 = mc
  generalize hms : r0.2.2.2 = ms
  have blk : ∀ k : Nat, (bX p l e (headSpec w_f_X6_writeWord__ek4 ({ frames := 4, cells := mc, slots := ms, locals := 85 })).room s m #[.ref (a 12), .ref (ek 4)] below meth c dC dI cy a A (fun r => vx_MQ below (xV dC dI cy a A [] z r) (xX dC dI cy a A [] z r) #[.ref (a 12), .ref (ek 4)] s mc ms A) [] z mc ms 3 (f_X6_writeWord__ek4 k 0) (fun z L => [(0, .ref (a 12)), (1, .ref (ek 4))]) 0 (fun z L => [])) ∧ (bX p l e (headSpec w_f_X6_writeWord__ek4 ({ frames := 4, cells := mc, slots := ms, locals := 85 })).room s m #[.ref (a 12), .ref (ek 4)] below meth c dC dI cy a A (fun r => vx_MQ below (xV dC dI cy a A [] z r) (xX dC dI cy a A [] z r) #[.ref (a 12), .ref (ek 4)] s mc ms A) [] z mc ms 3 (f_X6_writeWord__ek4 k 1) (fun z L => [(0, .ref (a 12)), (1, .ref (ek 4)), (2, .int (L.1 2))]) 2 (fun z L => [])) ∧ (bX p l e (headSpec w_f_X6_writeWord__ek4 ({ frames := 4, cells := mc, slots := ms, locals := 85 })).room s m #[.ref (a 12), .ref (ek 4)] below meth c dC dI cy a A (fun r => vx_MQ below (xV dC dI cy a A [] z r) (xX dC dI cy a A [] z r) #[.ref (a 12), .ref (ek 4)] s mc ms A) [] z mc ms 3 (f_X6_writeWord__ek4 k 2) (fun z L => []) 25 (fun z L => [])) := by
    intro k
    induction k with
    | zero => exact ⟨fun z c1 c2 L σ r h => (by cases h), fun z c1 c2 L σ r h => (by cases h), fun z c1 c2 L σ r h => (by cases h)⟩
    | succ k ih =>
      refine ⟨?_, ?_, ?_⟩
      · intro z cells slots L σ r h hzk hc hs H locs ls hP hD hS hl
        rw [f_X6_writeWord__ek4] at h
        refine lv_iconst (v := 0) hx hb dX6_writeWord_0 (by decide) ?_
        refine lv_istore_n (lv' := [(2, .int 0), (0, .ref (a 12)), (1, .ref (ek 4))]) hx hb dX6_writeWord_1 rfl hl (by decide) rfl (fun ls hl => ?_)
        exact ih.2.1 z _ _ (lI L 2 0) σ _ h hzk hc hs H locs ls hP hD hS (lv_sub hl [1, 2, 0] rfl)
      · intro z cells slots L σ r h hzk hc hs H locs ls hP hD hS hl
        rw [f_X6_writeWord__ek4] at h
        refine lv_iload_n hx hb dX6_writeWord_2 rfl (lv_at hl 2 rfl) ?_
        refine lv_aload_n hx hb dX6_writeWord_3 rfl (lv_at hl 1 rfl) ?_
        refine ks_i (va_runV (As := []) (rest := [.int (L.1 2)]) ⟨hx, hb, hml, hown, hts⟩ (c_J2_len l dC dI cy ek H.size) (cwV 0 hts g_f_X6_writeWord__ek4_wsJ0_length_8abf5_83 rfl rfl rfl (by decide +kernel) ⟨Nat.le_of_ble_eq_true rfl, Nat.le_of_ble_eq_true rfl⟩) ⟨nb_blindE, (vk_recv (i := 2) hE.2.2.1 (by decide) hS), fun U hU hW => ⟨rfl, ⟨by rw [hU], nb_nil, va_K.moved hW.alike hK, nb_nilD, hG.warm hW⟩, nE.to hE hS hW hU (va_free (wc := []) hD hS hA [] rfl)⟩⟩ rfl rfl hl.1 rfl (lv_room (Nat.le_of_ble_eq_true rfl)) dX6_writeWord_4 ⟨(Nat.le_trans (Nat.le_add_right _ _) (Nat.le_of_eq hc)), (Nat.le_trans (Nat.le_add_right _ _) (Nat.le_of_eq hs))⟩) hA hP hD hS (fun H locs hP hS => ?_)
        refine lv_icmp_ge (tgt := 25) hx hb dX6_writeWord_7 (by decide) (fun c1 => ?_) (fun c1 => ?_)
        · rw [if_pos c1] at h
          exact ih.2.2 z _ _ L σ _ h hzk hc hs H locs ls hP hD hS (lv_sub hl [] rfl)
        · rw [if_neg c1] at h
          refine lv_aload_n hx hb dX6_writeWord_10 rfl (lv_at hl 0 rfl) ?_
          refine lv_aload_n hx hb dX6_writeWord_11 rfl (lv_at hl 1 rfl) ?_
          refine lv_iload_n hx hb dX6_writeWord_12 rfl (lv_at hl 2 rfl) ?_
          obtain ⟨q2, h⟩ := kr_ite1 h
          have hch := c_J2_charAt l dC dI cy ek ((L.1 2)).toNatClampNeg q2.2 H.size
          rw [nI_back q2.1] at hch
          refine ks_i (va_runV (As := [.int (L.1 2)]) (rest := [.ref (a 12)]) ⟨hx, hb, hml, hown, hts⟩ hch (cwV 1 hts g_f_X6_writeWord__ek4_wsJ0_charAt_5068e_88 rfl rfl rfl (by decide +kernel) ⟨Nat.le_of_ble_eq_true rfl, Nat.le_of_ble_eq_true rfl⟩) ⟨nb_blindE, (vk_recv (i := 2) hE.2.2.1 (by decide) hS), fun U hU hW => ⟨rfl, ⟨by rw [hU], nb_nil, va_K.moved hW.alike hK, nb_nilD, hG.warm hW⟩, nE.to hE hS hW hU (va_free (wc := []) hD hS hA [] rfl)⟩⟩ rfl rfl hl.1 rfl (lv_room (Nat.le_of_ble_eq_true rfl)) dX6_writeWord_13 ⟨(Nat.le_trans (Nat.le_add_right _ _) (Nat.le_of_eq hc)), (Nat.le_trans (Nat.le_add_right _ _) (Nat.le_of_eq hs))⟩) hA hP hD hS (fun H locs hP hS => ?_)
          obtain ⟨r3, hc3, h⟩ := op_ex h
          refine kc_v (va_runV (As := [.int (sx2.getD ((L.1 2)).toNatClampNeg 0 &&& 255)]) (rest := []) ⟨hx, hb, hml, hown, hts⟩ (c_y_X6_put l dC dI cy a z k (lI lZ 1 ((sx2.getD ((L.1 2)).toNatClampNeg 0 &&& 255))) σ r3 hc3 H.size) (cwV 1 hts g_y_X6_writeWord__ek4_X6_put_V55 rfl rfl rfl hd_y_X6_put ⟨Nat.le_of_ble_eq_true rfl, Nat.le_of_ble_eq_true rfl⟩) ⟨nb_blind, va_recv hK hP (ci := 5) (q0 := 12) rfl rfl, (kb_pre hK hG hP hD)⟩ rfl rfl hl.1 rfl (lv_room (Nat.le_of_ble_eq_true rfl)) dX6_writeWord_16 ⟨(Nat.le_trans (Nat.le_add_right _ _) (Nat.le_of_eq hc)), (Nat.le_trans (Nat.le_add_right _ _) (Nat.le_of_eq hs))⟩) hA hP hD hS (fun H locs hP hD hS => ?_)
          refine lv_iinc (v := ((L.1 2)) + 1) (lv' := [(2, .int (((L.1 2)) + 1)), (0, .ref (a 12)), (1, .ref (ek 4))]) hx hb dX6_writeWord_19 hl (k := 2) rfl rfl (by decide) rfl (fun ls hl => ?_)
          refine lv_goto (tgt := 2) hx hb dX6_writeWord_22 (by decide) ?_
          exact ih.2.1 z _ _ (lI L 2 ((((L.1 2)) + 1))) r3.2 _ h hzk hc hs H locs ls hP hD hS (lv_sub hl [1, 2, 0] rfl)
      · intro z cells slots L σ r h hzk hc hs H locs ls hP hD hS hl
        rw [f_X6_writeWord__ek4] at h
        obtain rfl := Option.some.inj h
        subst hc
        subst hs
        exact xr_v hx hb hr hK hzk hP hD hS hlocks dX6_writeWord_25
  exact (blk k0).1 z 0 0 L0 σ0 r0 h0 (zk_rf _ _) ((Nat.zero_add _).trans hmc) ((Nat.zero_add _).trans hms) s.heap [] ls hP hD hS hl
/-! X6_word__ek4 -/
def f_X6_word__ek4 : Nat → Nat → LV → CS → Option RS
  | 0, _, _, _ => none
  | k + 1, 0, L, σ => ox (f_X6_writeWord__ek4 k 0 lZ (uI σ 1203 0)) (fun r1 => op (y_X6_madeString k 0 lZ r1.2.1) (fun r2 => some ((0, r2.1), r2.2, (0, 0))))
  | _ + 1, _ + 1, _, _ => none
def o_f_X6_word__ek4 : List Cond := [.fieldLink RX6 23 "SetHouse$Printer" "length" "I", .methodLink RX6 45 yX6_writeWord, .instanceMethod yX6_writeWord, .selects RX6 yX6_writeWord yX6_writeWord, .initialized RX6, .methodLink RX6 96 yX6_madeString, .instanceMethod yX6_madeString, .selects RX6 yX6_madeString yX6_madeString]
theorem o_f_X6_word__ek4_good : o_f_X6_word__ek4.all goodWord = true := by decide +kernel
def p_f_X6_word__ek4 : List Cond := o_f_X6_word__ek4 ++ ((.code yX6_writeWord cX6_writeWord 3 none :: p_f_X6_writeWord__ek4) ++ ((.code yX6_madeString cX6_madeString 1 (some .int) :: p_y_X6_madeString) ++ []))
theorem p_f_X6_word__ek4_good : p_f_X6_word__ek4.all goodWord = true := nb_all2 o_f_X6_word__ek4_good (nb_all2 (nb_allc (by decide +kernel) p_f_X6_writeWord__ek4_good) (nb_all2 (nb_allc (by decide +kernel) p_y_X6_madeString_good) rfl))
def w_f_X6_word__ek4 : List Cond := .code yX6_word cX6_word 2 (some .int) :: (p_f_X6_word__ek4 ++ fC)
theorem w_f_X6_word__ek4_good : w_f_X6_word__ek4.all goodWord = true := nb_allc (by decide +kernel) (nb_all2 p_f_X6_word__ek4_good fC_good)
theorem in_f_X6_word__ek4_X6 : ∀ w ∈ wsX60, w ∈ w_f_X6_word__ek4 := fun _ h => List.mem_cons_of_mem _ (List.mem_append_right _ (List.mem_append_right _ (List.mem_append_right _ (List.mem_append_right _ (List.mem_append_right _ (List.mem_append_right _ (List.mem_append_left _ h)))))))
theorem hd_f_X6_word__ek4 : yX6_word.cls = RX6 ∧ yX6_word.cls ≠ "java/lang/invoke/MethodHandle" ∧ yX6_word.cls ≠ "java/lang/invoke/VarHandle" ∧ (parseMethodDescriptor yX6_word.desc).map (fun d => d.parameters.length) = some 1 := by decide +kernel
theorem gg_f_X6_word__ek4_X6_writeWord__ek4 : GoodIn w_f_X6_word__ek4 w_f_X6_writeWord__ek4 := goodIn_sub (fun w h => (List.mem_cons.mp h).elim (fun e => (List.mem_cons_of_mem _ (List.mem_append_left _ (List.mem_append_right _ (List.mem_append_left _ (List.mem_cons.mpr (Or.inl e))))))) (fun h => (List.mem_append.mp h).elim (fun h => (List.mem_cons_of_mem _ (List.mem_append_left _ (List.mem_append_right _ (List.mem_append_left _ (List.mem_cons_of_mem _ h)))))) (fun h => List.mem_cons_of_mem _ (List.mem_append_right _ h)))) w_f_X6_writeWord__ek4_good
theorem g_f_X6_word__ek4_X6_writeWord__ek4_V45 : GoodIn w_f_X6_word__ek4 (wsV RX6 45 RX6 yX6_writeWord w_f_X6_writeWord__ek4) := goodIn_app (nb_g4 (List.mem_cons_of_mem _ (List.mem_append_left _ (List.mem_append_left _ (List.mem_of_getElem? (i := 1) rfl)))) (List.mem_cons_of_mem _ (List.mem_append_left _ (List.mem_append_left _ (List.mem_of_getElem? (i := 2) rfl)))) (List.mem_cons_of_mem _ (List.mem_append_left _ (List.mem_append_left _ (List.mem_of_getElem? (i := 3) rfl)))) (List.mem_cons_of_mem _ (List.mem_append_left _ (List.mem_append_left _ (List.mem_of_getElem? (i := 4) rfl)))) (by decide +kernel)) gg_f_X6_word__ek4_X6_writeWord__ek4
theorem gg_f_X6_word__ek4_X6_madeString : GoodIn w_f_X6_word__ek4 w_y_X6_madeString := goodIn_sub (fun w h => (List.mem_cons.mp h).elim (fun e => (List.mem_cons_of_mem _ (List.mem_append_left _ (List.mem_append_right _ (List.mem_append_right _ (List.mem_append_left _ (List.mem_cons.mpr (Or.inl e)))))))) (fun h => (List.mem_append.mp h).elim (fun h => (List.mem_cons_of_mem _ (List.mem_append_left _ (List.mem_append_right _ (List.mem_append_right _ (List.mem_append_left _ (List.mem_cons_of_mem _ h))))))) (fun h => List.mem_cons_of_mem _ (List.mem_append_right _ h)))) w_y_X6_madeString_good
theorem g_y_X6_word__ek4_X6_madeString_V96 : GoodIn w_f_X6_word__ek4 (wsV RX6 96 RX6 yX6_madeString w_y_X6_madeString) := goodIn_app (nb_g4 (List.mem_cons_of_mem _ (List.mem_append_left _ (List.mem_append_left _ (List.mem_of_getElem? (i := 5) rfl)))) (List.mem_cons_of_mem _ (List.mem_append_left _ (List.mem_append_left _ (List.mem_of_getElem? (i := 6) rfl)))) (List.mem_cons_of_mem _ (List.mem_append_left _ (List.mem_append_left _ (List.mem_of_getElem? (i := 7) rfl)))) (List.mem_cons_of_mem _ (List.mem_append_left _ (List.mem_append_left _ (List.mem_of_getElem? (i := 4) rfl)))) (by decide +kernel)) gg_f_X6_word__ek4_X6_madeString
set_option maxHeartbeats 40000000 in
set_option maxRecDepth 100000 in
theorem c_f_X6_word__ek4 (l : Launch) (hl0 : l.stackTraces = false) (dC : Nat → ClassId) (dI : Nat → Nat → Nat) (cy : Nat → ClassId) (ek a : Nat → Nat) (k0 : Nat) (L0 : LV) (σ0 : CS) (r0 : RS) (h0 : f_X6_word__ek4 k0 0 L0 σ0 = some r0) (z : Nat → Nat) (sz : Nat) : vx_Met l yX6_word w_f_X6_word__ek4 ({ frames := 5, cells := r0.2.2.1, slots := r0.2.2.2, locals := 107 }) (va_Pc [.ref (a 12), .ref (ek 4)] (nInF (dC, dI) cy ek sz (vC cy a z σ0))) (xI dC dI cy a (va_A (vC cy a z σ0) sz) [] z r0) (xX dC dI cy a (va_A (vC cy a z σ0) sz) [] z r0) r0.2.2.1 r0.2.2.2 (va_A (vC cy a z σ0) sz) := by
  refine vx_ofW (cc := cX6_word) (maxL := 2) (ret := (some .int)) (by decide) rfl ?_
  intro p e s m args below meth c s₁ B hml hno hv
  obtain ⟨rfl, ⟨⟨hsz, hP, hK, hD0, hG⟩, hE⟩, hT⟩ := hv
  have hx := B.exec
  have hb := B.bytes
  have hr := B.returns
  have hts := atoms_spec (ws := w_f_X6_word__ek4) B.pre
  have hown : s.vm.findClass RX6 = some m.cls := findClass_of_methodNamed B.named
  have hlocks := B.notSynchronized
  subst hsz
  have hD := hD0.self (sz := s.heap.size)
  generalize hAe : va_A (vC cy a z σ0) s.heap.size = A at hD hE hT ⊢
  have hA : ∀ q : Nat, s.heap.size ≤ q → A q := fun q h => by rw [← hAe]; exact Or.inr h
  have hS : va_S A s.heap s.heap [] := va_S.rf
  have hl := lv_entry ([.ref (a 12), .ref (ek 4)]) (n := 2) (Nat.le_of_ble_eq_true rfl)
  rw [lg_entry_eq]
  generalize (lg_sl ([.ref (a 12), .ref (ek 4)]) ++ List.replicate (2 - (lg_sl ([.ref (a 12), .ref (ek 4)])).length) Slot.unset).toArray = ls at hl ⊢
  have hl : lv_has ls 2 [(0, .ref (a 12)), (1, .ref (ek 4))] := hl
  generalize hmc : r0.2.2.1 = mc
  generalize hms : r0.2.2.2 = ms
  have blk : ∀ k : Nat, (bX p l e (headSpec w_f_X6_word__ek4 ({ frames := 5, cells := mc, slots := ms, locals := 107 })).room s m #[.ref (a 12), .ref (ek 4)] below meth c dC dI cy a A (fun r => vx_MQ below (xI dC dI cy a A [] z r) (xX dC dI cy a A [] z r) #[.ref (a 12), .ref (ek 4)] s mc ms A) [] z mc ms 2 (f_X6_word__ek4 k 0) (fun z L => [(0, .ref (a 12)), (1, .ref (ek 4))]) 0 (fun z L => [])) := by
    intro k
    induction k with
    | zero => exact fun z c1 c2 L σ r h => (by cases h)
    | succ k ih =>
      skip
      · intro z cells slots L σ r h hzk hc hs H locs ls hP hD hS hl
        rw [f_X6_word__ek4] at h
        refine lv_aload_n hx hb dX6_word_0 rfl (lv_at hl 0 rfl) ?_
        refine lv_iconst (v := 0) hx hb dX6_word_1 (by decide) ?_
        refine hp_12_3 hx hb hts in_f_X6_word__ek4_X6 hown hK hP hD hS (hts _ (List.mem_cons_of_mem _ (List.mem_append_left _ (List.mem_append_left _ (List.mem_of_getElem? (i := 0) rfl))))) dX6_word_2 (fun H locs hP hD hS => ?_)
        refine lv_aload_n hx hb dX6_word_5 rfl (lv_at hl 0 rfl) ?_
        refine lv_aload_n hx hb dX6_word_6 rfl (lv_at hl 1 rfl) ?_
        obtain ⟨r1, hc1, hle1, h9⟩ := ox_ex h
        clear h
        refine kx_v (vx_runV (As := [.ref (ek 4)]) (rest := []) ⟨hx, hb, hml, hown, hts⟩ (c_f_X6_writeWord__ek4 l hl0 dC dI cy ek a k lZ (uI σ 1203 0) r1 hc1 z H.size) (cwV 1 hts g_f_X6_word__ek4_X6_writeWord__ek4_V45 rfl rfl rfl hd_f_X6_writeWord__ek4 ⟨Nat.le_of_ble_eq_true rfl, Nat.le_of_ble_eq_true rfl⟩) ⟨nb_blindF, va_recv hK hP (ci := 5) (q0 := 12) rfl rfl, (kx_pre hK hG hE hT hA hP hD hS)⟩ rfl rfl hl.1 rfl (lv_room (Nat.le_of_ble_eq_true rfl)) dX6_word_7 ⟨Nat.le_trans (Nat.add_le_add_left hle1.1 _) (Nat.le_of_eq hc), Nat.le_trans (Nat.add_le_add_left hle1.2 _) (Nat.le_of_eq hs)⟩) hK hA hzk hP hD hS (by decide) hno hlocks ?_
        rcases h9 with ⟨h00, y1, hny1, hy⟩ | ⟨h00, hy⟩
        · subst hy
          have h := hny1
          refine Or.inl ⟨h00, fun u H locs hz1 hzk hP hD hS => ?_⟩
          obtain rfl := (zk_nil hz1).symm
          replace hc := (Nat.add_assoc _ _ _).trans hc
          replace hs := (Nat.add_assoc _ _ _).trans hs
          refine lv_aload_n hx hb dX6_word_10 rfl (lv_at hl 0 rfl) ?_
          obtain ⟨r2, hc2, h⟩ := op_ex h
          refine kc_i (va_runV (As := []) (rest := []) ⟨hx, hb, hml, hown, hts⟩ (c_y_X6_madeString l dC dI cy a z k lZ r1.2.1 r2 hc2 H.size) (cwV 0 hts g_y_X6_word__ek4_X6_madeString_V96 rfl rfl rfl hd_y_X6_madeString ⟨Nat.le_of_ble_eq_true rfl, Nat.le_of_ble_eq_true rfl⟩) ⟨nb_blind, va_recv hK hP (ci := 5) (q0 := 12) rfl rfl, (kb_pre hK hG hP hD)⟩ rfl rfl hl.1 rfl (lv_room (Nat.le_of_ble_eq_true rfl)) dX6_word_11 ⟨(Nat.le_trans (Nat.le_add_right _ _) (Nat.le_of_eq hc)), (Nat.le_trans (Nat.le_add_right _ _) (Nat.le_of_eq hs))⟩) hA hP hD hS (fun H locs hP hD hS => ?_)
          obtain rfl := Option.some.inj h
          subst hc
          subst hs
          exact xr_i hx hb hr hK hzk hP hD hS hlocks dX6_word_14
        · subst hy
          exact Or.inr ⟨h00, rfl, hc, hs⟩
  exact (blk k0) z 0 0 L0 σ0 r0 h0 (zk_rf _ _) ((Nat.zero_add _).trans hmc) ((Nat.zero_add _).trans hms) s.heap [] ls hP hD hS hl
/-! X6_writeWord__ek6 -/
def f_X6_writeWord__ek6 : Nat → Nat → LV → CS → Option RS
  | 0, _, _, _ => none
  | k + 1, 0, L, σ => f_X6_writeWord__ek6 k 1 (lI L 2 0) σ
  | k + 1, 1, L, σ => if 4 ≤ ((L.1 2)) then (f_X6_writeWord__ek6 k 2 L σ) else (if ¬ ((L.1 2)) < 0 ∧ ((L.1 2)).toNatClampNeg < 4 then (op (y_X6_put k 0 (lI lZ 1 ((sx3.getD ((L.1 2)).toNatClampNeg 0 &&& 255))) σ) (fun r3 => f_X6_writeWord__ek6 k 1 (lI L 2 ((((L.1 2)) + 1))) r3.2)) else none)
  | k + 1, 2, L, σ => some ((0, 0), σ, (0, 0))
  | _ + 1, _ + 3, _, _ => none
def o_f_X6_writeWord__ek6 : List Cond := [.methodLink RX6 83 yJ0_length_8abf5, .instanceMethod yJ0_length_8abf5, .selects RJ0 yJ0_length_8abf5 yJ0_length_8abf5, .initialized RJ0, .methodLink RX6 88 yJ0_charAt_5068e, .instanceMethod yJ0_charAt_5068e, .selects RJ0 yJ0_charAt_5068e yJ0_charAt_5068e, .methodLink RX6 55 yX6_put, .instanceMethod yX6_put, .selects RX6 yX6_put yX6_put, .initialized RX6]
theorem o_f_X6_writeWord__ek6_good : o_f_X6_writeWord__ek6.all goodWord = true := by decide +kernel
def p_f_X6_writeWord__ek6 : List Cond := o_f_X6_writeWord__ek6 ++ (wsJ0_length_8abf5 ++ (wsJ0_charAt_5068e ++ ((.code yX6_put cX6_put 2 none :: p_y_X6_put) ++ [])))
theorem p_f_X6_writeWord__ek6_good : p_f_X6_writeWord__ek6.all goodWord = true := nb_all2 o_f_X6_writeWord__ek6_good (nb_all2 (by decide +kernel) (nb_all2 (by decide +kernel) (nb_all2 (nb_allc (by decide +kernel) p_y_X6_put_good) rfl)))
def w_f_X6_writeWord__ek6 : List Cond := .code yX6_writeWord cX6_writeWord 3 none :: (p_f_X6_writeWord__ek6 ++ fC)
theorem w_f_X6_writeWord__ek6_good : w_f_X6_writeWord__ek6.all goodWord = true := nb_allc (by decide +kernel) (nb_all2 p_f_X6_writeWord__ek6_good fC_good)
theorem hd_f_X6_writeWord__ek6 : yX6_writeWord.cls = RX6 ∧ yX6_writeWord.cls ≠ "java/lang/invoke/MethodHandle" ∧ yX6_writeWord.cls ≠ "java/lang/invoke/VarHandle" ∧ (parseMethodDescriptor yX6_writeWord.desc).map (fun d => d.parameters.length) = some 1 := by decide +kernel
theorem gg_f_X6_writeWord__ek6_X6_put : GoodIn w_f_X6_writeWord__ek6 w_y_X6_put := goodIn_sub (fun w h => (List.mem_cons.mp h).elim (fun e => (List.mem_cons_of_mem _ (List.mem_append_left _ (List.mem_append_right _ (List.mem_append_right _ (List.mem_append_right _ (List.mem_append_left _ (List.mem_cons.mpr (Or.inl e))))))))) (fun h => (List.mem_append.mp h).elim (fun h => (List.mem_cons_of_mem _ (List.mem_append_left _ (List.mem_append_right _ (List.mem_append_right _ (List.mem_append_right _ (List.mem_append_left _ (List.mem_cons_of_mem _ h)))))))) (fun h => List.mem_cons_of_mem _ (List.mem_append_right _ h)))) w_y_X6_put_good
theorem g_y_X6_writeWord__ek6_X6_put_V55 : GoodIn w_f_X6_writeWord__ek6 (wsV RX6 55 RX6 yX6_put w_y_X6_put) := goodIn_app (nb_g4 (List.mem_cons_of_mem _ (List.mem_append_left _ (List.mem_append_left _ (List.mem_of_getElem? (i := 7) rfl)))) (List.mem_cons_of_mem _ (List.mem_append_left _ (List.mem_append_left _ (List.mem_of_getElem? (i := 8) rfl)))) (List.mem_cons_of_mem _ (List.mem_append_left _ (List.mem_append_left _ (List.mem_of_getElem? (i := 9) rfl)))) (List.mem_cons_of_mem _ (List.mem_append_left _ (List.mem_append_left _ (List.mem_of_getElem? (i := 10) rfl)))) (by decide +kernel)) gg_f_X6_writeWord__ek6_X6_put
theorem gg_f_X6_writeWord__ek6_wsJ0_charAt_5068e : GoodIn w_f_X6_writeWord__ek6 wsJ0_charAt_5068e := goodIn_sub (fun w h => (List.mem_cons_of_mem _ (List.mem_append_left _ (List.mem_append_right _ (List.mem_append_right _ (List.mem_append_left _ h)))))) (by decide +kernel)
theorem g_f_X6_writeWord__ek6_wsJ0_charAt_5068e_88 : GoodIn w_f_X6_writeWord__ek6 (wsV RX6 88 RJ0 yJ0_charAt_5068e wsJ0_charAt_5068e) := goodIn_app (nb_g4 (List.mem_cons_of_mem _ (List.mem_append_left _ (List.mem_append_left _ (List.mem_of_getElem? (i := 4) rfl)))) (List.mem_cons_of_mem _ (List.mem_append_left _ (List.mem_append_left _ (List.mem_of_getElem? (i := 5) rfl)))) (List.mem_cons_of_mem _ (List.mem_append_left _ (List.mem_append_left _ (List.mem_of_getElem? (i := 6) rfl)))) (List.mem_cons_of_mem _ (List.mem_append_left _ (List.mem_append_left _ (List.mem_of_getElem? (i := 3) rfl)))) (by decide +kernel)) gg_f_X6_writeWord__ek6_wsJ0_charAt_5068e
theorem gg_f_X6_writeWord__ek6_wsJ0_length_8abf5 : GoodIn w_f_X6_writeWord__ek6 wsJ0_length_8abf5 := goodIn_sub (fun w h => (List.mem_cons_of_mem _ (List.mem_append_left _ (List.mem_append_right _ (List.mem_append_left _ h))))) (by decide +kernel)
theorem g_f_X6_writeWord__ek6_wsJ0_length_8abf5_83 : GoodIn w_f_X6_writeWord__ek6 (wsV RX6 83 RJ0 yJ0_length_8abf5 wsJ0_length_8abf5) := goodIn_app (nb_g4 (List.mem_cons_of_mem _ (List.mem_append_left _ (List.mem_append_left _ (List.mem_of_getElem? (i := 0) rfl)))) (List.mem_cons_of_mem _ (List.mem_append_left _ (List.mem_append_left _ (List.mem_of_getElem? (i := 1) rfl)))) (List.mem_cons_of_mem _ (List.mem_append_left _ (List.mem_append_left _ (List.mem_of_getElem? (i := 2) rfl)))) (List.mem_cons_of_mem _ (List.mem_append_left _ (List.mem_append_left _ (List.mem_of_getElem? (i := 3) rfl)))) (by decide +kernel)) gg_f_X6_writeWord__ek6_wsJ0_length_8abf5
set_option maxHeartbeats 40000000 in
set_option maxRecDepth 100000 in
theorem c_f_X6_writeWord__ek6 (l : Launch) (hl0 : l.stackTraces = false) (dC : Nat → ClassId) (dI : Nat → Nat → Nat) (cy : Nat → ClassId) (ek a : Nat → Nat) (k0 : Nat) (L0 : LV) (σ0 : CS) (r0 : RS) (h0 : f_X6_writeWord__ek6 k0 0 L0 σ0 = some r0) (z : Nat → Nat) (sz : Nat) : vx_Met l yX6_writeWord w_f_X6_writeWord__ek6 ({ frames := 4, cells := r0.2.2.1, slots := r0.2.2.2, locals := 85 }) (va_Pc [.ref (a 12), .ref (ek 6)] (nInF (dC, dI) cy ek sz (vC cy a z σ0))) (xV dC dI cy a (va_A (vC cy a z σ0) sz) [] z r0) (xX dC dI cy a (va_A (vC cy a z σ0) sz) [] z r0) r0.2.2.1 r0.2.2.2 (va_A (vC cy a z σ0) sz) := by
  refine vx_ofW (cc := cX6_writeWord) (maxL := 3) (ret := none) (by decide) rfl ?_
  intro p e s m args below meth c s₁ B hml hno hv
  obtain ⟨rfl, ⟨⟨hsz, hP, hK, hD0, hG⟩, hE⟩, hT⟩ := hv
  have hx := B.exec
  have hb := B.bytes
  have hr := B.returns
  have hts := atoms_spec (ws := w_f_X6_writeWord__ek6) B.pre
  have hown : s.vm.findClass RX6 = some m.cls := findClass_of_methodNamed B.named
  have hlocks := B.notSynchronized
  subst hsz
  have hD := hD0.self (sz := s.heap.size)
  generalize hAe : va_A (vC cy a z σ0) s.heap.size = A at hD hE hT ⊢
  have hA : ∀ q : Nat, s.heap.size ≤ q → A q := fun q h => by rw [← hAe]; exact Or.inr h
  have hS : va_S A s.heap s.heap [] := va_S.rf
  have hl := lv_entry ([.ref (a 12), .ref (ek 6)]) (n := 3) (Nat.le_of_ble_eq_true rfl)
  rw [lg_entry_eq]
  generalize (lg_sl ([.ref (a 12), .ref (ek 6)]) ++ List.replicate (3 - (lg_sl ([.ref (a 12), .ref (ek 6)])).length) Slot.unset).toArray = ls at hl ⊢
  have hl : lv_has ls 3 [(0, .ref (a 12)), (1, .ref (ek 6))] := hl
  generalize hmc : r0.2.2.1 = mc
  generalize hms : r0.2.2.2 = ms
  have blk : ∀ k : Nat, (bX p l e (headSpec w_f_X6_writeWord__ek6 ({ frames := 4, cells := mc, slots := ms, locals := 85 })).room s m #[.ref (a 12), .ref (ek 6)] below meth c dC dI cy a A (fun r => vx_MQ below (xV dC dI cy a A [] z r) (xX dC dI cy a A [] z r) #[.ref (a 12), .ref (ek 6)] s mc ms A) [] z mc ms 3 (f_X6_writeWord__ek6 k 0) (fun z L => [(0, .ref (a 12)), (1, .ref (ek 6))]) 0 (fun z L => [])) ∧ (bX p l e (headSpec w_f_X6_writeWord__ek6 ({ frames := 4, cells := mc, slots := ms, locals := 85 })).room s m #[.ref (a 12), .ref (ek 6)] below meth c dC dI cy a A (fun r => vx_MQ below (xV dC dI cy a A [] z r) (xX dC dI cy a A [] z r) #[.ref (a 12), .ref (ek 6)] s mc ms A) [] z mc ms 3 (f_X6_writeWord__ek6 k 1) (fun z L => [(0, .ref (a 12)), (1, .ref (ek 6)), (2, .int (L.1 2))]) 2 (fun z L => [])) ∧ (bX p l e (headSpec w_f_X6_writeWord__ek6 ({ frames := 4, cells := mc, slots := ms, locals := 85 })).room s m #[.ref (a 12), .ref (ek 6)] below meth c dC dI cy a A (fun r => vx_MQ below (xV dC dI cy a A [] z r) (xX dC dI cy a A [] z r) #[.ref (a 12), .ref (ek 6)] s mc ms A) [] z mc ms 3 (f_X6_writeWord__ek6 k 2) (fun z L => []) 25 (fun z L => [])) := by
    intro k
    induction k with
    | zero => exact ⟨fun z c1 c2 L σ r h => (by cases h), fun z c1 c2 L σ r h => (by cases h), fun z c1 c2 L σ r h => (by cases h)⟩
    | succ k ih =>
      refine ⟨?_, ?_, ?_⟩
      · intro z cells slots L σ r h hzk hc hs H locs ls hP hD hS hl
        rw [f_X6_writeWord__ek6] at h
        refine lv_iconst (v := 0) hx hb dX6_writeWord_0 (by decide) ?_
        refine lv_istore_n (lv' := [(2, .int 0), (0, .ref (a 12)), (1, .ref (ek 6))]) hx hb dX6_writeWord_1 rfl hl (by decide) rfl (fun ls hl => ?_)
        exact ih.2.1 z _ _ (lI L 2 0) σ _ h hzk hc hs H locs ls hP hD hS (lv_sub hl [1, 2, 0] rfl)
      · intro z cells slots L σ r h hzk hc hs H locs ls hP hD hS hl
        rw [f_X6_writeWord__ek6] at h
        refine lv_iload_n hx hb dX6_writeWord_2 rfl (lv_at hl 2 rfl) ?_
        refine lv_aload_n hx hb dX6_writeWord_3 rfl (lv_at hl 1 rfl) ?_
        refine ks_i (va_runV (As := []) (rest := [.int (L.1 2)]) ⟨hx, hb, hml, hown, hts⟩ (c_J3_len l dC dI cy ek H.size) (cwV 0 hts g_f_X6_writeWord__ek6_wsJ0_length_8abf5_83 rfl rfl rfl (by decide +kernel) ⟨Nat.le_of_ble_eq_true rfl, Nat.le_of_ble_eq_true rfl⟩) ⟨nb_blindE, (vk_recv (i := 3) hE.2.2.1 (by decide) hS), fun U hU hW => ⟨rfl, ⟨by rw [hU], nb_nil, va_K.moved hW.alike hK, nb_nilD, hG.warm hW⟩, nE.to hE hS hW hU (va_free (wc := []) hD hS hA [] rfl)⟩⟩ rfl rfl hl.1 rfl (lv_room (Nat.le_of_ble_eq_true rfl)) dX6_writeWord_4 ⟨(Nat.le_trans (Nat.le_add_right _ _) (Nat.le_of_eq hc)), (Nat.le_trans (Nat.le_add_right _ _) (Nat.le_of_eq hs))⟩) hA hP hD hS (fun H locs hP hS => ?_)
        refine lv_icmp_ge (tgt := 25) hx hb dX6_writeWord_7 (by decide) (fun c1 => ?_) (fun c1 => ?_)
        · rw [if_pos c1] at h
          exact ih.2.2 z _ _ L σ _ h hzk hc hs H locs ls hP hD hS (lv_sub hl [] rfl)
        · rw [if_neg c1] at h
          refine lv_aload_n hx hb dX6_writeWord_10 rfl (lv_at hl 0 rfl) ?_
          refine lv_aload_n hx hb dX6_writeWord_11 rfl (lv_at hl 1 rfl) ?_
          refine lv_iload_n hx hb dX6_writeWord_12 rfl (lv_at hl 2 rfl) ?_
          obtain ⟨q2, h⟩ := kr_ite1 h
          have hch := c_J3_charAt l dC dI cy ek ((L.1 2)).toNatClampNeg q2.2 H.size
          rw [nI_back q2.1] at hch
          refine ks_i (va_runV (As := [.int (L.1 2)]) (rest := [.ref (a 12)]) ⟨hx, hb, hml, hown, hts⟩ hch (cwV 1 hts g_f_X6_writeWord__ek6_wsJ0_charAt_5068e_88 rfl rfl rfl (by decide +kernel) ⟨Nat.le_of_ble_eq_true rfl, Nat.le_of_ble_eq_true rfl⟩) ⟨nb_blindE, (vk_recv (i := 3) hE.2.2.1 (by decide) hS), fun U hU hW => ⟨rfl, ⟨by rw [hU], nb_nil, va_K.moved hW.alike hK, nb_nilD, hG.warm hW⟩, nE.to hE hS hW hU (va_free (wc := []) hD hS hA [] rfl)⟩⟩ rfl rfl hl.1 rfl (lv_room (Nat.le_of_ble_eq_true rfl)) dX6_writeWord_13 ⟨(Nat.le_trans (Nat.le_add_right _ _) (Nat.le_of_eq hc)), (Nat.le_trans (Nat.le_add_right _ _) (Nat.le_of_eq hs))⟩) hA hP hD hS (fun H locs hP hS => ?_)
          obtain ⟨r3, hc3, h⟩ := op_ex h
          refine kc_v (va_runV (As := [.int (sx3.getD ((L.1 2)).toNatClampNeg 0 &&& 255)]) (rest := []) ⟨hx, hb, hml, hown, hts⟩ (c_y_X6_put l dC dI cy a z k (lI lZ 1 ((sx3.getD ((L.1 2)).toNatClampNeg 0 &&& 255))) σ r3 hc3 H.size) (cwV 1 hts g_y_X6_writeWord__ek6_X6_put_V55 rfl rfl rfl hd_y_X6_put ⟨Nat.le_of_ble_eq_true rfl, Nat.le_of_ble_eq_true rfl⟩) ⟨nb_blind, va_recv hK hP (ci := 5) (q0 := 12) rfl rfl, (kb_pre hK hG hP hD)⟩ rfl rfl hl.1 rfl (lv_room (Nat.le_of_ble_eq_true rfl)) dX6_writeWord_16 ⟨(Nat.le_trans (Nat.le_add_right _ _) (Nat.le_of_eq hc)), (Nat.le_trans (Nat.le_add_right _ _) (Nat.le_of_eq hs))⟩) hA hP hD hS (fun H locs hP hD hS => ?_)
          refine lv_iinc (v := ((L.1 2)) + 1) (lv' := [(2, .int (((L.1 2)) + 1)), (0, .ref (a 12)), (1, .ref (ek 6))]) hx hb dX6_writeWord_19 hl (k := 2) rfl rfl (by decide) rfl (fun ls hl => ?_)
          refine lv_goto (tgt := 2) hx hb dX6_writeWord_22 (by decide) ?_
          exact ih.2.1 z _ _ (lI L 2 ((((L.1 2)) + 1))) r3.2 _ h hzk hc hs H locs ls hP hD hS (lv_sub hl [1, 2, 0] rfl)
      · intro z cells slots L σ r h hzk hc hs H locs ls hP hD hS hl
        rw [f_X6_writeWord__ek6] at h
        obtain rfl := Option.some.inj h
        subst hc
        subst hs
        exact xr_v hx hb hr hK hzk hP hD hS hlocks dX6_writeWord_25
  exact (blk k0).1 z 0 0 L0 σ0 r0 h0 (zk_rf _ _) ((Nat.zero_add _).trans hmc) ((Nat.zero_add _).trans hms) s.heap [] ls hP hD hS hl
/-! X6_word__ek6 -/
def f_X6_word__ek6 : Nat → Nat → LV → CS → Option RS
  | 0, _, _, _ => none
  | k + 1, 0, L, σ => ox (f_X6_writeWord__ek6 k 0 lZ (uI σ 1203 0)) (fun r1 => op (y_X6_madeString k 0 lZ r1.2.1) (fun r2 => some ((0, r2.1), r2.2, (0, 0))))
  | _ + 1, _ + 1, _, _ => none
def o_f_X6_word__ek6 : List Cond := [.fieldLink RX6 23 "SetHouse$Printer" "length" "I", .methodLink RX6 45 yX6_writeWord, .instanceMethod yX6_writeWord, .selects RX6 yX6_writeWord yX6_writeWord, .initialized RX6, .methodLink RX6 96 yX6_madeString, .instanceMethod yX6_madeString, .selects RX6 yX6_madeString yX6_madeString]
theorem o_f_X6_word__ek6_good : o_f_X6_word__ek6.all goodWord = true := by decide +kernel
def p_f_X6_word__ek6 : List Cond := o_f_X6_word__ek6 ++ ((.code yX6_writeWord cX6_writeWord 3 none :: p_f_X6_writeWord__ek6) ++ ((.code yX6_madeString cX6_madeString 1 (some .int) :: p_y_X6_madeString) ++ []))
theorem p_f_X6_word__ek6_good : p_f_X6_word__ek6.all goodWord = true := nb_all2 o_f_X6_word__ek6_good (nb_all2 (nb_allc (by decide +kernel) p_f_X6_writeWord__ek6_good) (nb_all2 (nb_allc (by decide +kernel) p_y_X6_madeString_good) rfl))
def w_f_X6_word__ek6 : List Cond := .code yX6_word cX6_word 2 (some .int) :: (p_f_X6_word__ek6 ++ fC)
theorem w_f_X6_word__ek6_good : w_f_X6_word__ek6.all goodWord = true := nb_allc (by decide +kernel) (nb_all2 p_f_X6_word__ek6_good fC_good)
theorem in_f_X6_word__ek6_X6 : ∀ w ∈ wsX60, w ∈ w_f_X6_word__ek6 := fun _ h => List.mem_cons_of_mem _ (List.mem_append_right _ (List.mem_append_right _ (List.mem_append_right _ (List.mem_append_right _ (List.mem_append_right _ (List.mem_append_right _ (List.mem_append_left _ h)))))))
theorem hd_f_X6_word__ek6 : yX6_word.cls = RX6 ∧ yX6_word.cls ≠ "java/lang/invoke/MethodHandle" ∧ yX6_word.cls ≠ "java/lang/invoke/VarHandle" ∧ (parseMethodDescriptor yX6_word.desc).map (fun d => d.parameters.length) = some 1 := by decide +kernel
theorem gg_f_X6_word__ek6_X6_writeWord__ek6 : GoodIn w_f_X6_word__ek6 w_f_X6_writeWord__ek6 := goodIn_sub (fun w h => (List.mem_cons.mp h).elim (fun e => (List.mem_cons_of_mem _ (List.mem_append_left _ (List.mem_append_right _ (List.mem_append_left _ (List.mem_cons.mpr (Or.inl e))))))) (fun h => (List.mem_append.mp h).elim (fun h => (List.mem_cons_of_mem _ (List.mem_append_left _ (List.mem_append_right _ (List.mem_append_left _ (List.mem_cons_of_mem _ h)))))) (fun h => List.mem_cons_of_mem _ (List.mem_append_right _ h)))) w_f_X6_writeWord__ek6_good
theorem g_f_X6_word__ek6_X6_writeWord__ek6_V45 : GoodIn w_f_X6_word__ek6 (wsV RX6 45 RX6 yX6_writeWord w_f_X6_writeWord__ek6) := goodIn_app (nb_g4 (List.mem_cons_of_mem _ (List.mem_append_left _ (List.mem_append_left _ (List.mem_of_getElem? (i := 1) rfl)))) (List.mem_cons_of_mem _ (List.mem_append_left _ (List.mem_append_left _ (List.mem_of_getElem? (i := 2) rfl)))) (List.mem_cons_of_mem _ (List.mem_append_left _ (List.mem_append_left _ (List.mem_of_getElem? (i := 3) rfl)))) (List.mem_cons_of_mem _ (List.mem_append_left _ (List.mem_append_left _ (List.mem_of_getElem? (i := 4) rfl)))) (by decide +kernel)) gg_f_X6_word__ek6_X6_writeWord__ek6
theorem gg_f_X6_word__ek6_X6_madeString : GoodIn w_f_X6_word__ek6 w_y_X6_madeString := goodIn_sub (fun w h => (List.mem_cons.mp h).elim (fun e => (List.mem_cons_of_mem _ (List.mem_append_left _ (List.mem_append_right _ (List.mem_append_right _ (List.mem_append_left _ (List.mem_cons.mpr (Or.inl e)))))))) (fun h => (List.mem_append.mp h).elim (fun h => (List.mem_cons_of_mem _ (List.mem_append_left _ (List.mem_append_right _ (List.mem_append_right _ (List.mem_append_left _ (List.mem_cons_of_mem _ h))))))) (fun h => List.mem_cons_of_mem _ (List.mem_append_right _ h)))) w_y_X6_madeString_good
theorem g_y_X6_word__ek6_X6_madeString_V96 : GoodIn w_f_X6_word__ek6 (wsV RX6 96 RX6 yX6_madeString w_y_X6_madeString) := goodIn_app (nb_g4 (List.mem_cons_of_mem _ (List.mem_append_left _ (List.mem_append_left _ (List.mem_of_getElem? (i := 5) rfl)))) (List.mem_cons_of_mem _ (List.mem_append_left _ (List.mem_append_left _ (List.mem_of_getElem? (i := 6) rfl)))) (List.mem_cons_of_mem _ (List.mem_append_left _ (List.mem_append_left _ (List.mem_of_getElem? (i := 7) rfl)))) (List.mem_cons_of_mem _ (List.mem_append_left _ (List.mem_append_left _ (List.mem_of_getElem? (i := 4) rfl)))) (by decide +kernel)) gg_f_X6_word__ek6_X6_madeString
set_option maxHeartbeats 40000000 in
set_option maxRecDepth 100000 in
theorem c_f_X6_word__ek6 (l : Launch) (hl0 : l.stackTraces = false) (dC : Nat → ClassId) (dI : Nat → Nat → Nat) (cy : Nat → ClassId) (ek a : Nat → Nat) (k0 : Nat) (L0 : LV) (σ0 : CS) (r0 : RS) (h0 : f_X6_word__ek6 k0 0 L0 σ0 = some r0) (z : Nat → Nat) (sz : Nat) : vx_Met l yX6_word w_f_X6_word__ek6 ({ frames := 5, cells := r0.2.2.1, slots := r0.2.2.2, locals := 107 }) (va_Pc [.ref (a 12), .ref (ek 6)] (nInF (dC, dI) cy ek sz (vC cy a z σ0))) (xI dC dI cy a (va_A (vC cy a z σ0) sz) [] z r0) (xX dC dI cy a (va_A (vC cy a z σ0) sz) [] z r0) r0.2.2.1 r0.2.2.2 (va_A (vC cy a z σ0) sz) := by
  refine vx_ofW (cc := cX6_word) (maxL := 2) (ret := (some .int)) (by decide) rfl ?_
  intro p e s m args below meth c s₁ B hml hno hv
  obtain ⟨rfl, ⟨⟨hsz, hP, hK, hD0, hG⟩, hE⟩, hT⟩ := hv
  have hx := B.exec
  have hb := B.bytes
  have hr := B.returns
  have hts := atoms_spec (ws := w_f_X6_word__ek6) B.pre
  have hown : s.vm.findClass RX6 = some m.cls := findClass_of_methodNamed B.named
  have hlocks := B.notSynchronized
  subst hsz
  have hD := hD0.self (sz := s.heap.size)
  generalize hAe : va_A (vC cy a z σ0) s.heap.size = A at hD hE hT ⊢
  have hA : ∀ q : Nat, s.heap.size ≤ q → A q := fun q h => by rw [← hAe]; exact Or.inr h
  have hS : va_S A s.heap s.heap [] := va_S.rf
  have hl := lv_entry ([.ref (a 12), .ref (ek 6)]) (n := 2) (Nat.le_of_ble_eq_true rfl)
  rw [lg_entry_eq]
  generalize (lg_sl ([.ref (a 12), .ref (ek 6)]) ++ List.replicate (2 - (lg_sl ([.ref (a 12), .ref (ek 6)])).length) Slot.unset).toArray = ls at hl ⊢
  have hl : lv_has ls 2 [(0, .ref (a 12)), (1, .ref (ek 6))] := hl
  generalize hmc : r0.2.2.1 = mc
  generalize hms : r0.2.2.2 = ms
  have blk : ∀ k : Nat, (bX p l e (headSpec w_f_X6_word__ek6 ({ frames := 5, cells := mc, slots := ms, locals := 107 })).room s m #[.ref (a 12), .ref (ek 6)] below meth c dC dI cy a A (fun r => vx_MQ below (xI dC dI cy a A [] z r) (xX dC dI cy a A [] z r) #[.ref (a 12), .ref (ek 6)] s mc ms A) [] z mc ms 2 (f_X6_word__ek6 k 0) (fun z L => [(0, .ref (a 12)), (1, .ref (ek 6))]) 0 (fun z L => [])) := by
    intro k
    induction k with
    | zero => exact fun z c1 c2 L σ r h => (by cases h)
    | succ k ih =>
      skip
      · intro z cells slots L σ r h hzk hc hs H locs ls hP hD hS hl
        rw [f_X6_word__ek6] at h
        refine lv_aload_n hx hb dX6_word_0 rfl (lv_at hl 0 rfl) ?_
        refine lv_iconst (v := 0) hx hb dX6_word_1 (by decide) ?_
        refine hp_12_3 hx hb hts in_f_X6_word__ek6_X6 hown hK hP hD hS (hts _ (List.mem_cons_of_mem _ (List.mem_append_left _ (List.mem_append_left _ (List.mem_of_getElem? (i := 0) rfl))))) dX6_word_2 (fun H locs hP hD hS => ?_)
        refine lv_aload_n hx hb dX6_word_5 rfl (lv_at hl 0 rfl) ?_
        refine lv_aload_n hx hb dX6_word_6 rfl (lv_at hl 1 rfl) ?_
        obtain ⟨r1, hc1, hle1, h9⟩ := ox_ex h
        clear h
        refine kx_v (vx_runV (As := [.ref (ek 6)]) (rest := []) ⟨hx, hb, hml, hown, hts⟩ (c_f_X6_writeWord__ek6 l hl0 dC dI cy ek a k lZ (uI σ 1203 0) r1 hc1 z H.size) (cwV 1 hts g_f_X6_word__ek6_X6_writeWord__ek6_V45 rfl rfl rfl hd_f_X6_writeWord__ek6 ⟨Nat.le_of_ble_eq_true rfl, Nat.le_of_ble_eq_true rfl⟩) ⟨nb_blindF, va_recv hK hP (ci := 5) (q0 := 12) rfl rfl, (kx_pre hK hG hE hT hA hP hD hS)⟩ rfl rfl hl.1 rfl (lv_room (Nat.le_of_ble_eq_true rfl)) dX6_word_7 ⟨Nat.le_trans (Nat.add_le_add_left hle1.1 _) (Nat.le_of_eq hc), Nat.le_trans (Nat.add_le_add_left hle1.2 _) (Nat.le_of_eq hs)⟩) hK hA hzk hP hD hS (by decide) hno hlocks ?_
        rcases h9 with ⟨h00, y1, hny1, hy⟩ | ⟨h00, hy⟩
        · subst hy
          have h := hny1
          refine Or.inl ⟨h00, fun u H locs hz1 hzk hP hD hS => ?_⟩
          obtain rfl := (zk_nil hz1).symm
          replace hc := (Nat.add_assoc _ _ _).trans hc
          replace hs := (Nat.add_assoc _ _ _).trans hs
          refine lv_aload_n hx hb dX6_word_10 rfl (lv_at hl 0 rfl) ?_
          obtain ⟨r2, hc2, h⟩ := op_ex h
          refine kc_i (va_runV (As := []) (rest := []) ⟨hx, hb, hml, hown, hts⟩ (c_y_X6_madeString l dC dI cy a z k lZ r1.2.1 r2 hc2 H.size) (cwV 0 hts g_y_X6_word__ek6_X6_madeString_V96 rfl rfl rfl hd_y_X6_madeString ⟨Nat.le_of_ble_eq_true rfl, Nat.le_of_ble_eq_true rfl⟩) ⟨nb_blind, va_recv hK hP (ci := 5) (q0 := 12) rfl rfl, (kb_pre hK hG hP hD)⟩ rfl rfl hl.1 rfl (lv_room (Nat.le_of_ble_eq_true rfl)) dX6_word_11 ⟨(Nat.le_trans (Nat.le_add_right _ _) (Nat.le_of_eq hc)), (Nat.le_trans (Nat.le_add_right _ _) (Nat.le_of_eq hs))⟩) hA hP hD hS (fun H locs hP hD hS => ?_)
          obtain rfl := Option.some.inj h
          subst hc
          subst hs
          exact xr_i hx hb hr hK hzk hP hD hS hlocks dX6_word_14
        · subst hy
          exact Or.inr ⟨h00, rfl, hc, hs⟩
  exact (blk k0) z 0 0 L0 σ0 r0 h0 (zk_rf _ _) ((Nat.zero_add _).trans hmc) ((Nat.zero_add _).trans hms) s.heap [] ls hP hD hS hl
/-! X6_writeWord__ek8 -/
def f_X6_writeWord__ek8 : Nat → Nat → LV → CS → Option RS
  | 0, _, _, _ => none
  | k + 1, 0, L, σ => f_X6_writeWord__ek8 k 1 (lI L 2 0) σ
  | k + 1, 1, L, σ => if 6 ≤ ((L.1 2)) then (f_X6_writeWord__ek8 k 2 L σ) else (if ¬ ((L.1 2)) < 0 ∧ ((L.1 2)).toNatClampNeg < 6 then (op (y_X6_put k 0 (lI lZ 1 ((sx4.getD ((L.1 2)).toNatClampNeg 0 &&& 255))) σ) (fun r3 => f_X6_writeWord__ek8 k 1 (lI L 2 ((((L.1 2)) + 1))) r3.2)) else none)
  | k + 1, 2, L, σ => some ((0, 0), σ, (0, 0))
  | _ + 1, _ + 3, _, _ => none
def o_f_X6_writeWord__ek8 : List Cond := [.methodLink RX6 83 yJ0_length_8abf5, .instanceMethod yJ0_length_8abf5, .selects RJ0 yJ0_length_8abf5 yJ0_length_8abf5, .initialized RJ0, .methodLink RX6 88 yJ0_charAt_5068e, .instanceMethod yJ0_charAt_5068e, .selects RJ0 yJ0_charAt_5068e yJ0_charAt_5068e, .methodLink RX6 55 yX6_put, .instanceMethod yX6_put, .selects RX6 yX6_put yX6_put, .initialized RX6]
theorem o_f_X6_writeWord__ek8_good : o_f_X6_writeWord__ek8.all goodWord = true := by decide +kernel
def p_f_X6_writeWord__ek8 : List Cond := o_f_X6_writeWord__ek8 ++ (wsJ0_length_8abf5 ++ (wsJ0_charAt_5068e ++ ((.code yX6_put cX6_put 2 none :: p_y_X6_put) ++ [])))
theorem p_f_X6_writeWord__ek8_good : p_f_X6_writeWord__ek8.all goodWord = true := nb_all2 o_f_X6_writeWord__ek8_good (nb_all2 (by decide +kernel) (nb_all2 (by decide +kernel) (nb_all2 (nb_allc (by decide +kernel) p_y_X6_put_good) rfl)))
def w_f_X6_writeWord__ek8 : List Cond := .code yX6_writeWord cX6_writeWord 3 none :: (p_f_X6_writeWord__ek8 ++ fC)
theorem w_f_X6_writeWord__ek8_good : w_f_X6_writeWord__ek8.all goodWord = true := nb_allc (by decide +kernel) (nb_all2 p_f_X6_writeWord__ek8_good fC_good)
theorem hd_f_X6_writeWord__ek8 : yX6_writeWord.cls = RX6 ∧ yX6_writeWord.cls ≠ "java/lang/invoke/MethodHandle" ∧ yX6_writeWord.cls ≠ "java/lang/invoke/VarHandle" ∧ (parseMethodDescriptor yX6_writeWord.desc).map (fun d => d.parameters.length) = some 1 := by decide +kernel
theorem gg_f_X6_writeWord__ek8_X6_put : GoodIn w_f_X6_writeWord__ek8 w_y_X6_put := goodIn_sub (fun w h => (List.mem_cons.mp h).elim (fun e => (List.mem_cons_of_mem _ (List.mem_append_left _ (List.mem_append_right _ (List.mem_append_right _ (List.mem_append_right _ (List.mem_append_left _ (List.mem_cons.mpr (Or.inl e))))))))) (fun h => (List.mem_append.mp h).elim (fun h => (List.mem_cons_of_mem _ (List.mem_append_left _ (List.mem_append_right _ (List.mem_append_right _ (List.mem_append_right _ (List.mem_append_left _ (List.mem_cons_of_mem _ h)))))))) (fun h => List.mem_cons_of_mem _ (List.mem_append_right _ h)))) w_y_X6_put_good
theorem g_y_X6_writeWord__ek8_X6_put_V55 : GoodIn w_f_X6_writeWord__ek8 (wsV RX6 55 RX6 yX6_put w_y_X6_put) := goodIn_app (nb_g4 (List.mem_cons_of_mem _ (List.mem_append_left _ (List.mem_append_left _ (List.mem_of_getElem? (i := 7) rfl)))) (List.mem_cons_of_mem _ (List.mem_append_left _ (List.mem_append_left _ (List.mem_of_getElem? (i := 8) rfl)))) (List.mem_cons_of_mem _ (List.mem_append_left _ (List.mem_append_left _ (List.mem_of_getElem? (i := 9) rfl)))) (List.mem_cons_of_mem _ (List.mem_append_left _ (List.mem_append_left _ (List.mem_of_getElem? (i := 10) rfl)))) (by decide +kernel)) gg_f_X6_writeWord__ek8_X6_put
theorem gg_f_X6_writeWord__ek8_wsJ0_charAt_5068e : GoodIn w_f_X6_writeWord__ek8 wsJ0_charAt_5068e := goodIn_sub (fun w h => (List.mem_cons_of_mem _ (List.mem_append_left _ (List.mem_append_right _ (List.mem_append_right _ (List.mem_append_left _ h)))))) (by decide +kernel)
theorem g_f_X6_writeWord__ek8_wsJ0_charAt_5068e_88 : GoodIn w_f_X6_writeWord__ek8 (wsV RX6 88 RJ0 yJ0_charAt_5068e wsJ0_charAt_5068e) := goodIn_app (nb_g4 (List.mem_cons_of_mem _ (List.mem_append_left _ (List.mem_append_left _ (List.mem_of_getElem? (i := 4) rfl)))) (List.mem_cons_of_mem _ (List.mem_append_left _ (List.mem_append_left _ (List.mem_of_getElem? (i := 5) rfl)))) (List.mem_cons_of_mem _ (List.mem_append_left _ (List.mem_append_left _ (List.mem_of_getElem? (i := 6) rfl)))) (List.mem_cons_of_mem _ (List.mem_append_left _ (List.mem_append_left _ (List.mem_of_getElem? (i := 3) rfl)))) (by decide +kernel)) gg_f_X6_writeWord__ek8_wsJ0_charAt_5068e
theorem gg_f_X6_writeWord__ek8_wsJ0_length_8abf5 : GoodIn w_f_X6_writeWord__ek8 wsJ0_length_8abf5 := goodIn_sub (fun w h => (List.mem_cons_of_mem _ (List.mem_append_left _ (List.mem_append_right _ (List.mem_append_left _ h))))) (by decide +kernel)
theorem g_f_X6_writeWord__ek8_wsJ0_length_8abf5_83 : GoodIn w_f_X6_writeWord__ek8 (wsV RX6 83 RJ0 yJ0_length_8abf5 wsJ0_length_8abf5) := goodIn_app (nb_g4 (List.mem_cons_of_mem _ (List.mem_append_left _ (List.mem_append_left _ (List.mem_of_getElem? (i := 0) rfl)))) (List.mem_cons_of_mem _ (List.mem_append_left _ (List.mem_append_left _ (List.mem_of_getElem? (i := 1) rfl)))) (List.mem_cons_of_mem _ (List.mem_append_left _ (List.mem_append_left _ (List.mem_of_getElem? (i := 2) rfl)))) (List.mem_cons_of_mem _ (List.mem_append_left _ (List.mem_append_left _ (List.mem_of_getElem? (i := 3) rfl)))) (by decide +kernel)) gg_f_X6_writeWord__ek8_wsJ0_length_8abf5
set_option maxHeartbeats 40000000 in
set_option maxRecDepth 100000 in
theorem c_f_X6_writeWord__ek8 (l : Launch) (hl0 : l.stackTraces = false) (dC : Nat → ClassId) (dI : Nat → Nat → Nat) (cy : Nat → ClassId) (ek a : Nat → Nat) (k0 : Nat) (L0 : LV) (σ0 : CS) (r0 : RS) (h0 : f_X6_writeWord__ek8 k0 0 L0 σ0 = some r0) (z : Nat → Nat) (sz : Nat) : vx_Met l yX6_writeWord w_f_X6_writeWord__ek8 ({ frames := 4, cells := r0.2.2.1, slots := r0.2.2.2, locals := 85 }) (va_Pc [.ref (a 12), .ref (ek 8)] (nInF (dC, dI) cy ek sz (vC cy a z σ0))) (xV dC dI cy a (va_A (vC cy a z σ0) sz) [] z r0) (xX dC dI cy a (va_A (vC cy a z σ0) sz) [] z r0) r0.2.2.1 r0.2.2.2 (va_A (vC cy a z σ0) sz) := by
  refine vx_ofW (cc := cX6_writeWord) (maxL := 3) (ret := none) (by decide) rfl ?_
  intro p e s m args below meth c s₁ B hml hno hv
  obtain ⟨rfl, ⟨⟨hsz, hP, hK, hD0, hG⟩, hE⟩, hT⟩ := hv
  have hx := B.exec
  have hb := B.bytes
  have hr := B.returns
  have hts := atoms_spec (ws := w_f_X6_writeWord__ek8) B.pre
  have hown : s.vm.findClass RX6 = some m.cls := findClass_of_methodNamed B.named
  have hlocks := B.notSynchronized
  subst hsz
  have hD := hD0.self (sz := s.heap.size)
  generalize hAe : va_A (vC cy a z σ0) s.heap.size = A at hD hE hT ⊢
  have hA : ∀ q : Nat, s.heap.size ≤ q → A q := fun q h => by rw [← hAe]; exact Or.inr h
  have hS : va_S A s.heap s.heap [] := va_S.rf
  have hl := lv_entry ([.ref (a 12), .ref (ek 8)]) (n := 3) (Nat.le_of_ble_eq_true rfl)
  rw [lg_entry_eq]
  generalize (lg_sl ([.ref (a 12), .ref (ek 8)]) ++ List.replicate (3 - (lg_sl ([.ref (a 12), .ref (ek 8)])).length) Slot.unset).toArray = ls at hl ⊢
  have hl : lv_has ls 3 [(0, .ref (a 12)), (1, .ref (ek 8))] := hl
  generalize hmc : r0.2.2.1 = mc
  generalize hms : r0.2.2.2 = ms
  have blk : ∀ k : Nat, (bX p l e (headSpec w_f_X6_writeWord__ek8 ({ frames := 4, cells := mc, slots := ms, locals := 85 })).room s m #[.ref (a 12), .ref (ek 8)] below meth c dC dI cy a A (fun r => vx_MQ below (xV dC dI cy a A [] z r) (xX dC dI cy a A [] z r) #[.ref (a 12), .ref (ek 8)] s mc ms A) [] z mc ms 3 (f_X6_writeWord__ek8 k 0) (fun z L => [(0, .ref (a 12)), (1, .ref (ek 8))]) 0 (fun z L => [])) ∧ (bX p l e (headSpec w_f_X6_writeWord__ek8 ({ frames := 4, cells := mc, slots := ms, locals := 85 })).room s m #[.ref (a 12), .ref (ek 8)] below meth c dC dI cy a A (fun r => vx_MQ below (xV dC dI cy a A [] z r) (xX dC dI cy a A [] z r) #[.ref (a 12), .ref (ek 8)] s mc ms A) [] z mc ms 3 (f_X6_writeWord__ek8 k 1) (fun z L => [(0, .ref (a 12)), (1, .ref (ek 8)), (2, .int (L.1 2))]) 2 (fun z L => [])) ∧ (bX p l e (headSpec w_f_X6_writeWord__ek8 ({ frames := 4, cells := mc, slots := ms, locals := 85 })).room s m #[.ref (a 12), .ref (ek 8)] below meth c dC dI cy a A (fun r => vx_MQ below (xV dC dI cy a A [] z r) (xX dC dI cy a A [] z r) #[.ref (a 12), .ref (ek 8)] s mc ms A) [] z mc ms 3 (f_X6_writeWord__ek8 k 2) (fun z L => []) 25 (fun z L => [])) := by
    intro k
    induction k with
    | zero => exact ⟨fun z c1 c2 L σ r h => (by cases h), fun z c1 c2 L σ r h => (by cases h), fun z c1 c2 L σ r h => (by cases h)⟩
    | succ k ih =>
      refine ⟨?_, ?_, ?_⟩
      · intro z cells slots L σ r h hzk hc hs H locs ls hP hD hS hl
        rw [f_X6_writeWord__ek8] at h
        refine lv_iconst (v := 0) hx hb dX6_writeWord_0 (by decide) ?_
        refine lv_istore_n (lv' := [(2, .int 0), (0, .ref (a 12)), (1, .ref (ek 8))]) hx hb dX6_writeWord_1 rfl hl (by decide) rfl (fun ls hl => ?_)
        exact ih.2.1 z _ _ (lI L 2 0) σ _ h hzk hc hs H locs ls hP hD hS (lv_sub hl [1, 2, 0] rfl)
      · intro z cells slots L σ r h hzk hc hs H locs ls hP hD hS hl
        rw [f_X6_writeWord__ek8] at h
        refine lv_iload_n hx hb dX6_writeWord_2 rfl (lv_at hl 2 rfl) ?_
        refine lv_aload_n hx hb dX6_writeWord_3 rfl (lv_at hl 1 rfl) ?_
        refine ks_i (va_runV (As := []) (rest := [.int (L.1 2)]) ⟨hx, hb, hml, hown, hts⟩ (c_J4_len l dC dI cy ek H.size) (cwV 0 hts g_f_X6_writeWord__ek8_wsJ0_length_8abf5_83 rfl rfl rfl (by decide +kernel) ⟨Nat.le_of_ble_eq_true rfl, Nat.le_of_ble_eq_true rfl⟩) ⟨nb_blindE, (vk_recv (i := 4) hE.2.2.1 (by decide) hS), fun U hU hW => ⟨rfl, ⟨by rw [hU], nb_nil, va_K.moved hW.alike hK, nb_nilD, hG.warm hW⟩, nE.to hE hS hW hU (va_free (wc := []) hD hS hA [] rfl)⟩⟩ rfl rfl hl.1 rfl (lv_room (Nat.le_of_ble_eq_true rfl)) dX6_writeWord_4 ⟨(Nat.le_trans (Nat.le_add_right _ _) (Nat.le_of_eq hc)), (Nat.le_trans (Nat.le_add_right _ _) (Nat.le_of_eq hs))⟩) hA hP hD hS (fun H locs hP hS => ?_)
        refine lv_icmp_ge (tgt := 25) hx hb dX6_writeWord_7 (by decide) (fun c1 => ?_) (fun c1 => ?_)
        · rw [if_pos c1] at h
          exact ih.2.2 z _ _ L σ _ h hzk hc hs H locs ls hP hD hS (lv_sub hl [] rfl)
        · rw [if_neg c1] at h
          refine lv_aload_n hx hb dX6_writeWord_10 rfl (lv_at hl 0 rfl) ?_
          refine lv_aload_n hx hb dX6_writeWord_11 rfl (lv_at hl 1 rfl) ?_
          refine lv_iload_n hx hb dX6_writeWord_12 rfl (lv_at hl 2 rfl) ?_
          obtain ⟨q2, h⟩ := kr_ite1 h
          have hch := c_J4_charAt l dC dI cy ek ((L.1 2)).toNatClampNeg q2.2 H.size
          rw [nI_back q2.1] at hch
          refine ks_i (va_runV (As := [.int (L.1 2)]) (rest := [.ref (a 12)]) ⟨hx, hb, hml, hown, hts⟩ hch (cwV 1 hts g_f_X6_writeWord__ek8_wsJ0_charAt_5068e_88 rfl rfl rfl (by decide +kernel) ⟨Nat.le_of_ble_eq_true rfl, Nat.le_of_ble_eq_true rfl⟩) ⟨nb_blindE, (vk_recv (i := 4) hE.2.2.1 (by decide) hS), fun U hU hW => ⟨rfl, ⟨by rw [hU], nb_nil, va_K.moved hW.alike hK, nb_nilD, hG.warm hW⟩, nE.to hE hS hW hU (va_free (wc := []) hD hS hA [] rfl)⟩⟩ rfl rfl hl.1 rfl (lv_room (Nat.le_of_ble_eq_true rfl)) dX6_writeWord_13 ⟨(Nat.le_trans (Nat.le_add_right _ _) (Nat.le_of_eq hc)), (Nat.le_trans (Nat.le_add_right _ _) (Nat.le_of_eq hs))⟩) hA hP hD hS (fun H locs hP hS => ?_)
          obtain ⟨r3, hc3, h⟩ := op_ex h
          refine kc_v (va_runV (As := [.int (sx4.getD ((L.1 2)).toNatClampNeg 0 &&& 255)]) (rest := []) ⟨hx, hb, hml, hown, hts⟩ (c_y_X6_put l dC dI cy a z k (lI lZ 1 ((sx4.getD ((L.1 2)).toNatClampNeg 0 &&& 255))) σ r3 hc3 H.size) (cwV 1 hts g_y_X6_writeWord__ek8_X6_put_V55 rfl rfl rfl hd_y_X6_put ⟨Nat.le_of_ble_eq_true rfl, Nat.le_of_ble_eq_true rfl⟩) ⟨nb_blind, va_recv hK hP (ci := 5) (q0 := 12) rfl rfl, (kb_pre hK hG hP hD)⟩ rfl rfl hl.1 rfl (lv_room (Nat.le_of_ble_eq_true rfl)) dX6_writeWord_16 ⟨(Nat.le_trans (Nat.le_add_right _ _) (Nat.le_of_eq hc)), (Nat.le_trans (Nat.le_add_right _ _) (Nat.le_of_eq hs))⟩) hA hP hD hS (fun H locs hP hD hS => ?_)
          refine lv_iinc (v := ((L.1 2)) + 1) (lv' := [(2, .int (((L.1 2)) + 1)), (0, .ref (a 12)), (1, .ref (ek 8))]) hx hb dX6_writeWord_19 hl (k := 2) rfl rfl (by decide) rfl (fun ls hl => ?_)
          refine lv_goto (tgt := 2) hx hb dX6_writeWord_22 (by decide) ?_
          exact ih.2.1 z _ _ (lI L 2 ((((L.1 2)) + 1))) r3.2 _ h hzk hc hs H locs ls hP hD hS (lv_sub hl [1, 2, 0] rfl)
      · intro z cells slots L σ r h hzk hc hs H locs ls hP hD hS hl
        rw [f_X6_writeWord__ek8] at h
        obtain rfl := Option.some.inj h
        subst hc
        subst hs
        exact xr_v hx hb hr hK hzk hP hD hS hlocks dX6_writeWord_25
  exact (blk k0).1 z 0 0 L0 σ0 r0 h0 (zk_rf _ _) ((Nat.zero_add _).trans hmc) ((Nat.zero_add _).trans hms) s.heap [] ls hP hD hS hl
/-! X6_word__ek8 -/
def f_X6_word__ek8 : Nat → Nat → LV → CS → Option RS
  | 0, _, _, _ => none
  | k + 1, 0, L, σ => ox (f_X6_writeWord__ek8 k 0 lZ (uI σ 1203 0)) (fun r1 => op (y_X6_madeString k 0 lZ r1.2.1) (fun r2 => some ((0, r2.1), r2.2, (0, 0))))
  | _ + 1, _ + 1, _, _ => none
def o_f_X6_word__ek8 : List Cond := [.fieldLink RX6 23 "SetHouse$Printer" "length" "I", .methodLink RX6 45 yX6_writeWord, .instanceMethod yX6_writeWord, .selects RX6 yX6_writeWord yX6_writeWord, .initialized RX6, .methodLink RX6 96 yX6_madeString, .instanceMethod yX6_madeString, .selects RX6 yX6_madeString yX6_madeString]
theorem o_f_X6_word__ek8_good : o_f_X6_word__ek8.all goodWord = true := by decide +kernel
def p_f_X6_word__ek8 : List Cond := o_f_X6_word__ek8 ++ ((.code yX6_writeWord cX6_writeWord 3 none :: p_f_X6_writeWord__ek8) ++ ((.code yX6_madeString cX6_madeString 1 (some .int) :: p_y_X6_madeString) ++ []))
theorem p_f_X6_word__ek8_good : p_f_X6_word__ek8.all goodWord = true := nb_all2 o_f_X6_word__ek8_good (nb_all2 (nb_allc (by decide +kernel) p_f_X6_writeWord__ek8_good) (nb_all2 (nb_allc (by decide +kernel) p_y_X6_madeString_good) rfl))
def w_f_X6_word__ek8 : List Cond := .code yX6_word cX6_word 2 (some .int) :: (p_f_X6_word__ek8 ++ fC)
theorem w_f_X6_word__ek8_good : w_f_X6_word__ek8.all goodWord = true := nb_allc (by decide +kernel) (nb_all2 p_f_X6_word__ek8_good fC_good)
theorem in_f_X6_word__ek8_X6 : ∀ w ∈ wsX60, w ∈ w_f_X6_word__ek8 := fun _ h => List.mem_cons_of_mem _ (List.mem_append_right _ (List.mem_append_right _ (List.mem_append_right _ (List.mem_append_right _ (List.mem_append_right _ (List.mem_append_right _ (List.mem_append_left _ h)))))))
theorem hd_f_X6_word__ek8 : yX6_word.cls = RX6 ∧ yX6_word.cls ≠ "java/lang/invoke/MethodHandle" ∧ yX6_word.cls ≠ "java/lang/invoke/VarHandle" ∧ (parseMethodDescriptor yX6_word.desc).map (fun d => d.parameters.length) = some 1 := by decide +kernel
theorem gg_f_X6_word__ek8_X6_writeWord__ek8 : GoodIn w_f_X6_word__ek8 w_f_X6_writeWord__ek8 := goodIn_sub (fun w h => (List.mem_cons.mp h).elim (fun e => (List.mem_cons_of_mem _ (List.mem_append_left _ (List.mem_append_right _ (List.mem_append_left _ (List.mem_cons.mpr (Or.inl e))))))) (fun h => (List.mem_append.mp h).elim (fun h => (List.mem_cons_of_mem _ (List.mem_append_left _ (List.mem_append_right _ (List.mem_append_left _ (List.mem_cons_of_mem _ h)))))) (fun h => List.mem_cons_of_mem _ (List.mem_append_right _ h)))) w_f_X6_writeWord__ek8_good
theorem g_f_X6_word__ek8_X6_writeWord__ek8_V45 : GoodIn w_f_X6_word__ek8 (wsV RX6 45 RX6 yX6_writeWord w_f_X6_writeWord__ek8) := goodIn_app (nb_g4 (List.mem_cons_of_mem _ (List.mem_append_left _ (List.mem_append_left _ (List.mem_of_getElem? (i := 1) rfl)))) (List.mem_cons_of_mem _ (List.mem_append_left _ (List.mem_append_left _ (List.mem_of_getElem? (i := 2) rfl)))) (List.mem_cons_of_mem _ (List.mem_append_left _ (List.mem_append_left _ (List.mem_of_getElem? (i := 3) rfl)))) (List.mem_cons_of_mem _ (List.mem_append_left _ (List.mem_append_left _ (List.mem_of_getElem? (i := 4) rfl)))) (by decide +kernel)) gg_f_X6_word__ek8_X6_writeWord__ek8
theorem gg_f_X6_word__ek8_X6_madeString : GoodIn w_f_X6_word__ek8 w_y_X6_madeString := goodIn_sub (fun w h => (List.mem_cons.mp h).elim (fun e => (List.mem_cons_of_mem _ (List.mem_append_left _ (List.mem_append_right _ (List.mem_append_right _ (List.mem_append_left _ (List.mem_cons.mpr (Or.inl e)))))))) (fun h => (List.mem_append.mp h).elim (fun h => (List.mem_cons_of_mem _ (List.mem_append_left _ (List.mem_append_right _ (List.mem_append_right _ (List.mem_append_left _ (List.mem_cons_of_mem _ h))))))) (fun h => List.mem_cons_of_mem _ (List.mem_append_right _ h)))) w_y_X6_madeString_good
theorem g_y_X6_word__ek8_X6_madeString_V96 : GoodIn w_f_X6_word__ek8 (wsV RX6 96 RX6 yX6_madeString w_y_X6_madeString) := goodIn_app (nb_g4 (List.mem_cons_of_mem _ (List.mem_append_left _ (List.mem_append_left _ (List.mem_of_getElem? (i := 5) rfl)))) (List.mem_cons_of_mem _ (List.mem_append_left _ (List.mem_append_left _ (List.mem_of_getElem? (i := 6) rfl)))) (List.mem_cons_of_mem _ (List.mem_append_left _ (List.mem_append_left _ (List.mem_of_getElem? (i := 7) rfl)))) (List.mem_cons_of_mem _ (List.mem_append_left _ (List.mem_append_left _ (List.mem_of_getElem? (i := 4) rfl)))) (by decide +kernel)) gg_f_X6_word__ek8_X6_madeString
set_option maxHeartbeats 40000000 in
set_option maxRecDepth 100000 in
theorem c_f_X6_word__ek8 (l : Launch) (hl0 : l.stackTraces = false) (dC : Nat → ClassId) (dI : Nat → Nat → Nat) (cy : Nat → ClassId) (ek a : Nat → Nat) (k0 : Nat) (L0 : LV) (σ0 : CS) (r0 : RS) (h0 : f_X6_word__ek8 k0 0 L0 σ0 = some r0) (z : Nat → Nat) (sz : Nat) : vx_Met l yX6_word w_f_X6_word__ek8 ({ frames := 5, cells := r0.2.2.1, slots := r0.2.2.2, locals := 107 }) (va_Pc [.ref (a 12), .ref (ek 8)] (nInF (dC, dI) cy ek sz (vC cy a z σ0))) (xI dC dI cy a (va_A (vC cy a z σ0) sz) [] z r0) (xX dC dI cy a (va_A (vC cy a z σ0) sz) [] z r0) r0.2.2.1 r0.2.2.2 (va_A (vC cy a z σ0) sz) := by
  refine vx_ofW (cc := cX6_word) (maxL := 2) (ret := (some .int)) (by decide) rfl ?_
  intro p e s m args below meth c s₁ B hml hno hv
  obtain ⟨rfl, ⟨⟨hsz, hP, hK, hD0, hG⟩, hE⟩, hT⟩ := hv
  have hx := B.exec
  have hb := B.bytes
  have hr := B.returns
  have hts := atoms_spec (ws := w_f_X6_word__ek8) B.pre
  have hown : s.vm.findClass RX6 = some m.cls := findClass_of_methodNamed B.named
  have hlocks := B.notSynchronized
  subst hsz
  have hD := hD0.self (sz := s.heap.size)
  generalize hAe : va_A (vC cy a z σ0) s.heap.size = A at hD hE hT ⊢
  have hA : ∀ q : Nat, s.heap.size ≤ q → A q := fun q h => by rw [← hAe]; exact Or.inr h
  have hS : va_S A s.heap s.heap [] := va_S.rf
  have hl := lv_entry ([.ref (a 12), .ref (ek 8)]) (n := 2) (Nat.le_of_ble_eq_true rfl)
  rw [lg_entry_eq]
  generalize (lg_sl ([.ref (a 12), .ref (ek 8)]) ++ List.replicate (2 - (lg_sl ([.ref (a 12), .ref (ek 8)])).length) Slot.unset).toArray = ls at hl ⊢
  have hl : lv_has ls 2 [(0, .ref (a 12)), (1, .ref (ek 8))] := hl
  generalize hmc : r0.2.2.1 = mc
  generalize hms : r0.2.2.2 = ms
  have blk : ∀ k : Nat, (bX p l e (headSpec w_f_X6_word__ek8 ({ frames := 5, cells := mc, slots := ms, locals := 107 })).room s m #[.ref (a 12), .ref (ek 8)] below meth c dC dI cy a A (fun r => vx_MQ below (xI dC dI cy a A [] z r) (xX dC dI cy a A [] z r) #[.ref (a 12), .ref (ek 8)] s mc ms A) [] z mc ms 2 (f_X6_word__ek8 k 0) (fun z L => [(0, .ref (a 12)), (1, .ref (ek 8))]) 0 (fun z L => [])) := by
    intro k
    induction k with
    | zero => exact fun z c1 c2 L σ r h => (by cases h)
    | succ k ih =>
      skip
      · intro z cells slots L σ r h hzk hc hs H locs ls hP hD hS hl
        rw [f_X6_word__ek8] at h
        refine lv_aload_n hx hb dX6_word_0 rfl (lv_at hl 0 rfl) ?_
        refine lv_iconst (v := 0) hx hb dX6_word_1 (by decide) ?_
        refine hp_12_3 hx hb hts in_f_X6_word__ek8_X6 hown hK hP hD hS (hts _ (List.mem_cons_of_mem _ (List.mem_append_left _ (List.mem_append_left _ (List.mem_of_getElem? (i := 0) rfl))))) dX6_word_2 (fun H locs hP hD hS => ?_)
        refine lv_aload_n hx hb dX6_word_5 rfl (lv_at hl 0 rfl) ?_
        refine lv_aload_n hx hb dX6_word_6 rfl (lv_at hl 1 rfl) ?_
        obtain ⟨r1, hc1, hle1, h9⟩ := ox_ex h
        clear h
        refine kx_v (vx_runV (As := [.ref (ek 8)]) (rest := []) ⟨hx, hb, hml, hown, hts⟩ (c_f_X6_writeWord__ek8 l hl0 dC dI cy ek a k lZ (uI σ 1203 0) r1 hc1 z H.size) (cwV 1 hts g_f_X6_word__ek8_X6_writeWord__ek8_V45 rfl rfl rfl hd_f_X6_writeWord__ek8 ⟨Nat.le_of_ble_eq_true rfl, Nat.le_of_ble_eq_true rfl⟩) ⟨nb_blindF, va_recv hK hP (ci := 5) (q0 := 12) rfl rfl, (kx_pre hK hG hE hT hA hP hD hS)⟩ rfl rfl hl.1 rfl (lv_room (Nat.le_of_ble_eq_true rfl)) dX6_word_7 ⟨Nat.le_trans (Nat.add_le_add_left hle1.1 _) (Nat.le_of_eq hc), Nat.le_trans (Nat.add_le_add_left hle1.2 _) (Nat.le_of_eq hs)⟩) hK hA hzk hP hD hS (by decide) hno hlocks ?_
        rcases h9 with ⟨h00, y1, hny1, hy⟩ | ⟨h00, hy⟩
        · subst hy
          have h := hny1
          refine Or.inl ⟨h00, fun u H locs hz1 hzk hP hD hS => ?_⟩
          obtain rfl := (zk_nil hz1).symm
          replace hc := (Nat.add_assoc _ _ _).trans hc
          replace hs := (Nat.add_assoc _ _ _).trans hs
          refine lv_aload_n hx hb dX6_word_10 rfl (lv_at hl 0 rfl) ?_
          obtain ⟨r2, hc2, h⟩ := op_ex h
          refine kc_i (va_runV (As := []) (rest := []) ⟨hx, hb, hml, hown, hts⟩ (c_y_X6_madeString l dC dI cy a z k lZ r1.2.1 r2 hc2 H.size) (cwV 0 hts g_y_X6_word__ek8_X6_madeString_V96 rfl rfl rfl hd_y_X6_madeString ⟨Nat.le_of_ble_eq_true rfl, Nat.le_of_ble_eq_true rfl⟩) ⟨nb_blind, va_recv hK hP (ci := 5) (q0 := 12) rfl rfl, (kb_pre hK hG hP hD)⟩ rfl rfl hl.1 rfl (lv_room (Nat.le_of_ble_eq_true rfl)) dX6_word_11 ⟨(Nat.le_trans (Nat.le_add_right _ _) (Nat.le_of_eq hc)), (Nat.le_trans (Nat.le_add_right _ _) (Nat.le_of_eq hs))⟩) hA hP hD hS (fun H locs hP hD hS => ?_)
          obtain rfl := Option.some.inj h
          subst hc
          subst hs
          exact xr_i hx hb hr hK hzk hP hD hS hlocks dX6_word_14
        · subst hy
          exact Or.inr ⟨h00, rfl, hc, hs⟩
  exact (blk k0) z 0 0 L0 σ0 r0 h0 (zk_rf _ _) ((Nat.zero_add _).trans hmc) ((Nat.zero_add _).trans hms) s.heap [] ls hP hD hS hl
/-! X6_writeWord__ek10 -/
def f_X6_writeWord__ek10 : Nat → Nat → LV → CS → Option RS
  | 0, _, _, _ => none
  | k + 1, 0, L, σ => f_X6_writeWord__ek10 k 1 (lI L 2 0) σ
  | k + 1, 1, L, σ => if 5 ≤ ((L.1 2)) then (f_X6_writeWord__ek10 k 2 L σ) else (if ¬ ((L.1 2)) < 0 ∧ ((L.1 2)).toNatClampNeg < 5 then (op (y_X6_put k 0 (lI lZ 1 ((sx5.getD ((L.1 2)).toNatClampNeg 0 &&& 255))) σ) (fun r3 => f_X6_writeWord__ek10 k 1 (lI L 2 ((((L.1 2)) + 1))) r3.2)) else none)
  | k + 1, 2, L, σ => some ((0, 0), σ, (0, 0))
  | _ + 1, _ + 3, _, _ => none
def o_f_X6_writeWord__ek10 : List Cond := [.methodLink RX6 83 yJ0_length_8abf5, .instanceMethod yJ0_length_8abf5, .selects RJ0 yJ0_length_8abf5 yJ0_length_8abf5, .initialized RJ0, .methodLink RX6 88 yJ0_charAt_5068e, .instanceMethod yJ0_charAt_5068e, .selects RJ0 yJ0_charAt_5068e yJ0_charAt_5068e, .methodLink RX6 55 yX6_put, .instanceMethod yX6_put, .selects RX6 yX6_put yX6_put, .initialized RX6]
theorem o_f_X6_writeWord__ek10_good : o_f_X6_writeWord__ek10.all goodWord = true := by decide +kernel
def p_f_X6_writeWord__ek10 : List Cond := o_f_X6_writeWord__ek10 ++ (wsJ0_length_8abf5 ++ (wsJ0_charAt_5068e ++ ((.code yX6_put cX6_put 2 none :: p_y_X6_put) ++ [])))
theorem p_f_X6_writeWord__ek10_good : p_f_X6_writeWord__ek10.all goodWord = true := nb_all2 o_f_X6_writeWord__ek10_good (nb_all2 (by decide +kernel) (nb_all2 (by decide +kernel) (nb_all2 (nb_allc (by decide +kernel) p_y_X6_put_good) rfl)))
def w_f_X6_writeWord__ek10 : List Cond := .code yX6_writeWord cX6_writeWord 3 none :: (p_f_X6_writeWord__ek10 ++ fC)
theorem w_f_X6_writeWord__ek10_good : w_f_X6_writeWord__ek10.all goodWord = true := nb_allc (by decide +kernel) (nb_all2 p_f_X6_writeWord__ek10_good fC_good)
theorem hd_f_X6_writeWord__ek10 : yX6_writeWord.cls = RX6 ∧ yX6_writeWord.cls ≠ "java/lang/invoke/MethodHandle" ∧ yX6_writeWord.cls ≠ "java/lang/invoke/VarHandle" ∧ (parseMethodDescriptor yX6_writeWord.desc).map (fun d => d.parameters.length) = some 1 := by decide +kernel
theorem gg_f_X6_writeWord__ek10_X6_put : GoodIn w_f_X6_writeWord__ek10 w_y_X6_put := goodIn_sub (fun w h => (List.mem_cons.mp h).elim (fun e => (List.mem_cons_of_mem _ (List.mem_append_left _ (List.mem_append_right _ (List.mem_append_right _ (List.mem_append_right _ (List.mem_append_left _ (List.mem_cons.mpr (Or.inl e))))))))) (fun h => (List.mem_append.mp h).elim (fun h => (List.mem_cons_of_mem _ (List.mem_append_left _ (List.mem_append_right _ (List.mem_append_right _ (List.mem_append_right _ (List.mem_append_left _ (List.mem_cons_of_mem _ h)))))))) (fun h => List.mem_cons_of_mem _ (List.mem_append_right _ h)))) w_y_X6_put_good
theorem g_y_X6_writeWord__ek10_X6_put_V55 : GoodIn w_f_X6_writeWord__ek10 (wsV RX6 55 RX6 yX6_put w_y_X6_put) := goodIn_app (nb_g4 (List.mem_cons_of_mem _ (List.mem_append_left _ (List.mem_append_left _ (List.mem_of_getElem? (i := 7) rfl)))) (List.mem_cons_of_mem _ (List.mem_append_left _ (List.mem_append_left _ (List.mem_of_getElem? (i := 8) rfl)))) (List.mem_cons_of_mem _ (List.mem_append_left _ (List.mem_append_left _ (List.mem_of_getElem? (i := 9) rfl)))) (List.mem_cons_of_mem _ (List.mem_append_left _ (List.mem_append_left _ (List.mem_of_getElem? (i := 10) rfl)))) (by decide +kernel)) gg_f_X6_writeWord__ek10_X6_put
theorem gg_f_X6_writeWord__ek10_wsJ0_charAt_5068e : GoodIn w_f_X6_writeWord__ek10 wsJ0_charAt_5068e := goodIn_sub (fun w h => (List.mem_cons_of_mem _ (List.mem_append_left _ (List.mem_append_right _ (List.mem_append_right _ (List.mem_append_left _ h)))))) (by decide +kernel)
theorem g_f_X6_writeWord__ek10_wsJ0_charAt_5068e_88 : GoodIn w_f_X6_writeWord__ek10 (wsV RX6 88 RJ0 yJ0_charAt_5068e wsJ0_charAt_5068e) := goodIn_app (nb_g4 (List.mem_cons_of_mem _ (List.mem_append_left _ (List.mem_append_left _ (List.mem_of_getElem? (i := 4) rfl)))) (List.mem_cons_of_mem _ (List.mem_append_left _ (List.mem_append_left _ (List.mem_of_getElem? (i := 5) rfl)))) (List.mem_cons_of_mem _ (List.mem_append_left _ (List.mem_append_left _ (List.mem_of_getElem? (i := 6) rfl)))) (List.mem_cons_of_mem _ (List.mem_append_left _ (List.mem_append_left _ (List.mem_of_getElem? (i := 3) rfl)))) (by decide +kernel)) gg_f_X6_writeWord__ek10_wsJ0_charAt_5068e
theorem gg_f_X6_writeWord__ek10_wsJ0_length_8abf5 : GoodIn w_f_X6_writeWord__ek10 wsJ0_length_8abf5 := goodIn_sub (fun w h => (List.mem_cons_of_mem _ (List.mem_append_left _ (List.mem_append_right _ (List.mem_append_left _ h))))) (by decide +kernel)
theorem g_f_X6_writeWord__ek10_wsJ0_length_8abf5_83 : GoodIn w_f_X6_writeWord__ek10 (wsV RX6 83 RJ0 yJ0_length_8abf5 wsJ0_length_8abf5) := goodIn_app (nb_g4 (List.mem_cons_of_mem _ (List.mem_append_left _ (List.mem_append_left _ (List.mem_of_getElem? (i := 0) rfl)))) (List.mem_cons_of_mem _ (List.mem_append_left _ (List.mem_append_left _ (List.mem_of_getElem? (i := 1) rfl)))) (List.mem_cons_of_mem _ (List.mem_append_left _ (List.mem_append_left _ (List.mem_of_getElem? (i := 2) rfl)))) (List.mem_cons_of_mem _ (List.mem_append_left _ (List.mem_append_left _ (List.mem_of_getElem? (i := 3) rfl)))) (by decide +kernel)) gg_f_X6_writeWord__ek10_wsJ0_length_8abf5
set_option maxHeartbeats 40000000 in
set_option maxRecDepth 100000 in
theorem c_f_X6_writeWord__ek10 (l : Launch) (hl0 : l.stackTraces = false) (dC : Nat → ClassId) (dI : Nat → Nat → Nat) (cy : Nat → ClassId) (ek a : Nat → Nat) (k0 : Nat) (L0 : LV) (σ0 : CS) (r0 : RS) (h0 : f_X6_writeWord__ek10 k0 0 L0 σ0 = some r0) (z : Nat → Nat) (sz : Nat) : vx_Met l yX6_writeWord w_f_X6_writeWord__ek10 ({ frames := 4, cells := r0.2.2.1, slots := r0.2.2.2, locals := 85 }) (va_Pc [.ref (a 12), .ref (ek 10)] (nInF (dC, dI) cy ek sz (vC cy a z σ0))) (xV dC dI cy a (va_A (vC cy a z σ0) sz) [] z r0) (xX dC dI cy a (va_A (vC cy a z σ0) sz) [] z r0) r0.2.2.1 r0.2.2.2 (va_A (vC cy a z σ0) sz) := by
  refine vx_ofW (cc := cX6_writeWord) (maxL := 3) (ret := none) (by decide) rfl ?_
  intro p e s m args below meth c s₁ B hml hno hv
  obtain ⟨rfl, ⟨⟨hsz, hP, hK, hD0, hG⟩, hE⟩, hT⟩ := hv
  have hx := B.exec
  have hb := B.bytes
  have hr := B.returns
  have hts := atoms_spec (ws := w_f_X6_writeWord__ek10) B.pre
  have hown : s.vm.findClass RX6 = some m.cls := findClass_of_methodNamed B.named
  have hlocks := B.notSynchronized
  subst hsz
  have hD := hD0.self (sz := s.heap.size)
  generalize hAe : va_A (vC cy a z σ0) s.heap.size = A at hD hE hT ⊢
  have hA : ∀ q : Nat, s.heap.size ≤ q → A q := fun q h => by rw [← hAe]; exact Or.inr h
  have hS : va_S A s.heap s.heap [] := va_S.rf
  have hl := lv_entry ([.ref (a 12), .ref (ek 10)]) (n := 3) (Nat.le_of_ble_eq_true rfl)
  rw [lg_entry_eq]
  generalize (lg_sl ([.ref (a 12), .ref (ek 10)]) ++ List.replicate (3 - (lg_sl ([.ref (a 12), .ref (ek 10)])).length) Slot.unset).toArray = ls at hl ⊢
  have hl : lv_has ls 3 [(0, .ref (a 12)), (1, .ref (ek 10))] := hl
  generalize hmc : r0.2.2.1 = mc
  generalize hms : r0.2.2.2 = ms
  have blk : ∀ k : Nat, (bX p l e (headSpec w_f_X6_writeWord__ek10 ({ frames := 4, cells := mc, slots := ms, locals := 85 })).room s m #[.ref (a 12), .ref (ek 10)] below meth c dC dI cy a A (fun r => vx_MQ below (xV dC dI cy a A [] z r) (xX dC dI cy a A [] z r) #[.ref (a 12), .ref (ek 10)] s mc ms A) [] z mc ms 3 (f_X6_writeWord__ek10 k 0) (fun z L => [(0, .ref (a 12)), (1, .ref (ek 10))]) 0 (fun z L => [])) ∧ (bX p l e (headSpec w_f_X6_writeWord__ek10 ({ frames := 4, cells := mc, slots := ms, locals := 85 })).room s m #[.ref (a 12), .ref (ek 10)] below meth c dC dI cy a A (fun r => vx_MQ below (xV dC dI cy a A [] z r) (xX dC dI cy a A [] z r) #[.ref (a 12), .ref (ek 10)] s mc ms A) [] z mc ms 3 (f_X6_writeWord__ek10 k 1) (fun z L => [(0, .ref (a 12)), (1, .ref (ek 10)), (2, .int (L.1 2))]) 2 (fun z L => [])) ∧ (bX p l e (headSpec w_f_X6_writeWord__ek10 ({ frames := 4, cells := mc, slots := ms, locals := 85 })).room s m #[.ref (a 12), .ref (ek 10)] below meth c dC dI cy a A (fun r => vx_MQ below (xV dC dI cy a A [] z r) (xX dC dI cy a A [] z r) #[.ref (a 12), .ref (ek 10)] s mc ms A) [] z mc ms 3 (f_X6_writeWord__ek10 k 2) (fun z L => []) 25 (fun z L => [])) := by
    intro k
    induction k with
    | zero => exact ⟨fun z c1 c2 L σ r h => (by cases h), fun z c1 c2 L σ r h => (by cases h), fun z c1 c2 L σ r h => (by cases h)⟩
    | succ k ih =>
      refine ⟨?_, ?_, ?_⟩
      · intro z cells slots L σ r h hzk hc hs H locs ls hP hD hS hl
        rw [f_X6_writeWord__ek10] at h
        refine lv_iconst (v := 0) hx hb dX6_writeWord_0 (by decide) ?_
        refine lv_istore_n (lv' := [(2, .int 0), (0, .ref (a 12)), (1, .ref (ek 10))]) hx hb dX6_writeWord_1 rfl hl (by decide) rfl (fun ls hl => ?_)
        exact ih.2.1 z _ _ (lI L 2 0) σ _ h hzk hc hs H locs ls hP hD hS (lv_sub hl [1, 2, 0] rfl)
      · intro z cells slots L σ r h hzk hc hs H locs ls hP hD hS hl
        rw [f_X6_writeWord__ek10] at h
        refine lv_iload_n hx hb dX6_writeWord_2 rfl (lv_at hl 2 rfl) ?_
        refine lv_aload_n hx hb dX6_writeWord_3 rfl (lv_at hl 1 rfl) ?_
        refine ks_i (va_runV (As := []) (rest := [.int (L.1 2)]) ⟨hx, hb, hml, hown, hts⟩ (c_J5_len l dC dI cy ek H.size) (cwV 0 hts g_f_X6_writeWord__ek10_wsJ0_length_8abf5_83 rfl rfl rfl (by decide +kernel) ⟨Nat.le_of_ble_eq_true rfl, Nat.le_of_ble_eq_true rfl⟩) ⟨nb_blindE, (vk_recv (i := 5) hE.2.2.1 (by decide) hS), fun U hU hW => ⟨rfl, ⟨by rw [hU], nb_nil, va_K.moved hW.alike hK, nb_nilD, hG.warm hW⟩, nE.to hE hS hW hU (va_free (wc := []) hD hS hA [] rfl)⟩⟩ rfl rfl hl.1 rfl (lv_room (Nat.le_of_ble_eq_true rfl)) dX6_writeWord_4 ⟨(Nat.le_trans (Nat.le_add_right _ _) (Nat.le_of_eq hc)), (Nat.le_trans (Nat.le_add_right _ _) (Nat.le_of_eq hs))⟩) hA hP hD hS (fun H locs hP hS => ?_)
        refine lv_icmp_ge (tgt := 25) hx hb dX6_writeWord_7 (by decide) (fun c1 => ?_) (fun c1 => ?_)
        · rw [if_pos c1] at h
          exact ih.2.2 z _ _ L σ _ h hzk hc hs H locs ls hP hD hS (lv_sub hl [] rfl)
        · rw [if_neg c1] at h
          refine lv_aload_n hx hb dX6_writeWord_10 rfl (lv_at hl 0 rfl) ?_
          refine lv_aload_n hx hb dX6_writeWord_11 rfl (lv_at hl 1 rfl) ?_
          refine lv_iload_n hx hb dX6_writeWord_12 rfl (lv_at hl 2 rfl) ?_
          obtain ⟨q2, h⟩ := kr_ite1 h
          have hch := c_J5_charAt l dC dI cy ek ((L.1 2)).toNatClampNeg q2.2 H.size
          rw [nI_back q2.1] at hch
          refine ks_i (va_runV (As := [.int (L.1 2)]) (rest := [.ref (a 12)]) ⟨hx, hb, hml, hown, hts⟩ hch (cwV 1 hts g_f_X6_writeWord__ek10_wsJ0_charAt_5068e_88 rfl rfl rfl (by decide +kernel) ⟨Nat.le_of_ble_eq_true rfl, Nat.le_of_ble_eq_true rfl⟩) ⟨nb_blindE, (vk_recv (i := 5) hE.2.2.1 (by decide) hS), fun U hU hW => ⟨rfl, ⟨by rw [hU], nb_nil, va_K.moved hW.alike hK, nb_nilD, hG.warm hW⟩, nE.to hE hS hW hU (va_free (wc := []) hD hS hA [] rfl)⟩⟩ rfl rfl hl.1 rfl (lv_room (Nat.le_of_ble_eq_true rfl)) dX6_writeWord_13 ⟨(Nat.le_trans (Nat.le_add_right _ _) (Nat.le_of_eq hc)), (Nat.le_trans (Nat.le_add_right _ _) (Nat.le_of_eq hs))⟩) hA hP hD hS (fun H locs hP hS => ?_)
          obtain ⟨r3, hc3, h⟩ := op_ex h
          refine kc_v (va_runV (As := [.int (sx5.getD ((L.1 2)).toNatClampNeg 0 &&& 255)]) (rest := []) ⟨hx, hb, hml, hown, hts⟩ (c_y_X6_put l dC dI cy a z k (lI lZ 1 ((sx5.getD ((L.1 2)).toNatClampNeg 0 &&& 255))) σ r3 hc3 H.size) (cwV 1 hts g_y_X6_writeWord__ek10_X6_put_V55 rfl rfl rfl hd_y_X6_put ⟨Nat.le_of_ble_eq_true rfl, Nat.le_of_ble_eq_true rfl⟩) ⟨nb_blind, va_recv hK hP (ci := 5) (q0 := 12) rfl rfl, (kb_pre hK hG hP hD)⟩ rfl rfl hl.1 rfl (lv_room (Nat.le_of_ble_eq_true rfl)) dX6_writeWord_16 ⟨(Nat.le_trans (Nat.le_add_right _ _) (Nat.le_of_eq hc)), (Nat.le_trans (Nat.le_add_right _ _) (Nat.le_of_eq hs))⟩) hA hP hD hS (fun H locs hP hD hS => ?_)
          refine lv_iinc (v := ((L.1 2)) + 1) (lv' := [(2, .int (((L.1 2)) + 1)), (0, .ref (a 12)), (1, .ref (ek 10))]) hx hb dX6_writeWord_19 hl (k := 2) rfl rfl (by decide) rfl (fun ls hl => ?_)
          refine lv_goto (tgt := 2) hx hb dX6_writeWord_22 (by decide) ?_
          exact ih.2.1 z _ _ (lI L 2 ((((L.1 2)) + 1))) r3.2 _ h hzk hc hs H locs ls hP hD hS (lv_sub hl [1, 2, 0] rfl)
      · intro z cells slots L σ r h hzk hc hs H locs ls hP hD hS hl
        rw [f_X6_writeWord__ek10] at h
        obtain rfl := Option.some.inj h
        subst hc
        subst hs
        exact xr_v hx hb hr hK hzk hP hD hS hlocks dX6_writeWord_25
  exact (blk k0).1 z 0 0 L0 σ0 r0 h0 (zk_rf _ _) ((Nat.zero_add _).trans hmc) ((Nat.zero_add _).trans hms) s.heap [] ls hP hD hS hl
/-! X6_word__ek10 -/
def f_X6_word__ek10 : Nat → Nat → LV → CS → Option RS
  | 0, _, _, _ => none
  | k + 1, 0, L, σ => ox (f_X6_writeWord__ek10 k 0 lZ (uI σ 1203 0)) (fun r1 => op (y_X6_madeString k 0 lZ r1.2.1) (fun r2 => some ((0, r2.1), r2.2, (0, 0))))
  | _ + 1, _ + 1, _, _ => none
def o_f_X6_word__ek10 : List Cond := [.fieldLink RX6 23 "SetHouse$Printer" "length" "I", .methodLink RX6 45 yX6_writeWord, .instanceMethod yX6_writeWord, .selects RX6 yX6_writeWord yX6_writeWord, .initialized RX6, .methodLink RX6 96 yX6_madeString, .instanceMethod yX6_madeString, .selects RX6 yX6_madeString yX6_madeString]
theorem o_f_X6_word__ek10_good : o_f_X6_word__ek10.all goodWord = true := by decide +kernel
def p_f_X6_word__ek10 : List Cond := o_f_X6_word__ek10 ++ ((.code yX6_writeWord cX6_writeWord 3 none :: p_f_X6_writeWord__ek10) ++ ((.code yX6_madeString cX6_madeString 1 (some .int) :: p_y_X6_madeString) ++ []))
theorem p_f_X6_word__ek10_good : p_f_X6_word__ek10.all goodWord = true := nb_all2 o_f_X6_word__ek10_good (nb_all2 (nb_allc (by decide +kernel) p_f_X6_writeWord__ek10_good) (nb_all2 (nb_allc (by decide +kernel) p_y_X6_madeString_good) rfl))
def w_f_X6_word__ek10 : List Cond := .code yX6_word cX6_word 2 (some .int) :: (p_f_X6_word__ek10 ++ fC)
theorem w_f_X6_word__ek10_good : w_f_X6_word__ek10.all goodWord = true := nb_allc (by decide +kernel) (nb_all2 p_f_X6_word__ek10_good fC_good)
theorem in_f_X6_word__ek10_X6 : ∀ w ∈ wsX60, w ∈ w_f_X6_word__ek10 := fun _ h => List.mem_cons_of_mem _ (List.mem_append_right _ (List.mem_append_right _ (List.mem_append_right _ (List.mem_append_right _ (List.mem_append_right _ (List.mem_append_right _ (List.mem_append_left _ h)))))))
theorem hd_f_X6_word__ek10 : yX6_word.cls = RX6 ∧ yX6_word.cls ≠ "java/lang/invoke/MethodHandle" ∧ yX6_word.cls ≠ "java/lang/invoke/VarHandle" ∧ (parseMethodDescriptor yX6_word.desc).map (fun d => d.parameters.length) = some 1 := by decide +kernel
theorem gg_f_X6_word__ek10_X6_writeWord__ek10 : GoodIn w_f_X6_word__ek10 w_f_X6_writeWord__ek10 := goodIn_sub (fun w h => (List.mem_cons.mp h).elim (fun e => (List.mem_cons_of_mem _ (List.mem_append_left _ (List.mem_append_right _ (List.mem_append_left _ (List.mem_cons.mpr (Or.inl e))))))) (fun h => (List.mem_append.mp h).elim (fun h => (List.mem_cons_of_mem _ (List.mem_append_left _ (List.mem_append_right _ (List.mem_append_left _ (List.mem_cons_of_mem _ h)))))) (fun h => List.mem_cons_of_mem _ (List.mem_append_right _ h)))) w_f_X6_writeWord__ek10_good
theorem g_f_X6_word__ek10_X6_writeWord__ek10_V45 : GoodIn w_f_X6_word__ek10 (wsV RX6 45 RX6 yX6_writeWord w_f_X6_writeWord__ek10) := goodIn_app (nb_g4 (List.mem_cons_of_mem _ (List.mem_append_left _ (List.mem_append_left _ (List.mem_of_getElem? (i := 1) rfl)))) (List.mem_cons_of_mem _ (List.mem_append_left _ (List.mem_append_left _ (List.mem_of_getElem? (i := 2) rfl)))) (List.mem_cons_of_mem _ (List.mem_append_left _ (List.mem_append_left _ (List.mem_of_getElem? (i := 3) rfl)))) (List.mem_cons_of_mem _ (List.mem_append_left _ (List.mem_append_left _ (List.mem_of_getElem? (i := 4) rfl)))) (by decide +kernel)) gg_f_X6_word__ek10_X6_writeWord__ek10
theorem gg_f_X6_word__ek10_X6_madeString : GoodIn w_f_X6_word__ek10 w_y_X6_madeString := goodIn_sub (fun w h => (List.mem_cons.mp h).elim (fun e => (List.mem_cons_of_mem _ (List.mem_append_left _ (List.mem_append_right _ (List.mem_append_right _ (List.mem_append_left _ (List.mem_cons.mpr (Or.inl e)))))))) (fun h => (List.mem_append.mp h).elim (fun h => (List.mem_cons_of_mem _ (List.mem_append_left _ (List.mem_append_right _ (List.mem_append_right _ (List.mem_append_left _ (List.mem_cons_of_mem _ h))))))) (fun h => List.mem_cons_of_mem _ (List.mem_append_right _ h)))) w_y_X6_madeString_good
theorem g_y_X6_word__ek10_X6_madeString_V96 : GoodIn w_f_X6_word__ek10 (wsV RX6 96 RX6 yX6_madeString w_y_X6_madeString) := goodIn_app (nb_g4 (List.mem_cons_of_mem _ (List.mem_append_left _ (List.mem_append_left _ (List.mem_of_getElem? (i := 5) rfl)))) (List.mem_cons_of_mem _ (List.mem_append_left _ (List.mem_append_left _ (List.mem_of_getElem? (i := 6) rfl)))) (List.mem_cons_of_mem _ (List.mem_append_left _ (List.mem_append_left _ (List.mem_of_getElem? (i := 7) rfl)))) (List.mem_cons_of_mem _ (List.mem_append_left _ (List.mem_append_left _ (List.mem_of_getElem? (i := 4) rfl)))) (by decide +kernel)) gg_f_X6_word__ek10_X6_madeString
set_option maxHeartbeats 40000000 in
set_option maxRecDepth 100000 in
theorem c_f_X6_word__ek10 (l : Launch) (hl0 : l.stackTraces = false) (dC : Nat → ClassId) (dI : Nat → Nat → Nat) (cy : Nat → ClassId) (ek a : Nat → Nat) (k0 : Nat) (L0 : LV) (σ0 : CS) (r0 : RS) (h0 : f_X6_word__ek10 k0 0 L0 σ0 = some r0) (z : Nat → Nat) (sz : Nat) : vx_Met l yX6_word w_f_X6_word__ek10 ({ frames := 5, cells := r0.2.2.1, slots := r0.2.2.2, locals := 107 }) (va_Pc [.ref (a 12), .ref (ek 10)] (nInF (dC, dI) cy ek sz (vC cy a z σ0))) (xI dC dI cy a (va_A (vC cy a z σ0) sz) [] z r0) (xX dC dI cy a (va_A (vC cy a z σ0) sz) [] z r0) r0.2.2.1 r0.2.2.2 (va_A (vC cy a z σ0) sz) := by
  refine vx_ofW (cc := cX6_word) (maxL := 2) (ret := (some .int)) (by decide) rfl ?_
  intro p e s m args below meth c s₁ B hml hno hv
  obtain ⟨rfl, ⟨⟨hsz, hP, hK, hD0, hG⟩, hE⟩, hT⟩ := hv
  have hx := B.exec
  have hb := B.bytes
  have hr := B.returns
  have hts := atoms_spec (ws := w_f_X6_word__ek10) B.pre
  have hown : s.vm.findClass RX6 = some m.cls := findClass_of_methodNamed B.named
  have hlocks := B.notSynchronized
  subst hsz
  have hD := hD0.self (sz := s.heap.size)
  generalize hAe : va_A (vC cy a z σ0) s.heap.size = A at hD hE hT ⊢
  have hA : ∀ q : Nat, s.heap.size ≤ q → A q := fun q h => by rw [← hAe]; exact Or.inr h
  have hS : va_S A s.heap s.heap [] := va_S.rf
  have hl := lv_entry ([.ref (a 12), .ref (ek 10)]) (n := 2) (Nat.le_of_ble_eq_true rfl)
  rw [lg_entry_eq]
  generalize (lg_sl ([.ref (a 12), .ref (ek 10)]) ++ List.replicate (2 - (lg_sl ([.ref (a 12), .ref (ek 10)])).length) Slot.unset).toArray = ls at hl ⊢
  have hl : lv_has ls 2 [(0, .ref (a 12)), (1, .ref (ek 10))] := hl
  generalize hmc : r0.2.2.1 = mc
  generalize hms : r0.2.2.2 = ms
  have blk : ∀ k : Nat, (bX p l e (headSpec w_f_X6_word__ek10 ({ frames := 5, cells := mc, slots := ms, locals := 107 })).room s m #[.ref (a 12), .ref (ek 10)] below meth c dC dI cy a A (fun r => vx_MQ below (xI dC dI cy a A [] z r) (xX dC dI cy a A [] z r) #[.ref (a 12), .ref (ek 10)] s mc ms A) [] z mc ms 2 (f_X6_word__ek10 k 0) (fun z L => [(0, .ref (a 12)), (1, .ref (ek 10))]) 0 (fun z L => [])) := by
    intro k
    induction k with
    | zero => exact fun z c1 c2 L σ r h => (by cases h)
    | succ k ih =>
      skip
      · intro z cells slots L σ r h hzk hc hs H locs ls hP hD hS hl
        rw [f_X6_word__ek10] at h
        refine lv_aload_n hx hb dX6_word_0 rfl (lv_at hl 0 rfl) ?_
        refine lv_iconst (v := 0) hx hb dX6_word_1 (by decide) ?_
        refine hp_12_3 hx hb hts in_f_X6_word__ek10_X6 hown hK hP hD hS (hts _ (List.mem_cons_of_mem _ (List.mem_append_left _ (List.mem_append_left _ (List.mem_of_getElem? (i := 0) rfl))))) dX6_word_2 (fun H locs hP hD hS => ?_)
        refine lv_aload_n hx hb dX6_word_5 rfl (lv_at hl 0 rfl) ?_
        refine lv_aload_n hx hb dX6_word_6 rfl (lv_at hl 1 rfl) ?_
        obtain ⟨r1, hc1, hle1, h9⟩ := ox_ex h
        clear h
        refine kx_v (vx_runV (As := [.ref (ek 10)]) (rest := []) ⟨hx, hb, hml, hown, hts⟩ (c_f_X6_writeWord__ek10 l hl0 dC dI cy ek a k lZ (uI σ 1203 0) r1 hc1 z H.size) (cwV 1 hts g_f_X6_word__ek10_X6_writeWord__ek10_V45 rfl rfl rfl hd_f_X6_writeWord__ek10 ⟨Nat.le_of_ble_eq_true rfl, Nat.le_of_ble_eq_true rfl⟩) ⟨nb_blindF, va_recv hK hP (ci := 5) (q0 := 12) rfl rfl, (kx_pre hK hG hE hT hA hP hD hS)⟩ rfl rfl hl.1 rfl (lv_room (Nat.le_of_ble_eq_true rfl)) dX6_word_7 ⟨Nat.le_trans (Nat.add_le_add_left hle1.1 _) (Nat.le_of_eq hc), Nat.le_trans (Nat.add_le_add_left hle1.2 _) (Nat.le_of_eq hs)⟩) hK hA hzk hP hD hS (by decide) hno hlocks ?_
        rcases h9 with ⟨h00, y1, hny1, hy⟩ | ⟨h00, hy⟩
        · subst hy
          have h := hny1
          refine Or.inl ⟨h00, fun u H locs hz1 hzk hP hD hS => ?_⟩
          obtain rfl := (zk_nil hz1).symm
          replace hc := (Nat.add_assoc _ _ _).trans hc
          replace hs := (Nat.add_assoc _ _ _).trans hs
          refine lv_aload_n hx hb dX6_word_10 rfl (lv_at hl 0 rfl) ?_
          obtain ⟨r2, hc2, h⟩ := op_ex h
          refine kc_i (va_runV (As := []) (rest := []) ⟨hx, hb, hml, hown, hts⟩ (c_y_X6_madeString l dC dI cy a z k lZ r1.2.1 r2 hc2 H.size) (cwV 0 hts g_y_X6_word__ek10_X6_madeString_V96 rfl rfl rfl hd_y_X6_madeString ⟨Nat.le_of_ble_eq_true rfl, Nat.le_of_ble_eq_true rfl⟩) ⟨nb_blind, va_recv hK hP (ci := 5) (q0 := 12) rfl rfl, (kb_pre hK hG hP hD)⟩ rfl rfl hl.1 rfl (lv_room (Nat.le_of_ble_eq_true rfl)) dX6_word_11 ⟨(Nat.le_trans (Nat.le_add_right _ _) (Nat.le_of_eq hc)), (Nat.le_trans (Nat.le_add_right _ _) (Nat.le_of_eq hs))⟩) hA hP hD hS (fun H locs hP hD hS => ?_)
          obtain rfl := Option.some.inj h
          subst hc
          subst hs
          exact xr_i hx hb hr hK hzk hP hD hS hlocks dX6_word_14
        · subst hy
          exact Or.inr ⟨h00, rfl, hc, hs⟩
  exact (blk k0) z 0 0 L0 σ0 r0 h0 (zk_rf _ _) ((Nat.zero_add _).trans hmc) ((Nat.zero_add _).trans hms) s.heap [] ls hP hD hS hl
/-! X6_writeWord__ek12 -/
def f_X6_writeWord__ek12 : Nat → Nat → LV → CS → Option RS
  | 0, _, _, _ => none
  | k + 1, 0, L, σ => f_X6_writeWord__ek12 k 1 (lI L 2 0) σ
  | k + 1, 1, L, σ => if 3 ≤ ((L.1 2)) then (f_X6_writeWord__ek12 k 2 L σ) else (if ¬ ((L.1 2)) < 0 ∧ ((L.1 2)).toNatClampNeg < 3 then (op (y_X6_put k 0 (lI lZ 1 ((sx6.getD ((L.1 2)).toNatClampNeg 0 &&& 255))) σ) (fun r3 => f_X6_writeWord__ek12 k 1 (lI L 2 ((((L.1 2)) + 1))) r3.2)) else none)
  | k + 1, 2, L, σ => some ((0, 0), σ, (0, 0))
  | _ + 1, _ + 3, _, _ => none
def o_f_X6_writeWord__ek12 : List Cond := [.methodLink RX6 83 yJ0_length_8abf5, .instanceMethod yJ0_length_8abf5, .selects RJ0 yJ0_length_8abf5 yJ0_length_8abf5, .initialized RJ0, .methodLink RX6 88 yJ0_charAt_5068e, .instanceMethod yJ0_charAt_5068e, .selects RJ0 yJ0_charAt_5068e yJ0_charAt_5068e, .methodLink RX6 55 yX6_put, .instanceMethod yX6_put, .selects RX6 yX6_put yX6_put, .initialized RX6]
theorem o_f_X6_writeWord__ek12_good : o_f_X6_writeWord__ek12.all goodWord = true := by decide +kernel
def p_f_X6_writeWord__ek12 : List Cond := o_f_X6_writeWord__ek12 ++ (wsJ0_length_8abf5 ++ (wsJ0_charAt_5068e ++ ((.code yX6_put cX6_put 2 none :: p_y_X6_put) ++ [])))
theorem p_f_X6_writeWord__ek12_good : p_f_X6_writeWord__ek12.all goodWord = true := nb_all2 o_f_X6_writeWord__ek12_good (nb_all2 (by decide +kernel) (nb_all2 (by decide +kernel) (nb_all2 (nb_allc (by decide +kernel) p_y_X6_put_good) rfl)))
def w_f_X6_writeWord__ek12 : List Cond := .code yX6_writeWord cX6_writeWord 3 none :: (p_f_X6_writeWord__ek12 ++ fC)
theorem w_f_X6_writeWord__ek12_good : w_f_X6_writeWord__ek12.all goodWord = true := nb_allc (by decide +kernel) (nb_all2 p_f_X6_writeWord__ek12_good fC_good)
theorem hd_f_X6_writeWord__ek12 : yX6_writeWord.cls = RX6 ∧ yX6_writeWord.cls ≠ "java/lang/invoke/MethodHandle" ∧ yX6_writeWord.cls ≠ "java/lang/invoke/VarHandle" ∧ (parseMethodDescriptor yX6_writeWord.desc).map (fun d => d.parameters.length) = some 1 := by decide +kernel
theorem gg_f_X6_writeWord__ek12_X6_put : GoodIn w_f_X6_writeWord__ek12 w_y_X6_put := goodIn_sub (fun w h => (List.mem_cons.mp h).elim (fun e => (List.mem_cons_of_mem _ (List.mem_append_left _ (List.mem_append_right _ (List.mem_append_right _ (List.mem_append_right _ (List.mem_append_left _ (List.mem_cons.mpr (Or.inl e))))))))) (fun h => (List.mem_append.mp h).elim (fun h => (List.mem_cons_of_mem _ (List.mem_append_left _ (List.mem_append_right _ (List.mem_append_right _ (List.mem_append_right _ (List.mem_append_left _ (List.mem_cons_of_mem _ h)))))))) (fun h => List.mem_cons_of_mem _ (List.mem_append_right _ h)))) w_y_X6_put_good
theorem g_y_X6_writeWord__ek12_X6_put_V55 : GoodIn w_f_X6_writeWord__ek12 (wsV RX6 55 RX6 yX6_put w_y_X6_put) := goodIn_app (nb_g4 (List.mem_cons_of_mem _ (List.mem_append_left _ (List.mem_append_left _ (List.mem_of_getElem? (i := 7) rfl)))) (List.mem_cons_of_mem _ (List.mem_append_left _ (List.mem_append_left _ (List.mem_of_getElem? (i := 8) rfl)))) (List.mem_cons_of_mem _ (List.mem_append_left _ (List.mem_append_left _ (List.mem_of_getElem? (i := 9) rfl)))) (List.mem_cons_of_mem _ (List.mem_append_left _ (List.mem_append_left _ (List.mem_of_getElem? (i := 10) rfl)))) (by decide +kernel)) gg_f_X6_writeWord__ek12_X6_put
theorem gg_f_X6_writeWord__ek12_wsJ0_charAt_5068e : GoodIn w_f_X6_writeWord__ek12 wsJ0_charAt_5068e := goodIn_sub (fun w h => (List.mem_cons_of_mem _ (List.mem_append_left _ (List.mem_append_right _ (List.mem_append_right _ (List.mem_append_left _ h)))))) (by decide +kernel)
theorem g_f_X6_writeWord__ek12_wsJ0_charAt_5068e_88 : GoodIn w_f_X6_writeWord__ek12 (wsV RX6 88 RJ0 yJ0_charAt_5068e wsJ0_charAt_5068e) := goodIn_app (nb_g4 (List.mem_cons_of_mem _ (List.mem_append_left _ (List.mem_append_left _ (List.mem_of_getElem? (i := 4) rfl)))) (List.mem_cons_of_mem _ (List.mem_append_left _ (List.mem_append_left _ (List.mem_of_getElem? (i := 5) rfl)))) (List.mem_cons_of_mem _ (List.mem_append_left _ (List.mem_append_left _ (List.mem_of_getElem? (i := 6) rfl)))) (List.mem_cons_of_mem _ (List.mem_append_left _ (List.mem_append_left _ (List.mem_of_getElem? (i := 3) rfl)))) (by decide +kernel)) gg_f_X6_writeWord__ek12_wsJ0_charAt_5068e
theorem gg_f_X6_writeWord__ek12_wsJ0_length_8abf5 : GoodIn w_f_X6_writeWord__ek12 wsJ0_length_8abf5 := goodIn_sub (fun w h => (List.mem_cons_of_mem _ (List.mem_append_left _ (List.mem_append_right _ (List.mem_append_left _ h))))) (by decide +kernel)
theorem g_f_X6_writeWord__ek12_wsJ0_length_8abf5_83 : GoodIn w_f_X6_writeWord__ek12 (wsV RX6 83 RJ0 yJ0_length_8abf5 wsJ0_length_8abf5) := goodIn_app (nb_g4 (List.mem_cons_of_mem _ (List.mem_append_left _ (List.mem_append_left _ (List.mem_of_getElem? (i := 0) rfl)))) (List.mem_cons_of_mem _ (List.mem_append_left _ (List.mem_append_left _ (List.mem_of_getElem? (i := 1) rfl)))) (List.mem_cons_of_mem _ (List.mem_append_left _ (List.mem_append_left _ (List.mem_of_getElem? (i := 2) rfl)))) (List.mem_cons_of_mem _ (List.mem_append_left _ (List.mem_append_left _ (List.mem_of_getElem? (i := 3) rfl)))) (by decide +kernel)) gg_f_X6_writeWord__ek12_wsJ0_length_8abf5
set_option maxHeartbeats 40000000 in
set_option maxRecDepth 100000 in
theorem c_f_X6_writeWord__ek12 (l : Launch) (hl0 : l.stackTraces = false) (dC : Nat → ClassId) (dI : Nat → Nat → Nat) (cy : Nat → ClassId) (ek a : Nat → Nat) (k0 : Nat) (L0 : LV) (σ0 : CS) (r0 : RS) (h0 : f_X6_writeWord__ek12 k0 0 L0 σ0 = some r0) (z : Nat → Nat) (sz : Nat) : vx_Met l yX6_writeWord w_f_X6_writeWord__ek12 ({ frames := 4, cells := r0.2.2.1, slots := r0.2.2.2, locals := 85 }) (va_Pc [.ref (a 12), .ref (ek 12)] (nInF (dC, dI) cy ek sz (vC cy a z σ0))) (xV dC dI cy a (va_A (vC cy a z σ0) sz) [] z r0) (xX dC dI cy a (va_A (vC cy a z σ0) sz) [] z r0) r0.2.2.1 r0.2.2.2 (va_A (vC cy a z σ0) sz) := by
  refine vx_ofW (cc := cX6_writeWord) (maxL := 3) (ret := none) (by decide) rfl ?_
  intro p e s m args below meth c s₁ B hml hno hv
  obtain ⟨rfl, ⟨⟨hsz, hP, hK, hD0, hG⟩, hE⟩, hT⟩ := hv
  have hx := B.exec
  have hb := B.bytes
  have hr := B.returns
  have hts := atoms_spec (ws := w_f_X6_writeWord__ek12) B.pre
  have hown : s.vm.findClass RX6 = some m.cls := findClass_of_methodNamed B.named
  have hlocks := B.notSynchronized
  subst hsz
  have hD := hD0.self (sz := s.heap.size)
  generalize hAe : va_A (vC cy a z σ0) s.heap.size = A at hD hE hT ⊢
  have hA : ∀ q : Nat, s.heap.size ≤ q → A q := fun q h => by rw [← hAe]; exact Or.inr h
  have hS : va_S A s.heap s.heap [] := va_S.rf
  have hl := lv_entry ([.ref (a 12), .ref (ek 12)]) (n := 3) (Nat.le_of_ble_eq_true rfl)
  rw [lg_entry_eq]
  generalize (lg_sl ([.ref (a 12), .ref (ek 12)]) ++ List.replicate (3 - (lg_sl ([.ref (a 12), .ref (ek 12)])).length) Slot.unset).toArray = ls at hl ⊢
  have hl : lv_has ls 3 [(0, .ref (a 12)), (1, .ref (ek 12))] := hl
  generalize hmc : r0.2.2.1 = mc
  generalize hms : r0.2.2.2 = ms
  have blk : ∀ k : Nat, (bX p l e (headSpec w_f_X6_writeWord__ek12 ({ frames := 4, cells := mc, slots := ms, locals := 85 })).room s m #[.ref (a 12), .ref (ek 12)] below meth c dC dI cy a A (fun r => vx_MQ below (xV dC dI cy a A [] z r) (xX dC dI cy a A [] z r) #[.ref (a 12), .ref (ek 12)] s mc ms A) [] z mc ms 3 (f_X6_writeWord__ek12 k 0) (fun z L => [(0, .ref (a 12)), (1, .ref (ek 12))]) 0 (fun z L => [])) ∧ (bX p l e (headSpec w_f_X6_writeWord__ek12 ({ frames := 4, cells := mc, slots := ms, locals := 85 })).room s m #[.ref (a 12), .ref (ek 12)] below meth c dC dI cy a A (fun r => vx_MQ below (xV dC dI cy a A [] z r) (xX dC dI cy a A [] z r) #[.ref (a 12), .ref (ek 12)] s mc ms A) [] z mc ms 3 (f_X6_writeWord__ek12 k 1) (fun z L => [(0, .ref (a 12)), (1, .ref (ek 12)), (2, .int (L.1 2))]) 2 (fun z L => [])) ∧ (bX p l e (headSpec w_f_X6_writeWord__ek12 ({ frames := 4, cells := mc, slots := ms, locals := 85 })).room s m #[.ref (a 12), .ref (ek 12)] below meth c dC dI cy a A (fun r => vx_MQ below (xV dC dI cy a A [] z r) (xX dC dI cy a A [] z r) #[.ref (a 12), .ref (ek 12)] s mc ms A) [] z mc ms 3 (f_X6_writeWord__ek12 k 2) (fun z L => []) 25 (fun z L => [])) := by
    intro k
    induction k with
    | zero => exact ⟨fun z c1 c2 L σ r h => (by cases h), fun z c1 c2 L σ r h => (by cases h), fun z c1 c2 L σ r h => (by cases h)⟩
    | succ k ih =>
      refine ⟨?_, ?_, ?_⟩
      · intro z cells slots L σ r h hzk hc hs H locs ls hP hD hS hl
        rw [f_X6_writeWord__ek12] at h
        refine lv_iconst (v := 0) hx hb dX6_writeWord_0 (by decide) ?_
        refine lv_istore_n (lv' := [(2, .int 0), (0, .ref (a 12)), (1, .ref (ek 12))]) hx hb dX6_writeWord_1 rfl hl (by decide) rfl (fun ls hl => ?_)
        exact ih.2.1 z _ _ (lI L 2 0) σ _ h hzk hc hs H locs ls hP hD hS (lv_sub hl [1, 2, 0] rfl)
      · intro z cells slots L σ r h hzk hc hs H locs ls hP hD hS hl
        rw [f_X6_writeWord__ek12] at h
        refine lv_iload_n hx hb dX6_writeWord_2 rfl (lv_at hl 2 rfl) ?_
        refine lv_aload_n hx hb dX6_writeWord_3 rfl (lv_at hl 1 rfl) ?_
        refine ks_i (va_runV (As := []) (rest := [.int (L.1 2)]) ⟨hx, hb, hml, hown, hts⟩ (c_J6_len l dC dI cy ek H.size) (cwV 0 hts g_f_X6_writeWord__ek12_wsJ0_length_8abf5_83 rfl rfl rfl (by decide +kernel) ⟨Nat.le_of_ble_eq_true rfl, Nat.le_of_ble_eq_true rfl⟩) ⟨nb_blindE, (vk_recv (i := 6) hE.2.2.1 (by decide) hS), fun U hU hW => ⟨rfl, ⟨by rw [hU], nb_nil, va_K.moved hW.alike hK, nb_nilD, hG.warm hW⟩, nE.to hE hS hW hU (va_free (wc := []) hD hS hA [] rfl)⟩⟩ rfl rfl hl.1 rfl (lv_room (Nat.le_of_ble_eq_true rfl)) dX6_writeWord_4 ⟨(Nat.le_trans (Nat.le_add_right _ _) (Nat.le_of_eq hc)), (Nat.le_trans (Nat.le_add_right _ _) (Nat.le_of_eq hs))⟩) hA hP hD hS (fun H locs hP hS => ?_)
        refine lv_icmp_ge (tgt := 25) hx hb dX6_writeWord_7 (by decide) (fun c1 => ?_) (fun c1 => ?_)
        · rw [if_pos c1] at h
          exact ih.2.2 z _ _ L σ _ h hzk hc hs H locs ls hP hD hS (lv_sub hl [] rfl)
        · rw [if_neg c1] at h
          refine lv_aload_n hx hb dX6_writeWord_10 rfl (lv_at hl 0 rfl) ?_
          refine lv_aload_n hx hb dX6_writeWord_11 rfl (lv_at hl 1 rfl) ?_
          refine lv_iload_n hx hb dX6_writeWord_12 rfl (lv_at hl 2 rfl) ?_
          obtain ⟨q2, h⟩ := kr_ite1 h
          have hch := c_J6_charAt l dC dI cy ek ((L.1 2)).toNatClampNeg q2.2 H.size
          rw [nI_back q2.1] at hch
          refine ks_i (va_runV (As := [.int (L.1 2)]) (rest := [.ref (a 12)]) ⟨hx, hb, hml, hown, hts⟩ hch (cwV 1 hts g_f_X6_writeWord__ek12_wsJ0_charAt_5068e_88 rfl rfl rfl (by decide +kernel) ⟨Nat.le_of_ble_eq_true rfl, Nat.le_of_ble_eq_true rfl⟩) ⟨nb_blindE, (vk_recv (i := 6) hE.2.2.1 (by decide) hS), fun U hU hW => ⟨rfl, ⟨by rw [hU], nb_nil, va_K.moved hW.alike hK, nb_nilD, hG.warm hW⟩, nE.to hE hS hW hU (va_free (wc := []) hD hS hA [] rfl)⟩⟩ rfl rfl hl.1 rfl (lv_room (Nat.le_of_ble_eq_true rfl)) dX6_writeWord_13 ⟨(Nat.le_trans (Nat.le_add_right _ _) (Nat.le_of_eq hc)), (Nat.le_trans (Nat.le_add_right _ _) (Nat.le_of_eq hs))⟩) hA hP hD hS (fun H locs hP hS => ?_)
          obtain ⟨r3, hc3, h⟩ := op_ex h
          refine kc_v (va_runV (As := [.int (sx6.getD ((L.1 2)).toNatClampNeg 0 &&& 255)]) (rest := []) ⟨hx, hb, hml, hown, hts⟩ (c_y_X6_put l dC dI cy a z k (lI lZ 1 ((sx6.getD ((L.1 2)).toNatClampNeg 0 &&& 255))) σ r3 hc3 H.size) (cwV 1 hts g_y_X6_writeWord__ek12_X6_put_V55 rfl rfl rfl hd_y_X6_put ⟨Nat.le_of_ble_eq_true rfl, Nat.le_of_ble_eq_true rfl⟩) ⟨nb_blind, va_recv hK hP (ci := 5) (q0 := 12) rfl rfl, (kb_pre hK hG hP hD)⟩ rfl rfl hl.1 rfl (lv_room (Nat.le_of_ble_eq_true rfl)) dX6_writeWord_16 ⟨(Nat.le_trans (Nat.le_add_right _ _) (Nat.le_of_eq hc)), (Nat.le_trans (Nat.le_add_right _ _) (Nat.le_of_eq hs))⟩) hA hP hD hS (fun H locs hP hD hS => ?_)
          refine lv_iinc (v := ((L.1 2)) + 1) (lv' := [(2, .int (((L.1 2)) + 1)), (0, .ref (a 12)), (1, .ref (ek 12))]) hx hb dX6_writeWord_19 hl (k := 2) rfl rfl (by decide) rfl (fun ls hl => ?_)
          refine lv_goto (tgt := 2) hx hb dX6_writeWord_22 (by decide) ?_
          exact ih.2.1 z _ _ (lI L 2 ((((L.1 2)) + 1))) r3.2 _ h hzk hc hs H locs ls hP hD hS (lv_sub hl [1, 2, 0] rfl)
      · intro z cells slots L σ r h hzk hc hs H locs ls hP hD hS hl
        rw [f_X6_writeWord__ek12] at h
        obtain rfl := Option.some.inj h
        subst hc
        subst hs
        exact xr_v hx hb hr hK hzk hP hD hS hlocks dX6_writeWord_25
  exact (blk k0).1 z 0 0 L0 σ0 r0 h0 (zk_rf _ _) ((Nat.zero_add _).trans hmc) ((Nat.zero_add _).trans hms) s.heap [] ls hP hD hS hl
/-! X6_word__ek12 -/
def f_X6_word__ek12 : Nat → Nat → LV → CS → Option RS
  | 0, _, _, _ => none
  | k + 1, 0, L, σ => ox (f_X6_writeWord__ek12 k 0 lZ (uI σ 1203 0)) (fun r1 => op (y_X6_madeString k 0 lZ r1.2.1) (fun r2 => some ((0, r2.1), r2.2, (0, 0))))
  | _ + 1, _ + 1, _, _ => none
def o_f_X6_word__ek12 : List Cond := [.fieldLink RX6 23 "SetHouse$Printer" "length" "I", .methodLink RX6 45 yX6_writeWord, .instanceMethod yX6_writeWord, .selects RX6 yX6_writeWord yX6_writeWord, .initialized RX6, .methodLink RX6 96 yX6_madeString, .instanceMethod yX6_madeString, .selects RX6 yX6_madeString yX6_madeString]
theorem o_f_X6_word__ek12_good : o_f_X6_word__ek12.all goodWord = true := by decide +kernel
def p_f_X6_word__ek12 : List Cond := o_f_X6_word__ek12 ++ ((.code yX6_writeWord cX6_writeWord 3 none :: p_f_X6_writeWord__ek12) ++ ((.code yX6_madeString cX6_madeString 1 (some .int) :: p_y_X6_madeString) ++ []))
theorem p_f_X6_word__ek12_good : p_f_X6_word__ek12.all goodWord = true := nb_all2 o_f_X6_word__ek12_good (nb_all2 (nb_allc (by decide +kernel) p_f_X6_writeWord__ek12_good) (nb_all2 (nb_allc (by decide +kernel) p_y_X6_madeString_good) rfl))
def w_f_X6_word__ek12 : List Cond := .code yX6_word cX6_word 2 (some .int) :: (p_f_X6_word__ek12 ++ fC)
theorem w_f_X6_word__ek12_good : w_f_X6_word__ek12.all goodWord = true := nb_allc (by decide +kernel) (nb_all2 p_f_X6_word__ek12_good fC_good)
theorem in_f_X6_word__ek12_X6 : ∀ w ∈ wsX60, w ∈ w_f_X6_word__ek12 := fun _ h => List.mem_cons_of_mem _ (List.mem_append_right _ (List.mem_append_right _ (List.mem_append_right _ (List.mem_append_right _ (List.mem_append_right _ (List.mem_append_right _ (List.mem_append_left _ h)))))))
theorem hd_f_X6_word__ek12 : yX6_word.cls = RX6 ∧ yX6_word.cls ≠ "java/lang/invoke/MethodHandle" ∧ yX6_word.cls ≠ "java/lang/invoke/VarHandle" ∧ (parseMethodDescriptor yX6_word.desc).map (fun d => d.parameters.length) = some 1 := by decide +kernel
theorem gg_f_X6_word__ek12_X6_writeWord__ek12 : GoodIn w_f_X6_word__ek12 w_f_X6_writeWord__ek12 := goodIn_sub (fun w h => (List.mem_cons.mp h).elim (fun e => (List.mem_cons_of_mem _ (List.mem_append_left _ (List.mem_append_right _ (List.mem_append_left _ (List.mem_cons.mpr (Or.inl e))))))) (fun h => (List.mem_append.mp h).elim (fun h => (List.mem_cons_of_mem _ (List.mem_append_left _ (List.mem_append_right _ (List.mem_append_left _ (List.mem_cons_of_mem _ h)))))) (fun h => List.mem_cons_of_mem _ (List.mem_append_right _ h)))) w_f_X6_writeWord__ek12_good
theorem g_f_X6_word__ek12_X6_writeWord__ek12_V45 : GoodIn w_f_X6_word__ek12 (wsV RX6 45 RX6 yX6_writeWord w_f_X6_writeWord__ek12) := goodIn_app (nb_g4 (List.mem_cons_of_mem _ (List.mem_append_left _ (List.mem_append_left _ (List.mem_of_getElem? (i := 1) rfl)))) (List.mem_cons_of_mem _ (List.mem_append_left _ (List.mem_append_left _ (List.mem_of_getElem? (i := 2) rfl)))) (List.mem_cons_of_mem _ (List.mem_append_left _ (List.mem_append_left _ (List.mem_of_getElem? (i := 3) rfl)))) (List.mem_cons_of_mem _ (List.mem_append_left _ (List.mem_append_left _ (List.mem_of_getElem? (i := 4) rfl)))) (by decide +kernel)) gg_f_X6_word__ek12_X6_writeWord__ek12
theorem gg_f_X6_word__ek12_X6_madeString : GoodIn w_f_X6_word__ek12 w_y_X6_madeString := goodIn_sub (fun w h => (List.mem_cons.mp h).elim (fun e => (List.mem_cons_of_mem _ (List.mem_append_left _ (List.mem_append_right _ (List.mem_append_right _ (List.mem_append_left _ (List.mem_cons.mpr (Or.inl e)))))))) (fun h => (List.mem_append.mp h).elim (fun h => (List.mem_cons_of_mem _ (List.mem_append_left _ (List.mem_append_right _ (List.mem_append_right _ (List.mem_append_left _ (List.mem_cons_of_mem _ h))))))) (fun h => List.mem_cons_of_mem _ (List.mem_append_right _ h)))) w_y_X6_madeString_good
theorem g_y_X6_word__ek12_X6_madeString_V96 : GoodIn w_f_X6_word__ek12 (wsV RX6 96 RX6 yX6_madeString w_y_X6_madeString) := goodIn_app (nb_g4 (List.mem_cons_of_mem _ (List.mem_append_left _ (List.mem_append_left _ (List.mem_of_getElem? (i := 5) rfl)))) (List.mem_cons_of_mem _ (List.mem_append_left _ (List.mem_append_left _ (List.mem_of_getElem? (i := 6) rfl)))) (List.mem_cons_of_mem _ (List.mem_append_left _ (List.mem_append_left _ (List.mem_of_getElem? (i := 7) rfl)))) (List.mem_cons_of_mem _ (List.mem_append_left _ (List.mem_append_left _ (List.mem_of_getElem? (i := 4) rfl)))) (by decide +kernel)) gg_f_X6_word__ek12_X6_madeString
set_option maxHeartbeats 40000000 in
set_option maxRecDepth 100000 in
theorem c_f_X6_word__ek12 (l : Launch) (hl0 : l.stackTraces = false) (dC : Nat → ClassId) (dI : Nat → Nat → Nat) (cy : Nat → ClassId) (ek a : Nat → Nat) (k0 : Nat) (L0 : LV) (σ0 : CS) (r0 : RS) (h0 : f_X6_word__ek12 k0 0 L0 σ0 = some r0) (z : Nat → Nat) (sz : Nat) : vx_Met l yX6_word w_f_X6_word__ek12 ({ frames := 5, cells := r0.2.2.1, slots := r0.2.2.2, locals := 107 }) (va_Pc [.ref (a 12), .ref (ek 12)] (nInF (dC, dI) cy ek sz (vC cy a z σ0))) (xI dC dI cy a (va_A (vC cy a z σ0) sz) [] z r0) (xX dC dI cy a (va_A (vC cy a z σ0) sz) [] z r0) r0.2.2.1 r0.2.2.2 (va_A (vC cy a z σ0) sz) := by
  refine vx_ofW (cc := cX6_word) (maxL := 2) (ret := (some .int)) (by decide) rfl ?_
  intro p e s m args below meth c s₁ B hml hno hv
  obtain ⟨rfl, ⟨⟨hsz, hP, hK, hD0, hG⟩, hE⟩, hT⟩ := hv
  have hx := B.exec
  have hb := B.bytes
  have hr := B.returns
  have hts := atoms_spec (ws := w_f_X6_word__ek12) B.pre
  have hown : s.vm.findClass RX6 = some m.cls := findClass_of_methodNamed B.named
  have hlocks := B.notSynchronized
  subst hsz
  have hD := hD0.self (sz := s.heap.size)
  generalize hAe : va_A (vC cy a z σ0) s.heap.size = A at hD hE hT ⊢
  have hA : ∀ q : Nat, s.heap.size ≤ q → A q := fun q h => by rw [← hAe]; exact Or.inr h
  have hS : va_S A s.heap s.heap [] := va_S.rf
  have hl := lv_entry ([.ref (a 12), .ref (ek 12)]) (n := 2) (Nat.le_of_ble_eq_true rfl)
  rw [lg_entry_eq]
  generalize (lg_sl ([.ref (a 12), .ref (ek 12)]) ++ List.replicate (2 - (lg_sl ([.ref (a 12), .ref (ek 12)])).length) Slot.unset).toArray = ls at hl ⊢
  have hl : lv_has ls 2 [(0, .ref (a 12)), (1, .ref (ek 12))] := hl
  generalize hmc : r0.2.2.1 = mc
  generalize hms : r0.2.2.2 = ms
  have blk : ∀ k : Nat, (bX p l e (headSpec w_f_X6_word__ek12 ({ frames := 5, cells := mc, slots := ms, locals := 107 })).room s m #[.ref (a 12), .ref (ek 12)] below meth c dC dI cy a A (fun r => vx_MQ below (xI dC dI cy a A [] z r) (xX dC dI cy a A [] z r) #[.ref (a 12), .ref (ek 12)] s mc ms A) [] z mc ms 2 (f_X6_word__ek12 k 0) (fun z L => [(0, .ref (a 12)), (1, .ref (ek 12))]) 0 (fun z L => [])) := by
    intro k
    induction k with
    | zero => exact fun z c1 c2 L σ r h => (by cases h)
    | succ k ih =>
      skip
      · intro z cells slots L σ r h hzk hc hs H locs ls hP hD hS hl
        rw [f_X6_word__ek12] at h
        refine lv_aload_n hx hb dX6_word_0 rfl (lv_at hl 0 rfl) ?_
        refine lv_iconst (v := 0) hx hb dX6_word_1 (by decide) ?_
        refine hp_12_3 hx hb hts in_f_X6_word__ek12_X6 hown hK hP hD hS (hts _ (List.mem_cons_of_mem _ (List.mem_append_left _ (List.mem_append_left _ (List.mem_of_getElem? (i := 0) rfl))))) dX6_word_2 (fun H locs hP hD hS => ?_)
        refine lv_aload_n hx hb dX6_word_5 rfl (lv_at hl 0 rfl) ?_
        refine lv_aload_n hx hb dX6_word_6 rfl (lv_at hl 1 rfl) ?_
        obtain ⟨r1, hc1, hle1, h9⟩ := ox_ex h
        clear h
        refine kx_v (vx_runV (As := [.ref (ek 12)]) (rest := []) ⟨hx, hb, hml, hown, hts⟩ (c_f_X6_writeWord__ek12 l hl0 dC dI cy ek a k lZ (uI σ 1203 0) r1 hc1 z H.size) (cwV 1 hts g_f_X6_word__ek12_X6_writeWord__ek12_V45 rfl rfl rfl hd_f_X6_writeWord__ek12 ⟨Nat.le_of_ble_eq_true rfl, Nat.le_of_ble_eq_true rfl⟩) ⟨nb_blindF, va_recv hK hP (ci := 5) (q0 := 12) rfl rfl, (kx_pre hK hG hE hT hA hP hD hS)⟩ rfl rfl hl.1 rfl (lv_room (Nat.le_of_ble_eq_true rfl)) dX6_word_7 ⟨Nat.le_trans (Nat.add_le_add_left hle1.1 _) (Nat.le_of_eq hc), Nat.le_trans (Nat.add_le_add_left hle1.2 _) (Nat.le_of_eq hs)⟩) hK hA hzk hP hD hS (by decide) hno hlocks ?_
        rcases h9 with ⟨h00, y1, hny1, hy⟩ | ⟨h00, hy⟩
        · subst hy
          have h := hny1
          refine Or.inl ⟨h00, fun u H locs hz1 hzk hP hD hS => ?_⟩
          obtain rfl := (zk_nil hz1).symm
          replace hc := (Nat.add_assoc _ _ _).trans hc
          replace hs := (Nat.add_assoc _ _ _).trans hs
          refine lv_aload_n hx hb dX6_word_10 rfl (lv_at hl 0 rfl) ?_
          obtain ⟨r2, hc2, h⟩ := op_ex h
          refine kc_i (va_runV (As := []) (rest := []) ⟨hx, hb, hml, hown, hts⟩ (c_y_X6_madeString l dC dI cy a z k lZ r1.2.1 r2 hc2 H.size) (cwV 0 hts g_y_X6_word__ek12_X6_madeString_V96 rfl rfl rfl hd_y_X6_madeString ⟨Nat.le_of_ble_eq_true rfl, Nat.le_of_ble_eq_true rfl⟩) ⟨nb_blind, va_recv hK hP (ci := 5) (q0 := 12) rfl rfl, (kb_pre hK hG hP hD)⟩ rfl rfl hl.1 rfl (lv_room (Nat.le_of_ble_eq_true rfl)) dX6_word_11 ⟨(Nat.le_trans (Nat.le_add_right _ _) (Nat.le_of_eq hc)), (Nat.le_trans (Nat.le_add_right _ _) (Nat.le_of_eq hs))⟩) hA hP hD hS (fun H locs hP hD hS => ?_)
          obtain rfl := Option.some.inj h
          subst hc
          subst hs
          exact xr_i hx hb hr hK hzk hP hD hS hlocks dX6_word_14
        · subst hy
          exact Or.inr ⟨h00, rfl, hc, hs⟩
  exact (blk k0) z 0 0 L0 σ0 r0 h0 (zk_rf _ _) ((Nat.zero_add _).trans hmc) ((Nat.zero_add _).trans hms) s.heap [] ls hP hD hS hl
/-! X6_word__ek14 -/
def f_X6_word__ek14 : Nat → Nat → LV → CS → Option RS
  | 0, _, _, _ => none
  | k + 1, 0, L, σ => ox (f_X6_writeWord__ek14 k 0 lZ (uI σ 1203 0)) (fun r1 => op (y_X6_madeString k 0 lZ r1.2.1) (fun r2 => some ((0, r2.1), r2.2, (0, 0))))
  | _ + 1, _ + 1, _, _ => none
def o_f_X6_word__ek14 : List Cond := [.fieldLink RX6 23 "SetHouse$Printer" "length" "I", .methodLink RX6 45 yX6_writeWord, .instanceMethod yX6_writeWord, .selects RX6 yX6_writeWord yX6_writeWord, .initialized RX6, .methodLink RX6 96 yX6_madeString, .instanceMethod yX6_madeString, .selects RX6 yX6_madeString yX6_madeString]
theorem o_f_X6_word__ek14_good : o_f_X6_word__ek14.all goodWord = true := by decide +kernel
def p_f_X6_word__ek14 : List Cond := o_f_X6_word__ek14 ++ ((.code yX6_writeWord cX6_writeWord 3 none :: p_f_X6_writeWord__ek14) ++ ((.code yX6_madeString cX6_madeString 1 (some .int) :: p_y_X6_madeString) ++ []))
theorem p_f_X6_word__ek14_good : p_f_X6_word__ek14.all goodWord = true := nb_all2 o_f_X6_word__ek14_good (nb_all2 (nb_allc (by decide +kernel) p_f_X6_writeWord__ek14_good) (nb_all2 (nb_allc (by decide +kernel) p_y_X6_madeString_good) rfl))
def w_f_X6_word__ek14 : List Cond := .code yX6_word cX6_word 2 (some .int) :: (p_f_X6_word__ek14 ++ fC)
theorem w_f_X6_word__ek14_good : w_f_X6_word__ek14.all goodWord = true := nb_allc (by decide +kernel) (nb_all2 p_f_X6_word__ek14_good fC_good)
theorem in_f_X6_word__ek14_X6 : ∀ w ∈ wsX60, w ∈ w_f_X6_word__ek14 := fun _ h => List.mem_cons_of_mem _ (List.mem_append_right _ (List.mem_append_right _ (List.mem_append_right _ (List.mem_append_right _ (List.mem_append_right _ (List.mem_append_right _ (List.mem_append_left _ h)))))))
theorem hd_f_X6_word__ek14 : yX6_word.cls = RX6 ∧ yX6_word.cls ≠ "java/lang/invoke/MethodHandle" ∧ yX6_word.cls ≠ "java/lang/invoke/VarHandle" ∧ (parseMethodDescriptor yX6_word.desc).map (fun d => d.parameters.length) = some 1 := by decide +kernel
theorem gg_f_X6_word__ek14_X6_writeWord__ek14 : GoodIn w_f_X6_word__ek14 w_f_X6_writeWord__ek14 := goodIn_sub (fun w h => (List.mem_cons.mp h).elim (fun e => (List.mem_cons_of_mem _ (List.mem_append_left _ (List.mem_append_right _ (List.mem_append_left _ (List.mem_cons.mpr (Or.inl e))))))) (fun h => (List.mem_append.mp h).elim (fun h => (List.mem_cons_of_mem _ (List.mem_append_left _ (List.mem_append_right _ (List.mem_append_left _ (List.mem_cons_of_mem _ h)))))) (fun h => List.mem_cons_of_mem _ (List.mem_append_right _ h)))) w_f_X6_writeWord__ek14_good
theorem g_f_X6_word__ek14_X6_writeWord__ek14_V45 : GoodIn w_f_X6_word__ek14 (wsV RX6 45 RX6 yX6_writeWord w_f_X6_writeWord__ek14) := goodIn_app (nb_g4 (List.mem_cons_of_mem _ (List.mem_append_left _ (List.mem_append_left _ (List.mem_of_getElem? (i := 1) rfl)))) (List.mem_cons_of_mem _ (List.mem_append_left _ (List.mem_append_left _ (List.mem_of_getElem? (i := 2) rfl)))) (List.mem_cons_of_mem _ (List.mem_append_left _ (List.mem_append_left _ (List.mem_of_getElem? (i := 3) rfl)))) (List.mem_cons_of_mem _ (List.mem_append_left _ (List.mem_append_left _ (List.mem_of_getElem? (i := 4) rfl)))) (by decide +kernel)) gg_f_X6_word__ek14_X6_writeWord__ek14
theorem gg_f_X6_word__ek14_X6_madeString : GoodIn w_f_X6_word__ek14 w_y_X6_madeString := goodIn_sub (fun w h => (List.mem_cons.mp h).elim (fun e => (List.mem_cons_of_mem _ (List.mem_append_left _ (List.mem_append_right _ (List.mem_append_right _ (List.mem_append_left _ (List.mem_cons.mpr (Or.inl e)))))))) (fun h => (List.mem_append.mp h).elim (fun h => (List.mem_cons_of_mem _ (List.mem_append_left _ (List.mem_append_right _ (List.mem_append_right _ (List.mem_append_left _ (List.mem_cons_of_mem _ h))))))) (fun h => List.mem_cons_of_mem _ (List.mem_append_right _ h)))) w_y_X6_madeString_good
theorem g_y_X6_word__ek14_X6_madeString_V96 : GoodIn w_f_X6_word__ek14 (wsV RX6 96 RX6 yX6_madeString w_y_X6_madeString) := goodIn_app (nb_g4 (List.mem_cons_of_mem _ (List.mem_append_left _ (List.mem_append_left _ (List.mem_of_getElem? (i := 5) rfl)))) (List.mem_cons_of_mem _ (List.mem_append_left _ (List.mem_append_left _ (List.mem_of_getElem? (i := 6) rfl)))) (List.mem_cons_of_mem _ (List.mem_append_left _ (List.mem_append_left _ (List.mem_of_getElem? (i := 7) rfl)))) (List.mem_cons_of_mem _ (List.mem_append_left _ (List.mem_append_left _ (List.mem_of_getElem? (i := 4) rfl)))) (by decide +kernel)) gg_f_X6_word__ek14_X6_madeString
set_option maxHeartbeats 40000000 in
set_option maxRecDepth 100000 in
theorem c_f_X6_word__ek14 (l : Launch) (hl0 : l.stackTraces = false) (dC : Nat → ClassId) (dI : Nat → Nat → Nat) (cy : Nat → ClassId) (ek a : Nat → Nat) (k0 : Nat) (L0 : LV) (σ0 : CS) (r0 : RS) (h0 : f_X6_word__ek14 k0 0 L0 σ0 = some r0) (z : Nat → Nat) (sz : Nat) : vx_Met l yX6_word w_f_X6_word__ek14 ({ frames := 5, cells := r0.2.2.1, slots := r0.2.2.2, locals := 107 }) (va_Pc [.ref (a 12), .ref (ek 14)] (nInF (dC, dI) cy ek sz (vC cy a z σ0))) (xI dC dI cy a (va_A (vC cy a z σ0) sz) [] z r0) (xX dC dI cy a (va_A (vC cy a z σ0) sz) [] z r0) r0.2.2.1 r0.2.2.2 (va_A (vC cy a z σ0) sz) := by
  refine vx_ofW (cc := cX6_word) (maxL := 2) (ret := (some .int)) (by decide) rfl ?_
  intro p e s m args below meth c s₁ B hml hno hv
  obtain ⟨rfl, ⟨⟨hsz, hP, hK, hD0, hG⟩, hE⟩, hT⟩ := hv
  have hx := B.exec
  have hb := B.bytes
  have hr := B.returns
  have hts := atoms_spec (ws := w_f_X6_word__ek14) B.pre
  have hown : s.vm.findClass RX6 = some m.cls := findClass_of_methodNamed B.named
  have hlocks := B.notSynchronized
  subst hsz
  have hD := hD0.self (sz := s.heap.size)
  generalize hAe : va_A (vC cy a z σ0) s.heap.size = A at hD hE hT ⊢
  have hA : ∀ q : Nat, s.heap.size ≤ q → A q := fun q h => by rw [← hAe]; exact Or.inr h
  have hS : va_S A s.heap s.heap [] := va_S.rf
  have hl := lv_entry ([.ref (a 12), .ref (ek 14)]) (n := 2) (Nat.le_of_ble_eq_true rfl)
  rw [lg_entry_eq]
  generalize (lg_sl ([.ref (a 12), .ref (ek 14)]) ++ List.replicate (2 - (lg_sl ([.ref (a 12), .ref (ek 14)])).length) Slot.unset).toArray = ls at hl ⊢
  have hl : lv_has ls 2 [(0, .ref (a 12)), (1, .ref (ek 14))] := hl
  generalize hmc : r0.2.2.1 = mc
  generalize hms : r0.2.2.2 = ms
  have blk : ∀ k : Nat, (bX p l e (headSpec w_f_X6_word__ek14 ({ frames := 5, cells := mc, slots := ms, locals := 107 })).room s m #[.ref (a 12), .ref (ek 14)] below meth c dC dI cy a A (fun r => vx_MQ below (xI dC dI cy a A [] z r) (xX dC dI cy a A [] z r) #[.ref (a 12), .ref (ek 14)] s mc ms A) [] z mc ms 2 (f_X6_word__ek14 k 0) (fun z L => [(0, .ref (a 12)), (1, .ref (ek 14))]) 0 (fun z L => [])) := by
    intro k
    induction k with
    | zero => exact fun z c1 c2 L σ r h => (by cases h)
    | succ k ih =>
      skip
      · intro z cells slots L σ r h hzk hc hs H locs ls hP hD hS hl
        rw [f_X6_word__ek14] at h
        refine lv_aload_n hx hb dX6_word_0 rfl (lv_at hl 0 rfl) ?_
        refine lv_iconst (v := 0) hx hb dX6_word_1 (by decide) ?_
        refine hp_12_3 hx hb hts in_f_X6_word__ek14_X6 hown hK hP hD hS (hts _ (List.mem_cons_of_mem _ (List.mem_append_left _ (List.mem_append_left _ (List.mem_of_getElem? (i := 0) rfl))))) dX6_word_2 (fun H locs hP hD hS => ?_)
        refine lv_aload_n hx hb dX6_word_5 rfl (lv_at hl 0 rfl) ?_
        refine lv_aload_n hx hb dX6_word_6 rfl (lv_at hl 1 rfl) ?_
        obtain ⟨r1, hc1, hle1, h9⟩ := ox_ex h
        clear h
        refine kx_v (vx_runV (As := [.ref (ek 14)]) (rest := []) ⟨hx, hb, hml, hown, hts⟩ (c_f_X6_writeWord__ek14 l hl0 dC dI cy ek a k lZ (uI σ 1203 0) r1 hc1 z H.size) (cwV 1 hts g_f_X6_word__ek14_X6_writeWord__ek14_V45 rfl rfl rfl hd_f_X6_writeWord__ek14 ⟨Nat.le_of_ble_eq_true rfl, Nat.le_of_ble_eq_true rfl⟩) ⟨nb_blindF, va_recv hK hP (ci := 5) (q0 := 12) rfl rfl, (kx_pre hK hG hE hT hA hP hD hS)⟩ rfl rfl hl.1 rfl (lv_room (Nat.le_of_ble_eq_true rfl)) dX6_word_7 ⟨Nat.le_trans (Nat.add_le_add_left hle1.1 _) (Nat.le_of_eq hc), Nat.le_trans (Nat.add_le_add_left hle1.2 _) (Nat.le_of_eq hs)⟩) hK hA hzk hP hD hS (by decide) hno hlocks ?_
        rcases h9 with ⟨h00, y1, hny1, hy⟩ | ⟨h00, hy⟩
        · subst hy
          have h := hny1
          refine Or.inl ⟨h00, fun u H locs hz1 hzk hP hD hS => ?_⟩
          obtain rfl := (zk_nil hz1).symm
          replace hc := (Nat.add_assoc _ _ _).trans hc
          replace hs := (Nat.add_assoc _ _ _).trans hs
          refine lv_aload_n hx hb dX6_word_10 rfl (lv_at hl 0 rfl) ?_
          obtain ⟨r2, hc2, h⟩ := op_ex h
          refine kc_i (va_runV (As := []) (rest := []) ⟨hx, hb, hml, hown, hts⟩ (c_y_X6_madeString l dC dI cy a z k lZ r1.2.1 r2 hc2 H.size) (cwV 0 hts g_y_X6_word__ek14_X6_madeString_V96 rfl rfl rfl hd_y_X6_madeString ⟨Nat.le_of_ble_eq_true rfl, Nat.le_of_ble_eq_true rfl⟩) ⟨nb_blind, va_recv hK hP (ci := 5) (q0 := 12) rfl rfl, (kb_pre hK hG hP hD)⟩ rfl rfl hl.1 rfl (lv_room (Nat.le_of_ble_eq_true rfl)) dX6_word_11 ⟨(Nat.le_trans (Nat.le_add_right _ _) (Nat.le_of_eq hc)), (Nat.le_trans (Nat.le_add_right _ _) (Nat.le_of_eq hs))⟩) hA hP hD hS (fun H locs hP hD hS => ?_)
          obtain rfl := Option.some.inj h
          subst hc
          subst hs
          exact xr_i hx hb hr hK hzk hP hD hS hlocks dX6_word_14
        · subst hy
          exact Or.inr ⟨h00, rfl, hc, hs⟩
  exact (blk k0) z 0 0 L0 σ0 r0 h0 (zk_rf _ _) ((Nat.zero_add _).trans hmc) ((Nat.zero_add _).trans hms) s.heap [] ls hP hD hS hl
/-! X0_unary -/
def f_X0_unary : Nat → Nat → LV → CS → Option RS
  | 0, _, _, _ => none
  | k + 1, 0, L, σ => op (y_X1_kind k 0 (lI lZ 1 ((L.1 2))) σ) (fun r1 => if ((L.1 1)) = (160 : Int32) then (f_X0_unary k 1 (lI L 3 r1.1) r1.2) else (if ((L.1 1)) = (161 : Int32) then (f_X0_unary k 2 (lI L 3 r1.1) r1.2) else (if ((L.1 1)) = (162 : Int32) then (f_X0_unary k 3 (lI L 3 r1.1) r1.2) else (if ((L.1 1)) = (163 : Int32) then (f_X0_unary k 4 (lI L 3 r1.1) r1.2) else (if ((L.1 1)) = (164 : Int32) then (f_X0_unary k 5 L r1.2) else (if ((L.1 1)) = (165 : Int32) then (f_X0_unary k 6 L r1.2) else (if ((L.1 1)) = (166 : Int32) then (f_X0_unary k 7 (lI L 3 r1.1) r1.2) else (if ((L.1 1)) = (167 : Int32) then (f_X0_unary k 8 (lI L 3 r1.1) r1.2) else (if ((L.1 1)) = (168 : Int32) then (f_X0_unary k 9 L r1.2) else (if ((L.1 1)) = (169 : Int32) then (f_X0_unary k 10 (lI L 3 r1.1) r1.2) else (if ((L.1 1)) = (170 : Int32) then (f_X0_unary k 11 (lI L 3 r1.1) r1.2) else (f_X0_unary k 12 (lI L 3 r1.1) r1.2))))))))))))
  | k + 1, 1, L, σ => if ((L.1 3)) = 2 then (op (y_X10_negated k 0 (lI lZ 1 ((L.1 2))) σ) (fun r2 => f_X0_unary k 14 (lI L 100 r2.1) r2.2)) else (f_X0_unary k 13 L σ)
  | k + 1, 2, L, σ => if ((L.1 3)) < 4 then (f_X0_unary k 15 L σ) else (op (y_X1_length k 0 (lI lZ 1 ((L.1 2))) σ) (fun r2 => op (y_X10_small k 0 (lI lZ 0 r2.1) r2.2) (fun r3 => f_X0_unary k 16 (lI L 100 r3.1) r3.2)))
  | k + 1, 3, L, σ => if ((L.1 3)) = 2 then (op (y_X10_absolute k 0 (lI lZ 1 ((L.1 2))) σ) (fun r2 => f_X0_unary k 18 (lI L 100 r2.1) r2.2)) else (f_X0_unary k 17 L σ)
  | k + 1, 4, L, σ => if ((L.1 3)) = 6 then (op (y_X1_member k 0 (lI (lI lZ 1 ((L.1 2))) 2 0) σ) (fun r2 => f_X0_unary k 20 (lI L 100 r2.1) r2.2)) else (f_X0_unary k 19 L σ)
  | k + 1, 5, L, σ => op (y_X1_isMap k 0 (lI lZ 1 ((L.1 2))) σ) (fun r1 => if r1.1 = 0 then (f_X0_unary k 21 L r1.2) else (op (y_X0_domain k 0 (lI lZ 1 ((L.1 2))) r1.2) (fun r3 => f_X0_unary k 22 (lI L 100 r3.1) r3.2)))
  | k + 1, 6, L, σ => op (y_X1_isMap k 0 (lI lZ 1 ((L.1 2))) σ) (fun r1 => if r1.1 = 0 then (f_X0_unary k 23 L r1.2) else (op (y_X0_range k 0 (lI lZ 1 ((L.1 2))) r1.2) (fun r3 => f_X0_unary k 24 (lI L 100 r3.1) r3.2)))
  | k + 1, 7, L, σ => if ((L.1 3)) = 6 then (op (y_X0_subsets k 0 (lI lZ 1 ((L.1 2))) σ) (fun r2 => f_X0_unary k 26 (lI L 100 r2.1) r2.2)) else (f_X0_unary k 25 L σ)
  | k + 1, 8, L, σ => if ((L.1 3)) = 1 then (ox (f_X6_word__ek2 k 0 lZ σ) (fun r1 => some ((0, r1.1.2), r1.2.1, (0, 0)))) else (if ((L.1 3)) = 2 then (ox (f_X6_word__ek4 k 0 lZ σ) (fun r3 => some ((0, r3.1.2), r3.2.1, (0, 0)))) else (if ((L.1 3)) = 3 then (ox (f_X6_word__ek6 k 0 lZ σ) (fun r5 => some ((0, r5.1.2), r5.2.1, (0, 0)))) else (if ((L.1 3)) = 4 then (ox (f_X6_word__ek8 k 0 lZ σ) (fun r7 => some ((0, r7.1.2), r7.2.1, (0, 0)))) else (if ((L.1 3)) = 5 then (ox (f_X6_word__ek10 k 0 lZ σ) (fun r9 => some ((0, r9.1.2), r9.2.1, (0, 0)))) else (if ((L.1 3)) = 6 then (ox (f_X6_word__ek12 k 0 lZ σ) (fun r11 => some ((0, r11.1.2), r11.2.1, (0, 0)))) else (ox (f_X6_word__ek14 k 0 lZ σ) (fun r13 => some ((0, r13.1.2), r13.2.1, (0, 0)))))))))
  | k + 1, 9, L, σ => ox (f_X6_print k 0 (lI lZ 1 ((L.1 2))) σ) (fun r1 => op (y_X6_madeString k 0 lZ r1.2.1) (fun r2 => some ((0, r2.1), r2.2, (0, 0))))
  | k + 1, 10, L, σ => if ((L.1 3)) = 2 then (op (y_X0_charOf k 0 (lI lZ 1 ((L.1 2))) σ) (fun r2 => f_X0_unary k 28 (lI L 100 r2.1) r2.2)) else (f_X0_unary k 27 L σ)
  | k + 1, 11, L, σ => if ((L.1 3)) = 4 then (op (y_X0_codeOf k 0 (lI lZ 1 ((L.1 2))) σ) (fun r2 => f_X0_unary k 30 (lI L 100 r2.1) r2.2)) else (f_X0_unary k 29 L σ)
  | k + 1, 12, L, σ => if ((L.1 3)) = 4 then (f_X0_unary k 31 L σ) else (if ((L.1 3)) = 5 then (f_X0_unary k 31 L σ) else (f_X0_unary k 32 L σ))
  | k + 1, 13, L, σ => f_X0_unary k 14 (lI L 100 ((-268435455))) σ
  | k + 1, 14, L, σ => some ((0, (L.1 100)), σ, (0, 0))
  | k + 1, 15, L, σ => f_X0_unary k 16 (lI L 100 ((-268435455))) σ
  | k + 1, 16, L, σ => some ((0, (L.1 100)), σ, (0, 0))
  | k + 1, 17, L, σ => f_X0_unary k 18 (lI L 100 ((-268435455))) σ
  | k + 1, 18, L, σ => some ((0, (L.1 100)), σ, (0, 0))
  | k + 1, 19, L, σ => f_X0_unary k 20 (lI L 100 ((-268435455))) σ
  | k + 1, 20, L, σ => some ((0, (L.1 100)), σ, (0, 0))
  | k + 1, 21, L, σ => f_X0_unary k 22 (lI L 100 ((-268435455))) σ
  | k + 1, 22, L, σ => some ((0, (L.1 100)), σ, (0, 0))
  | k + 1, 23, L, σ => f_X0_unary k 24 (lI L 100 ((-268435455))) σ
  | k + 1, 24, L, σ => some ((0, (L.1 100)), σ, (0, 0))
  | k + 1, 25, L, σ => f_X0_unary k 26 (lI L 100 ((-268435455))) σ
  | k + 1, 26, L, σ => some ((0, (L.1 100)), σ, (0, 0))
  | k + 1, 27, L, σ => f_X0_unary k 28 (lI L 100 ((-268435455))) σ
  | k + 1, 28, L, σ => some ((0, (L.1 100)), σ, (0, 0))
  | k + 1, 29, L, σ => f_X0_unary k 30 (lI L 100 ((-268435455))) σ
  | k + 1, 30, L, σ => some ((0, (L.1 100)), σ, (0, 0))
  | k + 1, 31, L, σ => op (y_X0_reversed k 0 (lI (lI lZ 1 ((L.1 2))) 2 ((L.1 3))) σ) (fun r1 => f_X0_unary k 33 (lI L 100 r1.1) r1.2)
  | k + 1, 32, L, σ => f_X0_unary k 33 (lI L 100 ((-268435455))) σ
  | k + 1, 33, L, σ => some ((0, (L.1 100)), σ, (0, 0))
  | _ + 1, _ + 34, _, _ => none
def o_f_X0_unary : List Cond := [.fieldLink RX0 22 "SetHouse$Algebra" "heap" "LSetHouse$Heap;", .methodLink RX0 87 yX1_kind, .instanceMethod yX1_kind, .selects RX1 yX1_kind yX1_kind, .initialized RX1, .fieldLink RX0 26 "SetHouse$Algebra" "wholes" "LSetHouse$Wholes;", .methodLink RX0 182 yX10_negated, .instanceMethod yX10_negated, .selects RX10 yX10_negated yX10_negated, .initialized RX10, .methodLink RX0 100 yX1_length, .instanceMethod yX1_length, .selects RX1 yX1_length yX1_length, .methodLink RX0 188 yX10_small, .static yX10_small, .methodLink RX0 185 yX10_absolute, .instanceMethod yX10_absolute, .selects RX10 yX10_absolute yX10_absolute, .methodLink RX0 154 yX1_member, .instanceMethod yX1_member, .selects RX1 yX1_member yX1_member, .methodLink RX0 191 yX1_isMap, .instanceMethod yX1_isMap, .selects RX1 yX1_isMap yX1_isMap, .methodLink RX0 194 yX0_domain, .instanceMethod yX0_domain, .selects RX0 yX0_domain yX0_domain, .initialized RX0, .methodLink RX0 197 yX0_range, .instanceMethod yX0_range, .selects RX0 yX0_range yX0_range, .methodLink RX0 200 yX0_subsets, .instanceMethod yX0_subsets, .selects RX0 yX0_subsets yX0_subsets, .fieldLink RX0 30 "SetHouse$Algebra" "printer" "LSetHouse$Printer;", .methodLink RX0 203 yX0_typeName, .static yX0_typeName, .methodLink RX0 207 yX6_word, .instanceMethod yX6_word, .selects RX6 yX6_word yX6_word, .initialized RX6, .methodLink RX0 213 yX6_print, .instanceMethod yX6_print, .selects RX6 yX6_print yX6_print, .methodLink RX0 217 yX6_madeString, .instanceMethod yX6_madeString, .selects RX6 yX6_madeString yX6_madeString, .methodLink RX0 221 yX0_charOf, .instanceMethod yX0_charOf, .selects RX0 yX0_charOf yX0_charOf, .methodLink RX0 224 yX0_codeOf, .instanceMethod yX0_codeOf, .selects RX0 yX0_codeOf yX0_codeOf, .constant RX0 56 (-268435455), .methodLink RX0 227 yX0_reversed, .instanceMethod yX0_reversed, .selects RX0 yX0_reversed yX0_reversed]
theorem o_f_X0_unary_good : o_f_X0_unary.all goodWord = true := by decide +kernel
def p_f_X0_unary : List Cond := o_f_X0_unary ++ ((.code yX1_kind cX1_kind 2 (some .int) :: p_y_X1_kind) ++ ((.code yX10_negated cX10_negated 2 (some .int) :: p_y_X10_negated) ++ ((.code yX1_length cX1_length 2 (some .int) :: p_y_X1_length) ++ ((.code yX10_small cX10_small 1 (some .int) :: p_y_X10_small) ++ ((.code yX10_absolute cX10_absolute 2 (some .int) :: p_y_X10_absolute) ++ ((.code yX1_member cX1_member 3 (some .int) :: p_y_X1_member) ++ ((.code yX1_isMap cX1_isMap 2 (some .boolean) :: p_y_X1_isMap) ++ ((.code yX0_domain cX0_domain 5 (some .int) :: p_y_X0_domain) ++ ((.code yX0_range cX0_range 4 (some .int) :: p_y_X0_range) ++ ((.code yX0_subsets cX0_subsets 8 (some .int) :: p_y_X0_subsets) ++ (w_f_X0_typeName ++ ((.code yX6_word cX6_word 2 (some .int) :: p_f_X6_word__ek2) ++ ((.code yX6_word cX6_word 2 (some .int) :: p_f_X6_word__ek4) ++ ((.code yX6_word cX6_word 2 (some .int) :: p_f_X6_word__ek6) ++ ((.code yX6_word cX6_word 2 (some .int) :: p_f_X6_word__ek8) ++ ((.code yX6_word cX6_word 2 (some .int) :: p_f_X6_word__ek10) ++ ((.code yX6_word cX6_word 2 (some .int) :: p_f_X6_word__ek12) ++ ((.code yX6_word cX6_word 2 (some .int) :: p_f_X6_word__ek14) ++ ((.code yX6_print cX6_print 2 none :: p_f_X6_print) ++ ((.code yX6_madeString cX6_madeString 1 (some .int) :: p_y_X6_madeString) ++ ((.code yX0_charOf cX0_charOf 3 (some .int) :: p_y_X0_charOf) ++ ((.code yX0_codeOf cX0_codeOf 2 (some .int) :: p_y_X0_codeOf) ++ ((.code yX0_reversed cX0_reversed 5 (some .int) :: p_y_X0_reversed) ++ [])))))))))))))))))))))))
theorem p_f_X0_unary_good : p_f_X0_unary.all goodWord = true := nb_all2 o_f_X0_unary_good (nb_all2 (nb_allc (by decide +kernel) p_y_X1_kind_good) (nb_all2 (nb_allc (by decide +kernel) p_y_X10_negated_good) (nb_all2 (nb_allc (by decide +kernel) p_y_X1_length_good) (nb_all2 (nb_allc (by decide +kernel) p_y_X10_small_good) (nb_all2 (nb_allc (by decide +kernel) p_y_X10_absolute_good) (nb_all2 (nb_allc (by decide +kernel) p_y_X1_member_good) (nb_all2 (nb_allc (by decide +kernel) p_y_X1_isMap_good) (nb_all2 (nb_allc (by decide +kernel) p_y_X0_domain_good) (nb_all2 (nb_allc (by decide +kernel) p_y_X0_range_good) (nb_all2 (nb_allc (by decide +kernel) p_y_X0_subsets_good) (nb_all2 (by decide +kernel) (nb_all2 (nb_allc (by decide +kernel) p_f_X6_word__ek2_good) (nb_all2 (nb_allc (by decide +kernel) p_f_X6_word__ek4_good) (nb_all2 (nb_allc (by decide +kernel) p_f_X6_word__ek6_good) (nb_all2 (nb_allc (by decide +kernel) p_f_X6_word__ek8_good) (nb_all2 (nb_allc (by decide +kernel) p_f_X6_word__ek10_good) (nb_all2 (nb_allc (by decide +kernel) p_f_X6_word__ek12_good) (nb_all2 (nb_allc (by decide +kernel) p_f_X6_word__ek14_good) (nb_all2 (nb_allc (by decide +kernel) p_f_X6_print_good) (nb_all2 (nb_allc (by decide +kernel) p_y_X6_madeString_good) (nb_all2 (nb_allc (by decide +kernel) p_y_X0_charOf_good) (nb_all2 (nb_allc (by decide +kernel) p_y_X0_codeOf_good) (nb_all2 (nb_allc (by decide +kernel) p_y_X0_reversed_good) rfl)))))))))))))))))))))))
def w_f_X0_unary : List Cond := .code yX0_unary cX0_unary 4 (some .int) :: (p_f_X0_unary ++ fC)
theorem w_f_X0_unary_good : w_f_X0_unary.all goodWord = true := nb_allc (by decide +kernel) (nb_all2 p_f_X0_unary_good fC_good)
theorem in_f_X0_unary_X0 : ∀ w ∈ wsX00, w ∈ w_f_X0_unary := fun _ h => List.mem_cons_of_mem _ (List.mem_append_right _ (List.mem_append_left _ h))
theorem hd_f_X0_unary : yX0_unary.cls = RX0 ∧ yX0_unary.cls ≠ "java/lang/invoke/MethodHandle" ∧ yX0_unary.cls ≠ "java/lang/invoke/VarHandle" ∧ (parseMethodDescriptor yX0_unary.desc).map (fun d => d.parameters.length) = some 2 := by decide +kernel
theorem gg_f_X0_unary_X6_print : GoodIn w_f_X0_unary w_f_X6_print := goodIn_sub (fun w h => (List.mem_cons.mp h).elim (fun e => (List.mem_cons_of_mem _ (List.mem_append_left _ (List.mem_append_right _ (List.mem_append_right _ (List.mem_append_right _ (List.mem_append_right _ (List.mem_append_right _ (List.mem_append_right _ (List.mem_append_right _ (List.mem_append_right _ (List.mem_append_right _ (List.mem_append_right _ (List.mem_append_right _ (List.mem_append_right _ (List.mem_append_right _ (List.mem_append_right _ (List.mem_append_right _ (List.mem_append_right _ (List.mem_append_right _ (List.mem_append_right _ (List.mem_append_right _ (List.mem_append_left _ (List.mem_cons.mpr (Or.inl e))))))))))))))))))))))))) (fun h => (List.mem_append.mp h).elim (fun h => (List.mem_cons_of_mem _ (List.mem_append_left _ (List.mem_append_right _ (List.mem_append_right _ (List.mem_append_right _ (List.mem_append_right _ (List.mem_append_right _ (List.mem_append_right _ (List.mem_append_right _ (List.mem_append_right _ (List.mem_append_right _ (List.mem_append_right _ (List.mem_append_right _ (List.mem_append_right _ (List.mem_append_right _ (List.mem_append_right _ (List.mem_append_right _ (List.mem_append_right _ (List.mem_append_right _ (List.mem_append_right _ (List.mem_append_right _ (List.mem_append_left _ (List.mem_cons_of_mem _ h)))))))))))))))))))))))) (fun h => List.mem_cons_of_mem _ (List.mem_append_right _ h)))) w_f_X6_print_good
theorem g_f_X0_unary_X6_print_V213 : GoodIn w_f_X0_unary (wsV RX0 213 RX6 yX6_print w_f_X6_print) := goodIn_app (nb_g4 (List.mem_cons_of_mem _ (List.mem_append_left _ (List.mem_append_left _ (List.mem_of_getElem? (i := 41) rfl)))) (List.mem_cons_of_mem _ (List.mem_append_left _ (List.mem_append_left _ (List.mem_of_getElem? (i := 42) rfl)))) (List.mem_cons_of_mem _ (List.mem_append_left _ (List.mem_append_left _ (List.mem_of_getElem? (i := 43) rfl)))) (List.mem_cons_of_mem _ (List.mem_append_left _ (List.mem_append_left _ (List.mem_of_getElem? (i := 40) rfl)))) (by decide +kernel)) gg_f_X0_unary_X6_print
theorem gg_f_X0_unary_X6_word__ek10 : GoodIn w_f_X0_unary w_f_X6_word__ek10 := goodIn_sub (fun w h => (List.mem_cons.mp h).elim (fun e => (List.mem_cons_of_mem _ (List.mem_append_left _ (List.mem_append_right _ (List.mem_append_right _ (List.mem_append_right _ (List.mem_append_right _ (List.mem_append_right _ (List.mem_append_right _ (List.mem_append_right _ (List.mem_append_right _ (List.mem_append_right _ (List.mem_append_right _ (List.mem_append_right _ (List.mem_append_right _ (List.mem_append_right _ (List.mem_append_right _ (List.mem_append_right _ (List.mem_append_right _ (List.mem_append_left _ (List.mem_cons.mpr (Or.inl e)))))))))))))))))))))) (fun h => (List.mem_append.mp h).elim (fun h => (List.mem_cons_of_mem _ (List.mem_append_left _ (List.mem_append_right _ (List.mem_append_right _ (List.mem_append_right _ (List.mem_append_right _ (List.mem_append_right _ (List.mem_append_right _ (List.mem_append_right _ (List.mem_append_right _ (List.mem_append_right _ (List.mem_append_right _ (List.mem_append_right _ (List.mem_append_right _ (List.mem_append_right _ (List.mem_append_right _ (List.mem_append_right _ (List.mem_append_right _ (List.mem_append_left _ (List.mem_cons_of_mem _ h))))))))))))))))))))) (fun h => List.mem_cons_of_mem _ (List.mem_append_right _ h)))) w_f_X6_word__ek10_good
theorem g_f_X0_unary_X6_word__ek10_V207 : GoodIn w_f_X0_unary (wsV RX0 207 RX6 yX6_word w_f_X6_word__ek10) := goodIn_app (nb_g4 (List.mem_cons_of_mem _ (List.mem_append_left _ (List.mem_append_left _ (List.mem_of_getElem? (i := 37) rfl)))) (List.mem_cons_of_mem _ (List.mem_append_left _ (List.mem_append_left _ (List.mem_of_getElem? (i := 38) rfl)))) (List.mem_cons_of_mem _ (List.mem_append_left _ (List.mem_append_left _ (List.mem_of_getElem? (i := 39) rfl)))) (List.mem_cons_of_mem _ (List.mem_append_left _ (List.mem_append_left _ (List.mem_of_getElem? (i := 40) rfl)))) (by decide +kernel)) gg_f_X0_unary_X6_word__ek10
theorem gg_f_X0_unary_X6_word__ek12 : GoodIn w_f_X0_unary w_f_X6_word__ek12 := goodIn_sub (fun w h => (List.mem_cons.mp h).elim (fun e => (List.mem_cons_of_mem _ (List.mem_append_left _ (List.mem_append_right _ (List.mem_append_right _ (List.mem_append_right _ (List.mem_append_right _ (List.mem_append_right _ (List.mem_append_right _ (List.mem_append_right _ (List.mem_append_right _ (List.mem_append_right _ (List.mem_append_right _ (List.mem_append_right _ (List.mem_append_right _ (List.mem_append_right _ (List.mem_append_right _ (List.mem_append_right _ (List.mem_append_right _ (List.mem_append_right _ (List.mem_append_left _ (List.mem_cons.mpr (Or.inl e))))))))))))))))))))))) (fun h => (List.mem_append.mp h).elim (fun h => (List.mem_cons_of_mem _ (List.mem_append_left _ (List.mem_append_right _ (List.mem_append_right _ (List.mem_append_right _ (List.mem_append_right _ (List.mem_append_right _ (List.mem_append_right _ (List.mem_append_right _ (List.mem_append_right _ (List.mem_append_right _ (List.mem_append_right _ (List.mem_append_right _ (List.mem_append_right _ (List.mem_append_right _ (List.mem_append_right _ (List.mem_append_right _ (List.mem_append_right _ (List.mem_append_right _ (List.mem_append_left _ (List.mem_cons_of_mem _ h)))))))))))))))))))))) (fun h => List.mem_cons_of_mem _ (List.mem_append_right _ h)))) w_f_X6_word__ek12_good
theorem g_f_X0_unary_X6_word__ek12_V207 : GoodIn w_f_X0_unary (wsV RX0 207 RX6 yX6_word w_f_X6_word__ek12) := goodIn_app (nb_g4 (List.mem_cons_of_mem _ (List.mem_append_left _ (List.mem_append_left _ (List.mem_of_getElem? (i := 37) rfl)))) (List.mem_cons_of_mem _ (List.mem_append_left _ (List.mem_append_left _ (List.mem_of_getElem? (i := 38) rfl)))) (List.mem_cons_of_mem _ (List.mem_append_left _ (List.mem_append_left _ (List.mem_of_getElem? (i := 39) rfl)))) (List.mem_cons_of_mem _ (List.mem_append_left _ (List.mem_append_left _ (List.mem_of_getElem? (i := 40) rfl)))) (by decide +kernel)) gg_f_X0_unary_X6_word__ek12
theorem gg_f_X0_unary_X6_word__ek14 : GoodIn w_f_X0_unary w_f_X6_word__ek14 := goodIn_sub (fun w h => (List.mem_cons.mp h).elim (fun e => (List.mem_cons_of_mem _ (List.mem_append_left _ (List.mem_append_right _ (List.mem_append_right _ (List.mem_append_right _ (List.mem_append_right _ (List.mem_append_right _ (List.mem_append_right _ (List.mem_append_right _ (List.mem_append_right _ (List.mem_append_right _ (List.mem_append_right _ (List.mem_append_right _ (List.mem_append_right _ (List.mem_append_right _ (List.mem_append_right _ (List.mem_append_right _ (List.mem_append_right _ (List.mem_append_right _ (List.mem_append_right _ (List.mem_append_left _ (List.mem_cons.mpr (Or.inl e)))))))))))))))))))))))) (fun h => (List.mem_append.mp h).elim (fun h => (List.mem_cons_of_mem _ (List.mem_append_left _ (List.mem_append_right _ (List.mem_append_right _ (List.mem_append_right _ (List.mem_append_right _ (List.mem_append_right _ (List.mem_append_right _ (List.mem_append_right _ (List.mem_append_right _ (List.mem_append_right _ (List.mem_append_right _ (List.mem_append_right _ (List.mem_append_right _ (List.mem_append_right _ (List.mem_append_right _ (List.mem_append_right _ (List.mem_append_right _ (List.mem_append_right _ (List.mem_append_right _ (List.mem_append_left _ (List.mem_cons_of_mem _ h))))))))))))))))))))))) (fun h => List.mem_cons_of_mem _ (List.mem_append_right _ h)))) w_f_X6_word__ek14_good
theorem g_f_X0_unary_X6_word__ek14_V207 : GoodIn w_f_X0_unary (wsV RX0 207 RX6 yX6_word w_f_X6_word__ek14) := goodIn_app (nb_g4 (List.mem_cons_of_mem _ (List.mem_append_left _ (List.mem_append_left _ (List.mem_of_getElem? (i := 37) rfl)))) (List.mem_cons_of_mem _ (List.mem_append_left _ (List.mem_append_left _ (List.mem_of_getElem? (i := 38) rfl)))) (List.mem_cons_of_mem _ (List.mem_append_left _ (List.mem_append_left _ (List.mem_of_getElem? (i := 39) rfl)))) (List.mem_cons_of_mem _ (List.mem_append_left _ (List.mem_append_left _ (List.mem_of_getElem? (i := 40) rfl)))) (by decide +kernel)) gg_f_X0_unary_X6_word__ek14
theorem gg_f_X0_unary_X6_word__ek2 : GoodIn w_f_X0_unary w_f_X6_word__ek2 := goodIn_sub (fun w h => (List.mem_cons.mp h).elim (fun e => (List.mem_cons_of_mem _ (List.mem_append_left _ (List.mem_append_right _ (List.mem_append_right _ (List.mem_append_right _ (List.mem_append_right _ (List.mem_append_right _ (List.mem_append_right _ (List.mem_append_right _ (List.mem_append_right _ (List.mem_append_right _ (List.mem_append_right _ (List.mem_append_right _ (List.mem_append_right _ (List.mem_append_left _ (List.mem_cons.mpr (Or.inl e)))))))))))))))))) (fun h => (List.mem_append.mp h).elim (fun h => (List.mem_cons_of_mem _ (List.mem_append_left _ (List.mem_append_right _ (List.mem_append_right _ (List.mem_append_right _ (List.mem_append_right _ (List.mem_append_right _ (List.mem_append_right _ (List.mem_append_right _ (List.mem_append_right _ (List.mem_append_right _ (List.mem_append_right _ (List.mem_append_right _ (List.mem_append_right _ (List.mem_append_left _ (List.mem_cons_of_mem _ h))))))))))))))))) (fun h => List.mem_cons_of_mem _ (List.mem_append_right _ h)))) w_f_X6_word__ek2_good
theorem g_f_X0_unary_X6_word__ek2_V207 : GoodIn w_f_X0_unary (wsV RX0 207 RX6 yX6_word w_f_X6_word__ek2) := goodIn_app (nb_g4 (List.mem_cons_of_mem _ (List.mem_append_left _ (List.mem_append_left _ (List.mem_of_getElem? (i := 37) rfl)))) (List.mem_cons_of_mem _ (List.mem_append_left _ (List.mem_append_left _ (List.mem_of_getElem? (i := 38) rfl)))) (List.mem_cons_of_mem _ (List.mem_append_left _ (List.mem_append_left _ (List.mem_of_getElem? (i := 39) rfl)))) (List.mem_cons_of_mem _ (List.mem_append_left _ (List.mem_append_left _ (List.mem_of_getElem? (i := 40) rfl)))) (by decide +kernel)) gg_f_X0_unary_X6_word__ek2
theorem gg_f_X0_unary_X6_word__ek4 : GoodIn w_f_X0_unary w_f_X6_word__ek4 := goodIn_sub (fun w h => (List.mem_cons.mp h).elim (fun e => (List.mem_cons_of_mem _ (List.mem_append_left _ (List.mem_append_right _ (List.mem_append_right _ (List.mem_append_right _ (List.mem_append_right _ (List.mem_append_right _ (List.mem_append_right _ (List.mem_append_right _ (List.mem_append_right _ (List.mem_append_right _ (List.mem_append_right _ (List.mem_append_right _ (List.mem_append_right _ (List.mem_append_right _ (List.mem_append_left _ (List.mem_cons.mpr (Or.inl e))))))))))))))))))) (fun h => (List.mem_append.mp h).elim (fun h => (List.mem_cons_of_mem _ (List.mem_append_left _ (List.mem_append_right _ (List.mem_append_right _ (List.mem_append_right _ (List.mem_append_right _ (List.mem_append_right _ (List.mem_append_right _ (List.mem_append_right _ (List.mem_append_right _ (List.mem_append_right _ (List.mem_append_right _ (List.mem_append_right _ (List.mem_append_right _ (List.mem_append_right _ (List.mem_append_left _ (List.mem_cons_of_mem _ h)))))))))))))))))) (fun h => List.mem_cons_of_mem _ (List.mem_append_right _ h)))) w_f_X6_word__ek4_good
theorem g_f_X0_unary_X6_word__ek4_V207 : GoodIn w_f_X0_unary (wsV RX0 207 RX6 yX6_word w_f_X6_word__ek4) := goodIn_app (nb_g4 (List.mem_cons_of_mem _ (List.mem_append_left _ (List.mem_append_left _ (List.mem_of_getElem? (i := 37) rfl)))) (List.mem_cons_of_mem _ (List.mem_append_left _ (List.mem_append_left _ (List.mem_of_getElem? (i := 38) rfl)))) (List.mem_cons_of_mem _ (List.mem_append_left _ (List.mem_append_left _ (List.mem_of_getElem? (i := 39) rfl)))) (List.mem_cons_of_mem _ (List.mem_append_left _ (List.mem_append_left _ (List.mem_of_getElem? (i := 40) rfl)))) (by decide +kernel)) gg_f_X0_unary_X6_word__ek4
theorem gg_f_X0_unary_X6_word__ek6 : GoodIn w_f_X0_unary w_f_X6_word__ek6 := goodIn_sub (fun w h => (List.mem_cons.mp h).elim (fun e => (List.mem_cons_of_mem _ (List.mem_append_left _ (List.mem_append_right _ (List.mem_append_right _ (List.mem_append_right _ (List.mem_append_right _ (List.mem_append_right _ (List.mem_append_right _ (List.mem_append_right _ (List.mem_append_right _ (List.mem_append_right _ (List.mem_append_right _ (List.mem_append_right _ (List.mem_append_right _ (List.mem_append_right _ (List.mem_append_right _ (List.mem_append_left _ (List.mem_cons.mpr (Or.inl e)))))))))))))))))))) (fun h => (List.mem_append.mp h).elim (fun h => (List.mem_cons_of_mem _ (List.mem_append_left _ (List.mem_append_right _ (List.mem_append_right _ (List.mem_append_right _ (List.mem_append_right _ (List.mem_append_right _ (List.mem_append_right _ (List.mem_append_right _ (List.mem_append_right _ (List.mem_append_right _ (List.mem_append_right _ (List.mem_append_right _ (List.mem_append_right _ (List.mem_append_right _ (List.mem_append_right _ (List.mem_append_left _ (List.mem_cons_of_mem _ h))))))))))))))))))) (fun h => List.mem_cons_of_mem _ (List.mem_append_right _ h)))) w_f_X6_word__ek6_good
theorem g_f_X0_unary_X6_word__ek6_V207 : GoodIn w_f_X0_unary (wsV RX0 207 RX6 yX6_word w_f_X6_word__ek6) := goodIn_app (nb_g4 (List.mem_cons_of_mem _ (List.mem_append_left _ (List.mem_append_left _ (List.mem_of_getElem? (i := 37) rfl)))) (List.mem_cons_of_mem _ (List.mem_append_left _ (List.mem_append_left _ (List.mem_of_getElem? (i := 38) rfl)))) (List.mem_cons_of_mem _ (List.mem_append_left _ (List.mem_append_left _ (List.mem_of_getElem? (i := 39) rfl)))) (List.mem_cons_of_mem _ (List.mem_append_left _ (List.mem_append_left _ (List.mem_of_getElem? (i := 40) rfl)))) (by decide +kernel)) gg_f_X0_unary_X6_word__ek6
theorem gg_f_X0_unary_X6_word__ek8 : GoodIn w_f_X0_unary w_f_X6_word__ek8 := goodIn_sub (fun w h => (List.mem_cons.mp h).elim (fun e => (List.mem_cons_of_mem _ (List.mem_append_left _ (List.mem_append_right _ (List.mem_append_right _ (List.mem_append_right _ (List.mem_append_right _ (List.mem_append_right _ (List.mem_append_right _ (List.mem_append_right _ (List.mem_append_right _ (List.mem_append_right _ (List.mem_append_right _ (List.mem_append_right _ (List.mem_append_right _ (List.mem_append_right _ (List.mem_append_right _ (List.mem_append_right _ (List.mem_append_left _ (List.mem_cons.mpr (Or.inl e))))))))))))))))))))) (fun h => (List.mem_append.mp h).elim (fun h => (List.mem_cons_of_mem _ (List.mem_append_left _ (List.mem_append_right _ (List.mem_append_right _ (List.mem_append_right _ (List.mem_append_right _ (List.mem_append_right _ (List.mem_append_right _ (List.mem_append_right _ (List.mem_append_right _ (List.mem_append_right _ (List.mem_append_right _ (List.mem_append_right _ (List.mem_append_right _ (List.mem_append_right _ (List.mem_append_right _ (List.mem_append_right _ (List.mem_append_left _ (List.mem_cons_of_mem _ h)))))))))))))))))))) (fun h => List.mem_cons_of_mem _ (List.mem_append_right _ h)))) w_f_X6_word__ek8_good
theorem g_f_X0_unary_X6_word__ek8_V207 : GoodIn w_f_X0_unary (wsV RX0 207 RX6 yX6_word w_f_X6_word__ek8) := goodIn_app (nb_g4 (List.mem_cons_of_mem _ (List.mem_append_left _ (List.mem_append_left _ (List.mem_of_getElem? (i := 37) rfl)))) (List.mem_cons_of_mem _ (List.mem_append_left _ (List.mem_append_left _ (List.mem_of_getElem? (i := 38) rfl)))) (List.mem_cons_of_mem _ (List.mem_append_left _ (List.mem_append_left _ (List.mem_of_getElem? (i := 39) rfl)))) (List.mem_cons_of_mem _ (List.mem_append_left _ (List.mem_append_left _ (List.mem_of_getElem? (i := 40) rfl)))) (by decide +kernel)) gg_f_X0_unary_X6_word__ek8
theorem gg_f_X0_unary_X0_charOf : GoodIn w_f_X0_unary w_y_X0_charOf := goodIn_sub (fun w h => (List.mem_cons.mp h).elim (fun e => (List.mem_cons_of_mem _ (List.mem_append_left _ (List.mem_append_right _ (List.mem_append_right _ (List.mem_append_right _ (List.mem_append_right _ (List.mem_append_right _ (List.mem_append_right _ (List.mem_append_right _ (List.mem_append_right _ (List.mem_append_right _ (List.mem_append_right _ (List.mem_append_right _ (List.mem_append_right _ (List.mem_append_right _ (List.mem_append_right _ (List.mem_append_right _ (List.mem_append_right _ (List.mem_append_right _ (List.mem_append_right _ (List.mem_append_right _ (List.mem_append_right _ (List.mem_append_right _ (List.mem_append_left _ (List.mem_cons.mpr (Or.inl e))))))))))))))))))))))))))) (fun h => (List.mem_append.mp h).elim (fun h => (List.mem_cons_of_mem _ (List.mem_append_left _ (List.mem_append_right _ (List.mem_append_right _ (List.mem_append_right _ (List.mem_append_right _ (List.mem_append_right _ (List.mem_append_right _ (List.mem_append_right _ (List.mem_append_right _ (List.mem_append_right _ (List.mem_append_right _ (List.mem_append_right _ (List.mem_append_right _ (List.mem_append_right _ (List.mem_append_right _ (List.mem_append_right _ (List.mem_append_right _ (List.mem_append_right _ (List.mem_append_right _ (List.mem_append_right _ (List.mem_append_right _ (List.mem_append_right _ (List.mem_append_left _ (List.mem_cons_of_mem _ h)))))))))))))))))))))))))) (fun h => List.mem_cons_of_mem _ (List.mem_append_right _ h)))) w_y_X0_charOf_good
theorem g_y_X0_unary_X0_charOf_V221 : GoodIn w_f_X0_unary (wsV RX0 221 RX0 yX0_charOf w_y_X0_charOf) := goodIn_app (nb_g4 (List.mem_cons_of_mem _ (List.mem_append_left _ (List.mem_append_left _ (List.mem_of_getElem? (i := 47) rfl)))) (List.mem_cons_of_mem _ (List.mem_append_left _ (List.mem_append_left _ (List.mem_of_getElem? (i := 48) rfl)))) (List.mem_cons_of_mem _ (List.mem_append_left _ (List.mem_append_left _ (List.mem_of_getElem? (i := 49) rfl)))) (List.mem_cons_of_mem _ (List.mem_append_left _ (List.mem_append_left _ (List.mem_of_getElem? (i := 27) rfl)))) (by decide +kernel)) gg_f_X0_unary_X0_charOf
theorem gg_f_X0_unary_X0_codeOf : GoodIn w_f_X0_unary w_y_X0_codeOf := goodIn_sub (fun w h => (List.mem_cons.mp h).elim (fun e => (List.mem_cons_of_mem _ (List.mem_append_left _ (List.mem_append_right _ (List.mem_append_right _ (List.mem_append_right _ (List.mem_append_right _ (List.mem_append_right _ (List.mem_append_right _ (List.mem_append_right _ (List.mem_append_right _ (List.mem_append_right _ (List.mem_append_right _ (List.mem_append_right _ (List.mem_append_right _ (List.mem_append_right _ (List.mem_append_right _ (List.mem_append_right _ (List.mem_append_right _ (List.mem_append_right _ (List.mem_append_right _ (List.mem_append_right _ (List.mem_append_right _ (List.mem_append_right _ (List.mem_append_right _ (List.mem_append_left _ (List.mem_cons.mpr (Or.inl e)))))))))))))))))))))))))))) (fun h => (List.mem_append.mp h).elim (fun h => (List.mem_cons_of_mem _ (List.mem_append_left _ (List.mem_append_right _ (List.mem_append_right _ (List.mem_append_right _ (List.mem_append_right _ (List.mem_append_right _ (List.mem_append_right _ (List.mem_append_right _ (List.mem_append_right _ (List.mem_append_right _ (List.mem_append_right _ (List.mem_append_right _ (List.mem_append_right _ (List.mem_append_right _ (List.mem_append_right _ (List.mem_append_right _ (List.mem_append_right _ (List.mem_append_right _ (List.mem_append_right _ (List.mem_append_right _ (List.mem_append_right _ (List.mem_append_right _ (List.mem_append_right _ (List.mem_append_left _ (List.mem_cons_of_mem _ h))))))))))))))))))))))))))) (fun h => List.mem_cons_of_mem _ (List.mem_append_right _ h)))) w_y_X0_codeOf_good
theorem g_y_X0_unary_X0_codeOf_V224 : GoodIn w_f_X0_unary (wsV RX0 224 RX0 yX0_codeOf w_y_X0_codeOf) := goodIn_app (nb_g4 (List.mem_cons_of_mem _ (List.mem_append_left _ (List.mem_append_left _ (List.mem_of_getElem? (i := 50) rfl)))) (List.mem_cons_of_mem _ (List.mem_append_left _ (List.mem_append_left _ (List.mem_of_getElem? (i := 51) rfl)))) (List.mem_cons_of_mem _ (List.mem_append_left _ (List.mem_append_left _ (List.mem_of_getElem? (i := 52) rfl)))) (List.mem_cons_of_mem _ (List.mem_append_left _ (List.mem_append_left _ (List.mem_of_getElem? (i := 27) rfl)))) (by decide +kernel)) gg_f_X0_unary_X0_codeOf
theorem gg_f_X0_unary_X0_domain : GoodIn w_f_X0_unary w_y_X0_domain := goodIn_sub (fun w h => (List.mem_cons.mp h).elim (fun e => (List.mem_cons_of_mem _ (List.mem_append_left _ (List.mem_append_right _ (List.mem_append_right _ (List.mem_append_right _ (List.mem_append_right _ (List.mem_append_right _ (List.mem_append_right _ (List.mem_append_right _ (List.mem_append_right _ (List.mem_append_left _ (List.mem_cons.mpr (Or.inl e)))))))))))))) (fun h => (List.mem_append.mp h).elim (fun h => (List.mem_cons_of_mem _ (List.mem_append_left _ (List.mem_append_right _ (List.mem_append_right _ (List.mem_append_right _ (List.mem_append_right _ (List.mem_append_right _ (List.mem_append_right _ (List.mem_append_right _ (List.mem_append_right _ (List.mem_append_left _ (List.mem_cons_of_mem _ h))))))))))))) (fun h => List.mem_cons_of_mem _ (List.mem_append_right _ h)))) w_y_X0_domain_good
theorem g_y_X0_unary_X0_domain_V194 : GoodIn w_f_X0_unary (wsV RX0 194 RX0 yX0_domain w_y_X0_domain) := goodIn_app (nb_g4 (List.mem_cons_of_mem _ (List.mem_append_left _ (List.mem_append_left _ (List.mem_of_getElem? (i := 24) rfl)))) (List.mem_cons_of_mem _ (List.mem_append_left _ (List.mem_append_left _ (List.mem_of_getElem? (i := 25) rfl)))) (List.mem_cons_of_mem _ (List.mem_append_left _ (List.mem_append_left _ (List.mem_of_getElem? (i := 26) rfl)))) (List.mem_cons_of_mem _ (List.mem_append_left _ (List.mem_append_left _ (List.mem_of_getElem? (i := 27) rfl)))) (by decide +kernel)) gg_f_X0_unary_X0_domain
theorem gg_f_X0_unary_X0_range : GoodIn w_f_X0_unary w_y_X0_range := goodIn_sub (fun w h => (List.mem_cons.mp h).elim (fun e => (List.mem_cons_of_mem _ (List.mem_append_left _ (List.mem_append_right _ (List.mem_append_right _ (List.mem_append_right _ (List.mem_append_right _ (List.mem_append_right _ (List.mem_append_right _ (List.mem_append_right _ (List.mem_append_right _ (List.mem_append_right _ (List.mem_append_left _ (List.mem_cons.mpr (Or.inl e))))))))))))))) (fun h => (List.mem_append.mp h).elim (fun h => (List.mem_cons_of_mem _ (List.mem_append_left _ (List.mem_append_right _ (List.mem_append_right _ (List.mem_append_right _ (List.mem_append_right _ (List.mem_append_right _ (List.mem_append_right _ (List.mem_append_right _ (List.mem_append_right _ (List.mem_append_right _ (List.mem_append_left _ (List.mem_cons_of_mem _ h)))))))))))))) (fun h => List.mem_cons_of_mem _ (List.mem_append_right _ h)))) w_y_X0_range_good
theorem g_y_X0_unary_X0_range_V197 : GoodIn w_f_X0_unary (wsV RX0 197 RX0 yX0_range w_y_X0_range) := goodIn_app (nb_g4 (List.mem_cons_of_mem _ (List.mem_append_left _ (List.mem_append_left _ (List.mem_of_getElem? (i := 28) rfl)))) (List.mem_cons_of_mem _ (List.mem_append_left _ (List.mem_append_left _ (List.mem_of_getElem? (i := 29) rfl)))) (List.mem_cons_of_mem _ (List.mem_append_left _ (List.mem_append_left _ (List.mem_of_getElem? (i := 30) rfl)))) (List.mem_cons_of_mem _ (List.mem_append_left _ (List.mem_append_left _ (List.mem_of_getElem? (i := 27) rfl)))) (by decide +kernel)) gg_f_X0_unary_X0_range
theorem gg_f_X0_unary_X0_reversed : GoodIn w_f_X0_unary w_y_X0_reversed := goodIn_sub (fun w h => (List.mem_cons.mp h).elim (fun e => (List.mem_cons_of_mem _ (List.mem_append_left _ (List.mem_append_right _ (List.mem_append_right _ (List.mem_append_right _ (List.mem_append_right _ (List.mem_append_right _ (List.mem_append_right _ (List.mem_append_right _ (List.mem_append_right _ (List.mem_append_right _ (List.mem_append_right _ (List.mem_append_right _ (List.mem_append_right _ (List.mem_append_right _ (List.mem_append_right _ (List.mem_append_right _ (List.mem_append_right _ (List.mem_append_right _ (List.mem_append_right _ (List.mem_append_right _ (List.mem_append_right _ (List.mem_append_right _ (List.mem_append_right _ (List.mem_append_right _ (List.mem_append_left _ (List.mem_cons.mpr (Or.inl e))))))))))))))))))))))))))))) (fun h => (List.mem_append.mp h).elim (fun h => (List.mem_cons_of_mem _ (List.mem_append_left _ (List.mem_append_right _ (List.mem_append_right _ (List.mem_append_right _ (List.mem_append_right _ (List.mem_append_right _ (List.mem_append_right _ (List.mem_append_right _ (List.mem_append_right _ (List.mem_append_right _ (List.mem_append_right _ (List.mem_append_right _ (List.mem_append_right _ (List.mem_append_right _ (List.mem_append_right _ (List.mem_append_right _ (List.mem_append_right _ (List.mem_append_right _ (List.mem_append_right _ (List.mem_append_right _ (List.mem_append_right _ (List.mem_append_right _ (List.mem_append_right _ (List.mem_append_right _ (List.mem_append_left _ (List.mem_cons_of_mem _ h)))))))))))))))))))))))))))) (fun h => List.mem_cons_of_mem _ (List.mem_append_right _ h)))) w_y_X0_reversed_good
theorem g_y_X0_unary_X0_reversed_V227 : GoodIn w_f_X0_unary (wsV RX0 227 RX0 yX0_reversed w_y_X0_reversed) := goodIn_app (nb_g4 (List.mem_cons_of_mem _ (List.mem_append_left _ (List.mem_append_left _ (List.mem_of_getElem? (i := 54) rfl)))) (List.mem_cons_of_mem _ (List.mem_append_left _ (List.mem_append_left _ (List.mem_of_getElem? (i := 55) rfl)))) (List.mem_cons_of_mem _ (List.mem_append_left _ (List.mem_append_left _ (List.mem_of_getElem? (i := 56) rfl)))) (List.mem_cons_of_mem _ (List.mem_append_left _ (List.mem_append_left _ (List.mem_of_getElem? (i := 27) rfl)))) (by decide +kernel)) gg_f_X0_unary_X0_reversed
theorem gg_f_X0_unary_X0_subsets : GoodIn w_f_X0_unary w_y_X0_subsets := goodIn_sub (fun w h => (List.mem_cons.mp h).elim (fun e => (List.mem_cons_of_mem _ (List.mem_append_left _ (List.mem_append_right _ (List.mem_append_right _ (List.mem_append_right _ (List.mem_append_right _ (List.mem_append_right _ (List.mem_append_right _ (List.mem_append_right _ (List.mem_append_right _ (List.mem_append_right _ (List.mem_append_right _ (List.mem_append_left _ (List.mem_cons.mpr (Or.inl e)))))))))))))))) (fun h => (List.mem_append.mp h).elim (fun h => (List.mem_cons_of_mem _ (List.mem_append_left _ (List.mem_append_right _ (List.mem_append_right _ (List.mem_append_right _ (List.mem_append_right _ (List.mem_append_right _ (List.mem_append_right _ (List.mem_append_right _ (List.mem_append_right _ (List.mem_append_right _ (List.mem_append_right _ (List.mem_append_left _ (List.mem_cons_of_mem _ h))))))))))))))) (fun h => List.mem_cons_of_mem _ (List.mem_append_right _ h)))) w_y_X0_subsets_good
theorem g_y_X0_unary_X0_subsets_V200 : GoodIn w_f_X0_unary (wsV RX0 200 RX0 yX0_subsets w_y_X0_subsets) := goodIn_app (nb_g4 (List.mem_cons_of_mem _ (List.mem_append_left _ (List.mem_append_left _ (List.mem_of_getElem? (i := 31) rfl)))) (List.mem_cons_of_mem _ (List.mem_append_left _ (List.mem_append_left _ (List.mem_of_getElem? (i := 32) rfl)))) (List.mem_cons_of_mem _ (List.mem_append_left _ (List.mem_append_left _ (List.mem_of_getElem? (i := 33) rfl)))) (List.mem_cons_of_mem _ (List.mem_append_left _ (List.mem_append_left _ (List.mem_of_getElem? (i := 27) rfl)))) (by decide +kernel)) gg_f_X0_unary_X0_subsets
theorem gg_f_X0_unary_X10_absolute : GoodIn w_f_X0_unary w_y_X10_absolute := goodIn_sub (fun w h => (List.mem_cons.mp h).elim (fun e => (List.mem_cons_of_mem _ (List.mem_append_left _ (List.mem_append_right _ (List.mem_append_right _ (List.mem_append_right _ (List.mem_append_right _ (List.mem_append_right _ (List.mem_append_left _ (List.mem_cons.mpr (Or.inl e))))))))))) (fun h => (List.mem_append.mp h).elim (fun h => (List.mem_cons_of_mem _ (List.mem_append_left _ (List.mem_append_right _ (List.mem_append_right _ (List.mem_append_right _ (List.mem_append_right _ (List.mem_append_right _ (List.mem_append_left _ (List.mem_cons_of_mem _ h)))))))))) (fun h => List.mem_cons_of_mem _ (List.mem_append_right _ h)))) w_y_X10_absolute_good
theorem g_y_X0_unary_X10_absolute_V185 : GoodIn w_f_X0_unary (wsV RX0 185 RX10 yX10_absolute w_y_X10_absolute) := goodIn_app (nb_g4 (List.mem_cons_of_mem _ (List.mem_append_left _ (List.mem_append_left _ (List.mem_of_getElem? (i := 15) rfl)))) (List.mem_cons_of_mem _ (List.mem_append_left _ (List.mem_append_left _ (List.mem_of_getElem? (i := 16) rfl)))) (List.mem_cons_of_mem _ (List.mem_append_left _ (List.mem_append_left _ (List.mem_of_getElem? (i := 17) rfl)))) (List.mem_cons_of_mem _ (List.mem_append_left _ (List.mem_append_left _ (List.mem_of_getElem? (i := 9) rfl)))) (by decide +kernel)) gg_f_X0_unary_X10_absolute
theorem gg_f_X0_unary_X10_negated : GoodIn w_f_X0_unary w_y_X10_negated := goodIn_sub (fun w h => (List.mem_cons.mp h).elim (fun e => (List.mem_cons_of_mem _ (List.mem_append_left _ (List.mem_append_right _ (List.mem_append_right _ (List.mem_append_left _ (List.mem_cons.mpr (Or.inl e)))))))) (fun h => (List.mem_append.mp h).elim (fun h => (List.mem_cons_of_mem _ (List.mem_append_left _ (List.mem_append_right _ (List.mem_append_right _ (List.mem_append_left _ (List.mem_cons_of_mem _ h))))))) (fun h => List.mem_cons_of_mem _ (List.mem_append_right _ h)))) w_y_X10_negated_good
theorem g_y_X0_unary_X10_negated_V182 : GoodIn w_f_X0_unary (wsV RX0 182 RX10 yX10_negated w_y_X10_negated) := goodIn_app (nb_g4 (List.mem_cons_of_mem _ (List.mem_append_left _ (List.mem_append_left _ (List.mem_of_getElem? (i := 6) rfl)))) (List.mem_cons_of_mem _ (List.mem_append_left _ (List.mem_append_left _ (List.mem_of_getElem? (i := 7) rfl)))) (List.mem_cons_of_mem _ (List.mem_append_left _ (List.mem_append_left _ (List.mem_of_getElem? (i := 8) rfl)))) (List.mem_cons_of_mem _ (List.mem_append_left _ (List.mem_append_left _ (List.mem_of_getElem? (i := 9) rfl)))) (by decide +kernel)) gg_f_X0_unary_X10_negated
theorem gg_f_X0_unary_X10_small : GoodIn w_f_X0_unary w_y_X10_small := goodIn_sub (fun w h => (List.mem_cons.mp h).elim (fun e => (List.mem_cons_of_mem _ (List.mem_append_left _ (List.mem_append_right _ (List.mem_append_right _ (List.mem_append_right _ (List.mem_append_right _ (List.mem_append_left _ (List.mem_cons.mpr (Or.inl e)))))))))) (fun h => (List.mem_append.mp h).elim (fun h => (List.mem_cons_of_mem _ (List.mem_append_left _ (List.mem_append_right _ (List.mem_append_right _ (List.mem_append_right _ (List.mem_append_right _ (List.mem_append_left _ (List.mem_cons_of_mem _ h))))))))) (fun h => List.mem_cons_of_mem _ (List.mem_append_right _ h)))) w_y_X10_small_good
theorem g_y_X0_unary_X10_small_S188 : GoodIn w_f_X0_unary (va_wsS RX0 188 yX10_small w_y_X10_small) := goodIn_app (nb_g3 (List.mem_cons_of_mem _ (List.mem_append_left _ (List.mem_append_left _ (List.mem_of_getElem? (i := 13) rfl)))) (List.mem_cons_of_mem _ (List.mem_append_left _ (List.mem_append_left _ (List.mem_of_getElem? (i := 14) rfl)))) (List.mem_cons_of_mem _ (List.mem_append_left _ (List.mem_append_left _ (List.mem_of_getElem? (i := 9) rfl)))) (by decide +kernel)) gg_f_X0_unary_X10_small
theorem gg_f_X0_unary_X1_isMap : GoodIn w_f_X0_unary w_y_X1_isMap := goodIn_sub (fun w h => (List.mem_cons.mp h).elim (fun e => (List.mem_cons_of_mem _ (List.mem_append_left _ (List.mem_append_right _ (List.mem_append_right _ (List.mem_append_right _ (List.mem_append_right _ (List.mem_append_right _ (List.mem_append_right _ (List.mem_append_right _ (List.mem_append_left _ (List.mem_cons.mpr (Or.inl e))))))))))))) (fun h => (List.mem_append.mp h).elim (fun h => (List.mem_cons_of_mem _ (List.mem_append_left _ (List.mem_append_right _ (List.mem_append_right _ (List.mem_append_right _ (List.mem_append_right _ (List.mem_append_right _ (List.mem_append_right _ (List.mem_append_right _ (List.mem_append_left _ (List.mem_cons_of_mem _ h)))))))))))) (fun h => List.mem_cons_of_mem _ (List.mem_append_right _ h)))) w_y_X1_isMap_good
theorem g_y_X0_unary_X1_isMap_V191 : GoodIn w_f_X0_unary (wsV RX0 191 RX1 yX1_isMap w_y_X1_isMap) := goodIn_app (nb_g4 (List.mem_cons_of_mem _ (List.mem_append_left _ (List.mem_append_left _ (List.mem_of_getElem? (i := 21) rfl)))) (List.mem_cons_of_mem _ (List.mem_append_left _ (List.mem_append_left _ (List.mem_of_getElem? (i := 22) rfl)))) (List.mem_cons_of_mem _ (List.mem_append_left _ (List.mem_append_left _ (List.mem_of_getElem? (i := 23) rfl)))) (List.mem_cons_of_mem _ (List.mem_append_left _ (List.mem_append_left _ (List.mem_of_getElem? (i := 4) rfl)))) (by decide +kernel)) gg_f_X0_unary_X1_isMap
theorem gg_f_X0_unary_X1_kind : GoodIn w_f_X0_unary w_y_X1_kind := goodIn_sub (fun w h => (List.mem_cons.mp h).elim (fun e => (List.mem_cons_of_mem _ (List.mem_append_left _ (List.mem_append_right _ (List.mem_append_left _ (List.mem_cons.mpr (Or.inl e))))))) (fun h => (List.mem_append.mp h).elim (fun h => (List.mem_cons_of_mem _ (List.mem_append_left _ (List.mem_append_right _ (List.mem_append_left _ (List.mem_cons_of_mem _ h)))))) (fun h => List.mem_cons_of_mem _ (List.mem_append_right _ h)))) w_y_X1_kind_good
theorem g_y_X0_unary_X1_kind_V87 : GoodIn w_f_X0_unary (wsV RX0 87 RX1 yX1_kind w_y_X1_kind) := goodIn_app (nb_g4 (List.mem_cons_of_mem _ (List.mem_append_left _ (List.mem_append_left _ (List.mem_of_getElem? (i := 1) rfl)))) (List.mem_cons_of_mem _ (List.mem_append_left _ (List.mem_append_left _ (List.mem_of_getElem? (i := 2) rfl)))) (List.mem_cons_of_mem _ (List.mem_append_left _ (List.mem_append_left _ (List.mem_of_getElem? (i := 3) rfl)))) (List.mem_cons_of_mem _ (List.mem_append_left _ (List.mem_append_left _ (List.mem_of_getElem? (i := 4) rfl)))) (by decide +kernel)) gg_f_X0_unary_X1_kind
theorem gg_f_X0_unary_X1_length : GoodIn w_f_X0_unary w_y_X1_length := goodIn_sub (fun w h => (List.mem_cons.mp h).elim (fun e => (List.mem_cons_of_mem _ (List.mem_append_left _ (List.mem_append_right _ (List.mem_append_right _ (List.mem_append_right _ (List.mem_append_left _ (List.mem_cons.mpr (Or.inl e))))))))) (fun h => (List.mem_append.mp h).elim (fun h => (List.mem_cons_of_mem _ (List.mem_append_left _ (List.mem_append_right _ (List.mem_append_right _ (List.mem_append_right _ (List.mem_append_left _ (List.mem_cons_of_mem _ h)))))))) (fun h => List.mem_cons_of_mem _ (List.mem_append_right _ h)))) w_y_X1_length_good
theorem g_y_X0_unary_X1_length_V100 : GoodIn w_f_X0_unary (wsV RX0 100 RX1 yX1_length w_y_X1_length) := goodIn_app (nb_g4 (List.mem_cons_of_mem _ (List.mem_append_left _ (List.mem_append_left _ (List.mem_of_getElem? (i := 10) rfl)))) (List.mem_cons_of_mem _ (List.mem_append_left _ (List.mem_append_left _ (List.mem_of_getElem? (i := 11) rfl)))) (List.mem_cons_of_mem _ (List.mem_append_left _ (List.mem_append_left _ (List.mem_of_getElem? (i := 12) rfl)))) (List.mem_cons_of_mem _ (List.mem_append_left _ (List.mem_append_left _ (List.mem_of_getElem? (i := 4) rfl)))) (by decide +kernel)) gg_f_X0_unary_X1_length
theorem gg_f_X0_unary_X1_member : GoodIn w_f_X0_unary w_y_X1_member := goodIn_sub (fun w h => (List.mem_cons.mp h).elim (fun e => (List.mem_cons_of_mem _ (List.mem_append_left _ (List.mem_append_right _ (List.mem_append_right _ (List.mem_append_right _ (List.mem_append_right _ (List.mem_append_right _ (List.mem_append_right _ (List.mem_append_left _ (List.mem_cons.mpr (Or.inl e)))))))))))) (fun h => (List.mem_append.mp h).elim (fun h => (List.mem_cons_of_mem _ (List.mem_append_left _ (List.mem_append_right _ (List.mem_append_right _ (List.mem_append_right _ (List.mem_append_right _ (List.mem_append_right _ (List.mem_append_right _ (List.mem_append_left _ (List.mem_cons_of_mem _ h))))))))))) (fun h => List.mem_cons_of_mem _ (List.mem_append_right _ h)))) w_y_X1_member_good
theorem g_y_X0_unary_X1_member_V154 : GoodIn w_f_X0_unary (wsV RX0 154 RX1 yX1_member w_y_X1_member) := goodIn_app (nb_g4 (List.mem_cons_of_mem _ (List.mem_append_left _ (List.mem_append_left _ (List.mem_of_getElem? (i := 18) rfl)))) (List.mem_cons_of_mem _ (List.mem_append_left _ (List.mem_append_left _ (List.mem_of_getElem? (i := 19) rfl)))) (List.mem_cons_of_mem _ (List.mem_append_left _ (List.mem_append_left _ (List.mem_of_getElem? (i := 20) rfl)))) (List.mem_cons_of_mem _ (List.mem_append_left _ (List.mem_append_left _ (List.mem_of_getElem? (i := 4) rfl)))) (by decide +kernel)) gg_f_X0_unary_X1_member
theorem gg_f_X0_unary_X6_madeString : GoodIn w_f_X0_unary w_y_X6_madeString := goodIn_sub (fun w h => (List.mem_cons.mp h).elim (fun e => (List.mem_cons_of_mem _ (List.mem_append_left _ (List.mem_append_right _ (List.mem_append_right _ (List.mem_append_right _ (List.mem_append_right _ (List.mem_append_right _ (List.mem_append_right _ (List.mem_append_right _ (List.mem_append_right _ (List.mem_append_right _ (List.mem_append_right _ (List.mem_append_right _ (List.mem_append_right _ (List.mem_append_right _ (List.mem_append_right _ (List.mem_append_right _ (List.mem_append_right _ (List.mem_append_right _ (List.mem_append_right _ (List.mem_append_right _ (List.mem_append_right _ (List.mem_append_left _ (List.mem_cons.mpr (Or.inl e)))))))))))))))))))))))))) (fun h => (List.mem_append.mp h).elim (fun h => (List.mem_cons_of_mem _ (List.mem_append_left _ (List.mem_append_right _ (List.mem_append_right _ (List.mem_append_right _ (List.mem_append_right _ (List.mem_append_right _ (List.mem_append_right _ (List.mem_append_right _ (List.mem_append_right _ (List.mem_append_right _ (List.mem_append_right _ (List.mem_append_right _ (List.mem_append_right _ (List.mem_append_right _ (List.mem_append_right _ (List.mem_append_right _ (List.mem_append_right _ (List.mem_append_right _ (List.mem_append_right _ (List.mem_append_right _ (List.mem_append_right _ (List.mem_append_left _ (List.mem_cons_of_mem _ h))))))))))))))))))))))))) (fun h => List.mem_cons_of_mem _ (List.mem_append_right _ h)))) w_y_X6_madeString_good
theorem g_y_X0_unary_X6_madeString_V217 : GoodIn w_f_X0_unary (wsV RX0 217 RX6 yX6_madeString w_y_X6_madeString) := goodIn_app (nb_g4 (List.mem_cons_of_mem _ (List.mem_append_left _ (List.mem_append_left _ (List.mem_of_getElem? (i := 44) rfl)))) (List.mem_cons_of_mem _ (List.mem_append_left _ (List.mem_append_left _ (List.mem_of_getElem? (i := 45) rfl)))) (List.mem_cons_of_mem _ (List.mem_append_left _ (List.mem_append_left _ (List.mem_of_getElem? (i := 46) rfl)))) (List.mem_cons_of_mem _ (List.mem_append_left _ (List.mem_append_left _ (List.mem_of_getElem? (i := 40) rfl)))) (by decide +kernel)) gg_f_X0_unary_X6_madeString
theorem gg_f_X0_unary_w_f_X0_typeName : GoodIn w_f_X0_unary w_f_X0_typeName := goodIn_sub (fun w h => (List.mem_cons_of_mem _ (List.mem_append_left _ (List.mem_append_right _ (List.mem_append_right _ (List.mem_append_right _ (List.mem_append_right _ (List.mem_append_right _ (List.mem_append_right _ (List.mem_append_right _ (List.mem_append_right _ (List.mem_append_right _ (List.mem_append_right _ (List.mem_append_right _ (List.mem_append_left _ h))))))))))))))) (by decide +kernel)
theorem g_f_X0_unary_typeName_203 : GoodIn w_f_X0_unary (va_wsS RX0 203 yX0_typeName w_f_X0_typeName) := goodIn_app (nb_g3 (List.mem_cons_of_mem _ (List.mem_append_left _ (List.mem_append_left _ (List.mem_of_getElem? (i := 35) rfl)))) (List.mem_cons_of_mem _ (List.mem_append_left _ (List.mem_append_left _ (List.mem_of_getElem? (i := 36) rfl)))) (List.mem_cons_of_mem _ (List.mem_append_left _ (List.mem_append_left _ (List.mem_of_getElem? (i := 27) rfl)))) (by decide +kernel)) gg_f_X0_unary_w_f_X0_typeName
set_option maxHeartbeats 40000000 in
set_option maxRecDepth 100000 in
theorem c_f_X0_unary (l : Launch) (hl0 : l.stackTraces = false) (dC : Nat → ClassId) (dI : Nat → Nat → Nat) (cy : Nat → ClassId) (ek a : Nat → Nat) (k0 : Nat) (L0 : LV) (σ0 : CS) (r0 : RS) (h0 : f_X0_unary k0 0 L0 σ0 = some r0) (z : Nat → Nat) (sz : Nat) : vx_Met l yX0_unary w_f_X0_unary ({ frames := 87, cells := r0.2.2.1, slots := r0.2.2.2, locals := 2152 }) (va_Pc [.ref (a 14), .int (L0.1 1), .int (L0.1 2)] (nInF (dC, dI) cy ek sz (vC cy a z σ0))) (xI dC dI cy a (va_A (vC cy a z σ0) sz) [] z r0) (xX dC dI cy a (va_A (vC cy a z σ0) sz) [] z r0) r0.2.2.1 r0.2.2.2 (va_A (vC cy a z σ0) sz) := by
  refine vx_ofW (cc := cX0_unary) (maxL := 4) (ret := (some .int)) (by decide) rfl ?_
  intro p e s m args below meth c s₁ B hml hno hv
  obtain ⟨rfl, ⟨⟨hsz, hP, hK, hD0, hG⟩, hE⟩, hT⟩ := hv
  have hx := B.exec
  have hb := B.bytes
  have hr := B.returns
  have hts := atoms_spec (ws := w_f_X0_unary) B.pre
  have hown : s.vm.findClass RX0 = some m.cls := findClass_of_methodNamed B.named
  have hlocks := B.notSynchronized
  subst hsz
  have hD := hD0.self (sz := s.heap.size)
  generalize hAe : va_A (vC cy a z σ0) s.heap.size = A at hD hE hT ⊢
  have hA : ∀ q : Nat, s.heap.size ≤ q → A q := fun q h => by rw [← hAe]; exact Or.inr h
  have hS : va_S A s.heap s.heap [] := va_S.rf
  have hl := lv_entry ([.ref (a 14), .int (L0.1 1), .int (L0.1 2)]) (n := 4) (Nat.le_of_ble_eq_true rfl)
  rw [lg_entry_eq]
  generalize (lg_sl ([.ref (a 14), .int (L0.1 1), .int (L0.1 2)]) ++ List.replicate (4 - (lg_sl ([.ref (a 14), .int (L0.1 1), .int (L0.1 2)])).length) Slot.unset).toArray = ls at hl ⊢
  have hl : lv_has ls 4 [(0, .ref (a 14)), (1, .int (L0.1 1)), (2, .int (L0.1 2))] := hl
  generalize hmc : r0.2.2.1 = mc
  generalize hms : r0.2.2.2 = ms
  have blk : ∀ k : Nat, (bX p l e (headSpec w_f_X0_unary ({ frames := 87, cells := mc, slots := ms, locals := 2152 })).room s m #[.ref (a 14), .int (L0.1 1), .int (L0.1 2)] below meth c dC dI cy a A (fun r => vx_MQ below (xI dC dI cy a A [] z r) (xX dC dI cy a A [] z r) #[.ref (a 14), .int (L0.1 1), .int (L0.1 2)] s mc ms A) [] z mc ms 4 (f_X0_unary k 0) (fun z L => [(0, .ref (a 14)), (1, .int (L.1 1)), (2, .int (L.1 2))]) 0 (fun z L => [])) ∧ (bX p l e (headSpec w_f_X0_unary ({ frames := 87, cells := mc, slots := ms, locals := 2152 })).room s m #[.ref (a 14), .int (L0.1 1), .int (L0.1 2)] below meth c dC dI cy a A (fun r => vx_MQ below (xI dC dI cy a A [] z r) (xX dC dI cy a A [] z r) #[.ref (a 14), .int (L0.1 1), .int (L0.1 2)] s mc ms A) [] z mc ms 4 (f_X0_unary k 1) (fun z L => [(0, .ref (a 14)), (2, .int (L.1 2)), (3, .int (L.1 3))]) 68 (fun z L => [])) ∧ (bX p l e (headSpec w_f_X0_unary ({ frames := 87, cells := mc, slots := ms, locals := 2152 })).room s m #[.ref (a 14), .int (L0.1 1), .int (L0.1 2)] below meth c dC dI cy a A (fun r => vx_MQ below (xI dC dI cy a A [] z r) (xX dC dI cy a A [] z r) #[.ref (a 14), .int (L0.1 1), .int (L0.1 2)] s mc ms A) [] z mc ms 4 (f_X0_unary k 2) (fun z L => [(0, .ref (a 14)), (2, .int (L.1 2)), (3, .int (L.1 3))]) 106 (fun z L => [])) ∧ (bX p l e (headSpec w_f_X0_unary ({ frames := 87, cells := mc, slots := ms, locals := 2152 })).room s m #[.ref (a 14), .int (L0.1 1), .int (L0.1 2)] below meth c dC dI cy a A (fun r => vx_MQ below (xI dC dI cy a A [] z r) (xX dC dI cy a A [] z r) #[.ref (a 14), .int (L0.1 1), .int (L0.1 2)] s mc ms A) [] z mc ms 4 (f_X0_unary k 3) (fun z L => [(0, .ref (a 14)), (2, .int (L.1 2)), (3, .int (L.1 3))]) 87 (fun z L => [])) ∧ (bX p l e (headSpec w_f_X0_unary ({ frames := 87, cells := mc, slots := ms, locals := 2152 })).room s m #[.ref (a 14), .int (L0.1 1), .int (L0.1 2)] below meth c dC dI cy a A (fun r => vx_MQ below (xI dC dI cy a A [] z r) (xX dC dI cy a A [] z r) #[.ref (a 14), .int (L0.1 1), .int (L0.1 2)] s mc ms A) [] z mc ms 4 (f_X0_unary k 4) (fun z L => [(0, .ref (a 14)), (2, .int (L.1 2)), (3, .int (L.1 3))]) 128 (fun z L => [])) ∧ (bX p l e (headSpec w_f_X0_unary ({ frames := 87, cells := mc, slots := ms, locals := 2152 })).room s m #[.ref (a 14), .int (L0.1 1), .int (L0.1 2)] below meth c dC dI cy a A (fun r => vx_MQ below (xI dC dI cy a A [] z r) (xX dC dI cy a A [] z r) #[.ref (a 14), .int (L0.1 1), .int (L0.1 2)] s mc ms A) [] z mc ms 4 (f_X0_unary k 5) (fun z L => [(0, .ref (a 14)), (2, .int (L.1 2))]) 149 (fun z L => [])) ∧ (bX p l e (headSpec w_f_X0_unary ({ frames := 87, cells := mc, slots := ms, locals := 2152 })).room s m #[.ref (a 14), .int (L0.1 1), .int (L0.1 2)] below meth c dC dI cy a A (fun r => vx_MQ below (xI dC dI cy a A [] z r) (xX dC dI cy a A [] z r) #[.ref (a 14), .int (L0.1 1), .int (L0.1 2)] s mc ms A) [] z mc ms 4 (f_X0_unary k 6) (fun z L => [(0, .ref (a 14)), (2, .int (L.1 2))]) 171 (fun z L => [])) ∧ (bX p l e (headSpec w_f_X0_unary ({ frames := 87, cells := mc, slots := ms, locals := 2152 })).room s m #[.ref (a 14), .int (L0.1 1), .int (L0.1 2)] below meth c dC dI cy a A (fun r => vx_MQ below (xI dC dI cy a A [] z r) (xX dC dI cy a A [] z r) #[.ref (a 14), .int (L0.1 1), .int (L0.1 2)] s mc ms A) [] z mc ms 4 (f_X0_unary k 7) (fun z L => [(0, .ref (a 14)), (2, .int (L.1 2)), (3, .int (L.1 3))]) 193 (fun z L => [])) ∧ (bX p l e (headSpec w_f_X0_unary ({ frames := 87, cells := mc, slots := ms, locals := 2152 })).room s m #[.ref (a 14), .int (L0.1 1), .int (L0.1 2)] below meth c dC dI cy a A (fun r => vx_MQ below (xI dC dI cy a A [] z r) (xX dC dI cy a A [] z r) #[.ref (a 14), .int (L0.1 1), .int (L0.1 2)] s mc ms A) [] z mc ms 4 (f_X0_unary k 8) (fun z L => [(0, .ref (a 14)), (3, .int (L.1 3))]) 210 (fun z L => [])) ∧ (bX p l e (headSpec w_f_X0_unary ({ frames := 87, cells := mc, slots := ms, locals := 2152 })).room s m #[.ref (a 14), .int (L0.1 1), .int (L0.1 2)] below meth c dC dI cy a A (fun r => vx_MQ below (xI dC dI cy a A [] z r) (xX dC dI cy a A [] z r) #[.ref (a 14), .int (L0.1 1), .int (L0.1 2)] s mc ms A) [] z mc ms 4 (f_X0_unary k 9) (fun z L => [(0, .ref (a 14)), (2, .int (L.1 2))]) 222 (fun z L => [])) ∧ (bX p l e (headSpec w_f_X0_unary ({ frames := 87, cells := mc, slots := ms, locals := 2152 })).room s m #[.ref (a 14), .int (L0.1 1), .int (L0.1 2)] below meth c dC dI cy a A (fun r => vx_MQ below (xI dC dI cy a A [] z r) (xX dC dI cy a A [] z r) #[.ref (a 14), .int (L0.1 1), .int (L0.1 2)] s mc ms A) [] z mc ms 4 (f_X0_unary k 10) (fun z L => [(0, .ref (a 14)), (2, .int (L.1 2)), (3, .int (L.1 3))]) 238 (fun z L => [])) ∧ (bX p l e (headSpec w_f_X0_unary ({ frames := 87, cells := mc, slots := ms, locals := 2152 })).room s m #[.ref (a 14), .int (L0.1 1), .int (L0.1 2)] below meth c dC dI cy a A (fun r => vx_MQ below (xI dC dI cy a A [] z r) (xX dC dI cy a A [] z r) #[.ref (a 14), .int (L0.1 1), .int (L0.1 2)] s mc ms A) [] z mc ms 4 (f_X0_unary k 11) (fun z L => [(0, .ref (a 14)), (2, .int (L.1 2)), (3, .int (L.1 3))]) 254 (fun z L => [])) ∧ (bX p l e (headSpec w_f_X0_unary ({ frames := 87, cells := mc, slots := ms, locals := 2152 })).room s m #[.ref (a 14), .int (L0.1 1), .int (L0.1 2)] below meth c dC dI cy a A (fun r => vx_MQ below (xI dC dI cy a A [] z r) (xX dC dI cy a A [] z r) #[.ref (a 14), .int (L0.1 1), .int (L0.1 2)] s mc ms A) [] z mc ms 4 (f_X0_unary k 12) (fun z L => [(0, .ref (a 14)), (2, .int (L.1 2)), (3, .int (L.1 3))]) 270 (fun z L => [])) ∧ (bX p l e (headSpec w_f_X0_unary ({ frames := 87, cells := mc, slots := ms, locals := 2152 })).room s m #[.ref (a 14), .int (L0.1 1), .int (L0.1 2)] below meth c dC dI cy a A (fun r => vx_MQ below (xI dC dI cy a A [] z r) (xX dC dI cy a A [] z r) #[.ref (a 14), .int (L0.1 1), .int (L0.1 2)] s mc ms A) [] z mc ms 4 (f_X0_unary k 13) (fun z L => []) 84 (fun z L => [])) ∧ (bX p l e (headSpec w_f_X0_unary ({ frames := 87, cells := mc, slots := ms, locals := 2152 })).room s m #[.ref (a 14), .int (L0.1 1), .int (L0.1 2)] below meth c dC dI cy a A (fun r => vx_MQ below (xI dC dI cy a A [] z r) (xX dC dI cy a A [] z r) #[.ref (a 14), .int (L0.1 1), .int (L0.1 2)] s mc ms A) [] z mc ms 4 (f_X0_unary k 14) (fun z L => []) 86 (fun z L => [.int (L.1 100)])) ∧ (bX p l e (headSpec w_f_X0_unary ({ frames := 87, cells := mc, slots := ms, locals := 2152 })).room s m #[.ref (a 14), .int (L0.1 1), .int (L0.1 2)] below meth c dC dI cy a A (fun r => vx_MQ below (xI dC dI cy a A [] z r) (xX dC dI cy a A [] z r) #[.ref (a 14), .int (L0.1 1), .int (L0.1 2)] s mc ms A) [] z mc ms 4 (f_X0_unary k 15) (fun z L => []) 125 (fun z L => [])) ∧ (bX p l e (headSpec w_f_X0_unary ({ frames := 87, cells := mc, slots := ms, locals := 2152 })).room s m #[.ref (a 14), .int (L0.1 1), .int (L0.1 2)] below meth c dC dI cy a A (fun r => vx_MQ below (xI dC dI cy a A [] z r) (xX dC dI cy a A [] z r) #[.ref (a 14), .int (L0.1 1), .int (L0.1 2)] s mc ms A) [] z mc ms 4 (f_X0_unary k 16) (fun z L => []) 127 (fun z L => [.int (L.1 100)])) ∧ (bX p l e (headSpec w_f_X0_unary ({ frames := 87, cells := mc, slots := ms, locals := 2152 })).room s m #[.ref (a 14), .int (L0.1 1), .int (L0.1 2)] below meth c dC dI cy a A (fun r => vx_MQ below (xI dC dI cy a A [] z r) (xX dC dI cy a A [] z r) #[.ref (a 14), .int (L0.1 1), .int (L0.1 2)] s mc ms A) [] z mc ms 4 (f_X0_unary k 17) (fun z L => []) 103 (fun z L => [])) ∧ (bX p l e (headSpec w_f_X0_unary ({ frames := 87, cells := mc, slots := ms, locals := 2152 })).room s m #[.ref (a 14), .int (L0.1 1), .int (L0.1 2)] below meth c dC dI cy a A (fun r => vx_MQ below (xI dC dI cy a A [] z r) (xX dC dI cy a A [] z r) #[.ref (a 14), .int (L0.1 1), .int (L0.1 2)] s mc ms A) [] z mc ms 4 (f_X0_unary k 18) (fun z L => []) 105 (fun z L => [.int (L.1 100)])) ∧ (bX p l e (headSpec w_f_X0_unary ({ frames := 87, cells := mc, slots := ms, locals := 2152 })).room s m #[.ref (a 14), .int (L0.1 1), .int (L0.1 2)] below meth c dC dI cy a A (fun r => vx_MQ below (xI dC dI cy a A [] z r) (xX dC dI cy a A [] z r) #[.ref (a 14), .int (L0.1 1), .int (L0.1 2)] s mc ms A) [] z mc ms 4 (f_X0_unary k 19) (fun z L => []) 146 (fun z L => [])) ∧ (bX p l e (headSpec w_f_X0_unary ({ frames := 87, cells := mc, slots := ms, locals := 2152 })).room s m #[.ref (a 14), .int (L0.1 1), .int (L0.1 2)] below meth c dC dI cy a A (fun r => vx_MQ below (xI dC dI cy a A [] z r) (xX dC dI cy a A [] z r) #[.ref (a 14), .int (L0.1 1), .int (L0.1 2)] s mc ms A) [] z mc ms 4 (f_X0_unary k 20) (fun z L => []) 148 (fun z L => [.int (L.1 100)])) ∧ (bX p l e (headSpec w_f_X0_unary ({ frames := 87, cells := mc, slots := ms, locals := 2152 })).room s m #[.ref (a 14), .int (L0.1 1), .int (L0.1 2)] below meth c dC dI cy a A (fun r => vx_MQ below (xI dC dI cy a A [] z r) (xX dC dI cy a A [] z r) #[.ref (a 14), .int (L0.1 1), .int (L0.1 2)] s mc ms A) [] z mc ms 4 (f_X0_unary k 21) (fun z L => []) 168 (fun z L => [])) ∧ (bX p l e (headSpec w_f_X0_unary ({ frames := 87, cells := mc, slots := ms, locals := 2152 })).room s m #[.ref (a 14), .int (L0.1 1), .int (L0.1 2)] below meth c dC dI cy a A (fun r => vx_MQ below (xI dC dI cy a A [] z r) (xX dC dI cy a A [] z r) #[.ref (a 14), .int (L0.1 1), .int (L0.1 2)] s mc ms A) [] z mc ms 4 (f_X0_unary k 22) (fun z L => []) 170 (fun z L => [.int (L.1 100)])) ∧ (bX p l e (headSpec w_f_X0_unary ({ frames := 87, cells := mc, slots := ms, locals := 2152 })).room s m #[.ref (a 14), .int (L0.1 1), .int (L0.1 2)] below meth c dC dI cy a A (fun r => vx_MQ below (xI dC dI cy a A [] z r) (xX dC dI cy a A [] z r) #[.ref (a 14), .int (L0.1 1), .int (L0.1 2)] s mc ms A) [] z mc ms 4 (f_X0_unary k 23) (fun z L => []) 190 (fun z L => [])) ∧ (bX p l e (headSpec w_f_X0_unary ({ frames := 87, cells := mc, slots := ms, locals := 2152 })).room s m #[.ref (a 14), .int (L0.1 1), .int (L0.1 2)] below meth c dC dI cy a A (fun r => vx_MQ below (xI dC dI cy a A [] z r) (xX dC dI cy a A [] z r) #[.ref (a 14), .int (L0.1 1), .int (L0.1 2)] s mc ms A) [] z mc ms 4 (f_X0_unary k 24) (fun z L => []) 192 (fun z L => [.int (L.1 100)])) ∧ (bX p l e (headSpec w_f_X0_unary ({ frames := 87, cells := mc, slots := ms, locals := 2152 })).room s m #[.ref (a 14), .int (L0.1 1), .int (L0.1 2)] below meth c dC dI cy a A (fun r => vx_MQ below (xI dC dI cy a A [] z r) (xX dC dI cy a A [] z r) #[.ref (a 14), .int (L0.1 1), .int (L0.1 2)] s mc ms A) [] z mc ms 4 (f_X0_unary k 25) (fun z L => []) 207 (fun z L => [])) ∧ (bX p l e (headSpec w_f_X0_unary ({ frames := 87, cells := mc, slots := ms, locals := 2152 })).room s m #[.ref (a 14), .int (L0.1 1), .int (L0.1 2)] below meth c dC dI cy a A (fun r => vx_MQ below (xI dC dI cy a A [] z r) (xX dC dI cy a A [] z r) #[.ref (a 14), .int (L0.1 1), .int (L0.1 2)] s mc ms A) [] z mc ms 4 (f_X0_unary k 26) (fun z L => []) 209 (fun z L => [.int (L.1 100)])) ∧ (bX p l e (headSpec w_f_X0_unary ({ frames := 87, cells := mc, slots := ms, locals := 2152 })).room s m #[.ref (a 14), .int (L0.1 1), .int (L0.1 2)] below meth c dC dI cy a A (fun r => vx_MQ below (xI dC dI cy a A [] z r) (xX dC dI cy a A [] z r) #[.ref (a 14), .int (L0.1 1), .int (L0.1 2)] s mc ms A) [] z mc ms 4 (f_X0_unary k 27) (fun z L => []) 251 (fun z L => [])) ∧ (bX p l e (headSpec w_f_X0_unary ({ frames := 87, cells := mc, slots := ms, locals := 2152 })).room s m #[.ref (a 14), .int (L0.1 1), .int (L0.1 2)] below meth c dC dI cy a A (fun r => vx_MQ below (xI dC dI cy a A [] z r) (xX dC dI cy a A [] z r) #[.ref (a 14), .int (L0.1 1), .int (L0.1 2)] s mc ms A) [] z mc ms 4 (f_X0_unary k 28) (fun z L => []) 253 (fun z L => [.int (L.1 100)])) ∧ (bX p l e (headSpec w_f_X0_unary ({ frames := 87, cells := mc, slots := ms, locals := 2152 })).room s m #[.ref (a 14), .int (L0.1 1), .int (L0.1 2)] below meth c dC dI cy a A (fun r => vx_MQ below (xI dC dI cy a A [] z r) (xX dC dI cy a A [] z r) #[.ref (a 14), .int (L0.1 1), .int (L0.1 2)] s mc ms A) [] z mc ms 4 (f_X0_unary k 29) (fun z L => []) 267 (fun z L => [])) ∧ (bX p l e (headSpec w_f_X0_unary ({ frames := 87, cells := mc, slots := ms, locals := 2152 })).room s m #[.ref (a 14), .int (L0.1 1), .int (L0.1 2)] below meth c dC dI cy a A (fun r => vx_MQ below (xI dC dI cy a A [] z r) (xX dC dI cy a A [] z r) #[.ref (a 14), .int (L0.1 1), .int (L0.1 2)] s mc ms A) [] z mc ms 4 (f_X0_unary k 30) (fun z L => []) 269 (fun z L => [.int (L.1 100)])) ∧ (bX p l e (headSpec w_f_X0_unary ({ frames := 87, cells := mc, slots := ms, locals := 2152 })).room s m #[.ref (a 14), .int (L0.1 1), .int (L0.1 2)] below meth c dC dI cy a A (fun r => vx_MQ below (xI dC dI cy a A [] z r) (xX dC dI cy a A [] z r) #[.ref (a 14), .int (L0.1 1), .int (L0.1 2)] s mc ms A) [] z mc ms 4 (f_X0_unary k 31) (fun z L => [(0, .ref (a 14)), (2, .int (L.1 2)), (3, .int (L.1 3))]) 280 (fun z L => [])) ∧ (bX p l e (headSpec w_f_X0_unary ({ frames := 87, cells := mc, slots := ms, locals := 2152 })).room s m #[.ref (a 14), .int (L0.1 1), .int (L0.1 2)] below meth c dC dI cy a A (fun r => vx_MQ below (xI dC dI cy a A [] z r) (xX dC dI cy a A [] z r) #[.ref (a 14), .int (L0.1 1), .int (L0.1 2)] s mc ms A) [] z mc ms 4 (f_X0_unary k 32) (fun z L => []) 289 (fun z L => [])) ∧ (bX p l e (headSpec w_f_X0_unary ({ frames := 87, cells := mc, slots := ms, locals := 2152 })).room s m #[.ref (a 14), .int (L0.1 1), .int (L0.1 2)] below meth c dC dI cy a A (fun r => vx_MQ below (xI dC dI cy a A [] z r) (xX dC dI cy a A [] z r) #[.ref (a 14), .int (L0.1 1), .int (L0.1 2)] s mc ms A) [] z mc ms 4 (f_X0_unary k 33) (fun z L => []) 291 (fun z L => [.int (L.1 100)])) := by
    intro k
    induction k with
    | zero => exact ⟨fun z c1 c2 L σ r h => (by cases h), fun z c1 c2 L σ r h => (by cases h), fun z c1 c2 L σ r h => (by cases h), fun z c1 c2 L σ r h => (by cases h), fun z c1 c2 L σ r h => (by cases h), fun z c1 c2 L σ r h => (by cases h), fun z c1 c2 L σ r h => (by cases h), fun z c1 c2 L σ r h => (by cases h), fun z c1 c2 L σ r h => (by cases h), fun z c1 c2 L σ r h => (by cases h), fun z c1 c2 L σ r h => (by cases h), fun z c1 c2 L σ r h => (by cases h), fun z c1 c2 L σ r h => (by cases h), fun z c1 c2 L σ r h => (by cases h), fun z c1 c2 L σ r h => (by cases h), fun z c1 c2 L σ r h => (by cases h), fun z c1 c2 L σ r h => (by cases h), fun z c1 c2 L σ r h => (by cases h), fun z c1 c2 L σ r h => (by cases h), fun z c1 c2 L σ r h => (by cases h), fun z c1 c2 L σ r h => (by cases h), fun z c1 c2 L σ r h => (by cases h), fun z c1 c2 L σ r h => (by cases h), fun z c1 c2 L σ r h => (by cases h), fun z c1 c2 L σ r h => (by cases h), fun z c1 c2 L σ r h => (by cases h), fun z c1 c2 L σ r h => (by cases h), fun z c1 c2 L σ r h => (by cases h), fun z c1 c2 L σ r h => (by cases h), fun z c1 c2 L σ r h => (by cases h), fun z c1 c2 L σ r h => (by cases h), fun z c1 c2 L σ r h => (by cases h), fun z c1 c2 L σ r h => (by cases h), fun z c1 c2 L σ r h => (by cases h)⟩
    | succ k ih =>
      refine ⟨?_, ?_, ?_, ?_, ?_, ?_, ?_, ?_, ?_, ?_, ?_, ?_, ?_, ?_, ?_, ?_, ?_, ?_, ?_, ?_, ?_, ?_, ?_, ?_, ?_, ?_, ?_, ?_, ?_, ?_, ?_, ?_, ?_, ?_⟩
      · intro z cells slots L σ r h hzk hc hs H locs ls hP hD hS hl
        rw [f_X0_unary] at h
        refine lv_aload_n hx hb dX0_unary_0 rfl (lv_at hl 0 rfl) ?_
        refine hg_14_0 hx hb hts in_f_X0_unary_X0 hown hK hP (hts _ (List.mem_cons_of_mem _ (List.mem_append_left _ (List.mem_append_left _ (List.mem_of_getElem? (i := 0) rfl))))) dX0_unary_1 ?_
        refine lv_iload_n hx hb dX0_unary_4 rfl (lv_at hl 2 rfl) ?_
        obtain ⟨r1, hc1, h⟩ := op_ex h
        refine kc_i (va_runV (As := [.int (L.1 2)]) (rest := []) ⟨hx, hb, hml, hown, hts⟩ (c_y_X1_kind l dC dI cy a z k (lI lZ 1 ((L.1 2))) σ r1 hc1 H.size) (cwV 1 hts g_y_X0_unary_X1_kind_V87 rfl rfl rfl hd_y_X1_kind ⟨Nat.le_of_ble_eq_true rfl, Nat.le_of_ble_eq_true rfl⟩) ⟨nb_blind, va_recv hK hP (ci := 1) (q0 := 0) rfl rfl, (kb_pre hK hG hP hD)⟩ rfl rfl hl.1 rfl (lv_room (Nat.le_of_ble_eq_true rfl)) dX0_unary_5 ⟨(Nat.le_trans (Nat.le_add_right _ _) (Nat.le_of_eq hc)), (Nat.le_trans (Nat.le_add_right _ _) (Nat.le_of_eq hs))⟩) hA hP hD hS (fun H locs hP hD hS => ?_)
        refine lv_istore_n (lv' := [(3, .int r1.1), (0, .ref (a 14)), (1, .int (L.1 1)), (2, .int (L.1 2))]) hx hb dX0_unary_8 rfl hl (by decide) rfl (fun ls hl => ?_)
        refine lv_iload_n hx hb dX0_unary_9 rfl (lv_at hl 2 rfl) ?_
        by_cases q2 : ((L.1 1)) = (160 : Int32)
        · rw [if_pos q2] at h
          refine lv_tableIn (off := 58) (tgt := 68) hx hb dX0_unary_10 (by rw [q2]; decide) (by rw [q2]; decide) (by rw [q2]; decide) (by decide) ?_
          exact ih.2.1 z _ _ (lI L 3 r1.1) r1.2 _ h hzk hc hs H locs ls hP hD hS (lv_sub hl [1, 3, 0] rfl)
        · rw [if_neg q2] at h
          by_cases q3 : ((L.1 1)) = (161 : Int32)
          · rw [if_pos q3] at h
            refine lv_tableIn (off := 96) (tgt := 106) hx hb dX0_unary_10 (by rw [q3]; decide) (by rw [q3]; decide) (by rw [q3]; decide) (by decide) ?_
            exact ih.2.2.1 z _ _ (lI L 3 r1.1) r1.2 _ h hzk hc hs H locs ls hP hD hS (lv_sub hl [1, 3, 0] rfl)
          · rw [if_neg q3] at h
            by_cases q4 : ((L.1 1)) = (162 : Int32)
            · rw [if_pos q4] at h
              refine lv_tableIn (off := 77) (tgt := 87) hx hb dX0_unary_10 (by rw [q4]; decide) (by rw [q4]; decide) (by rw [q4]; decide) (by decide) ?_
              exact ih.2.2.2.1 z _ _ (lI L 3 r1.1) r1.2 _ h hzk hc hs H locs ls hP hD hS (lv_sub hl [1, 3, 0] rfl)
            · rw [if_neg q4] at h
              by_cases q5 : ((L.1 1)) = (163 : Int32)
              · rw [if_pos q5] at h
                refine lv_tableIn (off := 118) (tgt := 128) hx hb dX0_unary_10 (by rw [q5]; decide) (by rw [q5]; decide) (by rw [q5]; decide) (by decide) ?_
                exact ih.2.2.2.2.1 z _ _ (lI L 3 r1.1) r1.2 _ h hzk hc hs H locs ls hP hD hS (lv_sub hl [1, 3, 0] rfl)
              · rw [if_neg q5] at h
                by_cases q6 : ((L.1 1)) = (164 : Int32)
                · rw [if_pos q6] at h
                  refine lv_tableIn (off := 139) (tgt := 149) hx hb dX0_unary_10 (by rw [q6]; decide) (by rw [q6]; decide) (by rw [q6]; decide) (by decide) ?_
                  exact ih.2.2.2.2.2.1 z _ _ L r1.2 _ h hzk hc hs H locs ls hP hD hS (lv_sub hl [1, 3] rfl)
                · rw [if_neg q6] at h
                  by_cases q7 : ((L.1 1)) = (165 : Int32)
                  · rw [if_pos q7] at h
                    refine lv_tableIn (off := 161) (tgt := 171) hx hb dX0_unary_10 (by rw [q7]; decide) (by rw [q7]; decide) (by rw [q7]; decide) (by decide) ?_
                    exact ih.2.2.2.2.2.2.1 z _ _ L r1.2 _ h hzk hc hs H locs ls hP hD hS (lv_sub hl [1, 3] rfl)
                  · rw [if_neg q7] at h
                    by_cases q8 : ((L.1 1)) = (166 : Int32)
                    · rw [if_pos q8] at h
                      refine lv_tableIn (off := 183) (tgt := 193) hx hb dX0_unary_10 (by rw [q8]; decide) (by rw [q8]; decide) (by rw [q8]; decide) (by decide) ?_
                      exact ih.2.2.2.2.2.2.2.1 z _ _ (lI L 3 r1.1) r1.2 _ h hzk hc hs H locs ls hP hD hS (lv_sub hl [1, 3, 0] rfl)
                    · rw [if_neg q8] at h
                      by_cases q9 : ((L.1 1)) = (167 : Int32)
                      · rw [if_pos q9] at h
                        refine lv_tableIn (off := 200) (tgt := 210) hx hb dX0_unary_10 (by rw [q9]; decide) (by rw [q9]; decide) (by rw [q9]; decide) (by decide) ?_
                        exact ih.2.2.2.2.2.2.2.2.1 z _ _ (lI L 3 r1.1) r1.2 _ h hzk hc hs H locs ls hP hD hS (lv_sub hl [1, 0] rfl)
                      · rw [if_neg q9] at h
                        by_cases q10 : ((L.1 1)) = (168 : Int32)
                        · rw [if_pos q10] at h
                          refine lv_tableIn (off := 212) (tgt := 222) hx hb dX0_unary_10 (by rw [q10]; decide) (by rw [q10]; decide) (by rw [q10]; decide) (by decide) ?_
                          exact ih.2.2.2.2.2.2.2.2.2.1 z _ _ L r1.2 _ h hzk hc hs H locs ls hP hD hS (lv_sub hl [1, 3] rfl)
                        · rw [if_neg q10] at h
                          by_cases q11 : ((L.1 1)) = (169 : Int32)
                          · rw [if_pos q11] at h
                            refine lv_tableIn (off := 228) (tgt := 238) hx hb dX0_unary_10 (by rw [q11]; decide) (by rw [q11]; decide) (by rw [q11]; decide) (by decide) ?_
                            exact ih.2.2.2.2.2.2.2.2.2.2.1 z _ _ (lI L 3 r1.1) r1.2 _ h hzk hc hs H locs ls hP hD hS (lv_sub hl [1, 3, 0] rfl)
                          · rw [if_neg q11] at h
                            by_cases q12 : ((L.1 1)) = (170 : Int32)
                            · rw [if_pos q12] at h
                              refine lv_tableIn (off := 244) (tgt := 254) hx hb dX0_unary_10 (by rw [q12]; decide) (by rw [q12]; decide) (by rw [q12]; decide) (by decide) ?_
                              exact ih.2.2.2.2.2.2.2.2.2.2.2.1 z _ _ (lI L 3 r1.1) r1.2 _ h hzk hc hs H locs ls hP hD hS (lv_sub hl [1, 3, 0] rfl)
                            · rw [if_neg q12] at h
                              have nq2 : ¬ ((L.1 1)).toInt = 160 := nb_ti q2 rfl
                              have nq3 : ¬ ((L.1 1)).toInt = 161 := nb_ti q3 rfl
                              have nq4 : ¬ ((L.1 1)).toInt = 162 := nb_ti q4 rfl
                              have nq5 : ¬ ((L.1 1)).toInt = 163 := nb_ti q5 rfl
                              have nq6 : ¬ ((L.1 1)).toInt = 164 := nb_ti q6 rfl
                              have nq7 : ¬ ((L.1 1)).toInt = 165 := nb_ti q7 rfl
                              have nq8 : ¬ ((L.1 1)).toInt = 166 := nb_ti q8 rfl
                              have nq9 : ¬ ((L.1 1)).toInt = 167 := nb_ti q9 rfl
                              have nq10 : ¬ ((L.1 1)).toInt = 168 := nb_ti q10 rfl
                              have nq11 : ¬ ((L.1 1)).toInt = 169 := nb_ti q11 rfl
                              have nq12 : ¬ ((L.1 1)).toInt = 170 := nb_ti q12 rfl
                              refine lv_tableOut (tgt := 270) hx hb dX0_unary_10 (by omega) (by decide) ?_
                              exact ih.2.2.2.2.2.2.2.2.2.2.2.2.1 z _ _ (lI L 3 r1.1) r1.2 _ h hzk hc hs H locs ls hP hD hS (lv_sub hl [1, 3, 0] rfl)
      · intro z cells slots L σ r h hzk hc hs H locs ls hP hD hS hl
        rw [f_X0_unary] at h
        refine lv_iload_n hx hb dX0_unary_68 rfl (lv_at hl 2 rfl) ?_
        refine lv_iconst (v := 2) hx hb dX0_unary_69 (by decide) ?_
        refine lv_icmp_ne (tgt := 84) hx hb dX0_unary_70 (by decide) (fun c1 => ?_) (fun c1 => ?_)
        · rw [if_neg c1] at h
          exact ih.2.2.2.2.2.2.2.2.2.2.2.2.2.1 z _ _ L σ _ h hzk hc hs H locs ls hP hD hS (lv_sub hl [] rfl)
        · rw [if_pos c1] at h
          refine lv_aload_n hx hb dX0_unary_73 rfl (lv_at hl 0 rfl) ?_
          refine hg_14_1 hx hb hts in_f_X0_unary_X0 hown hK hP (hts _ (List.mem_cons_of_mem _ (List.mem_append_left _ (List.mem_append_left _ (List.mem_of_getElem? (i := 5) rfl))))) dX0_unary_74 ?_
          refine lv_iload_n hx hb dX0_unary_77 rfl (lv_at hl 1 rfl) ?_
          obtain ⟨r2, hc2, h⟩ := op_ex h
          refine kc_i (va_runV (As := [.int (L.1 2)]) (rest := []) ⟨hx, hb, hml, hown, hts⟩ (c_y_X10_negated l dC dI cy a z k (lI lZ 1 ((L.1 2))) σ r2 hc2 H.size) (cwV 1 hts g_y_X0_unary_X10_negated_V182 rfl rfl rfl hd_y_X10_negated ⟨Nat.le_of_ble_eq_true rfl, Nat.le_of_ble_eq_true rfl⟩) ⟨nb_blind, va_recv hK hP (ci := 9) (q0 := 4) rfl rfl, (kb_pre hK hG hP hD)⟩ rfl rfl hl.1 rfl (lv_room (Nat.le_of_ble_eq_true rfl)) dX0_unary_78 ⟨(Nat.le_trans (Nat.le_add_right _ _) (Nat.le_of_eq hc)), (Nat.le_trans (Nat.le_add_right _ _) (Nat.le_of_eq hs))⟩) hA hP hD hS (fun H locs hP hD hS => ?_)
          refine lv_goto (tgt := 86) hx hb dX0_unary_81 (by decide) ?_
          exact ih.2.2.2.2.2.2.2.2.2.2.2.2.2.2.1 z _ _ (lI L 100 r2.1) r2.2 _ h hzk hc hs H locs ls hP hD hS (lv_sub hl [] rfl)
      · intro z cells slots L σ r h hzk hc hs H locs ls hP hD hS hl
        rw [f_X0_unary] at h
        refine lv_iload_n hx hb dX0_unary_106 rfl (lv_at hl 2 rfl) ?_
        refine lv_iconst (v := 4) hx hb dX0_unary_107 (by decide) ?_
        refine lv_icmp_lt (tgt := 125) hx hb dX0_unary_108 (by decide) (fun c1 => ?_) (fun c1 => ?_)
        · rw [if_pos c1] at h
          exact ih.2.2.2.2.2.2.2.2.2.2.2.2.2.2.2.1 z _ _ L σ _ h hzk hc hs H locs ls hP hD hS (lv_sub hl [] rfl)
        · rw [if_neg c1] at h
          refine lv_aload_n hx hb dX0_unary_111 rfl (lv_at hl 0 rfl) ?_
          refine hg_14_0 hx hb hts in_f_X0_unary_X0 hown hK hP (hts _ (List.mem_cons_of_mem _ (List.mem_append_left _ (List.mem_append_left _ (List.mem_of_getElem? (i := 0) rfl))))) dX0_unary_112 ?_
          refine lv_iload_n hx hb dX0_unary_115 rfl (lv_at hl 1 rfl) ?_
          obtain ⟨r2, hc2, h⟩ := op_ex h
          refine kc_i (va_runV (As := [.int (L.1 2)]) (rest := []) ⟨hx, hb, hml, hown, hts⟩ (c_y_X1_length l dC dI cy a z k (lI lZ 1 ((L.1 2))) σ r2 hc2 H.size) (cwV 1 hts g_y_X0_unary_X1_length_V100 rfl rfl rfl hd_y_X1_length ⟨Nat.le_of_ble_eq_true rfl, Nat.le_of_ble_eq_true rfl⟩) ⟨nb_blind, va_recv hK hP (ci := 1) (q0 := 0) rfl rfl, (kb_pre hK hG hP hD)⟩ rfl rfl hl.1 rfl (lv_room (Nat.le_of_ble_eq_true rfl)) dX0_unary_116 ⟨(Nat.le_trans (Nat.le_add_right _ _) (Nat.le_of_eq hc)), (Nat.le_trans (Nat.le_add_right _ _) (Nat.le_of_eq hs))⟩) hA hP hD hS (fun H locs hP hD hS => ?_)
          obtain ⟨r3, hc3, h⟩ := op_ex h
          refine kc_i (va_runS (As := [.int r2.1]) (rest := []) ⟨hx, hb, hml, hown, hts⟩ (c_y_X10_small l dC dI cy a z k (lI lZ 0 r2.1) r2.2 r3 hc3 H.size) (va_cwS 1 hts g_y_X0_unary_X10_small_S188 rfl rfl rfl hd_y_X10_small ⟨Nat.le_of_ble_eq_true rfl, Nat.le_of_ble_eq_true rfl⟩) ⟨nb_blind, (kb_pre hK hG hP hD)⟩ rfl rfl hl.1 rfl (lv_room (Nat.le_of_ble_eq_true rfl)) dX0_unary_119 ⟨(Nat.le_trans (Nat.le_add_right _ _) (Nat.le_of_eq hc)), (Nat.le_trans (Nat.le_add_right _ _) (Nat.le_of_eq hs))⟩) hA hP hD hS (fun H locs hP hD hS => ?_)
          refine lv_goto (tgt := 127) hx hb dX0_unary_122 (by decide) ?_
          exact ih.2.2.2.2.2.2.2.2.2.2.2.2.2.2.2.2.1 z _ _ (lI L 100 r3.1) r3.2 _ h hzk hc hs H locs ls hP hD hS (lv_sub hl [] rfl)
      · intro z cells slots L σ r h hzk hc hs H locs ls hP hD hS hl
        rw [f_X0_unary] at h
        refine lv_iload_n hx hb dX0_unary_87 rfl (lv_at hl 2 rfl) ?_
        refine lv_iconst (v := 2) hx hb dX0_unary_88 (by decide) ?_
        refine lv_icmp_ne (tgt := 103) hx hb dX0_unary_89 (by decide) (fun c1 => ?_) (fun c1 => ?_)
        · rw [if_neg c1] at h
          exact ih.2.2.2.2.2.2.2.2.2.2.2.2.2.2.2.2.2.1 z _ _ L σ _ h hzk hc hs H locs ls hP hD hS (lv_sub hl [] rfl)
        · rw [if_pos c1] at h
          refine lv_aload_n hx hb dX0_unary_92 rfl (lv_at hl 0 rfl) ?_
          refine hg_14_1 hx hb hts in_f_X0_unary_X0 hown hK hP (hts _ (List.mem_cons_of_mem _ (List.mem_append_left _ (List.mem_append_left _ (List.mem_of_getElem? (i := 5) rfl))))) dX0_unary_93 ?_
          refine lv_iload_n hx hb dX0_unary_96 rfl (lv_at hl 1 rfl) ?_
          obtain ⟨r2, hc2, h⟩ := op_ex h
          refine kc_i (va_runV (As := [.int (L.1 2)]) (rest := []) ⟨hx, hb, hml, hown, hts⟩ (c_y_X10_absolute l dC dI cy a z k (lI lZ 1 ((L.1 2))) σ r2 hc2 H.size) (cwV 1 hts g_y_X0_unary_X10_absolute_V185 rfl rfl rfl hd_y_X10_absolute ⟨Nat.le_of_ble_eq_true rfl, Nat.le_of_ble_eq_true rfl⟩) ⟨nb_blind, va_recv hK hP (ci := 9) (q0 := 4) rfl rfl, (kb_pre hK hG hP hD)⟩ rfl rfl hl.1 rfl (lv_room (Nat.le_of_ble_eq_true rfl)) dX0_unary_97 ⟨(Nat.le_trans (Nat.le_add_right _ _) (Nat.le_of_eq hc)), (Nat.le_trans (Nat.le_add_right _ _) (Nat.le_of_eq hs))⟩) hA hP hD hS (fun H locs hP hD hS => ?_)
          refine lv_goto (tgt := 105) hx hb dX0_unary_100 (by decide) ?_
          exact ih.2.2.2.2.2.2.2.2.2.2.2.2.2.2.2.2.2.2.1 z _ _ (lI L 100 r2.1) r2.2 _ h hzk hc hs H locs ls hP hD hS (lv_sub hl [] rfl)
      · intro z cells slots L σ r h hzk hc hs H locs ls hP hD hS hl
        rw [f_X0_unary] at h
        refine lv_iload_n hx hb dX0_unary_128 rfl (lv_at hl 2 rfl) ?_
        refine lv_bipush (v := 6) hx hb dX0_unary_129 (by decide) ?_
        refine lv_icmp_ne (tgt := 146) hx hb dX0_unary_131 (by decide) (fun c1 => ?_) (fun c1 => ?_)
        · rw [if_neg c1] at h
          exact ih.2.2.2.2.2.2.2.2.2.2.2.2.2.2.2.2.2.2.2.1 z _ _ L σ _ h hzk hc hs H locs ls hP hD hS (lv_sub hl [] rfl)
        · rw [if_pos c1] at h
          refine lv_aload_n hx hb dX0_unary_134 rfl (lv_at hl 0 rfl) ?_
          refine hg_14_0 hx hb hts in_f_X0_unary_X0 hown hK hP (hts _ (List.mem_cons_of_mem _ (List.mem_append_left _ (List.mem_append_left _ (List.mem_of_getElem? (i := 0) rfl))))) dX0_unary_135 ?_
          refine lv_iload_n hx hb dX0_unary_138 rfl (lv_at hl 1 rfl) ?_
          refine lv_iconst (v := 0) hx hb dX0_unary_139 (by decide) ?_
          obtain ⟨r2, hc2, h⟩ := op_ex h
          refine kc_i (va_runV (As := [.int (L.1 2), .int 0]) (rest := []) ⟨hx, hb, hml, hown, hts⟩ (c_y_X1_member l dC dI cy a z k (lI (lI lZ 1 ((L.1 2))) 2 0) σ r2 hc2 H.size) (cwV 2 hts g_y_X0_unary_X1_member_V154 rfl rfl rfl hd_y_X1_member ⟨Nat.le_of_ble_eq_true rfl, Nat.le_of_ble_eq_true rfl⟩) ⟨nb_blind, va_recv hK hP (ci := 1) (q0 := 0) rfl rfl, (kb_pre hK hG hP hD)⟩ rfl rfl hl.1 rfl (lv_room (Nat.le_of_ble_eq_true rfl)) dX0_unary_140 ⟨(Nat.le_trans (Nat.le_add_right _ _) (Nat.le_of_eq hc)), (Nat.le_trans (Nat.le_add_right _ _) (Nat.le_of_eq hs))⟩) hA hP hD hS (fun H locs hP hD hS => ?_)
          refine lv_goto (tgt := 148) hx hb dX0_unary_143 (by decide) ?_
          exact ih.2.2.2.2.2.2.2.2.2.2.2.2.2.2.2.2.2.2.2.2.1 z _ _ (lI L 100 r2.1) r2.2 _ h hzk hc hs H locs ls hP hD hS (lv_sub hl [] rfl)
      · intro z cells slots L σ r h hzk hc hs H locs ls hP hD hS hl
        rw [f_X0_unary] at h
        refine lv_aload_n hx hb dX0_unary_149 rfl (lv_at hl 0 rfl) ?_
        refine hg_14_0 hx hb hts in_f_X0_unary_X0 hown hK hP (hts _ (List.mem_cons_of_mem _ (List.mem_append_left _ (List.mem_append_left _ (List.mem_of_getElem? (i := 0) rfl))))) dX0_unary_150 ?_
        refine lv_iload_n hx hb dX0_unary_153 rfl (lv_at hl 1 rfl) ?_
        obtain ⟨r1, hc1, h⟩ := op_ex h
        refine kc_i (va_runV (As := [.int (L.1 2)]) (rest := []) ⟨hx, hb, hml, hown, hts⟩ (c_y_X1_isMap l dC dI cy a z k (lI lZ 1 ((L.1 2))) σ r1 hc1 H.size) (cwV 1 hts g_y_X0_unary_X1_isMap_V191 rfl rfl rfl hd_y_X1_isMap ⟨Nat.le_of_ble_eq_true rfl, Nat.le_of_ble_eq_true rfl⟩) ⟨nb_blind, va_recv hK hP (ci := 1) (q0 := 0) rfl rfl, (kb_pre hK hG hP hD)⟩ rfl rfl hl.1 rfl (lv_room (Nat.le_of_ble_eq_true rfl)) dX0_unary_154 ⟨(Nat.le_trans (Nat.le_add_right _ _) (Nat.le_of_eq hc)), (Nat.le_trans (Nat.le_add_right _ _) (Nat.le_of_eq hs))⟩) hA hP hD hS (fun H locs hP hD hS => ?_)
        refine lv_if_eq (tgt := 168) hx hb dX0_unary_157 (by decide) (fun c2 => ?_) (fun c2 => ?_)
        · rw [if_pos c2] at h
          exact ih.2.2.2.2.2.2.2.2.2.2.2.2.2.2.2.2.2.2.2.2.2.1 z _ _ L r1.2 _ h hzk hc hs H locs ls hP hD hS (lv_sub hl [] rfl)
        · rw [if_neg c2] at h
          refine lv_aload_n hx hb dX0_unary_160 rfl (lv_at hl 0 rfl) ?_
          refine lv_iload_n hx hb dX0_unary_161 rfl (lv_at hl 1 rfl) ?_
          obtain ⟨r3, hc3, h⟩ := op_ex h
          refine kc_i (va_runV (As := [.int (L.1 2)]) (rest := []) ⟨hx, hb, hml, hown, hts⟩ (c_y_X0_domain l dC dI cy a z k (lI lZ 1 ((L.1 2))) r1.2 r3 hc3 H.size) (cwV 1 hts g_y_X0_unary_X0_domain_V194 rfl rfl rfl hd_y_X0_domain ⟨Nat.le_of_ble_eq_true rfl, Nat.le_of_ble_eq_true rfl⟩) ⟨nb_blind, va_recv hK hP (ci := 0) (q0 := 14) rfl rfl, (kb_pre hK hG hP hD)⟩ rfl rfl hl.1 rfl (lv_room (Nat.le_of_ble_eq_true rfl)) dX0_unary_162 ⟨(Nat.le_trans (Nat.le_add_right _ _) (Nat.le_of_eq hc)), (Nat.le_trans (Nat.le_add_right _ _) (Nat.le_of_eq hs))⟩) hA hP hD hS (fun H locs hP hD hS => ?_)
          refine lv_goto (tgt := 170) hx hb dX0_unary_165 (by decide) ?_
          exact ih.2.2.2.2.2.2.2.2.2.2.2.2.2.2.2.2.2.2.2.2.2.2.1 z _ _ (lI L 100 r3.1) r3.2 _ h hzk hc hs H locs ls hP hD hS (lv_sub hl [] rfl)
      · intro z cells slots L σ r h hzk hc hs H locs ls hP hD hS hl
        rw [f_X0_unary] at h
        refine lv_aload_n hx hb dX0_unary_171 rfl (lv_at hl 0 rfl) ?_
        refine hg_14_0 hx hb hts in_f_X0_unary_X0 hown hK hP (hts _ (List.mem_cons_of_mem _ (List.mem_append_left _ (List.mem_append_left _ (List.mem_of_getElem? (i := 0) rfl))))) dX0_unary_172 ?_
        refine lv_iload_n hx hb dX0_unary_175 rfl (lv_at hl 1 rfl) ?_
        obtain ⟨r1, hc1, h⟩ := op_ex h
        refine kc_i (va_runV (As := [.int (L.1 2)]) (rest := []) ⟨hx, hb, hml, hown, hts⟩ (c_y_X1_isMap l dC dI cy a z k (lI lZ 1 ((L.1 2))) σ r1 hc1 H.size) (cwV 1 hts g_y_X0_unary_X1_isMap_V191 rfl rfl rfl hd_y_X1_isMap ⟨Nat.le_of_ble_eq_true rfl, Nat.le_of_ble_eq_true rfl⟩) ⟨nb_blind, va_recv hK hP (ci := 1) (q0 := 0) rfl rfl, (kb_pre hK hG hP hD)⟩ rfl rfl hl.1 rfl (lv_room (Nat.le_of_ble_eq_true rfl)) dX0_unary_176 ⟨(Nat.le_trans (Nat.le_add_right _ _) (Nat.le_of_eq hc)), (Nat.le_trans (Nat.le_add_right _ _) (Nat.le_of_eq hs))⟩) hA hP hD hS (fun H locs hP hD hS => ?_)
        refine lv_if_eq (tgt := 190) hx hb dX0_unary_179 (by decide) (fun c2 => ?_) (fun c2 => ?_)
        · rw [if_pos c2] at h
          exact ih.2.2.2.2.2.2.2.2.2.2.2.2.2.2.2.2.2.2.2.2.2.2.2.1 z _ _ L r1.2 _ h hzk hc hs H locs ls hP hD hS (lv_sub hl [] rfl)
        · rw [if_neg c2] at h
          refine lv_aload_n hx hb dX0_unary_182 rfl (lv_at hl 0 rfl) ?_
          refine lv_iload_n hx hb dX0_unary_183 rfl (lv_at hl 1 rfl) ?_
          obtain ⟨r3, hc3, h⟩ := op_ex h
          refine kc_i (va_runV (As := [.int (L.1 2)]) (rest := []) ⟨hx, hb, hml, hown, hts⟩ (c_y_X0_range l dC dI cy a z k (lI lZ 1 ((L.1 2))) r1.2 r3 hc3 H.size) (cwV 1 hts g_y_X0_unary_X0_range_V197 rfl rfl rfl hd_y_X0_range ⟨Nat.le_of_ble_eq_true rfl, Nat.le_of_ble_eq_true rfl⟩) ⟨nb_blind, va_recv hK hP (ci := 0) (q0 := 14) rfl rfl, (kb_pre hK hG hP hD)⟩ rfl rfl hl.1 rfl (lv_room (Nat.le_of_ble_eq_true rfl)) dX0_unary_184 ⟨(Nat.le_trans (Nat.le_add_right _ _) (Nat.le_of_eq hc)), (Nat.le_trans (Nat.le_add_right _ _) (Nat.le_of_eq hs))⟩) hA hP hD hS (fun H locs hP hD hS => ?_)
          refine lv_goto (tgt := 192) hx hb dX0_unary_187 (by decide) ?_
          exact ih.2.2.2.2.2.2.2.2.2.2.2.2.2.2.2.2.2.2.2.2.2.2.2.2.1 z _ _ (lI L 100 r3.1) r3.2 _ h hzk hc hs H locs ls hP hD hS (lv_sub hl [] rfl)
      · intro z cells slots L σ r h hzk hc hs H locs ls hP hD hS hl
        rw [f_X0_unary] at h
        refine lv_iload_n hx hb dX0_unary_193 rfl (lv_at hl 2 rfl) ?_
        refine lv_bipush (v := 6) hx hb dX0_unary_194 (by decide) ?_
        refine lv_icmp_ne (tgt := 207) hx hb dX0_unary_196 (by decide) (fun c1 => ?_) (fun c1 => ?_)
        · rw [if_neg c1] at h
          exact ih.2.2.2.2.2.2.2.2.2.2.2.2.2.2.2.2.2.2.2.2.2.2.2.2.2.1 z _ _ L σ _ h hzk hc hs H locs ls hP hD hS (lv_sub hl [] rfl)
        · rw [if_pos c1] at h
          refine lv_aload_n hx hb dX0_unary_199 rfl (lv_at hl 0 rfl) ?_
          refine lv_iload_n hx hb dX0_unary_200 rfl (lv_at hl 1 rfl) ?_
          obtain ⟨r2, hc2, h⟩ := op_ex h
          refine kc_i (va_runV (As := [.int (L.1 2)]) (rest := []) ⟨hx, hb, hml, hown, hts⟩ (c_y_X0_subsets l dC dI cy a z k (lI lZ 1 ((L.1 2))) σ r2 hc2 H.size) (cwV 1 hts g_y_X0_unary_X0_subsets_V200 rfl rfl rfl hd_y_X0_subsets ⟨Nat.le_of_ble_eq_true rfl, Nat.le_of_ble_eq_true rfl⟩) ⟨nb_blind, va_recv hK hP (ci := 0) (q0 := 14) rfl rfl, (kb_pre hK hG hP hD)⟩ rfl rfl hl.1 rfl (lv_room (Nat.le_of_ble_eq_true rfl)) dX0_unary_201 ⟨(Nat.le_trans (Nat.le_add_right _ _) (Nat.le_of_eq hc)), (Nat.le_trans (Nat.le_add_right _ _) (Nat.le_of_eq hs))⟩) hA hP hD hS (fun H locs hP hD hS => ?_)
          refine lv_goto (tgt := 209) hx hb dX0_unary_204 (by decide) ?_
          exact ih.2.2.2.2.2.2.2.2.2.2.2.2.2.2.2.2.2.2.2.2.2.2.2.2.2.2.1 z _ _ (lI L 100 r2.1) r2.2 _ h hzk hc hs H locs ls hP hD hS (lv_sub hl [] rfl)
      · intro z cells slots L σ r h hzk hc hs H locs ls hP hD hS hl
        rw [f_X0_unary] at h
        refine lv_aload_n hx hb dX0_unary_210 rfl (lv_at hl 0 rfl) ?_
        refine hg_14_2 hx hb hts in_f_X0_unary_X0 hown hK hP (hts _ (List.mem_cons_of_mem _ (List.mem_append_left _ (List.mem_append_left _ (List.mem_of_getElem? (i := 34) rfl))))) dX0_unary_211 ?_
        refine lv_iload_n hx hb dX0_unary_214 rfl (lv_at hl 1 rfl) ?_
        by_cases q2 : ((L.1 3)) = 1
        · rw [if_pos q2] at h
          refine ks_r (va_runS (As := [.int (L.1 3)]) (rest := [.ref (a 12)]) ⟨hx, hb, hml, hown, hts⟩ (c_tn_1 l dC dI cy ek ((L.1 3)) q2 H.size) (va_cwS 1 hts g_f_X0_unary_typeName_203 rfl rfl rfl (by decide +kernel) ⟨Nat.le_of_ble_eq_true rfl, Nat.le_of_ble_eq_true rfl⟩) ⟨nb_blindE, fun U hU hW => ⟨rfl, ⟨by rw [hU], nb_nil, va_K.moved hW.alike hK, nb_nilD, hG.warm hW⟩, nE.to hE hS hW hU (va_free (wc := []) hD hS hA [] rfl)⟩⟩ rfl rfl hl.1 rfl (lv_room (Nat.le_of_ble_eq_true rfl)) dX0_unary_215 ⟨(Nat.le_trans (Nat.le_add_right _ _) (Nat.le_of_eq hc)), (Nat.le_trans (Nat.le_add_right _ _) (Nat.le_of_eq hs))⟩) hA hP hD hS (fun H locs hP hS => ?_)
          obtain ⟨r1, hc1, hle1, h9⟩ := ox_ex h
          clear h
          refine kx_i (vx_runV (As := [.ref (ek 2)]) (rest := []) ⟨hx, hb, hml, hown, hts⟩ (c_f_X6_word__ek2 l hl0 dC dI cy ek a k lZ σ r1 hc1 z H.size) (cwV 1 hts g_f_X0_unary_X6_word__ek2_V207 rfl rfl rfl hd_f_X6_word__ek2 ⟨Nat.le_of_ble_eq_true rfl, Nat.le_of_ble_eq_true rfl⟩) ⟨nb_blindF, va_recv hK hP (ci := 5) (q0 := 12) rfl rfl, (kx_pre hK hG hE hT hA hP hD hS)⟩ rfl rfl hl.1 rfl (lv_room (Nat.le_of_ble_eq_true rfl)) dX0_unary_218 ⟨Nat.le_trans (Nat.add_le_add_left hle1.1 _) (Nat.le_of_eq hc), Nat.le_trans (Nat.add_le_add_left hle1.2 _) (Nat.le_of_eq hs)⟩) hK hA hzk hP hD hS (by decide) hno hlocks ?_
          rcases h9 with ⟨h00, y1, hny1, hy⟩ | ⟨h00, hy⟩
          · subst hy
            have h := hny1
            refine Or.inl ⟨h00, fun u H locs hz1 hzk hP hD hS => ?_⟩
            obtain rfl := (zk_nil hz1).symm
            replace hc := (Nat.add_assoc _ _ _).trans hc
            replace hs := (Nat.add_assoc _ _ _).trans hs
            obtain rfl := Option.some.inj h
            subst hc
            subst hs
            exact xr_i hx hb hr hK hzk hP hD hS hlocks dX0_unary_221
          · subst hy
            exact Or.inr ⟨h00, rfl, hc, hs⟩
        · rw [if_neg q2] at h
          by_cases q4 : ((L.1 3)) = 2
          · rw [if_pos q4] at h
            refine ks_r (va_runS (As := [.int (L.1 3)]) (rest := [.ref (a 12)]) ⟨hx, hb, hml, hown, hts⟩ (c_tn_2 l dC dI cy ek ((L.1 3)) q4 H.size) (va_cwS 1 hts g_f_X0_unary_typeName_203 rfl rfl rfl (by decide +kernel) ⟨Nat.le_of_ble_eq_true rfl, Nat.le_of_ble_eq_true rfl⟩) ⟨nb_blindE, fun U hU hW => ⟨rfl, ⟨by rw [hU], nb_nil, va_K.moved hW.alike hK, nb_nilD, hG.warm hW⟩, nE.to hE hS hW hU (va_free (wc := []) hD hS hA [] rfl)⟩⟩ rfl rfl hl.1 rfl (lv_room (Nat.le_of_ble_eq_true rfl)) dX0_unary_215 ⟨(Nat.le_trans (Nat.le_add_right _ _) (Nat.le_of_eq hc)), (Nat.le_trans (Nat.le_add_right _ _) (Nat.le_of_eq hs))⟩) hA hP hD hS (fun H locs hP hS => ?_)
            obtain ⟨r3, hc3, hle3, h9⟩ := ox_ex h
            clear h
            refine kx_i (vx_runV (As := [.ref (ek 4)]) (rest := []) ⟨hx, hb, hml, hown, hts⟩ (c_f_X6_word__ek4 l hl0 dC dI cy ek a k lZ σ r3 hc3 z H.size) (cwV 1 hts g_f_X0_unary_X6_word__ek4_V207 rfl rfl rfl hd_f_X6_word__ek4 ⟨Nat.le_of_ble_eq_true rfl, Nat.le_of_ble_eq_true rfl⟩) ⟨nb_blindF, va_recv hK hP (ci := 5) (q0 := 12) rfl rfl, (kx_pre hK hG hE hT hA hP hD hS)⟩ rfl rfl hl.1 rfl (lv_room (Nat.le_of_ble_eq_true rfl)) dX0_unary_218 ⟨Nat.le_trans (Nat.add_le_add_left hle3.1 _) (Nat.le_of_eq hc), Nat.le_trans (Nat.add_le_add_left hle3.2 _) (Nat.le_of_eq hs)⟩) hK hA hzk hP hD hS (by decide) hno hlocks ?_
            rcases h9 with ⟨h00, y3, hny3, hy⟩ | ⟨h00, hy⟩
            · subst hy
              have h := hny3
              refine Or.inl ⟨h00, fun u H locs hz3 hzk hP hD hS => ?_⟩
              obtain rfl := (zk_nil hz3).symm
              replace hc := (Nat.add_assoc _ _ _).trans hc
              replace hs := (Nat.add_assoc _ _ _).trans hs
              obtain rfl := Option.some.inj h
              subst hc
              subst hs
              exact xr_i hx hb hr hK hzk hP hD hS hlocks dX0_unary_221
            · subst hy
              exact Or.inr ⟨h00, rfl, hc, hs⟩
          · rw [if_neg q4] at h
            by_cases q6 : ((L.1 3)) = 3
            · rw [if_pos q6] at h
              refine ks_r (va_runS (As := [.int (L.1 3)]) (rest := [.ref (a 12)]) ⟨hx, hb, hml, hown, hts⟩ (c_tn_3 l dC dI cy ek ((L.1 3)) q6 H.size) (va_cwS 1 hts g_f_X0_unary_typeName_203 rfl rfl rfl (by decide +kernel) ⟨Nat.le_of_ble_eq_true rfl, Nat.le_of_ble_eq_true rfl⟩) ⟨nb_blindE, fun U hU hW => ⟨rfl, ⟨by rw [hU], nb_nil, va_K.moved hW.alike hK, nb_nilD, hG.warm hW⟩, nE.to hE hS hW hU (va_free (wc := []) hD hS hA [] rfl)⟩⟩ rfl rfl hl.1 rfl (lv_room (Nat.le_of_ble_eq_true rfl)) dX0_unary_215 ⟨(Nat.le_trans (Nat.le_add_right _ _) (Nat.le_of_eq hc)), (Nat.le_trans (Nat.le_add_right _ _) (Nat.le_of_eq hs))⟩) hA hP hD hS (fun H locs hP hS => ?_)
              obtain ⟨r5, hc5, hle5, h9⟩ := ox_ex h
              clear h
              refine kx_i (vx_runV (As := [.ref (ek 6)]) (rest := []) ⟨hx, hb, hml, hown, hts⟩ (c_f_X6_word__ek6 l hl0 dC dI cy ek a k lZ σ r5 hc5 z H.size) (cwV 1 hts g_f_X0_unary_X6_word__ek6_V207 rfl rfl rfl hd_f_X6_word__ek6 ⟨Nat.le_of_ble_eq_true rfl, Nat.le_of_ble_eq_true rfl⟩) ⟨nb_blindF, va_recv hK hP (ci := 5) (q0 := 12) rfl rfl, (kx_pre hK hG hE hT hA hP hD hS)⟩ rfl rfl hl.1 rfl (lv_room (Nat.le_of_ble_eq_true rfl)) dX0_unary_218 ⟨Nat.le_trans (Nat.add_le_add_left hle5.1 _) (Nat.le_of_eq hc), Nat.le_trans (Nat.add_le_add_left hle5.2 _) (Nat.le_of_eq hs)⟩) hK hA hzk hP hD hS (by decide) hno hlocks ?_
              rcases h9 with ⟨h00, y5, hny5, hy⟩ | ⟨h00, hy⟩
              · subst hy
                have h := hny5
                refine Or.inl ⟨h00, fun u H locs hz5 hzk hP hD hS => ?_⟩
                obtain rfl := (zk_nil hz5).symm
                replace hc := (Nat.add_assoc _ _ _).trans hc
                replace hs := (Nat.add_assoc _ _ _).trans hs
                obtain rfl := Option.some.inj h
                subst hc
                subst hs
                exact xr_i hx hb hr hK hzk hP hD hS hlocks dX0_unary_221
              · subst hy
                exact Or.inr ⟨h00, rfl, hc, hs⟩
            · rw [if_neg q6] at h
              by_cases q8 : ((L.1 3)) = 4
              · rw [if_pos q8] at h
                refine ks_r (va_runS (As := [.int (L.1 3)]) (rest := [.ref (a 12)]) ⟨hx, hb, hml, hown, hts⟩ (c_tn_4 l dC dI cy ek ((L.1 3)) q8 H.size) (va_cwS 1 hts g_f_X0_unary_typeName_203 rfl rfl rfl (by decide +kernel) ⟨Nat.le_of_ble_eq_true rfl, Nat.le_of_ble_eq_true rfl⟩) ⟨nb_blindE, fun U hU hW => ⟨rfl, ⟨by rw [hU], nb_nil, va_K.moved hW.alike hK, nb_nilD, hG.warm hW⟩, nE.to hE hS hW hU (va_free (wc := []) hD hS hA [] rfl)⟩⟩ rfl rfl hl.1 rfl (lv_room (Nat.le_of_ble_eq_true rfl)) dX0_unary_215 ⟨(Nat.le_trans (Nat.le_add_right _ _) (Nat.le_of_eq hc)), (Nat.le_trans (Nat.le_add_right _ _) (Nat.le_of_eq hs))⟩) hA hP hD hS (fun H locs hP hS => ?_)
                obtain ⟨r7, hc7, hle7, h9⟩ := ox_ex h
                clear h
                refine kx_i (vx_runV (As := [.ref (ek 8)]) (rest := []) ⟨hx, hb, hml, hown, hts⟩ (c_f_X6_word__ek8 l hl0 dC dI cy ek a k lZ σ r7 hc7 z H.size) (cwV 1 hts g_f_X0_unary_X6_word__ek8_V207 rfl rfl rfl hd_f_X6_word__ek8 ⟨Nat.le_of_ble_eq_true rfl, Nat.le_of_ble_eq_true rfl⟩) ⟨nb_blindF, va_recv hK hP (ci := 5) (q0 := 12) rfl rfl, (kx_pre hK hG hE hT hA hP hD hS)⟩ rfl rfl hl.1 rfl (lv_room (Nat.le_of_ble_eq_true rfl)) dX0_unary_218 ⟨Nat.le_trans (Nat.add_le_add_left hle7.1 _) (Nat.le_of_eq hc), Nat.le_trans (Nat.add_le_add_left hle7.2 _) (Nat.le_of_eq hs)⟩) hK hA hzk hP hD hS (by decide) hno hlocks ?_
                rcases h9 with ⟨h00, y7, hny7, hy⟩ | ⟨h00, hy⟩
                · subst hy
                  have h := hny7
                  refine Or.inl ⟨h00, fun u H locs hz7 hzk hP hD hS => ?_⟩
                  obtain rfl := (zk_nil hz7).symm
                  replace hc := (Nat.add_assoc _ _ _).trans hc
                  replace hs := (Nat.add_assoc _ _ _).trans hs
                  obtain rfl := Option.some.inj h
                  subst hc
                  subst hs
                  exact xr_i hx hb hr hK hzk hP hD hS hlocks dX0_unary_221
                · subst hy
                  exact Or.inr ⟨h00, rfl, hc, hs⟩
              · rw [if_neg q8] at h
                by_cases q10 : ((L.1 3)) = 5
                · rw [if_pos q10] at h
                  refine ks_r (va_runS (As := [.int (L.1 3)]) (rest := [.ref (a 12)]) ⟨hx, hb, hml, hown, hts⟩ (c_tn_5 l dC dI cy ek ((L.1 3)) q10 H.size) (va_cwS 1 hts g_f_X0_unary_typeName_203 rfl rfl rfl (by decide +kernel) ⟨Nat.le_of_ble_eq_true rfl, Nat.le_of_ble_eq_true rfl⟩) ⟨nb_blindE, fun U hU hW => ⟨rfl, ⟨by rw [hU], nb_nil, va_K.moved hW.alike hK, nb_nilD, hG.warm hW⟩, nE.to hE hS hW hU (va_free (wc := []) hD hS hA [] rfl)⟩⟩ rfl rfl hl.1 rfl (lv_room (Nat.le_of_ble_eq_true rfl)) dX0_unary_215 ⟨(Nat.le_trans (Nat.le_add_right _ _) (Nat.le_of_eq hc)), (Nat.le_trans (Nat.le_add_right _ _) (Nat.le_of_eq hs))⟩) hA hP hD hS (fun H locs hP hS => ?_)
                  obtain ⟨r9, hc9, hle9, h9⟩ := ox_ex h
                  clear h
                  refine kx_i (vx_runV (As := [.ref (ek 10)]) (rest := []) ⟨hx, hb, hml, hown, hts⟩ (c_f_X6_word__ek10 l hl0 dC dI cy ek a k lZ σ r9 hc9 z H.size) (cwV 1 hts g_f_X0_unary_X6_word__ek10_V207 rfl rfl rfl hd_f_X6_word__ek10 ⟨Nat.le_of_ble_eq_true rfl, Nat.le_of_ble_eq_true rfl⟩) ⟨nb_blindF, va_recv hK hP (ci := 5) (q0 := 12) rfl rfl, (kx_pre hK hG hE hT hA hP hD hS)⟩ rfl rfl hl.1 rfl (lv_room (Nat.le_of_ble_eq_true rfl)) dX0_unary_218 ⟨Nat.le_trans (Nat.add_le_add_left hle9.1 _) (Nat.le_of_eq hc), Nat.le_trans (Nat.add_le_add_left hle9.2 _) (Nat.le_of_eq hs)⟩) hK hA hzk hP hD hS (by decide) hno hlocks ?_
                  rcases h9 with ⟨h00, y9, hny9, hy⟩ | ⟨h00, hy⟩
                  · subst hy
                    have h := hny9
                    refine Or.inl ⟨h00, fun u H locs hz9 hzk hP hD hS => ?_⟩
                    obtain rfl := (zk_nil hz9).symm
                    replace hc := (Nat.add_assoc _ _ _).trans hc
                    replace hs := (Nat.add_assoc _ _ _).trans hs
                    obtain rfl := Option.some.inj h
                    subst hc
                    subst hs
                    exact xr_i hx hb hr hK hzk hP hD hS hlocks dX0_unary_221
                  · subst hy
                    exact Or.inr ⟨h00, rfl, hc, hs⟩
                · rw [if_neg q10] at h
                  by_cases q12 : ((L.1 3)) = 6
                  · rw [if_pos q12] at h
                    refine ks_r (va_runS (As := [.int (L.1 3)]) (rest := [.ref (a 12)]) ⟨hx, hb, hml, hown, hts⟩ (c_tn_6 l dC dI cy ek ((L.1 3)) q12 H.size) (va_cwS 1 hts g_f_X0_unary_typeName_203 rfl rfl rfl (by decide +kernel) ⟨Nat.le_of_ble_eq_true rfl, Nat.le_of_ble_eq_true rfl⟩) ⟨nb_blindE, fun U hU hW => ⟨rfl, ⟨by rw [hU], nb_nil, va_K.moved hW.alike hK, nb_nilD, hG.warm hW⟩, nE.to hE hS hW hU (va_free (wc := []) hD hS hA [] rfl)⟩⟩ rfl rfl hl.1 rfl (lv_room (Nat.le_of_ble_eq_true rfl)) dX0_unary_215 ⟨(Nat.le_trans (Nat.le_add_right _ _) (Nat.le_of_eq hc)), (Nat.le_trans (Nat.le_add_right _ _) (Nat.le_of_eq hs))⟩) hA hP hD hS (fun H locs hP hS => ?_)
                    obtain ⟨r11, hc11, hle11, h9⟩ := ox_ex h
                    clear h
                    refine kx_i (vx_runV (As := [.ref (ek 12)]) (rest := []) ⟨hx, hb, hml, hown, hts⟩ (c_f_X6_word__ek12 l hl0 dC dI cy ek a k lZ σ r11 hc11 z H.size) (cwV 1 hts g_f_X0_unary_X6_word__ek12_V207 rfl rfl rfl hd_f_X6_word__ek12 ⟨Nat.le_of_ble_eq_true rfl, Nat.le_of_ble_eq_true rfl⟩) ⟨nb_blindF, va_recv hK hP (ci := 5) (q0 := 12) rfl rfl, (kx_pre hK hG hE hT hA hP hD hS)⟩ rfl rfl hl.1 rfl (lv_room (Nat.le_of_ble_eq_true rfl)) dX0_unary_218 ⟨Nat.le_trans (Nat.add_le_add_left hle11.1 _) (Nat.le_of_eq hc), Nat.le_trans (Nat.add_le_add_left hle11.2 _) (Nat.le_of_eq hs)⟩) hK hA hzk hP hD hS (by decide) hno hlocks ?_
                    rcases h9 with ⟨h00, y11, hny11, hy⟩ | ⟨h00, hy⟩
                    · subst hy
                      have h := hny11
                      refine Or.inl ⟨h00, fun u H locs hz11 hzk hP hD hS => ?_⟩
                      obtain rfl := (zk_nil hz11).symm
                      replace hc := (Nat.add_assoc _ _ _).trans hc
                      replace hs := (Nat.add_assoc _ _ _).trans hs
                      obtain rfl := Option.some.inj h
                      subst hc
                      subst hs
                      exact xr_i hx hb hr hK hzk hP hD hS hlocks dX0_unary_221
                    · subst hy
                      exact Or.inr ⟨h00, rfl, hc, hs⟩
                  · rw [if_neg q12] at h
                    have nq2 : ¬ (((L.1 3))).toInt = 1 := nb_ti q2 rfl
                    have nq4 : ¬ (((L.1 3))).toInt = 2 := nb_ti q4 rfl
                    have nq6 : ¬ (((L.1 3))).toInt = 3 := nb_ti q6 rfl
                    have nq8 : ¬ (((L.1 3))).toInt = 4 := nb_ti q8 rfl
                    have nq10 : ¬ (((L.1 3))).toInt = 5 := nb_ti q10 rfl
                    have nq12 : ¬ (((L.1 3))).toInt = 6 := nb_ti q12 rfl
                    refine ks_r (va_runS (As := [.int (L.1 3)]) (rest := [.ref (a 12)]) ⟨hx, hb, hml, hown, hts⟩ (c_tn_d l dC dI cy ek ((L.1 3)) (by omega) H.size) (va_cwS 1 hts g_f_X0_unary_typeName_203 rfl rfl rfl (by decide +kernel) ⟨Nat.le_of_ble_eq_true rfl, Nat.le_of_ble_eq_true rfl⟩) ⟨nb_blindE, fun U hU hW => ⟨rfl, ⟨by rw [hU], nb_nil, va_K.moved hW.alike hK, nb_nilD, hG.warm hW⟩, nE.to hE hS hW hU (va_free (wc := []) hD hS hA [] rfl)⟩⟩ rfl rfl hl.1 rfl (lv_room (Nat.le_of_ble_eq_true rfl)) dX0_unary_215 ⟨(Nat.le_trans (Nat.le_add_right _ _) (Nat.le_of_eq hc)), (Nat.le_trans (Nat.le_add_right _ _) (Nat.le_of_eq hs))⟩) hA hP hD hS (fun H locs hP hS => ?_)
                    obtain ⟨r13, hc13, hle13, h9⟩ := ox_ex h
                    clear h
                    refine kx_i (vx_runV (As := [.ref (ek 14)]) (rest := []) ⟨hx, hb, hml, hown, hts⟩ (c_f_X6_word__ek14 l hl0 dC dI cy ek a k lZ σ r13 hc13 z H.size) (cwV 1 hts g_f_X0_unary_X6_word__ek14_V207 rfl rfl rfl hd_f_X6_word__ek14 ⟨Nat.le_of_ble_eq_true rfl, Nat.le_of_ble_eq_true rfl⟩) ⟨nb_blindF, va_recv hK hP (ci := 5) (q0 := 12) rfl rfl, (kx_pre hK hG hE hT hA hP hD hS)⟩ rfl rfl hl.1 rfl (lv_room (Nat.le_of_ble_eq_true rfl)) dX0_unary_218 ⟨Nat.le_trans (Nat.add_le_add_left hle13.1 _) (Nat.le_of_eq hc), Nat.le_trans (Nat.add_le_add_left hle13.2 _) (Nat.le_of_eq hs)⟩) hK hA hzk hP hD hS (by decide) hno hlocks ?_
                    rcases h9 with ⟨h00, y13, hny13, hy⟩ | ⟨h00, hy⟩
                    · subst hy
                      have h := hny13
                      refine Or.inl ⟨h00, fun u H locs hz13 hzk hP hD hS => ?_⟩
                      obtain rfl := (zk_nil hz13).symm
                      replace hc := (Nat.add_assoc _ _ _).trans hc
                      replace hs := (Nat.add_assoc _ _ _).trans hs
                      obtain rfl := Option.some.inj h
                      subst hc
                      subst hs
                      exact xr_i hx hb hr hK hzk hP hD hS hlocks dX0_unary_221
                    · subst hy
                      exact Or.inr ⟨h00, rfl, hc, hs⟩
      · intro z cells slots L σ r h hzk hc hs H locs ls hP hD hS hl
        rw [f_X0_unary] at h
        refine lv_aload_n hx hb dX0_unary_222 rfl (lv_at hl 0 rfl) ?_
        refine hg_14_2 hx hb hts in_f_X0_unary_X0 hown hK hP (hts _ (List.mem_cons_of_mem _ (List.mem_append_left _ (List.mem_append_left _ (List.mem_of_getElem? (i := 34) rfl))))) dX0_unary_223 ?_
        refine lv_iload_n hx hb dX0_unary_226 rfl (lv_at hl 1 rfl) ?_
        obtain ⟨r1, hc1, hle1, h9⟩ := ox_ex h
        clear h
        refine kx_v (vx_runV (As := [.int (L.1 2)]) (rest := []) ⟨hx, hb, hml, hown, hts⟩ (c_f_X6_print l hl0 dC dI cy ek a k (lI lZ 1 ((L.1 2))) σ r1 hc1 z H.size) (cwV 1 hts g_f_X0_unary_X6_print_V213 rfl rfl rfl hd_f_X6_print ⟨Nat.le_of_ble_eq_true rfl, Nat.le_of_ble_eq_true rfl⟩) ⟨nb_blindF, va_recv hK hP (ci := 5) (q0 := 12) rfl rfl, (kx_pre hK hG hE hT hA hP hD hS)⟩ rfl rfl hl.1 rfl (lv_room (Nat.le_of_ble_eq_true rfl)) dX0_unary_227 ⟨Nat.le_trans (Nat.add_le_add_left hle1.1 _) (Nat.le_of_eq hc), Nat.le_trans (Nat.add_le_add_left hle1.2 _) (Nat.le_of_eq hs)⟩) hK hA hzk hP hD hS (by decide) hno hlocks ?_
        rcases h9 with ⟨h00, y1, hny1, hy⟩ | ⟨h00, hy⟩
        · subst hy
          have h := hny1
          refine Or.inl ⟨h00, fun u H locs hz1 hzk hP hD hS => ?_⟩
          obtain rfl := (zk_nil hz1).symm
          replace hc := (Nat.add_assoc _ _ _).trans hc
          replace hs := (Nat.add_assoc _ _ _).trans hs
          refine lv_aload_n hx hb dX0_unary_230 rfl (lv_at hl 0 rfl) ?_
          refine hg_14_2 hx hb hts in_f_X0_unary_X0 hown hK hP (hts _ (List.mem_cons_of_mem _ (List.mem_append_left _ (List.mem_append_left _ (List.mem_of_getElem? (i := 34) rfl))))) dX0_unary_231 ?_
          obtain ⟨r2, hc2, h⟩ := op_ex h
          refine kc_i (va_runV (As := []) (rest := []) ⟨hx, hb, hml, hown, hts⟩ (c_y_X6_madeString l dC dI cy a z k lZ r1.2.1 r2 hc2 H.size) (cwV 0 hts g_y_X0_unary_X6_madeString_V217 rfl rfl rfl hd_y_X6_madeString ⟨Nat.le_of_ble_eq_true rfl, Nat.le_of_ble_eq_true rfl⟩) ⟨nb_blind, va_recv hK hP (ci := 5) (q0 := 12) rfl rfl, (kb_pre hK hG hP hD)⟩ rfl rfl hl.1 rfl (lv_room (Nat.le_of_ble_eq_true rfl)) dX0_unary_234 ⟨(Nat.le_trans (Nat.le_add_right _ _) (Nat.le_of_eq hc)), (Nat.le_trans (Nat.le_add_right _ _) (Nat.le_of_eq hs))⟩) hA hP hD hS (fun H locs hP hD hS => ?_)
          obtain rfl := Option.some.inj h
          subst hc
          subst hs
          exact xr_i hx hb hr hK hzk hP hD hS hlocks dX0_unary_237
        · subst hy
          exact Or.inr ⟨h00, rfl, hc, hs⟩
      · intro z cells slots L σ r h hzk hc hs H locs ls hP hD hS hl
        rw [f_X0_unary] at h
        refine lv_iload_n hx hb dX0_unary_238 rfl (lv_at hl 2 rfl) ?_
        refine lv_iconst (v := 2) hx hb dX0_unary_239 (by decide) ?_
        refine lv_icmp_ne (tgt := 251) hx hb dX0_unary_240 (by decide) (fun c1 => ?_) (fun c1 => ?_)
        · rw [if_neg c1] at h
          exact ih.2.2.2.2.2.2.2.2.2.2.2.2.2.2.2.2.2.2.2.2.2.2.2.2.2.2.2.1 z _ _ L σ _ h hzk hc hs H locs ls hP hD hS (lv_sub hl [] rfl)
        · rw [if_pos c1] at h
          refine lv_aload_n hx hb dX0_unary_243 rfl (lv_at hl 0 rfl) ?_
          refine lv_iload_n hx hb dX0_unary_244 rfl (lv_at hl 1 rfl) ?_
          obtain ⟨r2, hc2, h⟩ := op_ex h
          refine kc_i (va_runV (As := [.int (L.1 2)]) (rest := []) ⟨hx, hb, hml, hown, hts⟩ (c_y_X0_charOf l dC dI cy a z k (lI lZ 1 ((L.1 2))) σ r2 hc2 H.size) (cwV 1 hts g_y_X0_unary_X0_charOf_V221 rfl rfl rfl hd_y_X0_charOf ⟨Nat.le_of_ble_eq_true rfl, Nat.le_of_ble_eq_true rfl⟩) ⟨nb_blind, va_recv hK hP (ci := 0) (q0 := 14) rfl rfl, (kb_pre hK hG hP hD)⟩ rfl rfl hl.1 rfl (lv_room (Nat.le_of_ble_eq_true rfl)) dX0_unary_245 ⟨(Nat.le_trans (Nat.le_add_right _ _) (Nat.le_of_eq hc)), (Nat.le_trans (Nat.le_add_right _ _) (Nat.le_of_eq hs))⟩) hA hP hD hS (fun H locs hP hD hS => ?_)
          refine lv_goto (tgt := 253) hx hb dX0_unary_248 (by decide) ?_
          exact ih.2.2.2.2.2.2.2.2.2.2.2.2.2.2.2.2.2.2.2.2.2.2.2.2.2.2.2.2.1 z _ _ (lI L 100 r2.1) r2.2 _ h hzk hc hs H locs ls hP hD hS (lv_sub hl [] rfl)
      · intro z cells slots L σ r h hzk hc hs H locs ls hP hD hS hl
        rw [f_X0_unary] at h
        refine lv_iload_n hx hb dX0_unary_254 rfl (lv_at hl 2 rfl) ?_
        refine lv_iconst (v := 4) hx hb dX0_unary_255 (by decide) ?_
        refine lv_icmp_ne (tgt := 267) hx hb dX0_unary_256 (by decide) (fun c1 => ?_) (fun c1 => ?_)
        · rw [if_neg c1] at h
          exact ih.2.2.2.2.2.2.2.2.2.2.2.2.2.2.2.2.2.2.2.2.2.2.2.2.2.2.2.2.2.1 z _ _ L σ _ h hzk hc hs H locs ls hP hD hS (lv_sub hl [] rfl)
        · rw [if_pos c1] at h
          refine lv_aload_n hx hb dX0_unary_259 rfl (lv_at hl 0 rfl) ?_
          refine lv_iload_n hx hb dX0_unary_260 rfl (lv_at hl 1 rfl) ?_
          obtain ⟨r2, hc2, h⟩ := op_ex h
          refine kc_i (va_runV (As := [.int (L.1 2)]) (rest := []) ⟨hx, hb, hml, hown, hts⟩ (c_y_X0_codeOf l dC dI cy a z k (lI lZ 1 ((L.1 2))) σ r2 hc2 H.size) (cwV 1 hts g_y_X0_unary_X0_codeOf_V224 rfl rfl rfl hd_y_X0_codeOf ⟨Nat.le_of_ble_eq_true rfl, Nat.le_of_ble_eq_true rfl⟩) ⟨nb_blind, va_recv hK hP (ci := 0) (q0 := 14) rfl rfl, (kb_pre hK hG hP hD)⟩ rfl rfl hl.1 rfl (lv_room (Nat.le_of_ble_eq_true rfl)) dX0_unary_261 ⟨(Nat.le_trans (Nat.le_add_right _ _) (Nat.le_of_eq hc)), (Nat.le_trans (Nat.le_add_right _ _) (Nat.le_of_eq hs))⟩) hA hP hD hS (fun H locs hP hD hS => ?_)
          refine lv_goto (tgt := 269) hx hb dX0_unary_264 (by decide) ?_
          exact ih.2.2.2.2.2.2.2.2.2.2.2.2.2.2.2.2.2.2.2.2.2.2.2.2.2.2.2.2.2.2.1 z _ _ (lI L 100 r2.1) r2.2 _ h hzk hc hs H locs ls hP hD hS (lv_sub hl [] rfl)
      · intro z cells slots L σ r h hzk hc hs H locs ls hP hD hS hl
        rw [f_X0_unary] at h
        refine lv_iload_n hx hb dX0_unary_270 rfl (lv_at hl 2 rfl) ?_
        refine lv_iconst (v := 4) hx hb dX0_unary_271 (by decide) ?_
        refine lv_icmp_eq (tgt := 280) hx hb dX0_unary_272 (by decide) (fun c1 => ?_) (fun c1 => ?_)
        · rw [if_pos c1] at h
          exact ih.2.2.2.2.2.2.2.2.2.2.2.2.2.2.2.2.2.2.2.2.2.2.2.2.2.2.2.2.2.2.2.1 z _ _ L σ _ h hzk hc hs H locs ls hP hD hS (lv_sub hl [0, 1, 2] rfl)
        · rw [if_neg c1] at h
          refine lv_iload_n hx hb dX0_unary_275 rfl (lv_at hl 2 rfl) ?_
          refine lv_iconst (v := 5) hx hb dX0_unary_276 (by decide) ?_
          refine lv_icmp_ne (tgt := 289) hx hb dX0_unary_277 (by decide) (fun c2 => ?_) (fun c2 => ?_)
          · rw [if_neg c2] at h
            exact ih.2.2.2.2.2.2.2.2.2.2.2.2.2.2.2.2.2.2.2.2.2.2.2.2.2.2.2.2.2.2.2.2.1 z _ _ L σ _ h hzk hc hs H locs ls hP hD hS (lv_sub hl [] rfl)
          · rw [if_pos c2] at h
            exact ih.2.2.2.2.2.2.2.2.2.2.2.2.2.2.2.2.2.2.2.2.2.2.2.2.2.2.2.2.2.2.2.1 z _ _ L σ _ h hzk hc hs H locs ls hP hD hS (lv_sub hl [0, 1, 2] rfl)
      · intro z cells slots L σ r h hzk hc hs H locs ls hP hD hS hl
        rw [f_X0_unary] at h
        refine lv_ldc (v := (-268435455)) hx hb hown (hts _ (List.mem_cons_of_mem _ (List.mem_append_left _ (List.mem_append_left _ (List.mem_of_getElem? (i := 53) rfl))))) dX0_unary_84 ?_
        exact ih.2.2.2.2.2.2.2.2.2.2.2.2.2.2.1 z _ _ (lI L 100 ((-268435455))) σ _ h hzk hc hs H locs ls hP hD hS (lv_sub hl [] rfl)
      · intro z cells slots L σ r h hzk hc hs H locs ls hP hD hS hl
        rw [f_X0_unary] at h
        obtain rfl := Option.some.inj h
        subst hc
        subst hs
        exact xr_i hx hb hr hK hzk hP hD hS hlocks dX0_unary_86
      · intro z cells slots L σ r h hzk hc hs H locs ls hP hD hS hl
        rw [f_X0_unary] at h
        refine lv_ldc (v := (-268435455)) hx hb hown (hts _ (List.mem_cons_of_mem _ (List.mem_append_left _ (List.mem_append_left _ (List.mem_of_getElem? (i := 53) rfl))))) dX0_unary_125 ?_
        exact ih.2.2.2.2.2.2.2.2.2.2.2.2.2.2.2.2.1 z _ _ (lI L 100 ((-268435455))) σ _ h hzk hc hs H locs ls hP hD hS (lv_sub hl [] rfl)
      · intro z cells slots L σ r h hzk hc hs H locs ls hP hD hS hl
        rw [f_X0_unary] at h
        obtain rfl := Option.some.inj h
        subst hc
        subst hs
        exact xr_i hx hb hr hK hzk hP hD hS hlocks dX0_unary_127
      · intro z cells slots L σ r h hzk hc hs H locs ls hP hD hS hl
        rw [f_X0_unary] at h
        refine lv_ldc (v := (-268435455)) hx hb hown (hts _ (List.mem_cons_of_mem _ (List.mem_append_left _ (List.mem_append_left _ (List.mem_of_getElem? (i := 53) rfl))))) dX0_unary_103 ?_
        exact ih.2.2.2.2.2.2.2.2.2.2.2.2.2.2.2.2.2.2.1 z _ _ (lI L 100 ((-268435455))) σ _ h hzk hc hs H locs ls hP hD hS (lv_sub hl [] rfl)
      · intro z cells slots L σ r h hzk hc hs H locs ls hP hD hS hl
        rw [f_X0_unary] at h
        obtain rfl := Option.some.inj h
        subst hc
        subst hs
        exact xr_i hx hb hr hK hzk hP hD hS hlocks dX0_unary_105
      · intro z cells slots L σ r h hzk hc hs H locs ls hP hD hS hl
        rw [f_X0_unary] at h
        refine lv_ldc (v := (-268435455)) hx hb hown (hts _ (List.mem_cons_of_mem _ (List.mem_append_left _ (List.mem_append_left _ (List.mem_of_getElem? (i := 53) rfl))))) dX0_unary_146 ?_
        exact ih.2.2.2.2.2.2.2.2.2.2.2.2.2.2.2.2.2.2.2.2.1 z _ _ (lI L 100 ((-268435455))) σ _ h hzk hc hs H locs ls hP hD hS (lv_sub hl [] rfl)
      · intro z cells slots L σ r h hzk hc hs H locs ls hP hD hS hl
        rw [f_X0_unary] at h
        obtain rfl := Option.some.inj h
        subst hc
        subst hs
        exact xr_i hx hb hr hK hzk hP hD hS hlocks dX0_unary_148
      · intro z cells slots L σ r h hzk hc hs H locs ls hP hD hS hl
        rw [f_X0_unary] at h
        refine lv_ldc (v := (-268435455)) hx hb hown (hts _ (List.mem_cons_of_mem _ (List.mem_append_left _ (List.mem_append_left _ (List.mem_of_getElem? (i := 53) rfl))))) dX0_unary_168 ?_
        exact ih.2.2.2.2.2.2.2.2.2.2.2.2.2.2.2.2.2.2.2.2.2.2.1 z _ _ (lI L 100 ((-268435455))) σ _ h hzk hc hs H locs ls hP hD hS (lv_sub hl [] rfl)
      · intro z cells slots L σ r h hzk hc hs H locs ls hP hD hS hl
        rw [f_X0_unary] at h
        obtain rfl := Option.some.inj h
        subst hc
        subst hs
        exact xr_i hx hb hr hK hzk hP hD hS hlocks dX0_unary_170
      · intro z cells slots L σ r h hzk hc hs H locs ls hP hD hS hl
        rw [f_X0_unary] at h
        refine lv_ldc (v := (-268435455)) hx hb hown (hts _ (List.mem_cons_of_mem _ (List.mem_append_left _ (List.mem_append_left _ (List.mem_of_getElem? (i := 53) rfl))))) dX0_unary_190 ?_
        exact ih.2.2.2.2.2.2.2.2.2.2.2.2.2.2.2.2.2.2.2.2.2.2.2.2.1 z _ _ (lI L 100 ((-268435455))) σ _ h hzk hc hs H locs ls hP hD hS (lv_sub hl [] rfl)
      · intro z cells slots L σ r h hzk hc hs H locs ls hP hD hS hl
        rw [f_X0_unary] at h
        obtain rfl := Option.some.inj h
        subst hc
        subst hs
        exact xr_i hx hb hr hK hzk hP hD hS hlocks dX0_unary_192
      · intro z cells slots L σ r h hzk hc hs H locs ls hP hD hS hl
        rw [f_X0_unary] at h
        refine lv_ldc (v := (-268435455)) hx hb hown (hts _ (List.mem_cons_of_mem _ (List.mem_append_left _ (List.mem_append_left _ (List.mem_of_getElem? (i := 53) rfl))))) dX0_unary_207 ?_
        exact ih.2.2.2.2.2.2.2.2.2.2.2.2.2.2.2.2.2.2.2.2.2.2.2.2.2.2.1 z _ _ (lI L 100 ((-268435455))) σ _ h hzk hc hs H locs ls hP hD hS (lv_sub hl [] rfl)
      · intro z cells slots L σ r h hzk hc hs H locs ls hP hD hS hl
        rw [f_X0_unary] at h
        obtain rfl := Option.some.inj h
        subst hc
        subst hs
        exact xr_i hx hb hr hK hzk hP hD hS hlocks dX0_unary_209
      · intro z cells slots L σ r h hzk hc hs H locs ls hP hD hS hl
        rw [f_X0_unary] at h
        refine lv_ldc (v := (-268435455)) hx hb hown (hts _ (List.mem_cons_of_mem _ (List.mem_append_left _ (List.mem_append_left _ (List.mem_of_getElem? (i := 53) rfl))))) dX0_unary_251 ?_
        exact ih.2.2.2.2.2.2.2.2.2.2.2.2.2.2.2.2.2.2.2.2.2.2.2.2.2.2.2.2.1 z _ _ (lI L 100 ((-268435455))) σ _ h hzk hc hs H locs ls hP hD hS (lv_sub hl [] rfl)
      · intro z cells slots L σ r h hzk hc hs H locs ls hP hD hS hl
        rw [f_X0_unary] at h
        obtain rfl := Option.some.inj h
        subst hc
        subst hs
        exact xr_i hx hb hr hK hzk hP hD hS hlocks dX0_unary_253
      · intro z cells slots L σ r h hzk hc hs H locs ls hP hD hS hl
        rw [f_X0_unary] at h
        refine lv_ldc (v := (-268435455)) hx hb hown (hts _ (List.mem_cons_of_mem _ (List.mem_append_left _ (List.mem_append_left _ (List.mem_of_getElem? (i := 53) rfl))))) dX0_unary_267 ?_
        exact ih.2.2.2.2.2.2.2.2.2.2.2.2.2.2.2.2.2.2.2.2.2.2.2.2.2.2.2.2.2.2.1 z _ _ (lI L 100 ((-268435455))) σ _ h hzk hc hs H locs ls hP hD hS (lv_sub hl [] rfl)
      · intro z cells slots L σ r h hzk hc hs H locs ls hP hD hS hl
        rw [f_X0_unary] at h
        obtain rfl := Option.some.inj h
        subst hc
        subst hs
        exact xr_i hx hb hr hK hzk hP hD hS hlocks dX0_unary_269
      · intro z cells slots L σ r h hzk hc hs H locs ls hP hD hS hl
        rw [f_X0_unary] at h
        refine lv_aload_n hx hb dX0_unary_280 rfl (lv_at hl 0 rfl) ?_
        refine lv_iload_n hx hb dX0_unary_281 rfl (lv_at hl 1 rfl) ?_
        refine lv_iload_n hx hb dX0_unary_282 rfl (lv_at hl 2 rfl) ?_
        obtain ⟨r1, hc1, h⟩ := op_ex h
        refine kc_i (va_runV (As := [.int (L.1 2), .int (L.1 3)]) (rest := []) ⟨hx, hb, hml, hown, hts⟩ (c_y_X0_reversed l dC dI cy a z k (lI (lI lZ 1 ((L.1 2))) 2 ((L.1 3))) σ r1 hc1 H.size) (cwV 2 hts g_y_X0_unary_X0_reversed_V227 rfl rfl rfl hd_y_X0_reversed ⟨Nat.le_of_ble_eq_true rfl, Nat.le_of_ble_eq_true rfl⟩) ⟨nb_blind, va_recv hK hP (ci := 0) (q0 := 14) rfl rfl, (kb_pre hK hG hP hD)⟩ rfl rfl hl.1 rfl (lv_room (Nat.le_of_ble_eq_true rfl)) dX0_unary_283 ⟨(Nat.le_trans (Nat.le_add_right _ _) (Nat.le_of_eq hc)), (Nat.le_trans (Nat.le_add_right _ _) (Nat.le_of_eq hs))⟩) hA hP hD hS (fun H locs hP hD hS => ?_)
        refine lv_goto (tgt := 291) hx hb dX0_unary_286 (by decide) ?_
        exact ih.2.2.2.2.2.2.2.2.2.2.2.2.2.2.2.2.2.2.2.2.2.2.2.2.2.2.2.2.2.2.2.2.2 z _ _ (lI L 100 r1.1) r1.2 _ h hzk hc hs H locs ls hP hD hS (lv_sub hl [] rfl)
      · intro z cells slots L σ r h hzk hc hs H locs ls hP hD hS hl
        rw [f_X0_unary] at h
        refine lv_ldc (v := (-268435455)) hx hb hown (hts _ (List.mem_cons_of_mem _ (List.mem_append_left _ (List.mem_append_left _ (List.mem_of_getElem? (i := 53) rfl))))) dX0_unary_289 ?_
        exact ih.2.2.2.2.2.2.2.2.2.2.2.2.2.2.2.2.2.2.2.2.2.2.2.2.2.2.2.2.2.2.2.2.2 z _ _ (lI L 100 ((-268435455))) σ _ h hzk hc hs H locs ls hP hD hS (lv_sub hl [] rfl)
      · intro z cells slots L σ r h hzk hc hs H locs ls hP hD hS hl
        rw [f_X0_unary] at h
        obtain rfl := Option.some.inj h
        subst hc
        subst hs
        exact xr_i hx hb hr hK hzk hP hD hS hlocks dX0_unary_291
  exact (blk k0).1 z 0 0 L0 σ0 r0 h0 (zk_rf _ _) ((Nat.zero_add _).trans hmc) ((Nat.zero_add _).trans hms) s.heap [] ls hP hD hS hl

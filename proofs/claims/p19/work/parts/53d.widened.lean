/-! Arrays.copyOf to a longer row, and the class's widened: on one array. -/
theorem nb_cpx (f : Nat → Int32) (n : Nat) (h : n < 2 ^ 31) : va_cpy f nZ (0 : Int32).toNatClampNeg (0 : Int32).toNatClampNeg (nI n).toNatClampNeg = (fun i => if i < n then f i else 0) := by
  rw [nI_clamp h]
  funext j
  show (if 0 ≤ j ∧ j < 0 + n then f (0 + (j - 0)) else 0) = (if j < n then f j else 0)
  by_cases q : j < n
  · rw [if_pos ⟨Nat.zero_le _, by omega⟩, if_pos q, Nat.sub_zero, Nat.zero_add]
  · rw [if_neg (by omega), if_neg q]
def o_f_J7_copyOf_59c91 : List Cond := [.methodLink RJ7 304 Lib.Math.min.name, .static Lib.Math.min.name, .initialized "java/lang/Math", .code Lib.Math.min.name Lib.Math.min.code 2 (some .int), .methodLink RJ7 150 arraycopyName, .native arraycopyName, .static arraycopyName, .initialized "java/lang/System", .arrayClass .int]
theorem o_f_J7_copyOf_59c91_good : o_f_J7_copyOf_59c91.all goodWord = true := by decide +kernel
def p_f_J7_copyOf_59c91 : List Cond := o_f_J7_copyOf_59c91 ++ []
theorem p_f_J7_copyOf_59c91_good : p_f_J7_copyOf_59c91.all goodWord = true := nb_all2 o_f_J7_copyOf_59c91_good rfl
def w_f_J7_copyOf_59c91 : List Cond := .code yJ7_copyOf_59c91 cJ7_copyOf_59c91 3 (some (.array .int)) :: (p_f_J7_copyOf_59c91 ++ fC)
theorem w_f_J7_copyOf_59c91_good : w_f_J7_copyOf_59c91.all goodWord = true := nb_allc (by decide +kernel) (nb_all2 p_f_J7_copyOf_59c91_good fC_good)
set_option maxHeartbeats 8000000 in
theorem c_cpI (l : Launch) (dC : Nat → ClassId) (dI : Nat → Nat → Nat) (cy : Nat → ClassId) (a0 n N : Nat) (f : Nat → Int32) (hn : n < N) (hN : N < 134217728) (sz : Nat) : Met l yJ7_copyOf_59c91 w_f_J7_copyOf_59c91 ({ frames := 1, cells := 1, slots := N, locals := 70 }) (va_Pc [.ref a0, .int (nI N)] (nIn (dC, dI) cy sz [(a0, .inl (cy 1, n, .inl f))])) (va_Qr (fun _ : Nat → Nat => True) (fun u q t => q = u 0 ∧ nOut (dC, dI) cy (va_A [(a0, .inl (cy 1, n, .inl f))] sz) [(a0, .inl (cy 1, n, .inl f)), (u 0, .inl (cy 1, N, .inl (fun i => if i < n then f i else 0)))] t) (va_A [(a0, .inl (cy 1, n, .inl f))] sz)) 1 N (va_A [(a0, .inl (cy 1, n, .inl f))] sz) := by
  refine Met.ofW (cc := cJ7_copyOf_59c91) (maxL := 3) (ret := (some (.array .int))) (by decide) rfl ?_
  intro p e s m args below meth c s₁ B hml hv
  obtain ⟨rfl, hsz, hP, hK, hD0, hG⟩ := hv
  have hx := B.exec
  have hb := B.bytes
  have hr := B.returns
  have hts := atoms_spec (ws := w_f_J7_copyOf_59c91) B.pre
  have hown : s.vm.findClass RJ7 = some m.cls := findClass_of_methodNamed B.named
  have hlocks := B.notSynchronized
  subst hsz
  have hD := hD0.self (sz := s.heap.size)
  generalize hAe : va_A [(a0, .inl (cy 1, n, .inl f))] s.heap.size = A at hD ⊢
  have hA : ∀ q : Nat, s.heap.size ≤ q → A q := fun q h => by rw [← hAe]; exact Or.inr h
  have hS : va_S A s.heap s.heap [] := va_S.rf
  have hl := lv_entry ([.ref a0, .int (nI N)]) (n := 3) (Nat.le_of_ble_eq_true rfl)
  rw [lg_entry_eq]
  generalize (lg_sl ([.ref a0, .int (nI N)]) ++ List.replicate (3 - (lg_sl ([.ref a0, .int (nI N)])).length) Slot.unset).toArray = ls at hl ⊢
  have hl : lv_has ls 3 [(0, .ref a0), (1, .int (nI N))] := hl
  refine lv_iload_n hx hb dJ7_copyOf_59c91_0 rfl (lv_at hl 1 rfl) ?_
  refine lv_aload_n hx hb dJ7_copyOf_59c91_1 rfl (lv_at hl 0 rfl) ?_
  refine va_alen hx hb hK hP 0 1 rfl rfl (v := nI n) rfl dJ7_copyOf_59c91_2 ?_
  refine lv_icmp_ne (tgt := 14) hx hb dJ7_copyOf_59c91_3 (by decide) (fun _ => ?_) (fun c1 => absurd c1 (fun h => by have h2 := congrArg Int32.toNatClampNeg h; rw [nI_clamp (by omega), nI_clamp (by omega)] at h2; omega))
  refine lv_iload_n hx hb dJ7_copyOf_59c91_14 rfl (lv_at hl 1 rfl) ?_
  refine nb_newa (ty := .int) (cA := cy 1) (N' := N) (a0 := (N, .inl nZ)) hx hb (hts _ (List.mem_cons_of_mem _ (List.mem_append_left _ (List.mem_append_left _ (List.mem_of_getElem? (i := 8) rfl))))) rfl hK hP hD hS hA 1 rfl (fun _ => rfl) (nI_pos (by omega)) (nI_clamp (by omega)) (by show N * 4 ≤ 536870912; omega) (Nat.le_refl _) (Nat.le_of_eq (Nat.zero_add _)) dJ7_copyOf_59c91_15 (fun q H hP hD hS => ?_)
  refine W.widen (k := 1) (n := N) (Nat.le_refl _) (Nat.le_of_eq (Nat.zero_add N)) ?_
  have hP : va_P (dC, dI) nCl [(a0, .inl (cy 1, n, .inl f)), (q, .inl (cy 1, N, .inl nZ))] H := hP
  have hD : va_D A [(a0, .inl (cy 1, n, .inl f)), (q, .inl (cy 1, N, .inl nZ))] := hD
  refine lv_astore_n (lv' := [(2, .ref q), (0, .ref a0), (1, .int (nI N))]) hx hb dJ7_copyOf_59c91_17 rfl hl (by decide) rfl (fun ls hl => ?_)
  refine lv_aload_n hx hb dJ7_copyOf_59c91_18 rfl (lv_at hl 1 rfl) ?_
  refine lv_iconst (v := 0) hx hb dJ7_copyOf_59c91_19 (by decide) ?_
  refine lv_aload_n hx hb dJ7_copyOf_59c91_20 rfl (lv_at hl 0 rfl) ?_
  refine lv_iconst (v := 0) hx hb dJ7_copyOf_59c91_21 (by decide) ?_
  refine lv_aload_n hx hb dJ7_copyOf_59c91_22 rfl (lv_at hl 1 rfl) ?_
  refine va_alen hx hb hK hP 0 1 rfl rfl (v := nI n) rfl dJ7_copyOf_59c91_23 ?_
  refine lv_iload_n hx hb dJ7_copyOf_59c91_24 rfl (lv_at hl 2 rfl) ?_
  refine va_mmin (x := nI n) (y := nI N) hx hb (hml.trans hl.1.symm) hown (hts _ (List.mem_cons_of_mem _ (List.mem_append_left _ (List.mem_append_left _ (List.mem_of_getElem? (i := 0) rfl))))) (hts _ (List.mem_cons_of_mem _ (List.mem_append_left _ (List.mem_append_left _ (List.mem_of_getElem? (i := 1) rfl))))) (hts _ (List.mem_cons_of_mem _ (List.mem_append_left _ (List.mem_append_left _ (List.mem_of_getElem? (i := 2) rfl))))) (hts _ (List.mem_cons_of_mem _ (List.mem_append_left _ (List.mem_append_left _ (List.mem_of_getElem? (i := 3) rfl))))) (Nat.le_refl _) (Nat.le_of_ble_eq_true rfl) (Nat.le_refl _) (Nat.le_refl _) dJ7_copyOf_59c91_25 ?_
  rw [if_neg (fun h => absurd ((nI_ltI (by omega) (by omega)).mp h) (by omega))]
  refine va_copyi (ty := .int) hx hb (hml.trans hl.1.symm) hown (hts _ (List.mem_cons_of_mem _ (List.mem_append_left _ (List.mem_append_left _ (List.mem_of_getElem? (i := 4) rfl))))) (hts _ (List.mem_cons_of_mem _ (List.mem_append_left _ (List.mem_append_left _ (List.mem_of_getElem? (i := 5) rfl))))) (hts _ (List.mem_cons_of_mem _ (List.mem_append_left _ (List.mem_append_left _ (List.mem_of_getElem? (i := 6) rfl))))) (hts _ (List.mem_cons_of_mem _ (List.mem_append_left _ (List.mem_append_left _ (List.mem_of_getElem? (i := 7) rfl))))) hK hP hD hS 0 1 1 1 rfl rfl rfl rfl rfl (by decide) (by decide) (nI_pos (by omega)) (by rw [nI_clamp (by omega)]; exact Nat.le_of_eq (Nat.zero_add _)) (by rw [nI_clamp (by omega)]; show 0 + n ≤ N; omega) (fun _ _ => rfl) (Nat.le_refl _) (Nat.le_of_ble_eq_true rfl) dJ7_copyOf_59c91_28 (fun H locs hP hD hS => ?_)
  rw [nb_cpx f n (by omega)] at hP hD
  have hP : va_P (dC, dI) nCl [(a0, .inl (cy 1, n, .inl f)), (q, .inl (cy 1, N, .inl (fun i => if i < n then f i else 0)))] H := hP
  have hD : va_D A [(a0, .inl (cy 1, n, .inl f)), (q, .inl (cy 1, N, .inl (fun i => if i < n then f i else 0)))] := hD
  refine lv_aload_n hx hb dJ7_copyOf_59c91_31 rfl (lv_at hl 0 rfl) ?_
  exact W.aret (v := .ref q) hx hb hr (Or.inr ⟨_, rfl⟩) (Or.inr ⟨_, rfl⟩) (fun t ht hW => ⟨⟨(fun _ => q), q, rfl, trivial, rfl, by rw [ht]; exact hP, va_K.moved hW.alike hK, hD⟩, hS.F ht⟩) hS.2.2 dJ7_copyOf_59c91_32
def o_f_X11_widened : List Cond := [.methodLink RX11 7 yJ7_copyOf_59c91, .static yJ7_copyOf_59c91, .initialized RJ7]
theorem o_f_X11_widened_good : o_f_X11_widened.all goodWord = true := by decide +kernel
def p_f_X11_widened : List Cond := o_f_X11_widened ++ ((.code yJ7_copyOf_59c91 cJ7_copyOf_59c91 3 (some (.array .int)) :: p_f_J7_copyOf_59c91) ++ [])
theorem p_f_X11_widened_good : p_f_X11_widened.all goodWord = true := nb_all2 o_f_X11_widened_good (nb_all2 (nb_allc (by decide +kernel) p_f_J7_copyOf_59c91_good) rfl)
def w_f_X11_widened : List Cond := .code yX11_widened cX11_widened 3 (some (.array .int)) :: (p_f_X11_widened ++ fC)
theorem w_f_X11_widened_good : w_f_X11_widened.all goodWord = true := nb_allc (by decide +kernel) (nb_all2 p_f_X11_widened_good fC_good)
theorem gg_f_X11_widened : GoodIn w_f_X11_widened w_f_J7_copyOf_59c91 := goodIn_sub (fun w h => (List.mem_cons.mp h).elim (fun e => (List.mem_cons_of_mem _ (List.mem_append_left _ (List.mem_append_right _ (List.mem_append_left _ (List.mem_cons.mpr (Or.inl e))))))) (fun h => (List.mem_append.mp h).elim (fun h => (List.mem_cons_of_mem _ (List.mem_append_left _ (List.mem_append_right _ (List.mem_append_left _ (List.mem_cons_of_mem _ h)))))) (fun h => List.mem_cons_of_mem _ (List.mem_append_right _ h)))) w_f_J7_copyOf_59c91_good
theorem g_f_X11_widened : GoodIn w_f_X11_widened (va_wsS RX11 7 yJ7_copyOf_59c91 w_f_J7_copyOf_59c91) := goodIn_app (nb_g3 (List.mem_cons_of_mem _ (List.mem_append_left _ (List.mem_append_left _ (List.mem_of_getElem? (i := 0) rfl)))) (List.mem_cons_of_mem _ (List.mem_append_left _ (List.mem_append_left _ (List.mem_of_getElem? (i := 1) rfl)))) (List.mem_cons_of_mem _ (List.mem_append_left _ (List.mem_append_left _ (List.mem_of_getElem? (i := 2) rfl)))) (by decide +kernel)) gg_f_X11_widened
set_option maxHeartbeats 8000000 in
theorem c_wdI_new (l : Launch) (dC : Nat → ClassId) (dI : Nat → Nat → Nat) (cy : Nat → ClassId) (a0 n N : Nat) (f : Nat → Int32) (nd : Int32) (h1 : nI n < nd) (hn : n < N) (hN : N < 134217728) (sz : Nat) : Met l yX11_widened w_f_X11_widened ({ frames := 2, cells := 1, slots := N, locals := 92 }) (va_Pc [.ref a0, .int nd, .int (nI N)] (nIn (dC, dI) cy sz [(a0, .inl (cy 1, n, .inl f))])) (va_Qr (fun _ : Nat → Nat => True) (fun u q t => q = u 0 ∧ nOut (dC, dI) cy (va_A [(a0, .inl (cy 1, n, .inl f))] sz) [(a0, .inl (cy 1, n, .inl f)), (u 0, .inl (cy 1, N, .inl (fun i => if i < n then f i else 0)))] t) (va_A [(a0, .inl (cy 1, n, .inl f))] sz)) 1 N (va_A [(a0, .inl (cy 1, n, .inl f))] sz) := by
  refine Met.ofW (cc := cX11_widened) (maxL := 3) (ret := (some (.array .int))) (by decide) rfl ?_
  intro p e s m args below meth c s₁ B hml hv
  obtain ⟨rfl, hsz, hP, hK, hD0, hG⟩ := hv
  have hx := B.exec
  have hb := B.bytes
  have hr := B.returns
  have hts := atoms_spec (ws := w_f_X11_widened) B.pre
  have hown : s.vm.findClass RX11 = some m.cls := findClass_of_methodNamed B.named
  have hlocks := B.notSynchronized
  subst hsz
  have hD := hD0.self (sz := s.heap.size)
  generalize hAe : va_A [(a0, .inl (cy 1, n, .inl f))] s.heap.size = A at hD ⊢
  have hA : ∀ q : Nat, s.heap.size ≤ q → A q := fun q h => by rw [← hAe]; exact Or.inr h
  have hS : va_S A s.heap s.heap [] := va_S.rf
  have hl := lv_entry ([.ref a0, .int nd, .int (nI N)]) (n := 3) (Nat.le_of_ble_eq_true rfl)
  rw [lg_entry_eq]
  generalize (lg_sl ([.ref a0, .int nd, .int (nI N)]) ++ List.replicate (3 - (lg_sl ([.ref a0, .int nd, .int (nI N)])).length) Slot.unset).toArray = ls at hl ⊢
  have hl : lv_has ls 3 [(0, .ref a0), (1, .int nd), (2, .int (nI N))] := hl
  refine lv_iload_n hx hb dX11_widened_0 rfl (lv_at hl 1 rfl) ?_
  refine lv_aload_n hx hb dX11_widened_1 rfl (lv_at hl 0 rfl) ?_
  refine va_alen hx hb hK hP 0 1 rfl rfl (v := nI n) rfl dX11_widened_2 ?_
  refine lv_icmp_le (tgt := 20) hx hb dX11_widened_3 (by decide) (fun c1 => absurd c1 (Int32.not_le.mpr h1)) (fun _ => ?_)
  refine lv_aload_n hx hb dX11_widened_6 rfl (lv_at hl 0 rfl) ?_
  refine va_alen hx hb hK hP 0 1 rfl rfl (v := nI n) rfl dX11_widened_7 ?_
  refine lv_iload_n hx hb dX11_widened_8 rfl (lv_at hl 2 rfl) ?_
  refine lv_icmp_ge (tgt := 20) hx hb dX11_widened_9 (by decide) (fun c1 => absurd ((nI_leI (by omega) (by omega)).mp c1) (by omega)) (fun _ => ?_)
  refine lv_aload_n hx hb dX11_widened_12 rfl (lv_at hl 0 rfl) ?_
  refine lv_iload_n hx hb dX11_widened_13 rfl (lv_at hl 2 rfl) ?_
  have hFc := va_free (wc := [(a0, .inl (cy 1, n, .inl f))]) hD hS hA [0] rfl
  refine va_callr (va_runS (As := [.ref a0, .int (nI N)]) (rest := []) ⟨hx, hb, hml, hown, hts⟩ (c_cpI l dC dI cy a0 n N f hn hN s.heap.size) (va_cwS 2 hts g_f_X11_widened rfl rfl rfl (by decide +kernel) ⟨Nat.le_of_ble_eq_true rfl, Nat.le_of_ble_eq_true rfl⟩) ⟨nb_blind, fun U hU hW => ⟨rfl, by rw [hU], by rw [hU]; exact hP, va_K.moved hW.alike hK, hD.weaken (fun _ _ _ _ => trivial), hG.warm hW⟩⟩ rfl rfl hl.1 rfl (lv_room (Nat.le_of_ble_eq_true rfl)) dX11_widened_14 ⟨Nat.le_refl _, Nat.le_of_eq (Nat.zero_add _)⟩) hS (fun q _ h => hFc q h) hFc (fun u ra t H1 locs ht hvm hw hB hz1 hk1 hS => ?_)
  obtain ⟨hra, hP1, hK1, hD1⟩ := hB
  subst hra
  rw [ht] at hP1
  obtain ⟨hP, hD⟩ := va_join (wr := []) (w1 := [(a0, .inl (cy 1, n, .inl f)), (u 0, .inl (cy 1, N, .inl (fun i => if i < n then f i else 0)))]) hP hD [0] [] rfl rfl (by decide) (by decide) hk1 hFc hP1 hD1
  refine W.widen (k := 1) (n := N) (Nat.le_refl _) (Nat.le_of_eq (Nat.zero_add N)) ?_
  refine lv_goto (tgt := 21) hx hb dX11_widened_17 (by decide) ?_
  exact W.aret (v := .ref (u 0)) hx hb hr (Or.inr ⟨_, rfl⟩) (Or.inr ⟨_, rfl⟩) (fun t ht hW => ⟨⟨u, u 0, rfl, trivial, rfl, by rw [ht]; exact hP, va_K.moved hW.alike hK, hD⟩, hS.F ht⟩) hS.2.2 dX11_widened_21
set_option maxHeartbeats 8000000 in
theorem c_wdI_same (l : Launch) (dC : Nat → ClassId) (dI : Nat → Nat → Nat) (cy : Nat → ClassId) (a0 n N : Nat) (f : Nat → Int32) (nd : Int32) (hq : ¬ (nI n < nd ∧ n < N)) (hn : n < 2 ^ 31) (hN : N < 134217728) (sz : Nat) : Met l yX11_widened w_f_X11_widened ({ frames := 2, cells := 0, slots := 0, locals := 92 }) (va_Pc [.ref a0, .int nd, .int (nI N)] (nIn (dC, dI) cy sz [(a0, .inl (cy 1, n, .inl f))])) (va_Qr (fun _ : Unit => True) (fun _ q t => q = a0 ∧ nOut (dC, dI) cy (va_A [(a0, .inl (cy 1, n, .inl f))] sz) [(a0, .inl (cy 1, n, .inl f))] t) (va_A [(a0, .inl (cy 1, n, .inl f))] sz)) 0 0 (va_A [(a0, .inl (cy 1, n, .inl f))] sz) := by
  refine Met.ofW (cc := cX11_widened) (maxL := 3) (ret := (some (.array .int))) (by decide) rfl ?_
  intro p e s m args below meth c s₁ B hml hv
  obtain ⟨rfl, hsz, hP, hK, hD0, hG⟩ := hv
  have hx := B.exec
  have hb := B.bytes
  have hr := B.returns
  have hts := atoms_spec (ws := w_f_X11_widened) B.pre
  have hown : s.vm.findClass RX11 = some m.cls := findClass_of_methodNamed B.named
  have hlocks := B.notSynchronized
  subst hsz
  have hD := hD0.self (sz := s.heap.size)
  generalize hAe : va_A [(a0, .inl (cy 1, n, .inl f))] s.heap.size = A at hD ⊢
  have hA : ∀ q : Nat, s.heap.size ≤ q → A q := fun q h => by rw [← hAe]; exact Or.inr h
  have hS : va_S A s.heap s.heap [] := va_S.rf
  have hl := lv_entry ([.ref a0, .int nd, .int (nI N)]) (n := 3) (Nat.le_of_ble_eq_true rfl)
  rw [lg_entry_eq]
  generalize (lg_sl ([.ref a0, .int nd, .int (nI N)]) ++ List.replicate (3 - (lg_sl ([.ref a0, .int nd, .int (nI N)])).length) Slot.unset).toArray = ls at hl ⊢
  have hl : lv_has ls 3 [(0, .ref a0), (1, .int nd), (2, .int (nI N))] := hl
  refine lv_iload_n hx hb dX11_widened_0 rfl (lv_at hl 1 rfl) ?_
  refine lv_aload_n hx hb dX11_widened_1 rfl (lv_at hl 0 rfl) ?_
  refine va_alen hx hb hK hP 0 1 rfl rfl (v := nI n) rfl dX11_widened_2 ?_
  refine lv_icmp_le (tgt := 20) hx hb dX11_widened_3 (by decide) (fun c1 => ?_) (fun c1 => ?_)
  · refine lv_aload_n hx hb dX11_widened_20 rfl (lv_at hl 0 rfl) ?_
    exact W.aret (v := .ref a0) hx hb hr (Or.inr ⟨_, rfl⟩) (Or.inr ⟨_, rfl⟩) (fun t ht hW => ⟨⟨(), a0, rfl, trivial, rfl, by rw [ht]; exact hP, va_K.moved hW.alike hK, hD⟩, hS.F ht⟩) hS.2.2 dX11_widened_21
  · refine lv_aload_n hx hb dX11_widened_6 rfl (lv_at hl 0 rfl) ?_
    refine va_alen hx hb hK hP 0 1 rfl rfl (v := nI n) rfl dX11_widened_7 ?_
    refine lv_iload_n hx hb dX11_widened_8 rfl (lv_at hl 2 rfl) ?_
    refine lv_icmp_ge (tgt := 20) hx hb dX11_widened_9 (by decide) (fun c2 => ?_) (fun c2 => absurd ⟨Int32.not_le.mp c1, Nat.lt_of_not_le (fun h => c2 (nI_le h hn))⟩ hq)
    refine lv_aload_n hx hb dX11_widened_20 rfl (lv_at hl 0 rfl) ?_
    exact W.aret (v := .ref a0) hx hb hr (Or.inr ⟨_, rfl⟩) (Or.inr ⟨_, rfl⟩) (fun t ht hW => ⟨⟨(), a0, rfl, trivial, rfl, by rw [ht]; exact hP, va_K.moved hW.alike hK, hD⟩, hS.F ht⟩) hS.2.2 dX11_widened_21
def o_f_J7_copyOf_9075b : List Cond := [.methodLink RJ7 304 Lib.Math.min.name, .static Lib.Math.min.name, .initialized "java/lang/Math", .code Lib.Math.min.name Lib.Math.min.code 2 (some .int), .methodLink RJ7 150 arraycopyName, .native arraycopyName, .static arraycopyName, .initialized "java/lang/System", .arrayClass .byte]
theorem o_f_J7_copyOf_9075b_good : o_f_J7_copyOf_9075b.all goodWord = true := by decide +kernel
def p_f_J7_copyOf_9075b : List Cond := o_f_J7_copyOf_9075b ++ []
theorem p_f_J7_copyOf_9075b_good : p_f_J7_copyOf_9075b.all goodWord = true := nb_all2 o_f_J7_copyOf_9075b_good rfl
def w_f_J7_copyOf_9075b : List Cond := .code yJ7_copyOf_9075b cJ7_copyOf_9075b 3 (some (.array .byte)) :: (p_f_J7_copyOf_9075b ++ fC)
theorem w_f_J7_copyOf_9075b_good : w_f_J7_copyOf_9075b.all goodWord = true := nb_allc (by decide +kernel) (nb_all2 p_f_J7_copyOf_9075b_good fC_good)
set_option maxHeartbeats 8000000 in
theorem c_cpB (l : Launch) (dC : Nat → ClassId) (dI : Nat → Nat → Nat) (cy : Nat → ClassId) (a0 n N : Nat) (f : Nat → Int32) (hn : n < N) (hN : N < 134217728) (hfit : ∀ i, i < n → fits .byte (.int (f i)) = true) (sz : Nat) : Met l yJ7_copyOf_9075b w_f_J7_copyOf_9075b ({ frames := 1, cells := 1, slots := N, locals := 70 }) (va_Pc [.ref a0, .int (nI N)] (nIn (dC, dI) cy sz [(a0, .inl (cy 0, n, .inl f))])) (va_Qr (fun _ : Nat → Nat => True) (fun u q t => q = u 0 ∧ nOut (dC, dI) cy (va_A [(a0, .inl (cy 0, n, .inl f))] sz) [(a0, .inl (cy 0, n, .inl f)), (u 0, .inl (cy 0, N, .inl (fun i => if i < n then f i else 0)))] t) (va_A [(a0, .inl (cy 0, n, .inl f))] sz)) 1 N (va_A [(a0, .inl (cy 0, n, .inl f))] sz) := by
  refine Met.ofW (cc := cJ7_copyOf_9075b) (maxL := 3) (ret := (some (.array .byte))) (by decide) rfl ?_
  intro p e s m args below meth c s₁ B hml hv
  obtain ⟨rfl, hsz, hP, hK, hD0, hG⟩ := hv
  have hx := B.exec
  have hb := B.bytes
  have hr := B.returns
  have hts := atoms_spec (ws := w_f_J7_copyOf_9075b) B.pre
  have hown : s.vm.findClass RJ7 = some m.cls := findClass_of_methodNamed B.named
  have hlocks := B.notSynchronized
  subst hsz
  have hD := hD0.self (sz := s.heap.size)
  generalize hAe : va_A [(a0, .inl (cy 0, n, .inl f))] s.heap.size = A at hD ⊢
  have hA : ∀ q : Nat, s.heap.size ≤ q → A q := fun q h => by rw [← hAe]; exact Or.inr h
  have hS : va_S A s.heap s.heap [] := va_S.rf
  have hl := lv_entry ([.ref a0, .int (nI N)]) (n := 3) (Nat.le_of_ble_eq_true rfl)
  rw [lg_entry_eq]
  generalize (lg_sl ([.ref a0, .int (nI N)]) ++ List.replicate (3 - (lg_sl ([.ref a0, .int (nI N)])).length) Slot.unset).toArray = ls at hl ⊢
  have hl : lv_has ls 3 [(0, .ref a0), (1, .int (nI N))] := hl
  refine lv_iload_n hx hb dJ7_copyOf_9075b_0 rfl (lv_at hl 1 rfl) ?_
  refine lv_aload_n hx hb dJ7_copyOf_9075b_1 rfl (lv_at hl 0 rfl) ?_
  refine va_alen hx hb hK hP 0 0 rfl rfl (v := nI n) rfl dJ7_copyOf_9075b_2 ?_
  refine lv_icmp_ne (tgt := 14) hx hb dJ7_copyOf_9075b_3 (by decide) (fun _ => ?_) (fun c1 => absurd c1 (fun h => by have h2 := congrArg Int32.toNatClampNeg h; rw [nI_clamp (by omega), nI_clamp (by omega)] at h2; omega))
  refine lv_iload_n hx hb dJ7_copyOf_9075b_14 rfl (lv_at hl 1 rfl) ?_
  refine nb_newa (ty := .byte) (cA := cy 0) (N' := N) (a0 := (N, .inl nZ)) hx hb (hts _ (List.mem_cons_of_mem _ (List.mem_append_left _ (List.mem_append_left _ (List.mem_of_getElem? (i := 8) rfl))))) rfl hK hP hD hS hA 0 rfl (fun _ => rfl) (nI_pos (by omega)) (nI_clamp (by omega)) (by show N * 1 ≤ 536870912; omega) (Nat.le_refl _) (Nat.le_of_eq (Nat.zero_add _)) dJ7_copyOf_9075b_15 (fun q H hP hD hS => ?_)
  refine W.widen (k := 1) (n := N) (Nat.le_refl _) (Nat.le_of_eq (Nat.zero_add N)) ?_
  have hP : va_P (dC, dI) nCl [(a0, .inl (cy 0, n, .inl f)), (q, .inl (cy 0, N, .inl nZ))] H := hP
  have hD : va_D A [(a0, .inl (cy 0, n, .inl f)), (q, .inl (cy 0, N, .inl nZ))] := hD
  refine lv_astore_n (lv' := [(2, .ref q), (0, .ref a0), (1, .int (nI N))]) hx hb dJ7_copyOf_9075b_17 rfl hl (by decide) rfl (fun ls hl => ?_)
  refine lv_aload_n hx hb dJ7_copyOf_9075b_18 rfl (lv_at hl 1 rfl) ?_
  refine lv_iconst (v := 0) hx hb dJ7_copyOf_9075b_19 (by decide) ?_
  refine lv_aload_n hx hb dJ7_copyOf_9075b_20 rfl (lv_at hl 0 rfl) ?_
  refine lv_iconst (v := 0) hx hb dJ7_copyOf_9075b_21 (by decide) ?_
  refine lv_aload_n hx hb dJ7_copyOf_9075b_22 rfl (lv_at hl 1 rfl) ?_
  refine va_alen hx hb hK hP 0 0 rfl rfl (v := nI n) rfl dJ7_copyOf_9075b_23 ?_
  refine lv_iload_n hx hb dJ7_copyOf_9075b_24 rfl (lv_at hl 2 rfl) ?_
  refine va_mmin (x := nI n) (y := nI N) hx hb (hml.trans hl.1.symm) hown (hts _ (List.mem_cons_of_mem _ (List.mem_append_left _ (List.mem_append_left _ (List.mem_of_getElem? (i := 0) rfl))))) (hts _ (List.mem_cons_of_mem _ (List.mem_append_left _ (List.mem_append_left _ (List.mem_of_getElem? (i := 1) rfl))))) (hts _ (List.mem_cons_of_mem _ (List.mem_append_left _ (List.mem_append_left _ (List.mem_of_getElem? (i := 2) rfl))))) (hts _ (List.mem_cons_of_mem _ (List.mem_append_left _ (List.mem_append_left _ (List.mem_of_getElem? (i := 3) rfl))))) (Nat.le_refl _) (Nat.le_of_ble_eq_true rfl) (Nat.le_refl _) (Nat.le_refl _) dJ7_copyOf_9075b_25 ?_
  rw [if_neg (fun h => absurd ((nI_ltI (by omega) (by omega)).mp h) (by omega))]
  refine va_copyi (ty := .byte) hx hb (hml.trans hl.1.symm) hown (hts _ (List.mem_cons_of_mem _ (List.mem_append_left _ (List.mem_append_left _ (List.mem_of_getElem? (i := 4) rfl))))) (hts _ (List.mem_cons_of_mem _ (List.mem_append_left _ (List.mem_append_left _ (List.mem_of_getElem? (i := 5) rfl))))) (hts _ (List.mem_cons_of_mem _ (List.mem_append_left _ (List.mem_append_left _ (List.mem_of_getElem? (i := 6) rfl))))) (hts _ (List.mem_cons_of_mem _ (List.mem_append_left _ (List.mem_append_left _ (List.mem_of_getElem? (i := 7) rfl))))) hK hP hD hS 0 1 0 0 rfl rfl rfl rfl rfl (by decide) (by decide) (nI_pos (by omega)) (by rw [nI_clamp (by omega)]; exact Nat.le_of_eq (Nat.zero_add _)) (by rw [nI_clamp (by omega)]; show 0 + n ≤ N; omega) (fun i hi => by rw [nI_clamp (by omega)] at hi; show fits .byte (.int (f (0 + i))) = true; rw [Nat.zero_add]; exact hfit i hi) (Nat.le_refl _) (Nat.le_of_ble_eq_true rfl) dJ7_copyOf_9075b_28 (fun H locs hP hD hS => ?_)
  rw [nb_cpx f n (by omega)] at hP hD
  have hP : va_P (dC, dI) nCl [(a0, .inl (cy 0, n, .inl f)), (q, .inl (cy 0, N, .inl (fun i => if i < n then f i else 0)))] H := hP
  have hD : va_D A [(a0, .inl (cy 0, n, .inl f)), (q, .inl (cy 0, N, .inl (fun i => if i < n then f i else 0)))] := hD
  refine lv_aload_n hx hb dJ7_copyOf_9075b_31 rfl (lv_at hl 0 rfl) ?_
  exact W.aret (v := .ref q) hx hb hr (Or.inr ⟨_, rfl⟩) (Or.inr ⟨_, rfl⟩) (fun t ht hW => ⟨⟨(fun _ => q), q, rfl, trivial, rfl, by rw [ht]; exact hP, va_K.moved hW.alike hK, hD⟩, hS.F ht⟩) hS.2.2 dJ7_copyOf_9075b_32
def o_f_X11_widenedBytes : List Cond := [.methodLink RX11 13 yJ7_copyOf_9075b, .static yJ7_copyOf_9075b, .initialized RJ7]
theorem o_f_X11_widenedBytes_good : o_f_X11_widenedBytes.all goodWord = true := by decide +kernel
def p_f_X11_widenedBytes : List Cond := o_f_X11_widenedBytes ++ ((.code yJ7_copyOf_9075b cJ7_copyOf_9075b 3 (some (.array .byte)) :: p_f_J7_copyOf_9075b) ++ [])
theorem p_f_X11_widenedBytes_good : p_f_X11_widenedBytes.all goodWord = true := nb_all2 o_f_X11_widenedBytes_good (nb_all2 (nb_allc (by decide +kernel) p_f_J7_copyOf_9075b_good) rfl)
def w_f_X11_widenedBytes : List Cond := .code yX11_widenedBytes cX11_widenedBytes 3 (some (.array .byte)) :: (p_f_X11_widenedBytes ++ fC)
theorem w_f_X11_widenedBytes_good : w_f_X11_widenedBytes.all goodWord = true := nb_allc (by decide +kernel) (nb_all2 p_f_X11_widenedBytes_good fC_good)
theorem gg_f_X11_widenedBytes : GoodIn w_f_X11_widenedBytes w_f_J7_copyOf_9075b := goodIn_sub (fun w h => (List.mem_cons.mp h).elim (fun e => (List.mem_cons_of_mem _ (List.mem_append_left _ (List.mem_append_right _ (List.mem_append_left _ (List.mem_cons.mpr (Or.inl e))))))) (fun h => (List.mem_append.mp h).elim (fun h => (List.mem_cons_of_mem _ (List.mem_append_left _ (List.mem_append_right _ (List.mem_append_left _ (List.mem_cons_of_mem _ h)))))) (fun h => List.mem_cons_of_mem _ (List.mem_append_right _ h)))) w_f_J7_copyOf_9075b_good
theorem g_f_X11_widenedBytes : GoodIn w_f_X11_widenedBytes (va_wsS RX11 13 yJ7_copyOf_9075b w_f_J7_copyOf_9075b) := goodIn_app (nb_g3 (List.mem_cons_of_mem _ (List.mem_append_left _ (List.mem_append_left _ (List.mem_of_getElem? (i := 0) rfl)))) (List.mem_cons_of_mem _ (List.mem_append_left _ (List.mem_append_left _ (List.mem_of_getElem? (i := 1) rfl)))) (List.mem_cons_of_mem _ (List.mem_append_left _ (List.mem_append_left _ (List.mem_of_getElem? (i := 2) rfl)))) (by decide +kernel)) gg_f_X11_widenedBytes
set_option maxHeartbeats 8000000 in
theorem c_wdB_new (l : Launch) (dC : Nat → ClassId) (dI : Nat → Nat → Nat) (cy : Nat → ClassId) (a0 n N : Nat) (f : Nat → Int32) (nd : Int32) (h1 : nI n < nd) (hn : n < N) (hN : N < 134217728) (hfit : ∀ i, i < n → fits .byte (.int (f i)) = true) (sz : Nat) : Met l yX11_widenedBytes w_f_X11_widenedBytes ({ frames := 2, cells := 1, slots := N, locals := 92 }) (va_Pc [.ref a0, .int nd, .int (nI N)] (nIn (dC, dI) cy sz [(a0, .inl (cy 0, n, .inl f))])) (va_Qr (fun _ : Nat → Nat => True) (fun u q t => q = u 0 ∧ nOut (dC, dI) cy (va_A [(a0, .inl (cy 0, n, .inl f))] sz) [(a0, .inl (cy 0, n, .inl f)), (u 0, .inl (cy 0, N, .inl (fun i => if i < n then f i else 0)))] t) (va_A [(a0, .inl (cy 0, n, .inl f))] sz)) 1 N (va_A [(a0, .inl (cy 0, n, .inl f))] sz) := by
  refine Met.ofW (cc := cX11_widenedBytes) (maxL := 3) (ret := (some (.array .byte))) (by decide) rfl ?_
  intro p e s m args below meth c s₁ B hml hv
  obtain ⟨rfl, hsz, hP, hK, hD0, hG⟩ := hv
  have hx := B.exec
  have hb := B.bytes
  have hr := B.returns
  have hts := atoms_spec (ws := w_f_X11_widenedBytes) B.pre
  have hown : s.vm.findClass RX11 = some m.cls := findClass_of_methodNamed B.named
  have hlocks := B.notSynchronized
  subst hsz
  have hD := hD0.self (sz := s.heap.size)
  generalize hAe : va_A [(a0, .inl (cy 0, n, .inl f))] s.heap.size = A at hD ⊢
  have hA : ∀ q : Nat, s.heap.size ≤ q → A q := fun q h => by rw [← hAe]; exact Or.inr h
  have hS : va_S A s.heap s.heap [] := va_S.rf
  have hl := lv_entry ([.ref a0, .int nd, .int (nI N)]) (n := 3) (Nat.le_of_ble_eq_true rfl)
  rw [lg_entry_eq]
  generalize (lg_sl ([.ref a0, .int nd, .int (nI N)]) ++ List.replicate (3 - (lg_sl ([.ref a0, .int nd, .int (nI N)])).length) Slot.unset).toArray = ls at hl ⊢
  have hl : lv_has ls 3 [(0, .ref a0), (1, .int nd), (2, .int (nI N))] := hl
  refine lv_iload_n hx hb dX11_widenedBytes_0 rfl (lv_at hl 1 rfl) ?_
  refine lv_aload_n hx hb dX11_widenedBytes_1 rfl (lv_at hl 0 rfl) ?_
  refine va_alen hx hb hK hP 0 0 rfl rfl (v := nI n) rfl dX11_widenedBytes_2 ?_
  refine lv_icmp_le (tgt := 20) hx hb dX11_widenedBytes_3 (by decide) (fun c1 => absurd c1 (Int32.not_le.mpr h1)) (fun _ => ?_)
  refine lv_aload_n hx hb dX11_widenedBytes_6 rfl (lv_at hl 0 rfl) ?_
  refine va_alen hx hb hK hP 0 0 rfl rfl (v := nI n) rfl dX11_widenedBytes_7 ?_
  refine lv_iload_n hx hb dX11_widenedBytes_8 rfl (lv_at hl 2 rfl) ?_
  refine lv_icmp_ge (tgt := 20) hx hb dX11_widenedBytes_9 (by decide) (fun c1 => absurd ((nI_leI (by omega) (by omega)).mp c1) (by omega)) (fun _ => ?_)
  refine lv_aload_n hx hb dX11_widenedBytes_12 rfl (lv_at hl 0 rfl) ?_
  refine lv_iload_n hx hb dX11_widenedBytes_13 rfl (lv_at hl 2 rfl) ?_
  have hFc := va_free (wc := [(a0, .inl (cy 0, n, .inl f))]) hD hS hA [0] rfl
  refine va_callr (va_runS (As := [.ref a0, .int (nI N)]) (rest := []) ⟨hx, hb, hml, hown, hts⟩ (c_cpB l dC dI cy a0 n N f hn hN hfit s.heap.size) (va_cwS 2 hts g_f_X11_widenedBytes rfl rfl rfl (by decide +kernel) ⟨Nat.le_of_ble_eq_true rfl, Nat.le_of_ble_eq_true rfl⟩) ⟨nb_blind, fun U hU hW => ⟨rfl, by rw [hU], by rw [hU]; exact hP, va_K.moved hW.alike hK, hD.weaken (fun _ _ _ _ => trivial), hG.warm hW⟩⟩ rfl rfl hl.1 rfl (lv_room (Nat.le_of_ble_eq_true rfl)) dX11_widenedBytes_14 ⟨Nat.le_refl _, Nat.le_of_eq (Nat.zero_add _)⟩) hS (fun q _ h => hFc q h) hFc (fun u ra t H1 locs ht hvm hw hB hz1 hk1 hS => ?_)
  obtain ⟨hra, hP1, hK1, hD1⟩ := hB
  subst hra
  rw [ht] at hP1
  obtain ⟨hP, hD⟩ := va_join (wr := []) (w1 := [(a0, .inl (cy 0, n, .inl f)), (u 0, .inl (cy 0, N, .inl (fun i => if i < n then f i else 0)))]) hP hD [0] [] rfl rfl (by decide) (by decide) hk1 hFc hP1 hD1
  refine W.widen (k := 1) (n := N) (Nat.le_refl _) (Nat.le_of_eq (Nat.zero_add N)) ?_
  refine lv_goto (tgt := 21) hx hb dX11_widenedBytes_17 (by decide) ?_
  exact W.aret (v := .ref (u 0)) hx hb hr (Or.inr ⟨_, rfl⟩) (Or.inr ⟨_, rfl⟩) (fun t ht hW => ⟨⟨u, u 0, rfl, trivial, rfl, by rw [ht]; exact hP, va_K.moved hW.alike hK, hD⟩, hS.F ht⟩) hS.2.2 dX11_widenedBytes_21
set_option maxHeartbeats 8000000 in
theorem c_wdB_same (l : Launch) (dC : Nat → ClassId) (dI : Nat → Nat → Nat) (cy : Nat → ClassId) (a0 n N : Nat) (f : Nat → Int32) (nd : Int32) (hq : ¬ (nI n < nd ∧ n < N)) (hn : n < 2 ^ 31) (hN : N < 134217728) (sz : Nat) : Met l yX11_widenedBytes w_f_X11_widenedBytes ({ frames := 2, cells := 0, slots := 0, locals := 92 }) (va_Pc [.ref a0, .int nd, .int (nI N)] (nIn (dC, dI) cy sz [(a0, .inl (cy 0, n, .inl f))])) (va_Qr (fun _ : Unit => True) (fun _ q t => q = a0 ∧ nOut (dC, dI) cy (va_A [(a0, .inl (cy 0, n, .inl f))] sz) [(a0, .inl (cy 0, n, .inl f))] t) (va_A [(a0, .inl (cy 0, n, .inl f))] sz)) 0 0 (va_A [(a0, .inl (cy 0, n, .inl f))] sz) := by
  refine Met.ofW (cc := cX11_widenedBytes) (maxL := 3) (ret := (some (.array .byte))) (by decide) rfl ?_
  intro p e s m args below meth c s₁ B hml hv
  obtain ⟨rfl, hsz, hP, hK, hD0, hG⟩ := hv
  have hx := B.exec
  have hb := B.bytes
  have hr := B.returns
  have hts := atoms_spec (ws := w_f_X11_widenedBytes) B.pre
  have hown : s.vm.findClass RX11 = some m.cls := findClass_of_methodNamed B.named
  have hlocks := B.notSynchronized
  subst hsz
  have hD := hD0.self (sz := s.heap.size)
  generalize hAe : va_A [(a0, .inl (cy 0, n, .inl f))] s.heap.size = A at hD ⊢
  have hA : ∀ q : Nat, s.heap.size ≤ q → A q := fun q h => by rw [← hAe]; exact Or.inr h
  have hS : va_S A s.heap s.heap [] := va_S.rf
  have hl := lv_entry ([.ref a0, .int nd, .int (nI N)]) (n := 3) (Nat.le_of_ble_eq_true rfl)
  rw [lg_entry_eq]
  generalize (lg_sl ([.ref a0, .int nd, .int (nI N)]) ++ List.replicate (3 - (lg_sl ([.ref a0, .int nd, .int (nI N)])).length) Slot.unset).toArray = ls at hl ⊢
  have hl : lv_has ls 3 [(0, .ref a0), (1, .int nd), (2, .int (nI N))] := hl
  refine lv_iload_n hx hb dX11_widenedBytes_0 rfl (lv_at hl 1 rfl) ?_
  refine lv_aload_n hx hb dX11_widenedBytes_1 rfl (lv_at hl 0 rfl) ?_
  refine va_alen hx hb hK hP 0 0 rfl rfl (v := nI n) rfl dX11_widenedBytes_2 ?_
  refine lv_icmp_le (tgt := 20) hx hb dX11_widenedBytes_3 (by decide) (fun c1 => ?_) (fun c1 => ?_)
  · refine lv_aload_n hx hb dX11_widenedBytes_20 rfl (lv_at hl 0 rfl) ?_
    exact W.aret (v := .ref a0) hx hb hr (Or.inr ⟨_, rfl⟩) (Or.inr ⟨_, rfl⟩) (fun t ht hW => ⟨⟨(), a0, rfl, trivial, rfl, by rw [ht]; exact hP, va_K.moved hW.alike hK, hD⟩, hS.F ht⟩) hS.2.2 dX11_widenedBytes_21
  · refine lv_aload_n hx hb dX11_widenedBytes_6 rfl (lv_at hl 0 rfl) ?_
    refine va_alen hx hb hK hP 0 0 rfl rfl (v := nI n) rfl dX11_widenedBytes_7 ?_
    refine lv_iload_n hx hb dX11_widenedBytes_8 rfl (lv_at hl 2 rfl) ?_
    refine lv_icmp_ge (tgt := 20) hx hb dX11_widenedBytes_9 (by decide) (fun c2 => ?_) (fun c2 => absurd ⟨Int32.not_le.mp c1, Nat.lt_of_not_le (fun h => c2 (nI_le h hn))⟩ hq)
    refine lv_aload_n hx hb dX11_widenedBytes_20 rfl (lv_at hl 0 rfl) ?_
    exact W.aret (v := .ref a0) hx hb hr (Or.inr ⟨_, rfl⟩) (Or.inr ⟨_, rfl⟩) (fun t ht hW => ⟨⟨(), a0, rfl, trivial, rfl, by rw [ht]; exact hP, va_K.moved hW.alike hK, hD⟩, hS.F ht⟩) hS.2.2 dX11_widenedBytes_21

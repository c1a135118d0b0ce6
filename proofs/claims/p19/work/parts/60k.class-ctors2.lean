def v0_c_X1_header (cy : Nat → ClassId)  : va_W := []
def v1_c_X1_header (cy : Nat → ClassId)  (r : Nat → Nat) : va_W := []
set_option maxHeartbeats 40000000 in
set_option maxRecDepth 100000 in
/-- header(..) -/
theorem c_X1_header (l : Launch) (dC : Nat → ClassId) (dI : Nat → Nat → Nat) (cy : Nat → ClassId)  (a1 : Int32) (a2 : Int32) (a3 : Int32) (a4 : Int32) (a5 : Int32) (sz : Nat) : Met l yX1_header wsX1_header ({ frames := 0, cells := 0, slots := 0, locals := 0 }) (va_Pc [.int a1, .int a2, .int a3, .int a4, .int a5] (nIn (dC, dI) cy sz (v0_c_X1_header cy ))) (va_Qi (fun (z : Int32) (_ : Nat → Nat) => z = ((((a1 ||| (a2 <<< (3 &&& 31))) ||| (a3 <<< (4 &&& 31))) ||| (a4 <<< (16 &&& 31))) ||| (a5 <<< (26 &&& 31)))) (fun r t => nOut (dC, dI) cy (va_A (v0_c_X1_header cy ) sz) (v1_c_X1_header cy  r) t) (va_A (v0_c_X1_header cy ) sz)) 0 0 (va_A (v0_c_X1_header cy ) sz) := by
  refine Met.ofW (cc := cX1_header) (maxL := 5) (ret := (some .int)) (by decide) rfl ?_
  intro p e s m args below meth c s₁ B hml hv
  obtain ⟨rfl, hsz, hP, hK, hD0, hG⟩ := hv
  have hx := B.exec
  have hb := B.bytes
  have hr := B.returns
  have hts := atoms_spec (ws := wsX1_header) B.pre
  have hown : s.vm.findClass RX1 = some m.cls := findClass_of_methodNamed B.named
  have hlocks := B.notSynchronized
  subst hsz
  have hD := hD0.self (sz := s.heap.size)
  generalize hAe : va_A (v0_c_X1_header cy ) s.heap.size = A at hD ⊢
  have hA : ∀ q : Nat, s.heap.size ≤ q → A q := fun q h => by rw [← hAe]; exact Or.inr h
  have hS : va_S A s.heap s.heap [] := va_S.rf
  have hP : va_P (dC, dI) nCl (v0_c_X1_header cy ) s.heap := hP
  have hl := lv_entry ([.int a1, .int a2, .int a3, .int a4, .int a5]) (n := 5) (Nat.le_of_ble_eq_true rfl)
  rw [lg_entry_eq]
  generalize (lg_sl ([.int a1, .int a2, .int a3, .int a4, .int a5]) ++ List.replicate (5 - (lg_sl ([.int a1, .int a2, .int a3, .int a4, .int a5])).length) Slot.unset).toArray = ls at hl ⊢
  have hl : lv_has ls 5 [(0, .int a1), (1, .int a2), (2, .int a3), (3, .int a4), (4, .int a5)] := hl
  have hP : va_P (dC, dI) nCl [] s.heap := hP
  have hD : va_D A [] := hD
  refine lv_iload_n hx hb dX1_header_0 rfl (lv_at hl 0 rfl) ?_
  refine lv_iload_n hx hb dX1_header_1 rfl (lv_at hl 1 rfl) ?_
  refine lv_iconst (v := 3) hx hb dX1_header_2 (by decide) ?_
  refine lv_ishl hx hb dX1_header_3 ?_
  refine lv_ior hx hb dX1_header_4 ?_
  refine lv_iload_n hx hb dX1_header_5 rfl (lv_at hl 2 rfl) ?_
  refine lv_iconst (v := 4) hx hb dX1_header_6 (by decide) ?_
  refine lv_ishl hx hb dX1_header_7 ?_
  refine lv_ior hx hb dX1_header_8 ?_
  refine lv_iload_n hx hb dX1_header_9 rfl (lv_at hl 3 rfl) ?_
  refine lv_bipush (v := 16) hx hb dX1_header_10 (by decide) ?_
  refine lv_ishl hx hb dX1_header_12 ?_
  refine lv_ior hx hb dX1_header_13 ?_
  refine lv_iload hx hb dX1_header_14 (lv_at hl 4 rfl) ?_
  refine lv_bipush (v := 26) hx hb dX1_header_16 (by decide) ?_
  refine lv_ishl hx hb dX1_header_18 ?_
  refine lv_ior hx hb dX1_header_19 ?_
  have hP : va_P (dC, dI) nCl (v1_c_X1_header cy  (fun _ => 0)) s.heap := hP
  have hD : va_D A (v1_c_X1_header cy  (fun _ => 0)) := hD
  exact W.iret (v := ((((a1 ||| (a2 <<< (3 &&& 31))) ||| (a3 <<< (4 &&& 31))) ||| (a4 <<< (16 &&& 31))) ||| (a5 <<< (26 &&& 31)))) hx hb hr (fun t ht hW => ⟨⟨((((a1 ||| (a2 <<< (3 &&& 31))) ||| (a3 <<< (4 &&& 31))) ||| (a4 <<< (16 &&& 31))) ||| (a5 <<< (26 &&& 31))), (fun _ => 0), rfl, rfl, by rw [ht]; exact hP, va_K.moved hW.alike hK, hD⟩, hS.F ht⟩) hS.2.2 dX1_header_20
def v0_c_X1_layEmpties (cy : Nat → ClassId) (hM : Nat) : va_W := [(hM, .inl (cy 1, 16384, .inl nZ))]
def v1_c_X1_layEmpties (cy : Nat → ClassId) (hM : Nat) (r : Nat → Nat) : va_W := [(hM, .inl (cy 1, 16384, .inl (upd (upd (upd nZ 0 65540) 1 67174405) 2 67174414)))]
set_option maxHeartbeats 40000000 in
set_option maxRecDepth 100000 in
/-- layEmpties(room) -/
theorem c_X1_layEmpties (l : Launch) (dC : Nat → ClassId) (dI : Nat → Nat → Nat) (cy : Nat → ClassId) (hM : Nat) (sz : Nat) : Met l yX1_layEmpties wsX1_layEmpties ({ frames := 1, cells := 0, slots := 0, locals := 24 }) (va_Pc [.ref hM] (nIn (dC, dI) cy sz (v0_c_X1_layEmpties cy hM))) (va_Qv (fun _ : Nat → Nat => True) (fun r t => nOut (dC, dI) cy (va_A (v0_c_X1_layEmpties cy hM) sz) (v1_c_X1_layEmpties cy hM r) t) (va_A (v0_c_X1_layEmpties cy hM) sz)) 0 0 (va_A (v0_c_X1_layEmpties cy hM) sz) := by
  refine Met.ofW (cc := cX1_layEmpties) (maxL := 1) (ret := none) (by decide) rfl ?_
  intro p e s m args below meth c s₁ B hml hv
  obtain ⟨rfl, hsz, hP, hK, hD0, hG⟩ := hv
  have hx := B.exec
  have hb := B.bytes
  have hr := B.returns
  have hts := atoms_spec (ws := wsX1_layEmpties) B.pre
  have hown : s.vm.findClass RX1 = some m.cls := findClass_of_methodNamed B.named
  have hlocks := B.notSynchronized
  subst hsz
  have hD := hD0.self (sz := s.heap.size)
  generalize hAe : va_A (v0_c_X1_layEmpties cy hM) s.heap.size = A at hD ⊢
  have hA : ∀ q : Nat, s.heap.size ≤ q → A q := fun q h => by rw [← hAe]; exact Or.inr h
  have hS : va_S A s.heap s.heap [] := va_S.rf
  have hP : va_P (dC, dI) nCl (v0_c_X1_layEmpties cy hM) s.heap := hP
  have hl := lv_entry ([.ref hM]) (n := 1) (Nat.le_of_ble_eq_true rfl)
  rw [lg_entry_eq]
  generalize (lg_sl ([.ref hM]) ++ List.replicate (1 - (lg_sl ([.ref hM])).length) Slot.unset).toArray = ls at hl ⊢
  have hl : lv_has ls 1 [(0, .ref hM)] := hl
  have hP : va_P (dC, dI) nCl [(hM, .inl (cy 1, 16384, .inl nZ))] s.heap := hP
  have hD : va_D A [(hM, .inl (cy 1, 16384, .inl nZ))] := hD
  refine lv_aload_n hx hb dX1_layEmpties_0 rfl (lv_at hl 0 rfl) ?_
  refine lv_iconst (v := 0) hx hb dX1_layEmpties_1 (by decide) ?_
  refine lv_iconst (v := 4) hx hb dX1_layEmpties_2 (by decide) ?_
  refine lv_iconst (v := 0) hx hb dX1_layEmpties_3 (by decide) ?_
  refine lv_iconst (v := 0) hx hb dX1_layEmpties_4 (by decide) ?_
  refine lv_iconst (v := 1) hx hb dX1_layEmpties_5 (by decide) ?_
  refine lv_iconst (v := 0) hx hb dX1_layEmpties_6 (by decide) ?_
  have hPc : va_P (dC, dI) nCl (v0_c_X1_header cy ) s.heap := hP.sub (ws' := []) [] rfl
  have hDc : va_D A (v0_c_X1_header cy ) := hD.sub (ws' := []) [] (by decide) rfl
  have hFc := va_free (wc := (v0_c_X1_header cy )) hD hS hA [] rfl
  refine va_calli (va_runS (As := [.int 4, .int 0, .int 0, .int 1, .int 0]) (rest := [.int 0, .ref hM]) ⟨hx, hb, hml, hown, hts⟩ (c_X1_header l dC dI cy 4 0 0 1 0 s.heap.size) (va_cwS 5 hts gX1_layEmpties_X1_header rfl rfl rfl (by decide +kernel) ⟨Nat.le_of_ble_eq_true rfl, Nat.le_of_ble_eq_true rfl⟩) ⟨nb_blind, fun U hU hW => ⟨rfl, by rw [hU], by rw [hU]; exact hPc, va_K.moved hW.alike hK, hDc.weaken (fun _ _ _ _ => trivial), hG.warm hW⟩⟩ rfl rfl hl.1 rfl (lv_room (Nat.le_of_ble_eq_true rfl)) dX1_layEmpties_7 ⟨Nat.le_of_ble_eq_true rfl, Nat.le_of_ble_eq_true rfl⟩) hS (fun q _ h => hFc q h) hFc (fun r_1 u1 t H1 locs ht hvm hw hB hz1 hk1 hS => ?_)
  have hw : r_1 = 65540 := hw.trans (by decide)
  subst hw
  obtain ⟨hP1, hK1, hD1⟩ := hB
  rw [ht] at hP1
  obtain ⟨hP, hD⟩ := va_join (wr := [(hM, .inl (cy 1, 16384, .inl nZ))]) (w1 := (v1_c_X1_header cy  u1)) hP hD [] [0] rfl rfl (by decide) (by decide) hk1 hFc hP1 hD1
  generalize H1 = H at hP hS ⊢
  have hP : va_P (dC, dI) nCl [(hM, .inl (cy 1, 16384, .inl nZ))] H := hP
  have hD : va_D A [(hM, .inl (cy 1, 16384, .inl nZ))] := hD
  refine va_iast hx hb hK hP hD hS 0 1 rfl rfl (nb_in (by decide)) dX1_layEmpties_10 (fun H locs hP hD hS => ?_)
  have hP : va_P (dC, dI) nCl [(hM, .inl (cy 1, 16384, .inl (upd nZ 0 65540)))] H := hP
  have hD : va_D A [(hM, .inl (cy 1, 16384, .inl (upd nZ 0 65540)))] := hD
  refine lv_aload_n hx hb dX1_layEmpties_11 rfl (lv_at hl 0 rfl) ?_
  refine lv_iconst (v := 1) hx hb dX1_layEmpties_12 (by decide) ?_
  refine lv_iconst (v := 5) hx hb dX1_layEmpties_13 (by decide) ?_
  refine lv_iconst (v := 0) hx hb dX1_layEmpties_14 (by decide) ?_
  refine lv_iconst (v := 0) hx hb dX1_layEmpties_15 (by decide) ?_
  refine lv_iconst (v := 1) hx hb dX1_layEmpties_16 (by decide) ?_
  refine lv_iconst (v := 1) hx hb dX1_layEmpties_17 (by decide) ?_
  have hPc : va_P (dC, dI) nCl (v0_c_X1_header cy ) H := hP.sub (ws' := []) [] rfl
  have hDc : va_D A (v0_c_X1_header cy ) := hD.sub (ws' := []) [] (by decide) rfl
  have hFc := va_free (wc := (v0_c_X1_header cy )) hD hS hA [] rfl
  refine va_calli (va_runS (As := [.int 5, .int 0, .int 0, .int 1, .int 1]) (rest := [.int 1, .ref hM]) ⟨hx, hb, hml, hown, hts⟩ (c_X1_header l dC dI cy 5 0 0 1 1 H.size) (va_cwS 5 hts gX1_layEmpties_X1_header rfl rfl rfl (by decide +kernel) ⟨Nat.le_of_ble_eq_true rfl, Nat.le_of_ble_eq_true rfl⟩) ⟨nb_blind, fun U hU hW => ⟨rfl, by rw [hU], by rw [hU]; exact hPc, va_K.moved hW.alike hK, hDc.weaken (fun _ _ _ _ => trivial), hG.warm hW⟩⟩ rfl rfl hl.1 rfl (lv_room (Nat.le_of_ble_eq_true rfl)) dX1_layEmpties_18 ⟨Nat.le_of_ble_eq_true rfl, Nat.le_of_ble_eq_true rfl⟩) hS (fun q _ h => hFc q h) hFc (fun r_2 u2 t H1 locs ht hvm hw hB hz1 hk1 hS => ?_)
  have hw : r_2 = 67174405 := hw.trans (by decide)
  subst hw
  obtain ⟨hP1, hK1, hD1⟩ := hB
  rw [ht] at hP1
  obtain ⟨hP, hD⟩ := va_join (wr := [(hM, .inl (cy 1, 16384, .inl (upd nZ 0 65540)))]) (w1 := (v1_c_X1_header cy  u2)) hP hD [] [0] rfl rfl (by decide) (by decide) hk1 hFc hP1 hD1
  generalize H1 = H at hP hS ⊢
  have hP : va_P (dC, dI) nCl [(hM, .inl (cy 1, 16384, .inl (upd nZ 0 65540)))] H := hP
  have hD : va_D A [(hM, .inl (cy 1, 16384, .inl (upd nZ 0 65540)))] := hD
  refine va_iast hx hb hK hP hD hS 0 1 rfl rfl (nb_in (by decide)) dX1_layEmpties_21 (fun H locs hP hD hS => ?_)
  have hP : va_P (dC, dI) nCl [(hM, .inl (cy 1, 16384, .inl (upd (upd nZ 0 65540) 1 67174405)))] H := hP
  have hD : va_D A [(hM, .inl (cy 1, 16384, .inl (upd (upd nZ 0 65540) 1 67174405)))] := hD
  refine lv_aload_n hx hb dX1_layEmpties_22 rfl (lv_at hl 0 rfl) ?_
  refine lv_iconst (v := 2) hx hb dX1_layEmpties_23 (by decide) ?_
  refine lv_bipush (v := 6) hx hb dX1_layEmpties_24 (by decide) ?_
  refine lv_iconst (v := 1) hx hb dX1_layEmpties_26 (by decide) ?_
  refine lv_iconst (v := 0) hx hb dX1_layEmpties_27 (by decide) ?_
  refine lv_iconst (v := 1) hx hb dX1_layEmpties_28 (by decide) ?_
  refine lv_iconst (v := 1) hx hb dX1_layEmpties_29 (by decide) ?_
  have hPc : va_P (dC, dI) nCl (v0_c_X1_header cy ) H := hP.sub (ws' := []) [] rfl
  have hDc : va_D A (v0_c_X1_header cy ) := hD.sub (ws' := []) [] (by decide) rfl
  have hFc := va_free (wc := (v0_c_X1_header cy )) hD hS hA [] rfl
  refine va_calli (va_runS (As := [.int 6, .int 1, .int 0, .int 1, .int 1]) (rest := [.int 2, .ref hM]) ⟨hx, hb, hml, hown, hts⟩ (c_X1_header l dC dI cy 6 1 0 1 1 H.size) (va_cwS 5 hts gX1_layEmpties_X1_header rfl rfl rfl (by decide +kernel) ⟨Nat.le_of_ble_eq_true rfl, Nat.le_of_ble_eq_true rfl⟩) ⟨nb_blind, fun U hU hW => ⟨rfl, by rw [hU], by rw [hU]; exact hPc, va_K.moved hW.alike hK, hDc.weaken (fun _ _ _ _ => trivial), hG.warm hW⟩⟩ rfl rfl hl.1 rfl (lv_room (Nat.le_of_ble_eq_true rfl)) dX1_layEmpties_30 ⟨Nat.le_of_ble_eq_true rfl, Nat.le_of_ble_eq_true rfl⟩) hS (fun q _ h => hFc q h) hFc (fun r_3 u3 t H1 locs ht hvm hw hB hz1 hk1 hS => ?_)
  have hw : r_3 = 67174414 := hw.trans (by decide)
  subst hw
  obtain ⟨hP1, hK1, hD1⟩ := hB
  rw [ht] at hP1
  obtain ⟨hP, hD⟩ := va_join (wr := [(hM, .inl (cy 1, 16384, .inl (upd (upd nZ 0 65540) 1 67174405)))]) (w1 := (v1_c_X1_header cy  u3)) hP hD [] [0] rfl rfl (by decide) (by decide) hk1 hFc hP1 hD1
  generalize H1 = H at hP hS ⊢
  have hP : va_P (dC, dI) nCl [(hM, .inl (cy 1, 16384, .inl (upd (upd nZ 0 65540) 1 67174405)))] H := hP
  have hD : va_D A [(hM, .inl (cy 1, 16384, .inl (upd (upd nZ 0 65540) 1 67174405)))] := hD
  refine va_iast hx hb hK hP hD hS 0 1 rfl rfl (nb_in (by decide)) dX1_layEmpties_33 (fun H locs hP hD hS => ?_)
  have hP : va_P (dC, dI) nCl [(hM, .inl (cy 1, 16384, .inl (upd (upd (upd nZ 0 65540) 1 67174405) 2 67174414)))] H := hP
  have hD : va_D A [(hM, .inl (cy 1, 16384, .inl (upd (upd (upd nZ 0 65540) 1 67174405) 2 67174414)))] := hD
  have hP : va_P (dC, dI) nCl (v1_c_X1_layEmpties cy hM (fun _ => 0)) H := hP
  have hD : va_D A (v1_c_X1_layEmpties cy hM (fun _ => 0)) := hD
  exact W.vret hx hb hr (fun t ht hW => ⟨⟨(fun _ => 0), rfl, trivial, by rw [ht]; exact hP, va_K.moved hW.alike hK, hD⟩, hS.F ht⟩) hS.2.2 dX1_layEmpties_34
theorem in_X1_init_X1 : ∀ w ∈ wsX10, w ∈ wsX1_init := fun _ h9 => (List.mem_cons_of_mem _ (List.mem_append_right _ h9))
def v0_c_X1_init (cy : Nat → ClassId) (h0 : Nat) : va_W := [(h0, .inr (1, [.null, .int 0, .null, .null]))]
def v1_c_X1_init (cy : Nat → ClassId) (h0 : Nat) (r : Nat → Nat) : va_W := [(h0, .inr (1, [.ref (r 2), .int 3, .ref (r 0), .ref (r 1)])), ((r 0), .inl (cy 1, 512, .inl nZ)), ((r 1), .inl (cy 1, 512, .inl nZ)), ((r 2), .inl (cy 1, 16384, .inl (upd (upd (upd nZ 0 65540) 1 67174405) 2 67174414)))]
set_option maxHeartbeats 40000000 in
set_option maxRecDepth 100000 in
/-- Heap() -/
theorem c_X1_init (l : Launch) (dC : Nat → ClassId) (dI : Nat → Nat → Nat) (cy : Nat → ClassId) (h0 : Nat) (sz : Nat) : Met l yX1_init wsX1_init ({ frames := 2, cells := 3, slots := 17408, locals := 44 }) (va_Pc [.ref h0] (nIn (dC, dI) cy sz (v0_c_X1_init cy h0))) (va_Qv (fun _ : Nat → Nat => True) (fun r t => nOut (dC, dI) cy (va_A (v0_c_X1_init cy h0) sz) (v1_c_X1_init cy h0 r) t) (va_A (v0_c_X1_init cy h0) sz)) 3 17408 (va_A (v0_c_X1_init cy h0) sz) := by
  refine Met.ofW (cc := cX1_init) (maxL := 1) (ret := none) (by decide) rfl ?_
  intro p e s m args below meth c s₁ B hml hv
  obtain ⟨rfl, hsz, hP, hK, hD0, hG⟩ := hv
  have hx := B.exec
  have hb := B.bytes
  have hr := B.returns
  have hts := atoms_spec (ws := wsX1_init) B.pre
  have hown : s.vm.findClass RX1 = some m.cls := findClass_of_methodNamed B.named
  have hlocks := B.notSynchronized
  have hin : meth.name = "<init>" := (name_of_methodNamed B.named B.method).1
  subst hsz
  have hD := hD0.self (sz := s.heap.size)
  generalize hAe : va_A (v0_c_X1_init cy h0) s.heap.size = A at hD ⊢
  have hA : ∀ q : Nat, s.heap.size ≤ q → A q := fun q h => by rw [← hAe]; exact Or.inr h
  have hS : va_S A s.heap s.heap [] := va_S.rf
  have hP : va_P (dC, dI) nCl (v0_c_X1_init cy h0) s.heap := hP
  have hl := lv_entry ([.ref h0]) (n := 1) (Nat.le_of_ble_eq_true rfl)
  rw [lg_entry_eq]
  generalize (lg_sl ([.ref h0]) ++ List.replicate (1 - (lg_sl ([.ref h0])).length) Slot.unset).toArray = ls at hl ⊢
  have hl : lv_has ls 1 [(0, .ref h0)] := hl
  have hP : va_P (dC, dI) nCl [(h0, .inr (1, [.null, .int 0, .null, .null]))] s.heap := hP
  have hD : va_D A [(h0, .inr (1, [.null, .int 0, .null, .null]))] := hD
  refine lv_aload_n hx hb dX1_init_0 rfl (lv_at hl 0 rfl) ?_
  refine W.objInit hx hb hown (hts _ (List.mem_cons_of_mem _ (List.mem_append_left _ (List.mem_of_getElem? (i := 0) rfl)))) (hts _ (List.mem_cons_of_mem _ (List.mem_append_left _ (List.mem_of_getElem? (i := 1) rfl)))) (hts _ (List.mem_cons_of_mem _ (List.mem_append_left _ (List.mem_of_getElem? (i := 2) rfl)))) rfl (by rw [hml]; exact hl.1) rfl dX1_init_1 (Nat.le_of_ble_eq_true rfl) (Nat.le_of_ble_eq_true rfl) ?_
  refine W.eq (g2 := F0 m 4 ls []) rfl ?_
  refine lv_aload_n hx hb dX1_init_4 rfl (lv_at hl 0 rfl) ?_
  refine lv_sipush (v := 16384) hx hb dX1_init_5 (by decide) ?_
  refine nb_newa (ty := .int) (cA := cy 1) (N' := 16384) (a0 := (16384, .inl nZ)) hx hb (hts _ (List.mem_cons_of_mem _ (List.mem_append_left _ (List.mem_of_getElem? (i := 3) rfl)))) rfl hK hP hD hS hA 1 rfl (fun _ => rfl) (by decide) rfl (by decide) (Nat.le_of_ble_eq_true rfl) (Nat.le_of_ble_eq_true rfl) dX1_init_8 (fun q1 H hP hD hS => ?_)
  refine W.widen (k := 1) (n := 16384) (Nat.le_of_ble_eq_true rfl) (Nat.le_of_ble_eq_true rfl) ?_
  have hP : va_P (dC, dI) nCl [(h0, .inr (1, [.null, .int 0, .null, .null])), (q1, .inl (cy 1, 16384, .inl nZ))] H := hP
  have hD : va_D A [(h0, .inr (1, [.null, .int 0, .null, .null])), (q1, .inl (cy 1, 16384, .inl nZ))] := hD
  refine va_put (D := (dC, dI)) (ci := 1) (v := .ref q1) (ty := .array .int) (C := RX1) (T := TX1) (N := 4) hx hb hts in_X1_init_X1 tyX1 tyX1_ok nmX1 hown hK hP hD hS 0 rfl rfl 0 (by decide) (hts _ (List.mem_cons_of_mem _ (List.mem_append_left _ (List.mem_of_getElem? (i := 4) rfl)))) (fun _ h9 => h9) rfl (by decide +kernel) rfl rfl (Nat.le_of_ble_eq_true rfl) dX1_init_10 (fun H locs hP hD hS => ?_)
  have hP : va_P (dC, dI) nCl [(h0, .inr (1, [.ref q1, .int 0, .null, .null])), (q1, .inl (cy 1, 16384, .inl nZ))] H := hP
  have hD : va_D A [(h0, .inr (1, [.ref q1, .int 0, .null, .null])), (q1, .inl (cy 1, 16384, .inl nZ))] := hD
  refine lv_aload_n hx hb dX1_init_13 rfl (lv_at hl 0 rfl) ?_
  refine lv_iconst (v := 3) hx hb dX1_init_14 (by decide) ?_
  refine va_put (D := (dC, dI)) (ci := 1) (v := .int 3) (ty := .int) (C := RX1) (T := TX1) (N := 4) hx hb hts in_X1_init_X1 tyX1 tyX1_ok nmX1 hown hK hP hD hS 0 rfl rfl 1 (by decide) (hts _ (List.mem_cons_of_mem _ (List.mem_append_left _ (List.mem_of_getElem? (i := 5) rfl)))) (fun _ h9 => h9) rfl (by decide +kernel) rfl rfl (Nat.le_of_ble_eq_true rfl) dX1_init_15 (fun H locs hP hD hS => ?_)
  have hP : va_P (dC, dI) nCl [(h0, .inr (1, [.ref q1, .int 3, .null, .null])), (q1, .inl (cy 1, 16384, .inl nZ))] H := hP
  have hD : va_D A [(h0, .inr (1, [.ref q1, .int 3, .null, .null])), (q1, .inl (cy 1, 16384, .inl nZ))] := hD
  refine lv_aload_n hx hb dX1_init_18 rfl (lv_at hl 0 rfl) ?_
  refine lv_sipush (v := 512) hx hb dX1_init_19 (by decide) ?_
  refine nb_newa (ty := .int) (cA := cy 1) (N' := 512) (a0 := (512, .inl nZ)) hx hb (hts _ (List.mem_cons_of_mem _ (List.mem_append_left _ (List.mem_of_getElem? (i := 3) rfl)))) rfl hK hP hD hS hA 1 rfl (fun _ => rfl) (by decide) rfl (by decide) (Nat.le_of_ble_eq_true rfl) (Nat.le_of_ble_eq_true rfl) dX1_init_22 (fun q2 H hP hD hS => ?_)
  refine W.widen (k := 2) (n := 16896) (Nat.le_of_ble_eq_true rfl) (Nat.le_of_ble_eq_true rfl) ?_
  have hP : va_P (dC, dI) nCl [(h0, .inr (1, [.ref q1, .int 3, .null, .null])), (q1, .inl (cy 1, 16384, .inl nZ)), (q2, .inl (cy 1, 512, .inl nZ))] H := hP
  have hD : va_D A [(h0, .inr (1, [.ref q1, .int 3, .null, .null])), (q1, .inl (cy 1, 16384, .inl nZ)), (q2, .inl (cy 1, 512, .inl nZ))] := hD
  refine va_put (D := (dC, dI)) (ci := 1) (v := .ref q2) (ty := .array .int) (C := RX1) (T := TX1) (N := 4) hx hb hts in_X1_init_X1 tyX1 tyX1_ok nmX1 hown hK hP hD hS 0 rfl rfl 2 (by decide) (hts _ (List.mem_cons_of_mem _ (List.mem_append_left _ (List.mem_of_getElem? (i := 6) rfl)))) (fun _ h9 => h9) rfl (by decide +kernel) rfl rfl (Nat.le_of_ble_eq_true rfl) dX1_init_24 (fun H locs hP hD hS => ?_)
  have hP : va_P (dC, dI) nCl [(h0, .inr (1, [.ref q1, .int 3, .ref q2, .null])), (q1, .inl (cy 1, 16384, .inl nZ)), (q2, .inl (cy 1, 512, .inl nZ))] H := hP
  have hD : va_D A [(h0, .inr (1, [.ref q1, .int 3, .ref q2, .null])), (q1, .inl (cy 1, 16384, .inl nZ)), (q2, .inl (cy 1, 512, .inl nZ))] := hD
  refine lv_aload_n hx hb dX1_init_27 rfl (lv_at hl 0 rfl) ?_
  refine lv_sipush (v := 512) hx hb dX1_init_28 (by decide) ?_
  refine nb_newa (ty := .int) (cA := cy 1) (N' := 512) (a0 := (512, .inl nZ)) hx hb (hts _ (List.mem_cons_of_mem _ (List.mem_append_left _ (List.mem_of_getElem? (i := 3) rfl)))) rfl hK hP hD hS hA 1 rfl (fun _ => rfl) (by decide) rfl (by decide) (Nat.le_of_ble_eq_true rfl) (Nat.le_of_ble_eq_true rfl) dX1_init_31 (fun q3 H hP hD hS => ?_)
  refine W.widen (k := 3) (n := 17408) (Nat.le_of_ble_eq_true rfl) (Nat.le_of_ble_eq_true rfl) ?_
  have hP : va_P (dC, dI) nCl [(h0, .inr (1, [.ref q1, .int 3, .ref q2, .null])), (q1, .inl (cy 1, 16384, .inl nZ)), (q2, .inl (cy 1, 512, .inl nZ)), (q3, .inl (cy 1, 512, .inl nZ))] H := hP
  have hD : va_D A [(h0, .inr (1, [.ref q1, .int 3, .ref q2, .null])), (q1, .inl (cy 1, 16384, .inl nZ)), (q2, .inl (cy 1, 512, .inl nZ)), (q3, .inl (cy 1, 512, .inl nZ))] := hD
  refine va_put (D := (dC, dI)) (ci := 1) (v := .ref q3) (ty := .array .int) (C := RX1) (T := TX1) (N := 4) hx hb hts in_X1_init_X1 tyX1 tyX1_ok nmX1 hown hK hP hD hS 0 rfl rfl 3 (by decide) (hts _ (List.mem_cons_of_mem _ (List.mem_append_left _ (List.mem_of_getElem? (i := 7) rfl)))) (fun _ h9 => h9) rfl (by decide +kernel) rfl rfl (Nat.le_of_ble_eq_true rfl) dX1_init_33 (fun H locs hP hD hS => ?_)
  have hP : va_P (dC, dI) nCl [(h0, .inr (1, [.ref q1, .int 3, .ref q2, .ref q3])), (q1, .inl (cy 1, 16384, .inl nZ)), (q2, .inl (cy 1, 512, .inl nZ)), (q3, .inl (cy 1, 512, .inl nZ))] H := hP
  have hD : va_D A [(h0, .inr (1, [.ref q1, .int 3, .ref q2, .ref q3])), (q1, .inl (cy 1, 16384, .inl nZ)), (q2, .inl (cy 1, 512, .inl nZ)), (q3, .inl (cy 1, 512, .inl nZ))] := hD
  refine lv_aload_n hx hb dX1_init_36 rfl (lv_at hl 0 rfl) ?_
  refine va_get (D := (dC, dI)) (ci := 1) (v := .ref q1) (C := RX1) (T := TX1) (N := 4) hx hb hts in_X1_init_X1 hown hK hP 0 rfl rfl 0 (by decide) (hts _ (List.mem_cons_of_mem _ (List.mem_append_left _ (List.mem_of_getElem? (i := 4) rfl)))) (fun _ h9 => h9) rfl dX1_init_37 ?_
  have hPc : va_P (dC, dI) nCl (v0_c_X1_layEmpties cy q1) H := hP.sub (ws' := [(q1, .inl (cy 1, 16384, .inl nZ))]) [1] rfl
  have hDc : va_D A (v0_c_X1_layEmpties cy q1) := hD.sub (ws' := [(q1, .inl (cy 1, 16384, .inl nZ))]) [1] (by decide) rfl
  have hFc := va_free (wc := (v0_c_X1_layEmpties cy q1)) hD hS hA [1] rfl
  refine va_callv (va_runS (As := [.ref q1]) (rest := []) ⟨hx, hb, hml, hown, hts⟩ (c_X1_layEmpties l dC dI cy q1 H.size) (va_cwS 1 hts gX1_init_X1_layEmpties rfl rfl rfl (by decide +kernel) ⟨Nat.le_of_ble_eq_true rfl, Nat.le_of_ble_eq_true rfl⟩) ⟨nb_blind, fun U hU hW => ⟨rfl, by rw [hU], by rw [hU]; exact hPc, va_K.moved hW.alike hK, hDc.weaken (fun _ _ _ _ => trivial), hG.warm hW⟩⟩ rfl rfl hl.1 rfl (lv_room (Nat.le_of_ble_eq_true rfl)) dX1_init_40 ⟨Nat.le_of_ble_eq_true rfl, Nat.le_of_ble_eq_true rfl⟩) hS (fun q _ h => hFc q h) hFc (fun u1 t H1 locs ht hvm hw hB hz1 hk1 hS => ?_)
  obtain ⟨hP1, hK1, hD1⟩ := hB
  rw [ht] at hP1
  obtain ⟨hP, hD⟩ := va_join (wr := [(h0, .inr (1, [.ref q1, .int 3, .ref q2, .ref q3])), (q2, .inl (cy 1, 512, .inl nZ)), (q3, .inl (cy 1, 512, .inl nZ))]) (w1 := (v1_c_X1_layEmpties cy q1 u1)) hP hD [1] [0, 2, 3] rfl rfl (by decide) (by decide) hk1 hFc hP1 hD1
  generalize H1 = H at hP hS ⊢
  have hP : va_P (dC, dI) nCl [(h0, .inr (1, [.ref q1, .int 3, .ref q2, .ref q3])), (q2, .inl (cy 1, 512, .inl nZ)), (q3, .inl (cy 1, 512, .inl nZ)), (q1, .inl (cy 1, 16384, .inl (upd (upd (upd nZ 0 65540) 1 67174405) 2 67174414)))] H := hP
  have hD : va_D A [(h0, .inr (1, [.ref q1, .int 3, .ref q2, .ref q3])), (q2, .inl (cy 1, 512, .inl nZ)), (q3, .inl (cy 1, 512, .inl nZ)), (q1, .inl (cy 1, 16384, .inl (upd (upd (upd nZ 0 65540) 1 67174405) 2 67174414)))] := hD
  have hP : va_P (dC, dI) nCl (v1_c_X1_init cy h0 (fun k => [q2, q3, q1].getD k 0)) H := hP
  have hD : va_D A (v1_c_X1_init cy h0 (fun k => [q2, q3, q1].getD k 0)) := hD
  exact W.vret hx hb hr (fun t ht hW => ⟨⟨(fun k => [q2, q3, q1].getD k 0), rfl, trivial, by rw [ht]; exact hP, va_K.moved hW.alike hK, hD⟩, hS.F ht⟩) hS.2.2 dX1_init_43

/-! String members on the texts of the class. -/
def v0_c_J1_coder (cy : Nat → ClassId)  : va_W := []
def v1_c_J1_coder (cy : Nat → ClassId)  (r : Nat → Nat) : va_W := []
set_option maxHeartbeats 40000000 in
set_option maxRecDepth 100000 in
/-- coder() -/
theorem c_J1_coder (l : Launch) (dC : Nat → ClassId) (dI : Nat → Nat → Nat) (cy : Nat → ClassId) (k : Nat → Nat)  (sz : Nat) : Met l yJ0_coder_7d493 wsJ0_coder_7d493 ({ frames := 0, cells := 0, slots := 0, locals := 0 }) (va_Pc [.ref (k 2)] (nInE (dC, dI) cy k sz (v0_c_J1_coder cy ))) (va_Qi (fun (z : Int32) (_ : Nat → Nat) => z = 0) (fun r t => nOut (dC, dI) cy (va_A (v0_c_J1_coder cy ) sz) (v1_c_J1_coder cy  r) t) (va_A (v0_c_J1_coder cy ) sz)) 0 0 (va_A (v0_c_J1_coder cy ) sz) := by
  refine Met.ofW (cc := cJ0_coder_7d493) (maxL := 1) (ret := (some .byte)) (by decide) rfl ?_
  intro p e s m args below meth c s₁ B hml hv
  obtain ⟨rfl, ⟨hsz, hP, hK, hD0, hG⟩, hE⟩ := hv
  have hx := B.exec
  have hb := B.bytes
  have hr := B.returns
  have hts := atoms_spec (ws := wsJ0_coder_7d493) B.pre
  have hown : s.vm.findClass RJ0 = some m.cls := findClass_of_methodNamed B.named
  have hlocks := B.notSynchronized
  subst hsz
  have hD := hD0.self (sz := s.heap.size)
  generalize hAe : va_A (v0_c_J1_coder cy ) s.heap.size = A at hD hE ⊢
  have hA : ∀ q : Nat, s.heap.size ≤ q → A q := fun q h => by rw [← hAe]; exact Or.inr h
  have hS : va_S A s.heap s.heap [] := va_S.rf
  have hP : va_P (dC, dI) nCl (v0_c_J1_coder cy ) s.heap := hP
  have hl := lv_entry ([.ref (k 2)]) (n := 1) (Nat.le_of_ble_eq_true rfl)
  rw [lg_entry_eq]
  generalize (lg_sl ([.ref (k 2)]) ++ List.replicate (1 - (lg_sl ([.ref (k 2)])).length) Slot.unset).toArray = ls at hl ⊢
  have hl : lv_has ls 1 [(0, .ref (k 2))] := hl
  have hP : va_P (dC, dI) nCl [] s.heap := hP
  have hD : va_D A [] := hD
  refine va_gets hx hb hE.1 hS hown (hts _ (List.mem_cons_of_mem _ (List.mem_of_getElem? (i := 0) rfl))) (fun _ h9 => h9) dJ0_coder_7d493_0 ?_
  refine lv_if_eq (tgt := 13) hx hb dJ0_coder_7d493_3 (by decide) (fun c1 => False.elim (by revert c1; decide)) (fun _ => ?_)
  refine lv_aload_n hx hb dJ0_coder_7d493_6 rfl (lv_at hl 0 rfl) ?_
  refine vk_getf hx hb (hE.2.2.1.1 1 (by decide)).2.1 hS hown (hts _ (List.mem_cons_of_mem _ (List.mem_of_getElem? (i := 1) rfl))) (fun _ h9 => h9) dJ0_coder_7d493_7 ?_
  refine lv_goto (tgt := 14) hx hb dJ0_coder_7d493_10 (by decide) ?_
  have hP : va_P (dC, dI) nCl (v1_c_J1_coder cy  (fun _ => 0)) s.heap := hP
  have hD : va_D A (v1_c_J1_coder cy  (fun _ => 0)) := hD
  exact W.zret (v := 0) hx hb hr rfl (fun t ht hW => ⟨⟨0, (fun _ => 0), rfl, rfl, by rw [ht]; exact hP, va_K.moved hW.alike hK, hD⟩, hS.F ht⟩) hS.2.2 dJ0_coder_7d493_14
def v0_c_J1_len (cy : Nat → ClassId)  : va_W := []
def v1_c_J1_len (cy : Nat → ClassId)  (r : Nat → Nat) : va_W := []
set_option maxHeartbeats 40000000 in
set_option maxRecDepth 100000 in
/-- length() of the words' text -/
theorem c_J1_len (l : Launch) (dC : Nat → ClassId) (dI : Nat → Nat → Nat) (cy : Nat → ClassId) (k : Nat → Nat)  (sz : Nat) : Met l yJ0_length_8abf5 wsJ0_length_8abf5 ({ frames := 1, cells := 0, slots := 0, locals := 20 }) (va_Pc [.ref (k 2)] (nInE (dC, dI) cy k sz (v0_c_J1_len cy ))) (va_Qi (fun (z : Int32) (_ : Nat → Nat) => z = 5) (fun r t => nOut (dC, dI) cy (va_A (v0_c_J1_len cy ) sz) (v1_c_J1_len cy  r) t) (va_A (v0_c_J1_len cy ) sz)) 0 0 (va_A (v0_c_J1_len cy ) sz) := by
  refine Met.ofW (cc := cJ0_length_8abf5) (maxL := 1) (ret := (some .int)) (by decide) rfl ?_
  intro p e s m args below meth c s₁ B hml hv
  obtain ⟨rfl, ⟨hsz, hP, hK, hD0, hG⟩, hE⟩ := hv
  have hx := B.exec
  have hb := B.bytes
  have hr := B.returns
  have hts := atoms_spec (ws := wsJ0_length_8abf5) B.pre
  have hown : s.vm.findClass RJ0 = some m.cls := findClass_of_methodNamed B.named
  have hlocks := B.notSynchronized
  subst hsz
  have hD := hD0.self (sz := s.heap.size)
  generalize hAe : va_A (v0_c_J1_len cy ) s.heap.size = A at hD hE ⊢
  have hA : ∀ q : Nat, s.heap.size ≤ q → A q := fun q h => by rw [← hAe]; exact Or.inr h
  have hS : va_S A s.heap s.heap [] := va_S.rf
  have hP : va_P (dC, dI) nCl (v0_c_J1_len cy ) s.heap := hP
  have hl := lv_entry ([.ref (k 2)]) (n := 1) (Nat.le_of_ble_eq_true rfl)
  rw [lg_entry_eq]
  generalize (lg_sl ([.ref (k 2)]) ++ List.replicate (1 - (lg_sl ([.ref (k 2)])).length) Slot.unset).toArray = ls at hl ⊢
  have hl : lv_has ls 1 [(0, .ref (k 2))] := hl
  have hP : va_P (dC, dI) nCl [] s.heap := hP
  have hD : va_D A [] := hD
  refine lv_aload_n hx hb dJ0_length_8abf5_0 rfl (lv_at hl 0 rfl) ?_
  refine vk_getf hx hb (hE.2.2.1.1 1 (by decide)).2.2.1 hS hown (hts _ (List.mem_cons_of_mem _ (List.mem_of_getElem? (i := 0) rfl))) (fun _ h9 => h9) dJ0_length_8abf5_1 ?_
  refine va_tlen hx hb (hE.2.2.1.1 1 (by decide)).2.2.2 hS (v := 5) rfl dJ0_length_8abf5_4 ?_
  refine lv_aload_n hx hb dJ0_length_8abf5_5 rfl (lv_at hl 0 rfl) ?_
  have hPc : va_P (dC, dI) nCl (v0_c_J1_coder cy ) s.heap := hP.sub (ws' := []) [] rfl
  have hDc : va_D A (v0_c_J1_coder cy ) := hD.sub (ws' := []) [] (by decide) rfl
  have hFc := va_free (wc := (v0_c_J1_coder cy )) hD hS hA [] rfl
  refine va_calli (va_runV (As := []) (rest := [.int 5]) ⟨hx, hb, hml, hown, hts⟩ (c_J1_coder l dC dI cy k  s.heap.size) (cwV 0 hts gJ0_length_8abf5_J0_coder_7d493 rfl rfl rfl (by decide +kernel) ⟨Nat.le_of_ble_eq_true rfl, Nat.le_of_ble_eq_true rfl⟩) ⟨nb_blindE, (vk_recv (i := 1) hE.2.2.1 (by decide) hS), fun U hU hW => ⟨rfl, ⟨by rw [hU], by rw [hU]; exact hPc, va_K.moved hW.alike hK, hDc.weaken (fun _ _ _ _ => trivial), hG.warm hW⟩, nE.to hE hS hW hU hFc⟩⟩ rfl rfl hl.1 rfl (lv_room (Nat.le_of_ble_eq_true rfl)) dJ0_length_8abf5_6 ⟨Nat.le_of_ble_eq_true rfl, Nat.le_of_ble_eq_true rfl⟩) hS (fun q _ h => hFc q h) hFc (fun r_1 u1 t H1 locs ht hvm hw hB hz1 hk1 hS => ?_)
  have hw : r_1 = 0 := hw.trans (by decide)
  subst hw
  obtain ⟨hP1, hK1, hD1⟩ := hB
  rw [ht] at hP1
  obtain ⟨hP, hD⟩ := va_join (wr := []) (w1 := (v1_c_J1_coder cy  u1)) hP hD [] [] rfl rfl (by decide) (by decide) hk1 hFc hP1 hD1
  generalize H1 = H at hP hS ⊢
  have hP : va_P (dC, dI) nCl [] H := hP
  have hD : va_D A [] := hD
  refine lv_ishr hx hb dJ0_length_8abf5_9 ?_
  refine W.eq (g2 := F0 m 10 ls [.int 5]) rfl ?_
  have hP : va_P (dC, dI) nCl (v1_c_J1_len cy  (fun _ => 0)) H := hP
  have hD : va_D A (v1_c_J1_len cy  (fun _ => 0)) := hD
  exact W.iret (v := 5) hx hb hr (fun t ht hW => ⟨⟨5, (fun _ => 0), rfl, rfl, by rw [ht]; exact hP, va_K.moved hW.alike hK, hD⟩, hS.F ht⟩) hS.2.2 dJ0_length_8abf5_10
def v0_c_J1_isLatin1 (cy : Nat → ClassId)  : va_W := []
def v1_c_J1_isLatin1 (cy : Nat → ClassId)  (r : Nat → Nat) : va_W := []
set_option maxHeartbeats 40000000 in
set_option maxRecDepth 100000 in
/-- isLatin1() -/
theorem c_J1_isLatin1 (l : Launch) (dC : Nat → ClassId) (dI : Nat → Nat → Nat) (cy : Nat → ClassId) (k : Nat → Nat)  (sz : Nat) : Met l yJ0_isLatin1_aae02 wsJ0_isLatin1_aae02 ({ frames := 0, cells := 0, slots := 0, locals := 0 }) (va_Pc [.ref (k 2)] (nInE (dC, dI) cy k sz (v0_c_J1_isLatin1 cy ))) (va_Qi (fun (z : Int32) (_ : Nat → Nat) => z = 1) (fun r t => nOut (dC, dI) cy (va_A (v0_c_J1_isLatin1 cy ) sz) (v1_c_J1_isLatin1 cy  r) t) (va_A (v0_c_J1_isLatin1 cy ) sz)) 0 0 (va_A (v0_c_J1_isLatin1 cy ) sz) := by
  refine Met.ofW (cc := cJ0_isLatin1_aae02) (maxL := 1) (ret := (some .boolean)) (by decide) rfl ?_
  intro p e s m args below meth c s₁ B hml hv
  obtain ⟨rfl, ⟨hsz, hP, hK, hD0, hG⟩, hE⟩ := hv
  have hx := B.exec
  have hb := B.bytes
  have hr := B.returns
  have hts := atoms_spec (ws := wsJ0_isLatin1_aae02) B.pre
  have hown : s.vm.findClass RJ0 = some m.cls := findClass_of_methodNamed B.named
  have hlocks := B.notSynchronized
  subst hsz
  have hD := hD0.self (sz := s.heap.size)
  generalize hAe : va_A (v0_c_J1_isLatin1 cy ) s.heap.size = A at hD hE ⊢
  have hA : ∀ q : Nat, s.heap.size ≤ q → A q := fun q h => by rw [← hAe]; exact Or.inr h
  have hS : va_S A s.heap s.heap [] := va_S.rf
  have hP : va_P (dC, dI) nCl (v0_c_J1_isLatin1 cy ) s.heap := hP
  have hl := lv_entry ([.ref (k 2)]) (n := 1) (Nat.le_of_ble_eq_true rfl)
  rw [lg_entry_eq]
  generalize (lg_sl ([.ref (k 2)]) ++ List.replicate (1 - (lg_sl ([.ref (k 2)])).length) Slot.unset).toArray = ls at hl ⊢
  have hl : lv_has ls 1 [(0, .ref (k 2))] := hl
  have hP : va_P (dC, dI) nCl [] s.heap := hP
  have hD : va_D A [] := hD
  refine va_gets hx hb hE.1 hS hown (hts _ (List.mem_cons_of_mem _ (List.mem_of_getElem? (i := 0) rfl))) (fun _ h9 => h9) dJ0_isLatin1_aae02_0 ?_
  refine lv_if_eq (tgt := 17) hx hb dJ0_isLatin1_aae02_3 (by decide) (fun c1 => False.elim (by revert c1; decide)) (fun _ => ?_)
  refine lv_aload_n hx hb dJ0_isLatin1_aae02_6 rfl (lv_at hl 0 rfl) ?_
  refine vk_getf hx hb (hE.2.2.1.1 1 (by decide)).2.1 hS hown (hts _ (List.mem_cons_of_mem _ (List.mem_of_getElem? (i := 1) rfl))) (fun _ h9 => h9) dJ0_isLatin1_aae02_7 ?_
  refine lv_if_ne (tgt := 17) hx hb dJ0_isLatin1_aae02_10 (by decide) (fun c1 => False.elim (by revert c1; decide)) (fun _ => ?_)
  refine lv_iconst (v := 1) hx hb dJ0_isLatin1_aae02_13 (by decide) ?_
  refine lv_goto (tgt := 18) hx hb dJ0_isLatin1_aae02_14 (by decide) ?_
  have hP : va_P (dC, dI) nCl (v1_c_J1_isLatin1 cy  (fun _ => 0)) s.heap := hP
  have hD : va_D A (v1_c_J1_isLatin1 cy  (fun _ => 0)) := hD
  exact W.zret (v := 1) hx hb hr rfl (fun t ht hW => ⟨⟨1, (fun _ => 0), rfl, rfl, by rw [ht]; exact hP, va_K.moved hW.alike hK, hD⟩, hS.F ht⟩) hS.2.2 dJ0_isLatin1_aae02_18
def v0_c_J1_pre_n (cy : Nat → ClassId)  : va_W := []
def v1_c_J1_pre_n (cy : Nat → ClassId)  (r : Nat → Nat) : va_W := []
set_option maxHeartbeats 40000000 in
set_option maxRecDepth 100000 in
/-- checkIndex(i, 5, f) -/
theorem c_J1_pre_n (l : Launch) (dC : Nat → ClassId) (dI : Nat → Nat → Nat) (cy : Nat → ClassId) (k : Nat → Nat)  (i9 : Nat) (h9 : i9 < 5) (sz : Nat) : Met l yJ3_checkIndex_8e157 wsJ3_checkIndex_8e157 ({ frames := 0, cells := 0, slots := 0, locals := 0 }) (va_Pc [.int (nI i9), .int 5, .null] (nInE (dC, dI) cy k sz (v0_c_J1_pre_n cy ))) (va_Qi (fun (z : Int32) (_ : Nat → Nat) => z = nI i9) (fun r t => nOut (dC, dI) cy (va_A (v0_c_J1_pre_n cy ) sz) (v1_c_J1_pre_n cy  r) t) (va_A (v0_c_J1_pre_n cy ) sz)) 0 0 (va_A (v0_c_J1_pre_n cy ) sz) := by
  refine Met.ofW (cc := cJ3_checkIndex_8e157) (maxL := 3) (ret := (some .int)) (by decide) rfl ?_
  intro p e s m args below meth c s₁ B hml hv
  obtain ⟨rfl, ⟨hsz, hP, hK, hD0, hG⟩, hE⟩ := hv
  have hx := B.exec
  have hb := B.bytes
  have hr := B.returns
  have hts := atoms_spec (ws := wsJ3_checkIndex_8e157) B.pre
  have hown : s.vm.findClass RJ3 = some m.cls := findClass_of_methodNamed B.named
  have hlocks := B.notSynchronized
  subst hsz
  have hD := hD0.self (sz := s.heap.size)
  generalize hAe : va_A (v0_c_J1_pre_n cy ) s.heap.size = A at hD hE ⊢
  have hA : ∀ q : Nat, s.heap.size ≤ q → A q := fun q h => by rw [← hAe]; exact Or.inr h
  have hS : va_S A s.heap s.heap [] := va_S.rf
  have hP : va_P (dC, dI) nCl (v0_c_J1_pre_n cy ) s.heap := hP
  have hl := lv_entry ([.int (nI i9), .int 5, .null]) (n := 3) (Nat.le_of_ble_eq_true rfl)
  rw [lg_entry_eq]
  generalize (lg_sl ([.int (nI i9), .int 5, .null]) ++ List.replicate (3 - (lg_sl ([.int (nI i9), .int 5, .null])).length) Slot.unset).toArray = ls at hl ⊢
  have hl : lv_has ls 3 [(0, .int (nI i9)), (1, .int 5), (2, .null)] := hl
  have hP : va_P (dC, dI) nCl [] s.heap := hP
  have hD : va_D A [] := hD
  refine lv_iload_n hx hb dJ3_checkIndex_8e157_0 rfl (lv_at hl 0 rfl) ?_
  refine lv_if_lt (tgt := 9) hx hb dJ3_checkIndex_8e157_1 (by decide) (fun c1 => absurd c1 (nI_pos (by omega))) (fun _ => ?_)
  refine lv_iload_n hx hb dJ3_checkIndex_8e157_4 rfl (lv_at hl 0 rfl) ?_
  refine lv_iload_n hx hb dJ3_checkIndex_8e157_5 rfl (lv_at hl 1 rfl) ?_
  refine lv_icmp_lt (tgt := 16) hx hb dJ3_checkIndex_8e157_6 (by decide) (fun _ => ?_) (fun c1 => absurd (nI_lt (b := 5) h9 (by omega)) c1)
  refine lv_iload_n hx hb dJ3_checkIndex_8e157_16 rfl (lv_at hl 0 rfl) ?_
  have hP : va_P (dC, dI) nCl (v1_c_J1_pre_n cy  (fun _ => 0)) s.heap := hP
  have hD : va_D A (v1_c_J1_pre_n cy  (fun _ => 0)) := hD
  exact W.iret (v := (nI i9)) hx hb hr (fun t ht hW => ⟨⟨(nI i9), (fun _ => 0), rfl, rfl, by rw [ht]; exact hP, va_K.moved hW.alike hK, hD⟩, hS.F ht⟩) hS.2.2 dJ3_checkIndex_8e157_17
def v0_c_J1_pre_r (cy : Nat → ClassId)  : va_W := []
def v1_c_J1_pre_r (cy : Nat → ClassId)  (r : Nat → Nat) : va_W := []
set_option maxHeartbeats 40000000 in
set_option maxRecDepth 100000 in
/-- checkIndex(i, 5, f) -/
theorem c_J1_pre_r (l : Launch) (dC : Nat → ClassId) (dI : Nat → Nat → Nat) (cy : Nat → ClassId) (k : Nat → Nat)  (i9 : Nat) (f9 : Nat) (h9 : i9 < 5) (sz : Nat) : Met l yJ3_checkIndex_8e157 wsJ3_checkIndex_8e157 ({ frames := 0, cells := 0, slots := 0, locals := 0 }) (va_Pc [.int (nI i9), .int 5, .ref f9] (nInE (dC, dI) cy k sz (v0_c_J1_pre_r cy ))) (va_Qi (fun (z : Int32) (_ : Nat → Nat) => z = nI i9) (fun r t => nOut (dC, dI) cy (va_A (v0_c_J1_pre_r cy ) sz) (v1_c_J1_pre_r cy  r) t) (va_A (v0_c_J1_pre_r cy ) sz)) 0 0 (va_A (v0_c_J1_pre_r cy ) sz) := by
  refine Met.ofW (cc := cJ3_checkIndex_8e157) (maxL := 3) (ret := (some .int)) (by decide) rfl ?_
  intro p e s m args below meth c s₁ B hml hv
  obtain ⟨rfl, ⟨hsz, hP, hK, hD0, hG⟩, hE⟩ := hv
  have hx := B.exec
  have hb := B.bytes
  have hr := B.returns
  have hts := atoms_spec (ws := wsJ3_checkIndex_8e157) B.pre
  have hown : s.vm.findClass RJ3 = some m.cls := findClass_of_methodNamed B.named
  have hlocks := B.notSynchronized
  subst hsz
  have hD := hD0.self (sz := s.heap.size)
  generalize hAe : va_A (v0_c_J1_pre_r cy ) s.heap.size = A at hD hE ⊢
  have hA : ∀ q : Nat, s.heap.size ≤ q → A q := fun q h => by rw [← hAe]; exact Or.inr h
  have hS : va_S A s.heap s.heap [] := va_S.rf
  have hP : va_P (dC, dI) nCl (v0_c_J1_pre_r cy ) s.heap := hP
  have hl := lv_entry ([.int (nI i9), .int 5, .ref f9]) (n := 3) (Nat.le_of_ble_eq_true rfl)
  rw [lg_entry_eq]
  generalize (lg_sl ([.int (nI i9), .int 5, .ref f9]) ++ List.replicate (3 - (lg_sl ([.int (nI i9), .int 5, .ref f9])).length) Slot.unset).toArray = ls at hl ⊢
  have hl : lv_has ls 3 [(0, .int (nI i9)), (1, .int 5), (2, .ref f9)] := hl
  have hP : va_P (dC, dI) nCl [] s.heap := hP
  have hD : va_D A [] := hD
  refine lv_iload_n hx hb dJ3_checkIndex_8e157_0 rfl (lv_at hl 0 rfl) ?_
  refine lv_if_lt (tgt := 9) hx hb dJ3_checkIndex_8e157_1 (by decide) (fun c1 => absurd c1 (nI_pos (by omega))) (fun _ => ?_)
  refine lv_iload_n hx hb dJ3_checkIndex_8e157_4 rfl (lv_at hl 0 rfl) ?_
  refine lv_iload_n hx hb dJ3_checkIndex_8e157_5 rfl (lv_at hl 1 rfl) ?_
  refine lv_icmp_lt (tgt := 16) hx hb dJ3_checkIndex_8e157_6 (by decide) (fun _ => ?_) (fun c1 => absurd (nI_lt (b := 5) h9 (by omega)) c1)
  refine lv_iload_n hx hb dJ3_checkIndex_8e157_16 rfl (lv_at hl 0 rfl) ?_
  have hP : va_P (dC, dI) nCl (v1_c_J1_pre_r cy  (fun _ => 0)) s.heap := hP
  have hD : va_D A (v1_c_J1_pre_r cy  (fun _ => 0)) := hD
  exact W.iret (v := (nI i9)) hx hb hr (fun t ht hW => ⟨⟨(nI i9), (fun _ => 0), rfl, rfl, by rw [ht]; exact hP, va_K.moved hW.alike hK, hD⟩, hS.F ht⟩) hS.2.2 dJ3_checkIndex_8e157_17
def v0_c_J1_chk (cy : Nat → ClassId)  : va_W := []
def v1_c_J1_chk (cy : Nat → ClassId)  (r : Nat → Nat) : va_W := []
set_option maxHeartbeats 40000000 in
set_option maxRecDepth 100000 in
/-- String.checkIndex(i, 5) -/
theorem c_J1_chk (l : Launch) (dC : Nat → ClassId) (dI : Nat → Nat → Nat) (cy : Nat → ClassId) (k : Nat → Nat)  (i9 : Nat) (h9 : i9 < 5) (sz : Nat) : Met l yJ0_checkIndex_df160 wsJ0_checkIndex_df160 ({ frames := 1, cells := 0, slots := 0, locals := 22 }) (va_Pc [.int (nI i9), .int 5] (nInE (dC, dI) cy k sz (v0_c_J1_chk cy ))) (va_Qv (fun _ : Nat → Nat => True) (fun r t => nOut (dC, dI) cy (va_A (v0_c_J1_chk cy ) sz) (v1_c_J1_chk cy  r) t) (va_A (v0_c_J1_chk cy ) sz)) 0 0 (va_A (v0_c_J1_chk cy ) sz) := by
  refine Met.ofW (cc := cJ0_checkIndex_df160) (maxL := 2) (ret := none) (by decide) rfl ?_
  intro p e s m args below meth c s₁ B hml hv
  obtain ⟨rfl, ⟨hsz, hP, hK, hD0, hG⟩, hE⟩ := hv
  have hx := B.exec
  have hb := B.bytes
  have hr := B.returns
  have hts := atoms_spec (ws := wsJ0_checkIndex_df160) B.pre
  have hown : s.vm.findClass RJ0 = some m.cls := findClass_of_methodNamed B.named
  have hlocks := B.notSynchronized
  subst hsz
  have hD := hD0.self (sz := s.heap.size)
  generalize hAe : va_A (v0_c_J1_chk cy ) s.heap.size = A at hD hE ⊢
  have hA : ∀ q : Nat, s.heap.size ≤ q → A q := fun q h => by rw [← hAe]; exact Or.inr h
  have hS : va_S A s.heap s.heap [] := va_S.rf
  have hP : va_P (dC, dI) nCl (v0_c_J1_chk cy ) s.heap := hP
  have hl := lv_entry ([.int (nI i9), .int 5]) (n := 2) (Nat.le_of_ble_eq_true rfl)
  rw [lg_entry_eq]
  generalize (lg_sl ([.int (nI i9), .int 5]) ++ List.replicate (2 - (lg_sl ([.int (nI i9), .int 5])).length) Slot.unset).toArray = ls at hl ⊢
  have hl : lv_has ls 2 [(0, .int (nI i9)), (1, .int 5)] := hl
  have hP : va_P (dC, dI) nCl [] s.heap := hP
  have hD : va_D A [] := hD
  refine lv_iload_n hx hb dJ0_checkIndex_df160_0 rfl (lv_at hl 0 rfl) ?_
  refine lv_iload_n hx hb dJ0_checkIndex_df160_1 rfl (lv_at hl 1 rfl) ?_
  rcases hE.2.1 with hZ | ⟨f9, hZ⟩
  · refine va_gets hx hb hZ hS hown (hts _ (List.mem_cons_of_mem _ (List.mem_of_getElem? (i := 0) rfl))) (fun _ h9 => h9) dJ0_checkIndex_df160_2 ?_
    have hPc : va_P (dC, dI) nCl (v0_c_J1_pre_n cy ) s.heap := hP.sub (ws' := []) [] rfl
    have hDc : va_D A (v0_c_J1_pre_n cy ) := hD.sub (ws' := []) [] (by decide) rfl
    have hFc := va_free (wc := (v0_c_J1_pre_n cy )) hD hS hA [] rfl
    refine va_calli (va_runS (As := [.int (nI i9), .int 5, .null]) (rest := []) ⟨hx, hb, hml, hown, hts⟩ (c_J1_pre_n l dC dI cy k i9 h9 s.heap.size) (va_cwS 3 hts gJ0_checkIndex_df160_J3_checkIndex_8e157 rfl rfl rfl (by decide +kernel) ⟨Nat.le_of_ble_eq_true rfl, Nat.le_of_ble_eq_true rfl⟩) ⟨nb_blindE, fun U hU hW => ⟨rfl, ⟨by rw [hU], by rw [hU]; exact hPc, va_K.moved hW.alike hK, hDc.weaken (fun _ _ _ _ => trivial), hG.warm hW⟩, nE.to hE hS hW hU hFc⟩⟩ rfl rfl hl.1 rfl (lv_room (Nat.le_of_ble_eq_true rfl)) dJ0_checkIndex_df160_5 ⟨Nat.le_of_ble_eq_true rfl, Nat.le_of_ble_eq_true rfl⟩) hS (fun q _ h => hFc q h) hFc (fun r_1 u1 t H1 locs ht hvm hw hB hz1 hk1 hS => ?_)
    obtain ⟨hP1, hK1, hD1⟩ := hB
    rw [ht] at hP1
    obtain ⟨hP, hD⟩ := va_join (wr := []) (w1 := (v1_c_J1_pre_n cy  u1)) hP hD [] [] rfl rfl (by decide) (by decide) hk1 hFc hP1 hD1
    generalize H1 = H at hP hS ⊢
    have hP : va_P (dC, dI) nCl [] H := hP
    have hD : va_D A [] := hD
    refine lv_pop hx hb dJ0_checkIndex_df160_8 rfl ?_
    exact W.vret hx hb hr (fun t ht hW => ⟨⟨(fun _ => 0), rfl, trivial, by rw [ht]; exact hP, va_K.moved hW.alike hK, hD⟩, hS.F ht⟩) hS.2.2 dJ0_checkIndex_df160_9
  · refine va_gets hx hb hZ hS hown (hts _ (List.mem_cons_of_mem _ (List.mem_of_getElem? (i := 0) rfl))) (fun _ h9 => h9) dJ0_checkIndex_df160_2 ?_
    have hPc : va_P (dC, dI) nCl (v0_c_J1_pre_r cy ) s.heap := hP.sub (ws' := []) [] rfl
    have hDc : va_D A (v0_c_J1_pre_r cy ) := hD.sub (ws' := []) [] (by decide) rfl
    have hFc := va_free (wc := (v0_c_J1_pre_r cy )) hD hS hA [] rfl
    refine va_calli (va_runS (As := [.int (nI i9), .int 5, .ref f9]) (rest := []) ⟨hx, hb, hml, hown, hts⟩ (c_J1_pre_r l dC dI cy k i9 f9 h9 s.heap.size) (va_cwS 3 hts gJ0_checkIndex_df160_J3_checkIndex_8e157 rfl rfl rfl (by decide +kernel) ⟨Nat.le_of_ble_eq_true rfl, Nat.le_of_ble_eq_true rfl⟩) ⟨nb_blindE, fun U hU hW => ⟨rfl, ⟨by rw [hU], by rw [hU]; exact hPc, va_K.moved hW.alike hK, hDc.weaken (fun _ _ _ _ => trivial), hG.warm hW⟩, nE.to hE hS hW hU hFc⟩⟩ rfl rfl hl.1 rfl (lv_room (Nat.le_of_ble_eq_true rfl)) dJ0_checkIndex_df160_5 ⟨Nat.le_of_ble_eq_true rfl, Nat.le_of_ble_eq_true rfl⟩) hS (fun q _ h => hFc q h) hFc (fun r_2 u2 t H1 locs ht hvm hw hB hz1 hk1 hS => ?_)
    obtain ⟨hP1, hK1, hD1⟩ := hB
    rw [ht] at hP1
    obtain ⟨hP, hD⟩ := va_join (wr := []) (w1 := (v1_c_J1_pre_r cy  u2)) hP hD [] [] rfl rfl (by decide) (by decide) hk1 hFc hP1 hD1
    generalize H1 = H at hP hS ⊢
    have hP : va_P (dC, dI) nCl [] H := hP
    have hD : va_D A [] := hD
    refine lv_pop hx hb dJ0_checkIndex_df160_8 rfl ?_
    have hP : va_P (dC, dI) nCl (v1_c_J1_chk cy  (fun _ => 0)) H := hP
    have hD : va_D A (v1_c_J1_chk cy  (fun _ => 0)) := hD
    exact W.vret hx hb hr (fun t ht hW => ⟨⟨(fun _ => 0), rfl, trivial, by rw [ht]; exact hP, va_K.moved hW.alike hK, hD⟩, hS.F ht⟩) hS.2.2 dJ0_checkIndex_df160_9
def v0_c_J1_latin (cy : Nat → ClassId)  : va_W := []
def v1_c_J1_latin (cy : Nat → ClassId)  (r : Nat → Nat) : va_W := []
set_option maxHeartbeats 40000000 in
set_option maxRecDepth 100000 in
/-- StringLatin1.charAt -/
theorem c_J1_latin (l : Launch) (dC : Nat → ClassId) (dI : Nat → Nat → Nat) (cy : Nat → ClassId) (k : Nat → Nat)  (i9 : Nat) (h9 : i9 < 5) (sz : Nat) : Met l yJ1_charAt_3b067 wsJ1_charAt_3b067 ({ frames := 2, cells := 0, slots := 0, locals := 43 }) (va_Pc [.ref (k 3), .int (nI i9)] (nInE (dC, dI) cy k sz (v0_c_J1_latin cy ))) (va_Qi (fun (z : Int32) (_ : Nat → Nat) => z = sx1.getD i9 0 &&& 255) (fun r t => nOut (dC, dI) cy (va_A (v0_c_J1_latin cy ) sz) (v1_c_J1_latin cy  r) t) (va_A (v0_c_J1_latin cy ) sz)) 0 0 (va_A (v0_c_J1_latin cy ) sz) := by
  refine Met.ofW (cc := cJ1_charAt_3b067) (maxL := 2) (ret := (some .char)) (by decide) rfl ?_
  intro p e s m args below meth c s₁ B hml hv
  obtain ⟨rfl, ⟨hsz, hP, hK, hD0, hG⟩, hE⟩ := hv
  have hx := B.exec
  have hb := B.bytes
  have hr := B.returns
  have hts := atoms_spec (ws := wsJ1_charAt_3b067) B.pre
  have hown : s.vm.findClass RJ1 = some m.cls := findClass_of_methodNamed B.named
  have hlocks := B.notSynchronized
  subst hsz
  have hD := hD0.self (sz := s.heap.size)
  generalize hAe : va_A (v0_c_J1_latin cy ) s.heap.size = A at hD hE ⊢
  have hA : ∀ q : Nat, s.heap.size ≤ q → A q := fun q h => by rw [← hAe]; exact Or.inr h
  have hS : va_S A s.heap s.heap [] := va_S.rf
  have hP : va_P (dC, dI) nCl (v0_c_J1_latin cy ) s.heap := hP
  have hl := lv_entry ([.ref (k 3), .int (nI i9)]) (n := 2) (Nat.le_of_ble_eq_true rfl)
  rw [lg_entry_eq]
  generalize (lg_sl ([.ref (k 3), .int (nI i9)]) ++ List.replicate (2 - (lg_sl ([.ref (k 3), .int (nI i9)])).length) Slot.unset).toArray = ls at hl ⊢
  have hl : lv_has ls 2 [(0, .ref (k 3)), (1, .int (nI i9))] := hl
  have hP : va_P (dC, dI) nCl [] s.heap := hP
  have hD : va_D A [] := hD
  refine lv_iload_n hx hb dJ1_charAt_3b067_0 rfl (lv_at hl 1 rfl) ?_
  refine lv_aload_n hx hb dJ1_charAt_3b067_1 rfl (lv_at hl 0 rfl) ?_
  refine va_tlen hx hb (hE.2.2.1.1 1 (by decide)).2.2.2 hS (v := 5) rfl dJ1_charAt_3b067_2 ?_
  have hPc : va_P (dC, dI) nCl (v0_c_J1_chk cy ) s.heap := hP.sub (ws' := []) [] rfl
  have hDc : va_D A (v0_c_J1_chk cy ) := hD.sub (ws' := []) [] (by decide) rfl
  have hFc := va_free (wc := (v0_c_J1_chk cy )) hD hS hA [] rfl
  refine va_callv (va_runS (As := [.int (nI i9), .int 5]) (rest := []) ⟨hx, hb, hml, hown, hts⟩ (c_J1_chk l dC dI cy k i9 h9 s.heap.size) (va_cwS 2 hts gJ1_charAt_3b067_J0_checkIndex_df160 rfl rfl rfl (by decide +kernel) ⟨Nat.le_of_ble_eq_true rfl, Nat.le_of_ble_eq_true rfl⟩) ⟨nb_blindE, fun U hU hW => ⟨rfl, ⟨by rw [hU], by rw [hU]; exact hPc, va_K.moved hW.alike hK, hDc.weaken (fun _ _ _ _ => trivial), hG.warm hW⟩, nE.to hE hS hW hU hFc⟩⟩ rfl rfl hl.1 rfl (lv_room (Nat.le_of_ble_eq_true rfl)) dJ1_charAt_3b067_3 ⟨Nat.le_of_ble_eq_true rfl, Nat.le_of_ble_eq_true rfl⟩) hS (fun q _ h => hFc q h) hFc (fun u1 t H1 locs ht hvm hw hB hz1 hk1 hS => ?_)
  obtain ⟨hP1, hK1, hD1⟩ := hB
  rw [ht] at hP1
  obtain ⟨hP, hD⟩ := va_join (wr := []) (w1 := (v1_c_J1_chk cy  u1)) hP hD [] [] rfl rfl (by decide) (by decide) hk1 hFc hP1 hD1
  generalize H1 = H at hP hS ⊢
  have hP : va_P (dC, dI) nCl [] H := hP
  have hD : va_D A [] := hD
  refine lv_aload_n hx hb dJ1_charAt_3b067_6 rfl (lv_at hl 0 rfl) ?_
  refine lv_iload_n hx hb dJ1_charAt_3b067_7 rfl (lv_at hl 1 rfl) ?_
  refine va_tb hx hb (hE.2.2.1.1 1 (by decide)).2.2.2 hS (show vp_in (nI i9) 5 from vp_in_nI h9 (by omega)) (v := .int (sx1.getD i9 0)) (by rw [nI_clamp (by omega)]; rfl) dJ1_charAt_3b067_8 ?_
  refine lv_sipush (v := 255) hx hb dJ1_charAt_3b067_9 (by decide) ?_
  refine lv_iand hx hb dJ1_charAt_3b067_12 ?_
  refine lv_i2c (v := sx1.getD i9 0 &&& 255) hx hb dJ1_charAt_3b067_13 (sc_c2 _) ?_
  have hP : va_P (dC, dI) nCl (v1_c_J1_latin cy  (fun _ => 0)) H := hP
  have hD : va_D A (v1_c_J1_latin cy  (fun _ => 0)) := hD
  exact W.zret (v := (sx1.getD i9 0 &&& 255)) hx hb hr (sc_nar _) (fun t ht hW => ⟨⟨(sx1.getD i9 0 &&& 255), (fun _ => 0), rfl, rfl, by rw [ht]; exact hP, va_K.moved hW.alike hK, hD⟩, hS.F ht⟩) hS.2.2 dJ1_charAt_3b067_14
def v0_c_J1_charAt (cy : Nat → ClassId)  : va_W := []
def v1_c_J1_charAt (cy : Nat → ClassId)  (r : Nat → Nat) : va_W := []
set_option maxHeartbeats 40000000 in
set_option maxRecDepth 100000 in
/-- charAt(i) of the words' text -/
theorem c_J1_charAt (l : Launch) (dC : Nat → ClassId) (dI : Nat → Nat → Nat) (cy : Nat → ClassId) (k : Nat → Nat)  (i9 : Nat) (h9 : i9 < 5) (sz : Nat) : Met l yJ0_charAt_5068e wsJ0_charAt_5068e ({ frames := 3, cells := 0, slots := 0, locals := 64 }) (va_Pc [.ref (k 2), .int (nI i9)] (nInE (dC, dI) cy k sz (v0_c_J1_charAt cy ))) (va_Qi (fun (z : Int32) (_ : Nat → Nat) => z = sx1.getD i9 0 &&& 255) (fun r t => nOut (dC, dI) cy (va_A (v0_c_J1_charAt cy ) sz) (v1_c_J1_charAt cy  r) t) (va_A (v0_c_J1_charAt cy ) sz)) 0 0 (va_A (v0_c_J1_charAt cy ) sz) := by
  refine Met.ofW (cc := cJ0_charAt_5068e) (maxL := 2) (ret := (some .char)) (by decide) rfl ?_
  intro p e s m args below meth c s₁ B hml hv
  obtain ⟨rfl, ⟨hsz, hP, hK, hD0, hG⟩, hE⟩ := hv
  have hx := B.exec
  have hb := B.bytes
  have hr := B.returns
  have hts := atoms_spec (ws := wsJ0_charAt_5068e) B.pre
  have hown : s.vm.findClass RJ0 = some m.cls := findClass_of_methodNamed B.named
  have hlocks := B.notSynchronized
  subst hsz
  have hD := hD0.self (sz := s.heap.size)
  generalize hAe : va_A (v0_c_J1_charAt cy ) s.heap.size = A at hD hE ⊢
  have hA : ∀ q : Nat, s.heap.size ≤ q → A q := fun q h => by rw [← hAe]; exact Or.inr h
  have hS : va_S A s.heap s.heap [] := va_S.rf
  have hP : va_P (dC, dI) nCl (v0_c_J1_charAt cy ) s.heap := hP
  have hl := lv_entry ([.ref (k 2), .int (nI i9)]) (n := 2) (Nat.le_of_ble_eq_true rfl)
  rw [lg_entry_eq]
  generalize (lg_sl ([.ref (k 2), .int (nI i9)]) ++ List.replicate (2 - (lg_sl ([.ref (k 2), .int (nI i9)])).length) Slot.unset).toArray = ls at hl ⊢
  have hl : lv_has ls 2 [(0, .ref (k 2)), (1, .int (nI i9))] := hl
  have hP : va_P (dC, dI) nCl [] s.heap := hP
  have hD : va_D A [] := hD
  refine lv_aload_n hx hb dJ0_charAt_5068e_0 rfl (lv_at hl 0 rfl) ?_
  have hPc : va_P (dC, dI) nCl (v0_c_J1_isLatin1 cy ) s.heap := hP.sub (ws' := []) [] rfl
  have hDc : va_D A (v0_c_J1_isLatin1 cy ) := hD.sub (ws' := []) [] (by decide) rfl
  have hFc := va_free (wc := (v0_c_J1_isLatin1 cy )) hD hS hA [] rfl
  refine va_calli (va_runV (As := []) (rest := []) ⟨hx, hb, hml, hown, hts⟩ (c_J1_isLatin1 l dC dI cy k  s.heap.size) (cwV 0 hts gJ0_charAt_5068e_J0_isLatin1_aae02 rfl rfl rfl (by decide +kernel) ⟨Nat.le_of_ble_eq_true rfl, Nat.le_of_ble_eq_true rfl⟩) ⟨nb_blindE, (vk_recv (i := 1) hE.2.2.1 (by decide) hS), fun U hU hW => ⟨rfl, ⟨by rw [hU], by rw [hU]; exact hPc, va_K.moved hW.alike hK, hDc.weaken (fun _ _ _ _ => trivial), hG.warm hW⟩, nE.to hE hS hW hU hFc⟩⟩ rfl rfl hl.1 rfl (lv_room (Nat.le_of_ble_eq_true rfl)) dJ0_charAt_5068e_1 ⟨Nat.le_of_ble_eq_true rfl, Nat.le_of_ble_eq_true rfl⟩) hS (fun q _ h => hFc q h) hFc (fun r_1 u1 t H1 locs ht hvm hw hB hz1 hk1 hS => ?_)
  have hw : r_1 = 1 := hw.trans (by decide)
  subst hw
  obtain ⟨hP1, hK1, hD1⟩ := hB
  rw [ht] at hP1
  obtain ⟨hP, hD⟩ := va_join (wr := []) (w1 := (v1_c_J1_isLatin1 cy  u1)) hP hD [] [] rfl rfl (by decide) (by decide) hk1 hFc hP1 hD1
  generalize H1 = H at hP hS ⊢
  have hP : va_P (dC, dI) nCl [] H := hP
  have hD : va_D A [] := hD
  refine lv_if_eq (tgt := 16) hx hb dJ0_charAt_5068e_4 (by decide) (fun c1 => False.elim (by revert c1; decide)) (fun _ => ?_)
  refine lv_aload_n hx hb dJ0_charAt_5068e_7 rfl (lv_at hl 0 rfl) ?_
  refine vk_getf hx hb (hE.2.2.1.1 1 (by decide)).2.2.1 hS hown (hts _ (List.mem_cons_of_mem _ (List.mem_append_left _ (List.mem_of_getElem? (i := 0) rfl)))) (fun _ h9 => h9) dJ0_charAt_5068e_8 ?_
  refine lv_iload_n hx hb dJ0_charAt_5068e_11 rfl (lv_at hl 1 rfl) ?_
  have hPc : va_P (dC, dI) nCl (v0_c_J1_latin cy ) H := hP.sub (ws' := []) [] rfl
  have hDc : va_D A (v0_c_J1_latin cy ) := hD.sub (ws' := []) [] (by decide) rfl
  have hFc := va_free (wc := (v0_c_J1_latin cy )) hD hS hA [] rfl
  refine va_calli (va_runS (As := [.ref (k 3), .int (nI i9)]) (rest := []) ⟨hx, hb, hml, hown, hts⟩ (c_J1_latin l dC dI cy k i9 h9 H.size) (va_cwS 2 hts gJ0_charAt_5068e_J1_charAt_3b067 rfl rfl rfl (by decide +kernel) ⟨Nat.le_of_ble_eq_true rfl, Nat.le_of_ble_eq_true rfl⟩) ⟨nb_blindE, fun U hU hW => ⟨rfl, ⟨by rw [hU], by rw [hU]; exact hPc, va_K.moved hW.alike hK, hDc.weaken (fun _ _ _ _ => trivial), hG.warm hW⟩, nE.to hE hS hW hU hFc⟩⟩ rfl rfl hl.1 rfl (lv_room (Nat.le_of_ble_eq_true rfl)) dJ0_charAt_5068e_12 ⟨Nat.le_of_ble_eq_true rfl, Nat.le_of_ble_eq_true rfl⟩) hS (fun q _ h => hFc q h) hFc (fun r_2 u2 t H1 locs ht hvm hw hB hz1 hk1 hS => ?_)
  obtain ⟨hP1, hK1, hD1⟩ := hB
  rw [ht] at hP1
  obtain ⟨hP, hD⟩ := va_join (wr := []) (w1 := (v1_c_J1_latin cy  u2)) hP hD [] [] rfl rfl (by decide) (by decide) hk1 hFc hP1 hD1
  generalize H1 = H at hP hS ⊢
  have hP : va_P (dC, dI) nCl [] H := hP
  have hD : va_D A [] := hD
  subst hw
  have hP : va_P (dC, dI) nCl (v1_c_J1_charAt cy  (fun _ => 0)) H := hP
  have hD : va_D A (v1_c_J1_charAt cy  (fun _ => 0)) := hD
  exact W.zret (v := (sx1.getD i9 0 &&& 255)) hx hb hr (sc_nar _) (fun t ht hW => ⟨⟨(sx1.getD i9 0 &&& 255), (fun _ => 0), rfl, rfl, by rw [ht]; exact hP, va_K.moved hW.alike hK, hD⟩, hS.F ht⟩) hS.2.2 dJ0_charAt_5068e_15

def v0_c_J2_coder (cy : Nat → ClassId)  : va_W := []
def v1_c_J2_coder (cy : Nat → ClassId)  (r : Nat → Nat) : va_W := []
set_option maxHeartbeats 40000000 in
set_option maxRecDepth 100000 in
/-- coder() -/
theorem c_J2_coder (l : Launch) (dC : Nat → ClassId) (dI : Nat → Nat → Nat) (cy : Nat → ClassId) (k : Nat → Nat)  (sz : Nat) : Met l yJ0_coder_7d493 wsJ0_coder_7d493 ({ frames := 0, cells := 0, slots := 0, locals := 0 }) (va_Pc [.ref (k 4)] (nInE (dC, dI) cy k sz (v0_c_J2_coder cy ))) (va_Qi (fun (z : Int32) (_ : Nat → Nat) => z = 0) (fun r t => nOut (dC, dI) cy (va_A (v0_c_J2_coder cy ) sz) (v1_c_J2_coder cy  r) t) (va_A (v0_c_J2_coder cy ) sz)) 0 0 (va_A (v0_c_J2_coder cy ) sz) := by
  refine Met.ofW (cc := cJ0_coder_7d493) (maxL := 1) (ret := (some .byte)) (by decide) rfl ?_
  intro p e s m args below meth c s₁ B hml hv
  obtain ⟨rfl, ⟨hsz, hP, hK, hD0, hG⟩, hE⟩ := hv
  have hx := B.exec
  have hb := B.bytes
  have hr := B.returns
  have hts := atoms_spec (ws := wsJ0_coder_7d493) B.pre
  have hown : s.vm.findClass RJ0 = some m.cls := findClass_of_methodNamed B.named
  have hlocks := B.notSynchronized
  subst hsz
  have hD := hD0.self (sz := s.heap.size)
  generalize hAe : va_A (v0_c_J2_coder cy ) s.heap.size = A at hD hE ⊢
  have hA : ∀ q : Nat, s.heap.size ≤ q → A q := fun q h => by rw [← hAe]; exact Or.inr h
  have hS : va_S A s.heap s.heap [] := va_S.rf
  have hP : va_P (dC, dI) nCl (v0_c_J2_coder cy ) s.heap := hP
  have hl := lv_entry ([.ref (k 4)]) (n := 1) (Nat.le_of_ble_eq_true rfl)
  rw [lg_entry_eq]
  generalize (lg_sl ([.ref (k 4)]) ++ List.replicate (1 - (lg_sl ([.ref (k 4)])).length) Slot.unset).toArray = ls at hl ⊢
  have hl : lv_has ls 1 [(0, .ref (k 4))] := hl
  have hP : va_P (dC, dI) nCl [] s.heap := hP
  have hD : va_D A [] := hD
  refine va_gets hx hb hE.1 hS hown (hts _ (List.mem_cons_of_mem _ (List.mem_of_getElem? (i := 0) rfl))) (fun _ h9 => h9) dJ0_coder_7d493_0 ?_
  refine lv_if_eq (tgt := 13) hx hb dJ0_coder_7d493_3 (by decide) (fun c1 => False.elim (by revert c1; decide)) (fun _ => ?_)
  refine lv_aload_n hx hb dJ0_coder_7d493_6 rfl (lv_at hl 0 rfl) ?_
  refine vk_getf hx hb (hE.2.2.1.1 2 (by decide)).2.1 hS hown (hts _ (List.mem_cons_of_mem _ (List.mem_of_getElem? (i := 1) rfl))) (fun _ h9 => h9) dJ0_coder_7d493_7 ?_
  refine lv_goto (tgt := 14) hx hb dJ0_coder_7d493_10 (by decide) ?_
  have hP : va_P (dC, dI) nCl (v1_c_J2_coder cy  (fun _ => 0)) s.heap := hP
  have hD : va_D A (v1_c_J2_coder cy  (fun _ => 0)) := hD
  exact W.zret (v := 0) hx hb hr rfl (fun t ht hW => ⟨⟨0, (fun _ => 0), rfl, rfl, by rw [ht]; exact hP, va_K.moved hW.alike hK, hD⟩, hS.F ht⟩) hS.2.2 dJ0_coder_7d493_14
def v0_c_J2_len (cy : Nat → ClassId)  : va_W := []
def v1_c_J2_len (cy : Nat → ClassId)  (r : Nat → Nat) : va_W := []
set_option maxHeartbeats 40000000 in
set_option maxRecDepth 100000 in
/-- length() of the words' text -/
theorem c_J2_len (l : Launch) (dC : Nat → ClassId) (dI : Nat → Nat → Nat) (cy : Nat → ClassId) (k : Nat → Nat)  (sz : Nat) : Met l yJ0_length_8abf5 wsJ0_length_8abf5 ({ frames := 1, cells := 0, slots := 0, locals := 20 }) (va_Pc [.ref (k 4)] (nInE (dC, dI) cy k sz (v0_c_J2_len cy ))) (va_Qi (fun (z : Int32) (_ : Nat → Nat) => z = 5) (fun r t => nOut (dC, dI) cy (va_A (v0_c_J2_len cy ) sz) (v1_c_J2_len cy  r) t) (va_A (v0_c_J2_len cy ) sz)) 0 0 (va_A (v0_c_J2_len cy ) sz) := by
  refine Met.ofW (cc := cJ0_length_8abf5) (maxL := 1) (ret := (some .int)) (by decide) rfl ?_
  intro p e s m args below meth c s₁ B hml hv
  obtain ⟨rfl, ⟨hsz, hP, hK, hD0, hG⟩, hE⟩ := hv
  have hx := B.exec
  have hb := B.bytes
  have hr := B.returns
  have hts := atoms_spec (ws := wsJ0_length_8abf5) B.pre
  have hown : s.vm.findClass RJ0 = some m.cls := findClass_of_methodNamed B.named
  have hlocks := B.notSynchronized
  subst hsz
  have hD := hD0.self (sz := s.heap.size)
  generalize hAe : va_A (v0_c_J2_len cy ) s.heap.size = A at hD hE ⊢
  have hA : ∀ q : Nat, s.heap.size ≤ q → A q := fun q h => by rw [← hAe]; exact Or.inr h
  have hS : va_S A s.heap s.heap [] := va_S.rf
  have hP : va_P (dC, dI) nCl (v0_c_J2_len cy ) s.heap := hP
  have hl := lv_entry ([.ref (k 4)]) (n := 1) (Nat.le_of_ble_eq_true rfl)
  rw [lg_entry_eq]
  generalize (lg_sl ([.ref (k 4)]) ++ List.replicate (1 - (lg_sl ([.ref (k 4)])).length) Slot.unset).toArray = ls at hl ⊢
  have hl : lv_has ls 1 [(0, .ref (k 4))] := hl
  have hP : va_P (dC, dI) nCl [] s.heap := hP
  have hD : va_D A [] := hD
  refine lv_aload_n hx hb dJ0_length_8abf5_0 rfl (lv_at hl 0 rfl) ?_
  refine vk_getf hx hb (hE.2.2.1.1 2 (by decide)).2.2.1 hS hown (hts _ (List.mem_cons_of_mem _ (List.mem_of_getElem? (i := 0) rfl))) (fun _ h9 => h9) dJ0_length_8abf5_1 ?_
  refine va_tlen hx hb (hE.2.2.1.1 2 (by decide)).2.2.2 hS (v := 5) rfl dJ0_length_8abf5_4 ?_
  refine lv_aload_n hx hb dJ0_length_8abf5_5 rfl (lv_at hl 0 rfl) ?_
  have hPc : va_P (dC, dI) nCl (v0_c_J2_coder cy ) s.heap := hP.sub (ws' := []) [] rfl
  have hDc : va_D A (v0_c_J2_coder cy ) := hD.sub (ws' := []) [] (by decide) rfl
  have hFc := va_free (wc := (v0_c_J2_coder cy )) hD hS hA [] rfl
  refine va_calli (va_runV (As := []) (rest := [.int 5]) ⟨hx, hb, hml, hown, hts⟩ (c_J2_coder l dC dI cy k  s.heap.size) (cwV 0 hts gJ0_length_8abf5_J0_coder_7d493 rfl rfl rfl (by decide +kernel) ⟨Nat.le_of_ble_eq_true rfl, Nat.le_of_ble_eq_true rfl⟩) ⟨nb_blindE, (vk_recv (i := 2) hE.2.2.1 (by decide) hS), fun U hU hW => ⟨rfl, ⟨by rw [hU], by rw [hU]; exact hPc, va_K.moved hW.alike hK, hDc.weaken (fun _ _ _ _ => trivial), hG.warm hW⟩, nE.to hE hS hW hU hFc⟩⟩ rfl rfl hl.1 rfl (lv_room (Nat.le_of_ble_eq_true rfl)) dJ0_length_8abf5_6 ⟨Nat.le_of_ble_eq_true rfl, Nat.le_of_ble_eq_true rfl⟩) hS (fun q _ h => hFc q h) hFc (fun r_1 u1 t H1 locs ht hvm hw hB hz1 hk1 hS => ?_)
  have hw : r_1 = 0 := hw.trans (by decide)
  subst hw
  obtain ⟨hP1, hK1, hD1⟩ := hB
  rw [ht] at hP1
  obtain ⟨hP, hD⟩ := va_join (wr := []) (w1 := (v1_c_J2_coder cy  u1)) hP hD [] [] rfl rfl (by decide) (by decide) hk1 hFc hP1 hD1
  generalize H1 = H at hP hS ⊢
  have hP : va_P (dC, dI) nCl [] H := hP
  have hD : va_D A [] := hD
  refine lv_ishr hx hb dJ0_length_8abf5_9 ?_
  refine W.eq (g2 := F0 m 10 ls [.int 5]) rfl ?_
  have hP : va_P (dC, dI) nCl (v1_c_J2_len cy  (fun _ => 0)) H := hP
  have hD : va_D A (v1_c_J2_len cy  (fun _ => 0)) := hD
  exact W.iret (v := 5) hx hb hr (fun t ht hW => ⟨⟨5, (fun _ => 0), rfl, rfl, by rw [ht]; exact hP, va_K.moved hW.alike hK, hD⟩, hS.F ht⟩) hS.2.2 dJ0_length_8abf5_10
def v0_c_J2_isLatin1 (cy : Nat → ClassId)  : va_W := []
def v1_c_J2_isLatin1 (cy : Nat → ClassId)  (r : Nat → Nat) : va_W := []
set_option maxHeartbeats 40000000 in
set_option maxRecDepth 100000 in
/-- isLatin1() -/
theorem c_J2_isLatin1 (l : Launch) (dC : Nat → ClassId) (dI : Nat → Nat → Nat) (cy : Nat → ClassId) (k : Nat → Nat)  (sz : Nat) : Met l yJ0_isLatin1_aae02 wsJ0_isLatin1_aae02 ({ frames := 0, cells := 0, slots := 0, locals := 0 }) (va_Pc [.ref (k 4)] (nInE (dC, dI) cy k sz (v0_c_J2_isLatin1 cy ))) (va_Qi (fun (z : Int32) (_ : Nat → Nat) => z = 1) (fun r t => nOut (dC, dI) cy (va_A (v0_c_J2_isLatin1 cy ) sz) (v1_c_J2_isLatin1 cy  r) t) (va_A (v0_c_J2_isLatin1 cy ) sz)) 0 0 (va_A (v0_c_J2_isLatin1 cy ) sz) := by
  refine Met.ofW (cc := cJ0_isLatin1_aae02) (maxL := 1) (ret := (some .boolean)) (by decide) rfl ?_
  intro p e s m args below meth c s₁ B hml hv
  obtain ⟨rfl, ⟨hsz, hP, hK, hD0, hG⟩, hE⟩ := hv
  have hx := B.exec
  have hb := B.bytes
  have hr := B.returns
  have hts := atoms_spec (ws := wsJ0_isLatin1_aae02) B.pre
  have hown : s.vm.findClass RJ0 = some m.cls := findClass_of_methodNamed B.named
  have hlocks := B.notSynchronized
  subst hsz
  have hD := hD0.self (sz := s.heap.size)
  generalize hAe : va_A (v0_c_J2_isLatin1 cy ) s.heap.size = A at hD hE ⊢
  have hA : ∀ q : Nat, s.heap.size ≤ q → A q := fun q h => by rw [← hAe]; exact Or.inr h
  have hS : va_S A s.heap s.heap [] := va_S.rf
  have hP : va_P (dC, dI) nCl (v0_c_J2_isLatin1 cy ) s.heap := hP
  have hl := lv_entry ([.ref (k 4)]) (n := 1) (Nat.le_of_ble_eq_true rfl)
  rw [lg_entry_eq]
  generalize (lg_sl ([.ref (k 4)]) ++ List.replicate (1 - (lg_sl ([.ref (k 4)])).length) Slot.unset).toArray = ls at hl ⊢
  have hl : lv_has ls 1 [(0, .ref (k 4))] := hl
  have hP : va_P (dC, dI) nCl [] s.heap := hP
  have hD : va_D A [] := hD
  refine va_gets hx hb hE.1 hS hown (hts _ (List.mem_cons_of_mem _ (List.mem_of_getElem? (i := 0) rfl))) (fun _ h9 => h9) dJ0_isLatin1_aae02_0 ?_
  refine lv_if_eq (tgt := 17) hx hb dJ0_isLatin1_aae02_3 (by decide) (fun c1 => False.elim (by revert c1; decide)) (fun _ => ?_)
  refine lv_aload_n hx hb dJ0_isLatin1_aae02_6 rfl (lv_at hl 0 rfl) ?_
  refine vk_getf hx hb (hE.2.2.1.1 2 (by decide)).2.1 hS hown (hts _ (List.mem_cons_of_mem _ (List.mem_of_getElem? (i := 1) rfl))) (fun _ h9 => h9) dJ0_isLatin1_aae02_7 ?_
  refine lv_if_ne (tgt := 17) hx hb dJ0_isLatin1_aae02_10 (by decide) (fun c1 => False.elim (by revert c1; decide)) (fun _ => ?_)
  refine lv_iconst (v := 1) hx hb dJ0_isLatin1_aae02_13 (by decide) ?_
  refine lv_goto (tgt := 18) hx hb dJ0_isLatin1_aae02_14 (by decide) ?_
  have hP : va_P (dC, dI) nCl (v1_c_J2_isLatin1 cy  (fun _ => 0)) s.heap := hP
  have hD : va_D A (v1_c_J2_isLatin1 cy  (fun _ => 0)) := hD
  exact W.zret (v := 1) hx hb hr rfl (fun t ht hW => ⟨⟨1, (fun _ => 0), rfl, rfl, by rw [ht]; exact hP, va_K.moved hW.alike hK, hD⟩, hS.F ht⟩) hS.2.2 dJ0_isLatin1_aae02_18
def v0_c_J2_pre_n (cy : Nat → ClassId)  : va_W := []
def v1_c_J2_pre_n (cy : Nat → ClassId)  (r : Nat → Nat) : va_W := []
set_option maxHeartbeats 40000000 in
set_option maxRecDepth 100000 in
/-- checkIndex(i, 5, f) -/
theorem c_J2_pre_n (l : Launch) (dC : Nat → ClassId) (dI : Nat → Nat → Nat) (cy : Nat → ClassId) (k : Nat → Nat)  (i9 : Nat) (h9 : i9 < 5) (sz : Nat) : Met l yJ3_checkIndex_8e157 wsJ3_checkIndex_8e157 ({ frames := 0, cells := 0, slots := 0, locals := 0 }) (va_Pc [.int (nI i9), .int 5, .null] (nInE (dC, dI) cy k sz (v0_c_J2_pre_n cy ))) (va_Qi (fun (z : Int32) (_ : Nat → Nat) => z = nI i9) (fun r t => nOut (dC, dI) cy (va_A (v0_c_J2_pre_n cy ) sz) (v1_c_J2_pre_n cy  r) t) (va_A (v0_c_J2_pre_n cy ) sz)) 0 0 (va_A (v0_c_J2_pre_n cy ) sz) := by
  refine Met.ofW (cc := cJ3_checkIndex_8e157) (maxL := 3) (ret := (some .int)) (by decide) rfl ?_
  intro p e s m args below meth c s₁ B hml hv
  obtain ⟨rfl, ⟨hsz, hP, hK, hD0, hG⟩, hE⟩ := hv
  have hx := B.exec
  have hb := B.bytes
  have hr := B.returns
  have hts := atoms_spec (ws := wsJ3_checkIndex_8e157) B.pre
  have hown : s.vm.findClass RJ3 = some m.cls := findClass_of_methodNamed B.named
  have hlocks := B.notSynchronized
  subst hsz
  have hD := hD0.self (sz := s.heap.size)
  generalize hAe : va_A (v0_c_J2_pre_n cy ) s.heap.size = A at hD hE ⊢
  have hA : ∀ q : Nat, s.heap.size ≤ q → A q := fun q h => by rw [← hAe]; exact Or.inr h
  have hS : va_S A s.heap s.heap [] := va_S.rf
  have hP : va_P (dC, dI) nCl (v0_c_J2_pre_n cy ) s.heap := hP
  have hl := lv_entry ([.int (nI i9), .int 5, .null]) (n := 3) (Nat.le_of_ble_eq_true rfl)
  rw [lg_entry_eq]
  generalize (lg_sl ([.int (nI i9), .int 5, .null]) ++ List.replicate (3 - (lg_sl ([.int (nI i9), .int 5, .null])).length) Slot.unset).toArray = ls at hl ⊢
  have hl : lv_has ls 3 [(0, .int (nI i9)), (1, .int 5), (2, .null)] := hl
  have hP : va_P (dC, dI) nCl [] s.heap := hP
  have hD : va_D A [] := hD
  refine lv_iload_n hx hb dJ3_checkIndex_8e157_0 rfl (lv_at hl 0 rfl) ?_
  refine lv_if_lt (tgt := 9) hx hb dJ3_checkIndex_8e157_1 (by decide) (fun c1 => absurd c1 (nI_pos (by omega))) (fun _ => ?_)
  refine lv_iload_n hx hb dJ3_checkIndex_8e157_4 rfl (lv_at hl 0 rfl) ?_
  refine lv_iload_n hx hb dJ3_checkIndex_8e157_5 rfl (lv_at hl 1 rfl) ?_
  refine lv_icmp_lt (tgt := 16) hx hb dJ3_checkIndex_8e157_6 (by decide) (fun _ => ?_) (fun c1 => absurd (nI_lt (b := 5) h9 (by omega)) c1)
  refine lv_iload_n hx hb dJ3_checkIndex_8e157_16 rfl (lv_at hl 0 rfl) ?_
  have hP : va_P (dC, dI) nCl (v1_c_J2_pre_n cy  (fun _ => 0)) s.heap := hP
  have hD : va_D A (v1_c_J2_pre_n cy  (fun _ => 0)) := hD
  exact W.iret (v := (nI i9)) hx hb hr (fun t ht hW => ⟨⟨(nI i9), (fun _ => 0), rfl, rfl, by rw [ht]; exact hP, va_K.moved hW.alike hK, hD⟩, hS.F ht⟩) hS.2.2 dJ3_checkIndex_8e157_17
def v0_c_J2_pre_r (cy : Nat → ClassId)  : va_W := []
def v1_c_J2_pre_r (cy : Nat → ClassId)  (r : Nat → Nat) : va_W := []
set_option maxHeartbeats 40000000 in
set_option maxRecDepth 100000 in
/-- checkIndex(i, 5, f) -/
theorem c_J2_pre_r (l : Launch) (dC : Nat → ClassId) (dI : Nat → Nat → Nat) (cy : Nat → ClassId) (k : Nat → Nat)  (i9 : Nat) (f9 : Nat) (h9 : i9 < 5) (sz : Nat) : Met l yJ3_checkIndex_8e157 wsJ3_checkIndex_8e157 ({ frames := 0, cells := 0, slots := 0, locals := 0 }) (va_Pc [.int (nI i9), .int 5, .ref f9] (nInE (dC, dI) cy k sz (v0_c_J2_pre_r cy ))) (va_Qi (fun (z : Int32) (_ : Nat → Nat) => z = nI i9) (fun r t => nOut (dC, dI) cy (va_A (v0_c_J2_pre_r cy ) sz) (v1_c_J2_pre_r cy  r) t) (va_A (v0_c_J2_pre_r cy ) sz)) 0 0 (va_A (v0_c_J2_pre_r cy ) sz) := by
  refine Met.ofW (cc := cJ3_checkIndex_8e157) (maxL := 3) (ret := (some .int)) (by decide) rfl ?_
  intro p e s m args below meth c s₁ B hml hv
  obtain ⟨rfl, ⟨hsz, hP, hK, hD0, hG⟩, hE⟩ := hv
  have hx := B.exec
  have hb := B.bytes
  have hr := B.returns
  have hts := atoms_spec (ws := wsJ3_checkIndex_8e157) B.pre
  have hown : s.vm.findClass RJ3 = some m.cls := findClass_of_methodNamed B.named
  have hlocks := B.notSynchronized
  subst hsz
  have hD := hD0.self (sz := s.heap.size)
  generalize hAe : va_A (v0_c_J2_pre_r cy ) s.heap.size = A at hD hE ⊢
  have hA : ∀ q : Nat, s.heap.size ≤ q → A q := fun q h => by rw [← hAe]; exact Or.inr h
  have hS : va_S A s.heap s.heap [] := va_S.rf
  have hP : va_P (dC, dI) nCl (v0_c_J2_pre_r cy ) s.heap := hP
  have hl := lv_entry ([.int (nI i9), .int 5, .ref f9]) (n := 3) (Nat.le_of_ble_eq_true rfl)
  rw [lg_entry_eq]
  generalize (lg_sl ([.int (nI i9), .int 5, .ref f9]) ++ List.replicate (3 - (lg_sl ([.int (nI i9), .int 5, .ref f9])).length) Slot.unset).toArray = ls at hl ⊢
  have hl : lv_has ls 3 [(0, .int (nI i9)), (1, .int 5), (2, .ref f9)] := hl
  have hP : va_P (dC, dI) nCl [] s.heap := hP
  have hD : va_D A [] := hD
  refine lv_iload_n hx hb dJ3_checkIndex_8e157_0 rfl (lv_at hl 0 rfl) ?_
  refine lv_if_lt (tgt := 9) hx hb dJ3_checkIndex_8e157_1 (by decide) (fun c1 => absurd c1 (nI_pos (by omega))) (fun _ => ?_)
  refine lv_iload_n hx hb dJ3_checkIndex_8e157_4 rfl (lv_at hl 0 rfl) ?_
  refine lv_iload_n hx hb dJ3_checkIndex_8e157_5 rfl (lv_at hl 1 rfl) ?_
  refine lv_icmp_lt (tgt := 16) hx hb dJ3_checkIndex_8e157_6 (by decide) (fun _ => ?_) (fun c1 => absurd (nI_lt (b := 5) h9 (by omega)) c1)
  refine lv_iload_n hx hb dJ3_checkIndex_8e157_16 rfl (lv_at hl 0 rfl) ?_
  have hP : va_P (dC, dI) nCl (v1_c_J2_pre_r cy  (fun _ => 0)) s.heap := hP
  have hD : va_D A (v1_c_J2_pre_r cy  (fun _ => 0)) := hD
  exact W.iret (v := (nI i9)) hx hb hr (fun t ht hW => ⟨⟨(nI i9), (fun _ => 0), rfl, rfl, by rw [ht]; exact hP, va_K.moved hW.alike hK, hD⟩, hS.F ht⟩) hS.2.2 dJ3_checkIndex_8e157_17
def v0_c_J2_chk (cy : Nat → ClassId)  : va_W := []
def v1_c_J2_chk (cy : Nat → ClassId)  (r : Nat → Nat) : va_W := []
set_option maxHeartbeats 40000000 in
set_option maxRecDepth 100000 in
/-- String.checkIndex(i, 5) -/
theorem c_J2_chk (l : Launch) (dC : Nat → ClassId) (dI : Nat → Nat → Nat) (cy : Nat → ClassId) (k : Nat → Nat)  (i9 : Nat) (h9 : i9 < 5) (sz : Nat) : Met l yJ0_checkIndex_df160 wsJ0_checkIndex_df160 ({ frames := 1, cells := 0, slots := 0, locals := 22 }) (va_Pc [.int (nI i9), .int 5] (nInE (dC, dI) cy k sz (v0_c_J2_chk cy ))) (va_Qv (fun _ : Nat → Nat => True) (fun r t => nOut (dC, dI) cy (va_A (v0_c_J2_chk cy ) sz) (v1_c_J2_chk cy  r) t) (va_A (v0_c_J2_chk cy ) sz)) 0 0 (va_A (v0_c_J2_chk cy ) sz) := by
  refine Met.ofW (cc := cJ0_checkIndex_df160) (maxL := 2) (ret := none) (by decide) rfl ?_
  intro p e s m args below meth c s₁ B hml hv
  obtain ⟨rfl, ⟨hsz, hP, hK, hD0, hG⟩, hE⟩ := hv
  have hx := B.exec
  have hb := B.bytes
  have hr := B.returns
  have hts := atoms_spec (ws := wsJ0_checkIndex_df160) B.pre
  have hown : s.vm.findClass RJ0 = some m.cls := findClass_of_methodNamed B.named
  have hlocks := B.notSynchronized
  subst hsz
  have hD := hD0.self (sz := s.heap.size)
  generalize hAe : va_A (v0_c_J2_chk cy ) s.heap.size = A at hD hE ⊢
  have hA : ∀ q : Nat, s.heap.size ≤ q → A q := fun q h => by rw [← hAe]; exact Or.inr h
  have hS : va_S A s.heap s.heap [] := va_S.rf
  have hP : va_P (dC, dI) nCl (v0_c_J2_chk cy ) s.heap := hP
  have hl := lv_entry ([.int (nI i9), .int 5]) (n := 2) (Nat.le_of_ble_eq_true rfl)
  rw [lg_entry_eq]
  generalize (lg_sl ([.int (nI i9), .int 5]) ++ List.replicate (2 - (lg_sl ([.int (nI i9), .int 5])).length) Slot.unset).toArray = ls at hl ⊢
  have hl : lv_has ls 2 [(0, .int (nI i9)), (1, .int 5)] := hl
  have hP : va_P (dC, dI) nCl [] s.heap := hP
  have hD : va_D A [] := hD
  refine lv_iload_n hx hb dJ0_checkIndex_df160_0 rfl (lv_at hl 0 rfl) ?_
  refine lv_iload_n hx hb dJ0_checkIndex_df160_1 rfl (lv_at hl 1 rfl) ?_
  rcases hE.2.1 with hZ | ⟨f9, hZ⟩
  · refine va_gets hx hb hZ hS hown (hts _ (List.mem_cons_of_mem _ (List.mem_of_getElem? (i := 0) rfl))) (fun _ h9 => h9) dJ0_checkIndex_df160_2 ?_
    have hPc : va_P (dC, dI) nCl (v0_c_J2_pre_n cy ) s.heap := hP.sub (ws' := []) [] rfl
    have hDc : va_D A (v0_c_J2_pre_n cy ) := hD.sub (ws' := []) [] (by decide) rfl
    have hFc := va_free (wc := (v0_c_J2_pre_n cy )) hD hS hA [] rfl
    refine va_calli (va_runS (As := [.int (nI i9), .int 5, .null]) (rest := []) ⟨hx, hb, hml, hown, hts⟩ (c_J2_pre_n l dC dI cy k i9 h9 s.heap.size) (va_cwS 3 hts gJ0_checkIndex_df160_J3_checkIndex_8e157 rfl rfl rfl (by decide +kernel) ⟨Nat.le_of_ble_eq_true rfl, Nat.le_of_ble_eq_true rfl⟩) ⟨nb_blindE, fun U hU hW => ⟨rfl, ⟨by rw [hU], by rw [hU]; exact hPc, va_K.moved hW.alike hK, hDc.weaken (fun _ _ _ _ => trivial), hG.warm hW⟩, nE.to hE hS hW hU hFc⟩⟩ rfl rfl hl.1 rfl (lv_room (Nat.le_of_ble_eq_true rfl)) dJ0_checkIndex_df160_5 ⟨Nat.le_of_ble_eq_true rfl, Nat.le_of_ble_eq_true rfl⟩) hS (fun q _ h => hFc q h) hFc (fun r_1 u1 t H1 locs ht hvm hw hB hz1 hk1 hS => ?_)
    obtain ⟨hP1, hK1, hD1⟩ := hB
    rw [ht] at hP1
    obtain ⟨hP, hD⟩ := va_join (wr := []) (w1 := (v1_c_J2_pre_n cy  u1)) hP hD [] [] rfl rfl (by decide) (by decide) hk1 hFc hP1 hD1
    generalize H1 = H at hP hS ⊢
    have hP : va_P (dC, dI) nCl [] H := hP
    have hD : va_D A [] := hD
    refine lv_pop hx hb dJ0_checkIndex_df160_8 rfl ?_
    exact W.vret hx hb hr (fun t ht hW => ⟨⟨(fun _ => 0), rfl, trivial, by rw [ht]; exact hP, va_K.moved hW.alike hK, hD⟩, hS.F ht⟩) hS.2.2 dJ0_checkIndex_df160_9
  · refine va_gets hx hb hZ hS hown (hts _ (List.mem_cons_of_mem _ (List.mem_of_getElem? (i := 0) rfl))) (fun _ h9 => h9) dJ0_checkIndex_df160_2 ?_
    have hPc : va_P (dC, dI) nCl (v0_c_J2_pre_r cy ) s.heap := hP.sub (ws' := []) [] rfl
    have hDc : va_D A (v0_c_J2_pre_r cy ) := hD.sub (ws' := []) [] (by decide) rfl
    have hFc := va_free (wc := (v0_c_J2_pre_r cy )) hD hS hA [] rfl
    refine va_calli (va_runS (As := [.int (nI i9), .int 5, .ref f9]) (rest := []) ⟨hx, hb, hml, hown, hts⟩ (c_J2_pre_r l dC dI cy k i9 f9 h9 s.heap.size) (va_cwS 3 hts gJ0_checkIndex_df160_J3_checkIndex_8e157 rfl rfl rfl (by decide +kernel) ⟨Nat.le_of_ble_eq_true rfl, Nat.le_of_ble_eq_true rfl⟩) ⟨nb_blindE, fun U hU hW => ⟨rfl, ⟨by rw [hU], by rw [hU]; exact hPc, va_K.moved hW.alike hK, hDc.weaken (fun _ _ _ _ => trivial), hG.warm hW⟩, nE.to hE hS hW hU hFc⟩⟩ rfl rfl hl.1 rfl (lv_room (Nat.le_of_ble_eq_true rfl)) dJ0_checkIndex_df160_5 ⟨Nat.le_of_ble_eq_true rfl, Nat.le_of_ble_eq_true rfl⟩) hS (fun q _ h => hFc q h) hFc (fun r_2 u2 t H1 locs ht hvm hw hB hz1 hk1 hS => ?_)
    obtain ⟨hP1, hK1, hD1⟩ := hB
    rw [ht] at hP1
    obtain ⟨hP, hD⟩ := va_join (wr := []) (w1 := (v1_c_J2_pre_r cy  u2)) hP hD [] [] rfl rfl (by decide) (by decide) hk1 hFc hP1 hD1
    generalize H1 = H at hP hS ⊢
    have hP : va_P (dC, dI) nCl [] H := hP
    have hD : va_D A [] := hD
    refine lv_pop hx hb dJ0_checkIndex_df160_8 rfl ?_
    have hP : va_P (dC, dI) nCl (v1_c_J2_chk cy  (fun _ => 0)) H := hP
    have hD : va_D A (v1_c_J2_chk cy  (fun _ => 0)) := hD
    exact W.vret hx hb hr (fun t ht hW => ⟨⟨(fun _ => 0), rfl, trivial, by rw [ht]; exact hP, va_K.moved hW.alike hK, hD⟩, hS.F ht⟩) hS.2.2 dJ0_checkIndex_df160_9
def v0_c_J2_latin (cy : Nat → ClassId)  : va_W := []
def v1_c_J2_latin (cy : Nat → ClassId)  (r : Nat → Nat) : va_W := []
set_option maxHeartbeats 40000000 in
set_option maxRecDepth 100000 in
/-- StringLatin1.charAt -/
theorem c_J2_latin (l : Launch) (dC : Nat → ClassId) (dI : Nat → Nat → Nat) (cy : Nat → ClassId) (k : Nat → Nat)  (i9 : Nat) (h9 : i9 < 5) (sz : Nat) : Met l yJ1_charAt_3b067 wsJ1_charAt_3b067 ({ frames := 2, cells := 0, slots := 0, locals := 43 }) (va_Pc [.ref (k 5), .int (nI i9)] (nInE (dC, dI) cy k sz (v0_c_J2_latin cy ))) (va_Qi (fun (z : Int32) (_ : Nat → Nat) => z = sx2.getD i9 0 &&& 255) (fun r t => nOut (dC, dI) cy (va_A (v0_c_J2_latin cy ) sz) (v1_c_J2_latin cy  r) t) (va_A (v0_c_J2_latin cy ) sz)) 0 0 (va_A (v0_c_J2_latin cy ) sz) := by
  refine Met.ofW (cc := cJ1_charAt_3b067) (maxL := 2) (ret := (some .char)) (by decide) rfl ?_
  intro p e s m args below meth c s₁ B hml hv
  obtain ⟨rfl, ⟨hsz, hP, hK, hD0, hG⟩, hE⟩ := hv
  have hx := B.exec
  have hb := B.bytes
  have hr := B.returns
  have hts := atoms_spec (ws := wsJ1_charAt_3b067) B.pre
  have hown : s.vm.findClass RJ1 = some m.cls := findClass_of_methodNamed B.named
  have hlocks := B.notSynchronized
  subst hsz
  have hD := hD0.self (sz := s.heap.size)
  generalize hAe : va_A (v0_c_J2_latin cy ) s.heap.size = A at hD hE ⊢
  have hA : ∀ q : Nat, s.heap.size ≤ q → A q := fun q h => by rw [← hAe]; exact Or.inr h
  have hS : va_S A s.heap s.heap [] := va_S.rf
  have hP : va_P (dC, dI) nCl (v0_c_J2_latin cy ) s.heap := hP
  have hl := lv_entry ([.ref (k 5), .int (nI i9)]) (n := 2) (Nat.le_of_ble_eq_true rfl)
  rw [lg_entry_eq]
  generalize (lg_sl ([.ref (k 5), .int (nI i9)]) ++ List.replicate (2 - (lg_sl ([.ref (k 5), .int (nI i9)])).length) Slot.unset).toArray = ls at hl ⊢
  have hl : lv_has ls 2 [(0, .ref (k 5)), (1, .int (nI i9))] := hl
  have hP : va_P (dC, dI) nCl [] s.heap := hP
  have hD : va_D A [] := hD
  refine lv_iload_n hx hb dJ1_charAt_3b067_0 rfl (lv_at hl 1 rfl) ?_
  refine lv_aload_n hx hb dJ1_charAt_3b067_1 rfl (lv_at hl 0 rfl) ?_
  refine va_tlen hx hb (hE.2.2.1.1 2 (by decide)).2.2.2 hS (v := 5) rfl dJ1_charAt_3b067_2 ?_
  have hPc : va_P (dC, dI) nCl (v0_c_J2_chk cy ) s.heap := hP.sub (ws' := []) [] rfl
  have hDc : va_D A (v0_c_J2_chk cy ) := hD.sub (ws' := []) [] (by decide) rfl
  have hFc := va_free (wc := (v0_c_J2_chk cy )) hD hS hA [] rfl
  refine va_callv (va_runS (As := [.int (nI i9), .int 5]) (rest := []) ⟨hx, hb, hml, hown, hts⟩ (c_J2_chk l dC dI cy k i9 h9 s.heap.size) (va_cwS 2 hts gJ1_charAt_3b067_J0_checkIndex_df160 rfl rfl rfl (by decide +kernel) ⟨Nat.le_of_ble_eq_true rfl, Nat.le_of_ble_eq_true rfl⟩) ⟨nb_blindE, fun U hU hW => ⟨rfl, ⟨by rw [hU], by rw [hU]; exact hPc, va_K.moved hW.alike hK, hDc.weaken (fun _ _ _ _ => trivial), hG.warm hW⟩, nE.to hE hS hW hU hFc⟩⟩ rfl rfl hl.1 rfl (lv_room (Nat.le_of_ble_eq_true rfl)) dJ1_charAt_3b067_3 ⟨Nat.le_of_ble_eq_true rfl, Nat.le_of_ble_eq_true rfl⟩) hS (fun q _ h => hFc q h) hFc (fun u1 t H1 locs ht hvm hw hB hz1 hk1 hS => ?_)
  obtain ⟨hP1, hK1, hD1⟩ := hB
  rw [ht] at hP1
  obtain ⟨hP, hD⟩ := va_join (wr := []) (w1 := (v1_c_J2_chk cy  u1)) hP hD [] [] rfl rfl (by decide) (by decide) hk1 hFc hP1 hD1
  generalize H1 = H at hP hS ⊢
  have hP : va_P (dC, dI) nCl [] H := hP
  have hD : va_D A [] := hD
  refine lv_aload_n hx hb dJ1_charAt_3b067_6 rfl (lv_at hl 0 rfl) ?_
  refine lv_iload_n hx hb dJ1_charAt_3b067_7 rfl (lv_at hl 1 rfl) ?_
  refine va_tb hx hb (hE.2.2.1.1 2 (by decide)).2.2.2 hS (show vp_in (nI i9) 5 from vp_in_nI h9 (by omega)) (v := .int (sx2.getD i9 0)) (by rw [nI_clamp (by omega)]; rfl) dJ1_charAt_3b067_8 ?_
  refine lv_sipush (v := 255) hx hb dJ1_charAt_3b067_9 (by decide) ?_
  refine lv_iand hx hb dJ1_charAt_3b067_12 ?_
  refine lv_i2c (v := sx2.getD i9 0 &&& 255) hx hb dJ1_charAt_3b067_13 (sc_c2 _) ?_
  have hP : va_P (dC, dI) nCl (v1_c_J2_latin cy  (fun _ => 0)) H := hP
  have hD : va_D A (v1_c_J2_latin cy  (fun _ => 0)) := hD
  exact W.zret (v := (sx2.getD i9 0 &&& 255)) hx hb hr (sc_nar _) (fun t ht hW => ⟨⟨(sx2.getD i9 0 &&& 255), (fun _ => 0), rfl, rfl, by rw [ht]; exact hP, va_K.moved hW.alike hK, hD⟩, hS.F ht⟩) hS.2.2 dJ1_charAt_3b067_14
def v0_c_J2_charAt (cy : Nat → ClassId)  : va_W := []
def v1_c_J2_charAt (cy : Nat → ClassId)  (r : Nat → Nat) : va_W := []
set_option maxHeartbeats 40000000 in
set_option maxRecDepth 100000 in
/-- charAt(i) of the words' text -/
theorem c_J2_charAt (l : Launch) (dC : Nat → ClassId) (dI : Nat → Nat → Nat) (cy : Nat → ClassId) (k : Nat → Nat)  (i9 : Nat) (h9 : i9 < 5) (sz : Nat) : Met l yJ0_charAt_5068e wsJ0_charAt_5068e ({ frames := 3, cells := 0, slots := 0, locals := 64 }) (va_Pc [.ref (k 4), .int (nI i9)] (nInE (dC, dI) cy k sz (v0_c_J2_charAt cy ))) (va_Qi (fun (z : Int32) (_ : Nat → Nat) => z = sx2.getD i9 0 &&& 255) (fun r t => nOut (dC, dI) cy (va_A (v0_c_J2_charAt cy ) sz) (v1_c_J2_charAt cy  r) t) (va_A (v0_c_J2_charAt cy ) sz)) 0 0 (va_A (v0_c_J2_charAt cy ) sz) := by
  refine Met.ofW (cc := cJ0_charAt_5068e) (maxL := 2) (ret := (some .char)) (by decide) rfl ?_
  intro p e s m args below meth c s₁ B hml hv
  obtain ⟨rfl, ⟨hsz, hP, hK, hD0, hG⟩, hE⟩ := hv
  have hx := B.exec
  have hb := B.bytes
  have hr := B.returns
  have hts := atoms_spec (ws := wsJ0_charAt_5068e) B.pre
  have hown : s.vm.findClass RJ0 = some m.cls := findClass_of_methodNamed B.named
  have hlocks := B.notSynchronized
  subst hsz
  have hD := hD0.self (sz := s.heap.size)
  generalize hAe : va_A (v0_c_J2_charAt cy ) s.heap.size = A at hD hE ⊢
  have hA : ∀ q : Nat, s.heap.size ≤ q → A q := fun q h => by rw [← hAe]; exact Or.inr h
  have hS : va_S A s.heap s.heap [] := va_S.rf
  have hP : va_P (dC, dI) nCl (v0_c_J2_charAt cy ) s.heap := hP
  have hl := lv_entry ([.ref (k 4), .int (nI i9)]) (n := 2) (Nat.le_of_ble_eq_true rfl)
  rw [lg_entry_eq]
  generalize (lg_sl ([.ref (k 4), .int (nI i9)]) ++ List.replicate (2 - (lg_sl ([.ref (k 4), .int (nI i9)])).length) Slot.unset).toArray = ls at hl ⊢
  have hl : lv_has ls 2 [(0, .ref (k 4)), (1, .int (nI i9))] := hl
  have hP : va_P (dC, dI) nCl [] s.heap := hP
  have hD : va_D A [] := hD
  refine lv_aload_n hx hb dJ0_charAt_5068e_0 rfl (lv_at hl 0 rfl) ?_
  have hPc : va_P (dC, dI) nCl (v0_c_J2_isLatin1 cy ) s.heap := hP.sub (ws' := []) [] rfl
  have hDc : va_D A (v0_c_J2_isLatin1 cy ) := hD.sub (ws' := []) [] (by decide) rfl
  have hFc := va_free (wc := (v0_c_J2_isLatin1 cy )) hD hS hA [] rfl
  refine va_calli (va_runV (As := []) (rest := []) ⟨hx, hb, hml, hown, hts⟩ (c_J2_isLatin1 l dC dI cy k  s.heap.size) (cwV 0 hts gJ0_charAt_5068e_J0_isLatin1_aae02 rfl rfl rfl (by decide +kernel) ⟨Nat.le_of_ble_eq_true rfl, Nat.le_of_ble_eq_true rfl⟩) ⟨nb_blindE, (vk_recv (i := 2) hE.2.2.1 (by decide) hS), fun U hU hW => ⟨rfl, ⟨by rw [hU], by rw [hU]; exact hPc, va_K.moved hW.alike hK, hDc.weaken (fun _ _ _ _ => trivial), hG.warm hW⟩, nE.to hE hS hW hU hFc⟩⟩ rfl rfl hl.1 rfl (lv_room (Nat.le_of_ble_eq_true rfl)) dJ0_charAt_5068e_1 ⟨Nat.le_of_ble_eq_true rfl, Nat.le_of_ble_eq_true rfl⟩) hS (fun q _ h => hFc q h) hFc (fun r_1 u1 t H1 locs ht hvm hw hB hz1 hk1 hS => ?_)
  have hw : r_1 = 1 := hw.trans (by decide)
  subst hw
  obtain ⟨hP1, hK1, hD1⟩ := hB
  rw [ht] at hP1
  obtain ⟨hP, hD⟩ := va_join (wr := []) (w1 := (v1_c_J2_isLatin1 cy  u1)) hP hD [] [] rfl rfl (by decide) (by decide) hk1 hFc hP1 hD1
  generalize H1 = H at hP hS ⊢
  have hP : va_P (dC, dI) nCl [] H := hP
  have hD : va_D A [] := hD
  refine lv_if_eq (tgt := 16) hx hb dJ0_charAt_5068e_4 (by decide) (fun c1 => False.elim (by revert c1; decide)) (fun _ => ?_)
  refine lv_aload_n hx hb dJ0_charAt_5068e_7 rfl (lv_at hl 0 rfl) ?_
  refine vk_getf hx hb (hE.2.2.1.1 2 (by decide)).2.2.1 hS hown (hts _ (List.mem_cons_of_mem _ (List.mem_append_left _ (List.mem_of_getElem? (i := 0) rfl)))) (fun _ h9 => h9) dJ0_charAt_5068e_8 ?_
  refine lv_iload_n hx hb dJ0_charAt_5068e_11 rfl (lv_at hl 1 rfl) ?_
  have hPc : va_P (dC, dI) nCl (v0_c_J2_latin cy ) H := hP.sub (ws' := []) [] rfl
  have hDc : va_D A (v0_c_J2_latin cy ) := hD.sub (ws' := []) [] (by decide) rfl
  have hFc := va_free (wc := (v0_c_J2_latin cy )) hD hS hA [] rfl
  refine va_calli (va_runS (As := [.ref (k 5), .int (nI i9)]) (rest := []) ⟨hx, hb, hml, hown, hts⟩ (c_J2_latin l dC dI cy k i9 h9 H.size) (va_cwS 2 hts gJ0_charAt_5068e_J1_charAt_3b067 rfl rfl rfl (by decide +kernel) ⟨Nat.le_of_ble_eq_true rfl, Nat.le_of_ble_eq_true rfl⟩) ⟨nb_blindE, fun U hU hW => ⟨rfl, ⟨by rw [hU], by rw [hU]; exact hPc, va_K.moved hW.alike hK, hDc.weaken (fun _ _ _ _ => trivial), hG.warm hW⟩, nE.to hE hS hW hU hFc⟩⟩ rfl rfl hl.1 rfl (lv_room (Nat.le_of_ble_eq_true rfl)) dJ0_charAt_5068e_12 ⟨Nat.le_of_ble_eq_true rfl, Nat.le_of_ble_eq_true rfl⟩) hS (fun q _ h => hFc q h) hFc (fun r_2 u2 t H1 locs ht hvm hw hB hz1 hk1 hS => ?_)
  obtain ⟨hP1, hK1, hD1⟩ := hB
  rw [ht] at hP1
  obtain ⟨hP, hD⟩ := va_join (wr := []) (w1 := (v1_c_J2_latin cy  u2)) hP hD [] [] rfl rfl (by decide) (by decide) hk1 hFc hP1 hD1
  generalize H1 = H at hP hS ⊢
  have hP : va_P (dC, dI) nCl [] H := hP
  have hD : va_D A [] := hD
  subst hw
  have hP : va_P (dC, dI) nCl (v1_c_J2_charAt cy  (fun _ => 0)) H := hP
  have hD : va_D A (v1_c_J2_charAt cy  (fun _ => 0)) := hD
  exact W.zret (v := (sx2.getD i9 0 &&& 255)) hx hb hr (sc_nar _) (fun t ht hW => ⟨⟨(sx2.getD i9 0 &&& 255), (fun _ => 0), rfl, rfl, by rw [ht]; exact hP, va_K.moved hW.alike hK, hD⟩, hS.F ht⟩) hS.2.2 dJ0_charAt_5068e_15

def v0_c_J3_coder (cy : Nat → ClassId)  : va_W := []
def v1_c_J3_coder (cy : Nat → ClassId)  (r : Nat → Nat) : va_W := []
set_option maxHeartbeats 40000000 in
set_option maxRecDepth 100000 in
/-- coder() -/
theorem c_J3_coder (l : Launch) (dC : Nat → ClassId) (dI : Nat → Nat → Nat) (cy : Nat → ClassId) (k : Nat → Nat)  (sz : Nat) : Met l yJ0_coder_7d493 wsJ0_coder_7d493 ({ frames := 0, cells := 0, slots := 0, locals := 0 }) (va_Pc [.ref (k 6)] (nInE (dC, dI) cy k sz (v0_c_J3_coder cy ))) (va_Qi (fun (z : Int32) (_ : Nat → Nat) => z = 0) (fun r t => nOut (dC, dI) cy (va_A (v0_c_J3_coder cy ) sz) (v1_c_J3_coder cy  r) t) (va_A (v0_c_J3_coder cy ) sz)) 0 0 (va_A (v0_c_J3_coder cy ) sz) := by
  refine Met.ofW (cc := cJ0_coder_7d493) (maxL := 1) (ret := (some .byte)) (by decide) rfl ?_
  intro p e s m args below meth c s₁ B hml hv
  obtain ⟨rfl, ⟨hsz, hP, hK, hD0, hG⟩, hE⟩ := hv
  have hx := B.exec
  have hb := B.bytes
  have hr := B.returns
  have hts := atoms_spec (ws := wsJ0_coder_7d493) B.pre
  have hown : s.vm.findClass RJ0 = some m.cls := findClass_of_methodNamed B.named
  have hlocks := B.notSynchronized
  subst hsz
  have hD := hD0.self (sz := s.heap.size)
  generalize hAe : va_A (v0_c_J3_coder cy ) s.heap.size = A at hD hE ⊢
  have hA : ∀ q : Nat, s.heap.size ≤ q → A q := fun q h => by rw [← hAe]; exact Or.inr h
  have hS : va_S A s.heap s.heap [] := va_S.rf
  have hP : va_P (dC, dI) nCl (v0_c_J3_coder cy ) s.heap := hP
  have hl := lv_entry ([.ref (k 6)]) (n := 1) (Nat.le_of_ble_eq_true rfl)
  rw [lg_entry_eq]
  generalize (lg_sl ([.ref (k 6)]) ++ List.replicate (1 - (lg_sl ([.ref (k 6)])).length) Slot.unset).toArray = ls at hl ⊢
  have hl : lv_has ls 1 [(0, .ref (k 6))] := hl
  have hP : va_P (dC, dI) nCl [] s.heap := hP
  have hD : va_D A [] := hD
  refine va_gets hx hb hE.1 hS hown (hts _ (List.mem_cons_of_mem _ (List.mem_of_getElem? (i := 0) rfl))) (fun _ h9 => h9) dJ0_coder_7d493_0 ?_
  refine lv_if_eq (tgt := 13) hx hb dJ0_coder_7d493_3 (by decide) (fun c1 => False.elim (by revert c1; decide)) (fun _ => ?_)
  refine lv_aload_n hx hb dJ0_coder_7d493_6 rfl (lv_at hl 0 rfl) ?_
  refine vk_getf hx hb (hE.2.2.1.1 3 (by decide)).2.1 hS hown (hts _ (List.mem_cons_of_mem _ (List.mem_of_getElem? (i := 1) rfl))) (fun _ h9 => h9) dJ0_coder_7d493_7 ?_
  refine lv_goto (tgt := 14) hx hb dJ0_coder_7d493_10 (by decide) ?_
  have hP : va_P (dC, dI) nCl (v1_c_J3_coder cy  (fun _ => 0)) s.heap := hP
  have hD : va_D A (v1_c_J3_coder cy  (fun _ => 0)) := hD
  exact W.zret (v := 0) hx hb hr rfl (fun t ht hW => ⟨⟨0, (fun _ => 0), rfl, rfl, by rw [ht]; exact hP, va_K.moved hW.alike hK, hD⟩, hS.F ht⟩) hS.2.2 dJ0_coder_7d493_14
def v0_c_J3_len (cy : Nat → ClassId)  : va_W := []
def v1_c_J3_len (cy : Nat → ClassId)  (r : Nat → Nat) : va_W := []
set_option maxHeartbeats 40000000 in
set_option maxRecDepth 100000 in
/-- length() of the words' text -/
theorem c_J3_len (l : Launch) (dC : Nat → ClassId) (dI : Nat → Nat → Nat) (cy : Nat → ClassId) (k : Nat → Nat)  (sz : Nat) : Met l yJ0_length_8abf5 wsJ0_length_8abf5 ({ frames := 1, cells := 0, slots := 0, locals := 20 }) (va_Pc [.ref (k 6)] (nInE (dC, dI) cy k sz (v0_c_J3_len cy ))) (va_Qi (fun (z : Int32) (_ : Nat → Nat) => z = 4) (fun r t => nOut (dC, dI) cy (va_A (v0_c_J3_len cy ) sz) (v1_c_J3_len cy  r) t) (va_A (v0_c_J3_len cy ) sz)) 0 0 (va_A (v0_c_J3_len cy ) sz) := by
  refine Met.ofW (cc := cJ0_length_8abf5) (maxL := 1) (ret := (some .int)) (by decide) rfl ?_
  intro p e s m args below meth c s₁ B hml hv
  obtain ⟨rfl, ⟨hsz, hP, hK, hD0, hG⟩, hE⟩ := hv
  have hx := B.exec
  have hb := B.bytes
  have hr := B.returns
  have hts := atoms_spec (ws := wsJ0_length_8abf5) B.pre
  have hown : s.vm.findClass RJ0 = some m.cls := findClass_of_methodNamed B.named
  have hlocks := B.notSynchronized
  subst hsz
  have hD := hD0.self (sz := s.heap.size)
  generalize hAe : va_A (v0_c_J3_len cy ) s.heap.size = A at hD hE ⊢
  have hA : ∀ q : Nat, s.heap.size ≤ q → A q := fun q h => by rw [← hAe]; exact Or.inr h
  have hS : va_S A s.heap s.heap [] := va_S.rf
  have hP : va_P (dC, dI) nCl (v0_c_J3_len cy ) s.heap := hP
  have hl := lv_entry ([.ref (k 6)]) (n := 1) (Nat.le_of_ble_eq_true rfl)
  rw [lg_entry_eq]
  generalize (lg_sl ([.ref (k 6)]) ++ List.replicate (1 - (lg_sl ([.ref (k 6)])).length) Slot.unset).toArray = ls at hl ⊢
  have hl : lv_has ls 1 [(0, .ref (k 6))] := hl
  have hP : va_P (dC, dI) nCl [] s.heap := hP
  have hD : va_D A [] := hD
  refine lv_aload_n hx hb dJ0_length_8abf5_0 rfl (lv_at hl 0 rfl) ?_
  refine vk_getf hx hb (hE.2.2.1.1 3 (by decide)).2.2.1 hS hown (hts _ (List.mem_cons_of_mem _ (List.mem_of_getElem? (i := 0) rfl))) (fun _ h9 => h9) dJ0_length_8abf5_1 ?_
  refine va_tlen hx hb (hE.2.2.1.1 3 (by decide)).2.2.2 hS (v := 4) rfl dJ0_length_8abf5_4 ?_
  refine lv_aload_n hx hb dJ0_length_8abf5_5 rfl (lv_at hl 0 rfl) ?_
  have hPc : va_P (dC, dI) nCl (v0_c_J3_coder cy ) s.heap := hP.sub (ws' := []) [] rfl
  have hDc : va_D A (v0_c_J3_coder cy ) := hD.sub (ws' := []) [] (by decide) rfl
  have hFc := va_free (wc := (v0_c_J3_coder cy )) hD hS hA [] rfl
  refine va_calli (va_runV (As := []) (rest := [.int 4]) ⟨hx, hb, hml, hown, hts⟩ (c_J3_coder l dC dI cy k  s.heap.size) (cwV 0 hts gJ0_length_8abf5_J0_coder_7d493 rfl rfl rfl (by decide +kernel) ⟨Nat.le_of_ble_eq_true rfl, Nat.le_of_ble_eq_true rfl⟩) ⟨nb_blindE, (vk_recv (i := 3) hE.2.2.1 (by decide) hS), fun U hU hW => ⟨rfl, ⟨by rw [hU], by rw [hU]; exact hPc, va_K.moved hW.alike hK, hDc.weaken (fun _ _ _ _ => trivial), hG.warm hW⟩, nE.to hE hS hW hU hFc⟩⟩ rfl rfl hl.1 rfl (lv_room (Nat.le_of_ble_eq_true rfl)) dJ0_length_8abf5_6 ⟨Nat.le_of_ble_eq_true rfl, Nat.le_of_ble_eq_true rfl⟩) hS (fun q _ h => hFc q h) hFc (fun r_1 u1 t H1 locs ht hvm hw hB hz1 hk1 hS => ?_)
  have hw : r_1 = 0 := hw.trans (by decide)
  subst hw
  obtain ⟨hP1, hK1, hD1⟩ := hB
  rw [ht] at hP1
  obtain ⟨hP, hD⟩ := va_join (wr := []) (w1 := (v1_c_J3_coder cy  u1)) hP hD [] [] rfl rfl (by decide) (by decide) hk1 hFc hP1 hD1
  generalize H1 = H at hP hS ⊢
  have hP : va_P (dC, dI) nCl [] H := hP
  have hD : va_D A [] := hD
  refine lv_ishr hx hb dJ0_length_8abf5_9 ?_
  refine W.eq (g2 := F0 m 10 ls [.int 4]) rfl ?_
  have hP : va_P (dC, dI) nCl (v1_c_J3_len cy  (fun _ => 0)) H := hP
  have hD : va_D A (v1_c_J3_len cy  (fun _ => 0)) := hD
  exact W.iret (v := 4) hx hb hr (fun t ht hW => ⟨⟨4, (fun _ => 0), rfl, rfl, by rw [ht]; exact hP, va_K.moved hW.alike hK, hD⟩, hS.F ht⟩) hS.2.2 dJ0_length_8abf5_10
def v0_c_J3_isLatin1 (cy : Nat → ClassId)  : va_W := []
def v1_c_J3_isLatin1 (cy : Nat → ClassId)  (r : Nat → Nat) : va_W := []
set_option maxHeartbeats 40000000 in
set_option maxRecDepth 100000 in
/-- isLatin1() -/
theorem c_J3_isLatin1 (l : Launch) (dC : Nat → ClassId) (dI : Nat → Nat → Nat) (cy : Nat → ClassId) (k : Nat → Nat)  (sz : Nat) : Met l yJ0_isLatin1_aae02 wsJ0_isLatin1_aae02 ({ frames := 0, cells := 0, slots := 0, locals := 0 }) (va_Pc [.ref (k 6)] (nInE (dC, dI) cy k sz (v0_c_J3_isLatin1 cy ))) (va_Qi (fun (z : Int32) (_ : Nat → Nat) => z = 1) (fun r t => nOut (dC, dI) cy (va_A (v0_c_J3_isLatin1 cy ) sz) (v1_c_J3_isLatin1 cy  r) t) (va_A (v0_c_J3_isLatin1 cy ) sz)) 0 0 (va_A (v0_c_J3_isLatin1 cy ) sz) := by
  refine Met.ofW (cc := cJ0_isLatin1_aae02) (maxL := 1) (ret := (some .boolean)) (by decide) rfl ?_
  intro p e s m args below meth c s₁ B hml hv
  obtain ⟨rfl, ⟨hsz, hP, hK, hD0, hG⟩, hE⟩ := hv
  have hx := B.exec
  have hb := B.bytes
  have hr := B.returns
  have hts := atoms_spec (ws := wsJ0_isLatin1_aae02) B.pre
  have hown : s.vm.findClass RJ0 = some m.cls := findClass_of_methodNamed B.named
  have hlocks := B.notSynchronized
  subst hsz
  have hD := hD0.self (sz := s.heap.size)
  generalize hAe : va_A (v0_c_J3_isLatin1 cy ) s.heap.size = A at hD hE ⊢
  have hA : ∀ q : Nat, s.heap.size ≤ q → A q := fun q h => by rw [← hAe]; exact Or.inr h
  have hS : va_S A s.heap s.heap [] := va_S.rf
  have hP : va_P (dC, dI) nCl (v0_c_J3_isLatin1 cy ) s.heap := hP
  have hl := lv_entry ([.ref (k 6)]) (n := 1) (Nat.le_of_ble_eq_true rfl)
  rw [lg_entry_eq]
  generalize (lg_sl ([.ref (k 6)]) ++ List.replicate (1 - (lg_sl ([.ref (k 6)])).length) Slot.unset).toArray = ls at hl ⊢
  have hl : lv_has ls 1 [(0, .ref (k 6))] := hl
  have hP : va_P (dC, dI) nCl [] s.heap := hP
  have hD : va_D A [] := hD
  refine va_gets hx hb hE.1 hS hown (hts _ (List.mem_cons_of_mem _ (List.mem_of_getElem? (i := 0) rfl))) (fun _ h9 => h9) dJ0_isLatin1_aae02_0 ?_
  refine lv_if_eq (tgt := 17) hx hb dJ0_isLatin1_aae02_3 (by decide) (fun c1 => False.elim (by revert c1; decide)) (fun _ => ?_)
  refine lv_aload_n hx hb dJ0_isLatin1_aae02_6 rfl (lv_at hl 0 rfl) ?_
  refine vk_getf hx hb (hE.2.2.1.1 3 (by decide)).2.1 hS hown (hts _ (List.mem_cons_of_mem _ (List.mem_of_getElem? (i := 1) rfl))) (fun _ h9 => h9) dJ0_isLatin1_aae02_7 ?_
  refine lv_if_ne (tgt := 17) hx hb dJ0_isLatin1_aae02_10 (by decide) (fun c1 => False.elim (by revert c1; decide)) (fun _ => ?_)
  refine lv_iconst (v := 1) hx hb dJ0_isLatin1_aae02_13 (by decide) ?_
  refine lv_goto (tgt := 18) hx hb dJ0_isLatin1_aae02_14 (by decide) ?_
  have hP : va_P (dC, dI) nCl (v1_c_J3_isLatin1 cy  (fun _ => 0)) s.heap := hP
  have hD : va_D A (v1_c_J3_isLatin1 cy  (fun _ => 0)) := hD
  exact W.zret (v := 1) hx hb hr rfl (fun t ht hW => ⟨⟨1, (fun _ => 0), rfl, rfl, by rw [ht]; exact hP, va_K.moved hW.alike hK, hD⟩, hS.F ht⟩) hS.2.2 dJ0_isLatin1_aae02_18
def v0_c_J3_pre_n (cy : Nat → ClassId)  : va_W := []
def v1_c_J3_pre_n (cy : Nat → ClassId)  (r : Nat → Nat) : va_W := []
set_option maxHeartbeats 40000000 in
set_option maxRecDepth 100000 in
/-- checkIndex(i, 4, f) -/
theorem c_J3_pre_n (l : Launch) (dC : Nat → ClassId) (dI : Nat → Nat → Nat) (cy : Nat → ClassId) (k : Nat → Nat)  (i9 : Nat) (h9 : i9 < 4) (sz : Nat) : Met l yJ3_checkIndex_8e157 wsJ3_checkIndex_8e157 ({ frames := 0, cells := 0, slots := 0, locals := 0 }) (va_Pc [.int (nI i9), .int 4, .null] (nInE (dC, dI) cy k sz (v0_c_J3_pre_n cy ))) (va_Qi (fun (z : Int32) (_ : Nat → Nat) => z = nI i9) (fun r t => nOut (dC, dI) cy (va_A (v0_c_J3_pre_n cy ) sz) (v1_c_J3_pre_n cy  r) t) (va_A (v0_c_J3_pre_n cy ) sz)) 0 0 (va_A (v0_c_J3_pre_n cy ) sz) := by
  refine Met.ofW (cc := cJ3_checkIndex_8e157) (maxL := 3) (ret := (some .int)) (by decide) rfl ?_
  intro p e s m args below meth c s₁ B hml hv
  obtain ⟨rfl, ⟨hsz, hP, hK, hD0, hG⟩, hE⟩ := hv
  have hx := B.exec
  have hb := B.bytes
  have hr := B.returns
  have hts := atoms_spec (ws := wsJ3_checkIndex_8e157) B.pre
  have hown : s.vm.findClass RJ3 = some m.cls := findClass_of_methodNamed B.named
  have hlocks := B.notSynchronized
  subst hsz
  have hD := hD0.self (sz := s.heap.size)
  generalize hAe : va_A (v0_c_J3_pre_n cy ) s.heap.size = A at hD hE ⊢
  have hA : ∀ q : Nat, s.heap.size ≤ q → A q := fun q h => by rw [← hAe]; exact Or.inr h
  have hS : va_S A s.heap s.heap [] := va_S.rf
  have hP : va_P (dC, dI) nCl (v0_c_J3_pre_n cy ) s.heap := hP
  have hl := lv_entry ([.int (nI i9), .int 4, .null]) (n := 3) (Nat.le_of_ble_eq_true rfl)
  rw [lg_entry_eq]
  generalize (lg_sl ([.int (nI i9), .int 4, .null]) ++ List.replicate (3 - (lg_sl ([.int (nI i9), .int 4, .null])).length) Slot.unset).toArray = ls at hl ⊢
  have hl : lv_has ls 3 [(0, .int (nI i9)), (1, .int 4), (2, .null)] := hl
  have hP : va_P (dC, dI) nCl [] s.heap := hP
  have hD : va_D A [] := hD
  refine lv_iload_n hx hb dJ3_checkIndex_8e157_0 rfl (lv_at hl 0 rfl) ?_
  refine lv_if_lt (tgt := 9) hx hb dJ3_checkIndex_8e157_1 (by decide) (fun c1 => absurd c1 (nI_pos (by omega))) (fun _ => ?_)
  refine lv_iload_n hx hb dJ3_checkIndex_8e157_4 rfl (lv_at hl 0 rfl) ?_
  refine lv_iload_n hx hb dJ3_checkIndex_8e157_5 rfl (lv_at hl 1 rfl) ?_
  refine lv_icmp_lt (tgt := 16) hx hb dJ3_checkIndex_8e157_6 (by decide) (fun _ => ?_) (fun c1 => absurd (nI_lt (b := 4) h9 (by omega)) c1)
  refine lv_iload_n hx hb dJ3_checkIndex_8e157_16 rfl (lv_at hl 0 rfl) ?_
  have hP : va_P (dC, dI) nCl (v1_c_J3_pre_n cy  (fun _ => 0)) s.heap := hP
  have hD : va_D A (v1_c_J3_pre_n cy  (fun _ => 0)) := hD
  exact W.iret (v := (nI i9)) hx hb hr (fun t ht hW => ⟨⟨(nI i9), (fun _ => 0), rfl, rfl, by rw [ht]; exact hP, va_K.moved hW.alike hK, hD⟩, hS.F ht⟩) hS.2.2 dJ3_checkIndex_8e157_17
def v0_c_J3_pre_r (cy : Nat → ClassId)  : va_W := []
def v1_c_J3_pre_r (cy : Nat → ClassId)  (r : Nat → Nat) : va_W := []
set_option maxHeartbeats 40000000 in
set_option maxRecDepth 100000 in
/-- checkIndex(i, 4, f) -/
theorem c_J3_pre_r (l : Launch) (dC : Nat → ClassId) (dI : Nat → Nat → Nat) (cy : Nat → ClassId) (k : Nat → Nat)  (i9 : Nat) (f9 : Nat) (h9 : i9 < 4) (sz : Nat) : Met l yJ3_checkIndex_8e157 wsJ3_checkIndex_8e157 ({ frames := 0, cells := 0, slots := 0, locals := 0 }) (va_Pc [.int (nI i9), .int 4, .ref f9] (nInE (dC, dI) cy k sz (v0_c_J3_pre_r cy ))) (va_Qi (fun (z : Int32) (_ : Nat → Nat) => z = nI i9) (fun r t => nOut (dC, dI) cy (va_A (v0_c_J3_pre_r cy ) sz) (v1_c_J3_pre_r cy  r) t) (va_A (v0_c_J3_pre_r cy ) sz)) 0 0 (va_A (v0_c_J3_pre_r cy ) sz) := by
  refine Met.ofW (cc := cJ3_checkIndex_8e157) (maxL := 3) (ret := (some .int)) (by decide) rfl ?_
  intro p e s m args below meth c s₁ B hml hv
  obtain ⟨rfl, ⟨hsz, hP, hK, hD0, hG⟩, hE⟩ := hv
  have hx := B.exec
  have hb := B.bytes
  have hr := B.returns
  have hts := atoms_spec (ws := wsJ3_checkIndex_8e157) B.pre
  have hown : s.vm.findClass RJ3 = some m.cls := findClass_of_methodNamed B.named
  have hlocks := B.notSynchronized
  subst hsz
  have hD := hD0.self (sz := s.heap.size)
  generalize hAe : va_A (v0_c_J3_pre_r cy ) s.heap.size = A at hD hE ⊢
  have hA : ∀ q : Nat, s.heap.size ≤ q → A q := fun q h => by rw [← hAe]; exact Or.inr h
  have hS : va_S A s.heap s.heap [] := va_S.rf
  have hP : va_P (dC, dI) nCl (v0_c_J3_pre_r cy ) s.heap := hP
  have hl := lv_entry ([.int (nI i9), .int 4, .ref f9]) (n := 3) (Nat.le_of_ble_eq_true rfl)
  rw [lg_entry_eq]
  generalize (lg_sl ([.int (nI i9), .int 4, .ref f9]) ++ List.replicate (3 - (lg_sl ([.int (nI i9), .int 4, .ref f9])).length) Slot.unset).toArray = ls at hl ⊢
  have hl : lv_has ls 3 [(0, .int (nI i9)), (1, .int 4), (2, .ref f9)] := hl
  have hP : va_P (dC, dI) nCl [] s.heap := hP
  have hD : va_D A [] := hD
  refine lv_iload_n hx hb dJ3_checkIndex_8e157_0 rfl (lv_at hl 0 rfl) ?_
  refine lv_if_lt (tgt := 9) hx hb dJ3_checkIndex_8e157_1 (by decide) (fun c1 => absurd c1 (nI_pos (by omega))) (fun _ => ?_)
  refine lv_iload_n hx hb dJ3_checkIndex_8e157_4 rfl (lv_at hl 0 rfl) ?_
  refine lv_iload_n hx hb dJ3_checkIndex_8e157_5 rfl (lv_at hl 1 rfl) ?_
  refine lv_icmp_lt (tgt := 16) hx hb dJ3_checkIndex_8e157_6 (by decide) (fun _ => ?_) (fun c1 => absurd (nI_lt (b := 4) h9 (by omega)) c1)
  refine lv_iload_n hx hb dJ3_checkIndex_8e157_16 rfl (lv_at hl 0 rfl) ?_
  have hP : va_P (dC, dI) nCl (v1_c_J3_pre_r cy  (fun _ => 0)) s.heap := hP
  have hD : va_D A (v1_c_J3_pre_r cy  (fun _ => 0)) := hD
  exact W.iret (v := (nI i9)) hx hb hr (fun t ht hW => ⟨⟨(nI i9), (fun _ => 0), rfl, rfl, by rw [ht]; exact hP, va_K.moved hW.alike hK, hD⟩, hS.F ht⟩) hS.2.2 dJ3_checkIndex_8e157_17
def v0_c_J3_chk (cy : Nat → ClassId)  : va_W := []
def v1_c_J3_chk (cy : Nat → ClassId)  (r : Nat → Nat) : va_W := []
set_option maxHeartbeats 40000000 in
set_option maxRecDepth 100000 in
/-- String.checkIndex(i, 4) -/
theorem c_J3_chk (l : Launch) (dC : Nat → ClassId) (dI : Nat → Nat → Nat) (cy : Nat → ClassId) (k : Nat → Nat)  (i9 : Nat) (h9 : i9 < 4) (sz : Nat) : Met l yJ0_checkIndex_df160 wsJ0_checkIndex_df160 ({ frames := 1, cells := 0, slots := 0, locals := 22 }) (va_Pc [.int (nI i9), .int 4] (nInE (dC, dI) cy k sz (v0_c_J3_chk cy ))) (va_Qv (fun _ : Nat → Nat => True) (fun r t => nOut (dC, dI) cy (va_A (v0_c_J3_chk cy ) sz) (v1_c_J3_chk cy  r) t) (va_A (v0_c_J3_chk cy ) sz)) 0 0 (va_A (v0_c_J3_chk cy ) sz) := by
  refine Met.ofW (cc := cJ0_checkIndex_df160) (maxL := 2) (ret := none) (by decide) rfl ?_
  intro p e s m args below meth c s₁ B hml hv
  obtain ⟨rfl, ⟨hsz, hP, hK, hD0, hG⟩, hE⟩ := hv
  have hx := B.exec
  have hb := B.bytes
  have hr := B.returns
  have hts := atoms_spec (ws := wsJ0_checkIndex_df160) B.pre
  have hown : s.vm.findClass RJ0 = some m.cls := findClass_of_methodNamed B.named
  have hlocks := B.notSynchronized
  subst hsz
  have hD := hD0.self (sz := s.heap.size)
  generalize hAe : va_A (v0_c_J3_chk cy ) s.heap.size = A at hD hE ⊢
  have hA : ∀ q : Nat, s.heap.size ≤ q → A q := fun q h => by rw [← hAe]; exact Or.inr h
  have hS : va_S A s.heap s.heap [] := va_S.rf
  have hP : va_P (dC, dI) nCl (v0_c_J3_chk cy ) s.heap := hP
  have hl := lv_entry ([.int (nI i9), .int 4]) (n := 2) (Nat.le_of_ble_eq_true rfl)
  rw [lg_entry_eq]
  generalize (lg_sl ([.int (nI i9), .int 4]) ++ List.replicate (2 - (lg_sl ([.int (nI i9), .int 4])).length) Slot.unset).toArray = ls at hl ⊢
  have hl : lv_has ls 2 [(0, .int (nI i9)), (1, .int 4)] := hl
  have hP : va_P (dC, dI) nCl [] s.heap := hP
  have hD : va_D A [] := hD
  refine lv_iload_n hx hb dJ0_checkIndex_df160_0 rfl (lv_at hl 0 rfl) ?_
  refine lv_iload_n hx hb dJ0_checkIndex_df160_1 rfl (lv_at hl 1 rfl) ?_
  rcases hE.2.1 with hZ | ⟨f9, hZ⟩
  · refine va_gets hx hb hZ hS hown (hts _ (List.mem_cons_of_mem _ (List.mem_of_getElem? (i := 0) rfl))) (fun _ h9 => h9) dJ0_checkIndex_df160_2 ?_
    have hPc : va_P (dC, dI) nCl (v0_c_J3_pre_n cy ) s.heap := hP.sub (ws' := []) [] rfl
    have hDc : va_D A (v0_c_J3_pre_n cy ) := hD.sub (ws' := []) [] (by decide) rfl
    have hFc := va_free (wc := (v0_c_J3_pre_n cy )) hD hS hA [] rfl
    refine va_calli (va_runS (As := [.int (nI i9), .int 4, .null]) (rest := []) ⟨hx, hb, hml, hown, hts⟩ (c_J3_pre_n l dC dI cy k i9 h9 s.heap.size) (va_cwS 3 hts gJ0_checkIndex_df160_J3_checkIndex_8e157 rfl rfl rfl (by decide +kernel) ⟨Nat.le_of_ble_eq_true rfl, Nat.le_of_ble_eq_true rfl⟩) ⟨nb_blindE, fun U hU hW => ⟨rfl, ⟨by rw [hU], by rw [hU]; exact hPc, va_K.moved hW.alike hK, hDc.weaken (fun _ _ _ _ => trivial), hG.warm hW⟩, nE.to hE hS hW hU hFc⟩⟩ rfl rfl hl.1 rfl (lv_room (Nat.le_of_ble_eq_true rfl)) dJ0_checkIndex_df160_5 ⟨Nat.le_of_ble_eq_true rfl, Nat.le_of_ble_eq_true rfl⟩) hS (fun q _ h => hFc q h) hFc (fun r_1 u1 t H1 locs ht hvm hw hB hz1 hk1 hS => ?_)
    obtain ⟨hP1, hK1, hD1⟩ := hB
    rw [ht] at hP1
    obtain ⟨hP, hD⟩ := va_join (wr := []) (w1 := (v1_c_J3_pre_n cy  u1)) hP hD [] [] rfl rfl (by decide) (by decide) hk1 hFc hP1 hD1
    generalize H1 = H at hP hS ⊢
    have hP : va_P (dC, dI) nCl [] H := hP
    have hD : va_D A [] := hD
    refine lv_pop hx hb dJ0_checkIndex_df160_8 rfl ?_
    exact W.vret hx hb hr (fun t ht hW => ⟨⟨(fun _ => 0), rfl, trivial, by rw [ht]; exact hP, va_K.moved hW.alike hK, hD⟩, hS.F ht⟩) hS.2.2 dJ0_checkIndex_df160_9
  · refine va_gets hx hb hZ hS hown (hts _ (List.mem_cons_of_mem _ (List.mem_of_getElem? (i := 0) rfl))) (fun _ h9 => h9) dJ0_checkIndex_df160_2 ?_
    have hPc : va_P (dC, dI) nCl (v0_c_J3_pre_r cy ) s.heap := hP.sub (ws' := []) [] rfl
    have hDc : va_D A (v0_c_J3_pre_r cy ) := hD.sub (ws' := []) [] (by decide) rfl
    have hFc := va_free (wc := (v0_c_J3_pre_r cy )) hD hS hA [] rfl
    refine va_calli (va_runS (As := [.int (nI i9), .int 4, .ref f9]) (rest := []) ⟨hx, hb, hml, hown, hts⟩ (c_J3_pre_r l dC dI cy k i9 f9 h9 s.heap.size) (va_cwS 3 hts gJ0_checkIndex_df160_J3_checkIndex_8e157 rfl rfl rfl (by decide +kernel) ⟨Nat.le_of_ble_eq_true rfl, Nat.le_of_ble_eq_true rfl⟩) ⟨nb_blindE, fun U hU hW => ⟨rfl, ⟨by rw [hU], by rw [hU]; exact hPc, va_K.moved hW.alike hK, hDc.weaken (fun _ _ _ _ => trivial), hG.warm hW⟩, nE.to hE hS hW hU hFc⟩⟩ rfl rfl hl.1 rfl (lv_room (Nat.le_of_ble_eq_true rfl)) dJ0_checkIndex_df160_5 ⟨Nat.le_of_ble_eq_true rfl, Nat.le_of_ble_eq_true rfl⟩) hS (fun q _ h => hFc q h) hFc (fun r_2 u2 t H1 locs ht hvm hw hB hz1 hk1 hS => ?_)
    obtain ⟨hP1, hK1, hD1⟩ := hB
    rw [ht] at hP1
    obtain ⟨hP, hD⟩ := va_join (wr := []) (w1 := (v1_c_J3_pre_r cy  u2)) hP hD [] [] rfl rfl (by decide) (by decide) hk1 hFc hP1 hD1
    generalize H1 = H at hP hS ⊢
    have hP : va_P (dC, dI) nCl [] H := hP
    have hD : va_D A [] := hD
    refine lv_pop hx hb dJ0_checkIndex_df160_8 rfl ?_
    have hP : va_P (dC, dI) nCl (v1_c_J3_chk cy  (fun _ => 0)) H := hP
    have hD : va_D A (v1_c_J3_chk cy  (fun _ => 0)) := hD
    exact W.vret hx hb hr (fun t ht hW => ⟨⟨(fun _ => 0), rfl, trivial, by rw [ht]; exact hP, va_K.moved hW.alike hK, hD⟩, hS.F ht⟩) hS.2.2 dJ0_checkIndex_df160_9
def v0_c_J3_latin (cy : Nat → ClassId)  : va_W := []
def v1_c_J3_latin (cy : Nat → ClassId)  (r : Nat → Nat) : va_W := []
set_option maxHeartbeats 40000000 in
set_option maxRecDepth 100000 in
/-- StringLatin1.charAt -/
theorem c_J3_latin (l : Launch) (dC : Nat → ClassId) (dI : Nat → Nat → Nat) (cy : Nat → ClassId) (k : Nat → Nat)  (i9 : Nat) (h9 : i9 < 4) (sz : Nat) : Met l yJ1_charAt_3b067 wsJ1_charAt_3b067 ({ frames := 2, cells := 0, slots := 0, locals := 43 }) (va_Pc [.ref (k 7), .int (nI i9)] (nInE (dC, dI) cy k sz (v0_c_J3_latin cy ))) (va_Qi (fun (z : Int32) (_ : Nat → Nat) => z = sx3.getD i9 0 &&& 255) (fun r t => nOut (dC, dI) cy (va_A (v0_c_J3_latin cy ) sz) (v1_c_J3_latin cy  r) t) (va_A (v0_c_J3_latin cy ) sz)) 0 0 (va_A (v0_c_J3_latin cy ) sz) := by
  refine Met.ofW (cc := cJ1_charAt_3b067) (maxL := 2) (ret := (some .char)) (by decide) rfl ?_
  intro p e s m args below meth c s₁ B hml hv
  obtain ⟨rfl, ⟨hsz, hP, hK, hD0, hG⟩, hE⟩ := hv
  have hx := B.exec
  have hb := B.bytes
  have hr := B.returns
  have hts := atoms_spec (ws := wsJ1_charAt_3b067) B.pre
  have hown : s.vm.findClass RJ1 = some m.cls := findClass_of_methodNamed B.named
  have hlocks := B.notSynchronized
  subst hsz
  have hD := hD0.self (sz := s.heap.size)
  generalize hAe : va_A (v0_c_J3_latin cy ) s.heap.size = A at hD hE ⊢
  have hA : ∀ q : Nat, s.heap.size ≤ q → A q := fun q h => by rw [← hAe]; exact Or.inr h
  have hS : va_S A s.heap s.heap [] := va_S.rf
  have hP : va_P (dC, dI) nCl (v0_c_J3_latin cy ) s.heap := hP
  have hl := lv_entry ([.ref (k 7), .int (nI i9)]) (n := 2) (Nat.le_of_ble_eq_true rfl)
  rw [lg_entry_eq]
  generalize (lg_sl ([.ref (k 7), .int (nI i9)]) ++ List.replicate (2 - (lg_sl ([.ref (k 7), .int (nI i9)])).length) Slot.unset).toArray = ls at hl ⊢
  have hl : lv_has ls 2 [(0, .ref (k 7)), (1, .int (nI i9))] := hl
  have hP : va_P (dC, dI) nCl [] s.heap := hP
  have hD : va_D A [] := hD
  refine lv_iload_n hx hb dJ1_charAt_3b067_0 rfl (lv_at hl 1 rfl) ?_
  refine lv_aload_n hx hb dJ1_charAt_3b067_1 rfl (lv_at hl 0 rfl) ?_
  refine va_tlen hx hb (hE.2.2.1.1 3 (by decide)).2.2.2 hS (v := 4) rfl dJ1_charAt_3b067_2 ?_
  have hPc : va_P (dC, dI) nCl (v0_c_J3_chk cy ) s.heap := hP.sub (ws' := []) [] rfl
  have hDc : va_D A (v0_c_J3_chk cy ) := hD.sub (ws' := []) [] (by decide) rfl
  have hFc := va_free (wc := (v0_c_J3_chk cy )) hD hS hA [] rfl
  refine va_callv (va_runS (As := [.int (nI i9), .int 4]) (rest := []) ⟨hx, hb, hml, hown, hts⟩ (c_J3_chk l dC dI cy k i9 h9 s.heap.size) (va_cwS 2 hts gJ1_charAt_3b067_J0_checkIndex_df160 rfl rfl rfl (by decide +kernel) ⟨Nat.le_of_ble_eq_true rfl, Nat.le_of_ble_eq_true rfl⟩) ⟨nb_blindE, fun U hU hW => ⟨rfl, ⟨by rw [hU], by rw [hU]; exact hPc, va_K.moved hW.alike hK, hDc.weaken (fun _ _ _ _ => trivial), hG.warm hW⟩, nE.to hE hS hW hU hFc⟩⟩ rfl rfl hl.1 rfl (lv_room (Nat.le_of_ble_eq_true rfl)) dJ1_charAt_3b067_3 ⟨Nat.le_of_ble_eq_true rfl, Nat.le_of_ble_eq_true rfl⟩) hS (fun q _ h => hFc q h) hFc (fun u1 t H1 locs ht hvm hw hB hz1 hk1 hS => ?_)
  obtain ⟨hP1, hK1, hD1⟩ := hB
  rw [ht] at hP1
  obtain ⟨hP, hD⟩ := va_join (wr := []) (w1 := (v1_c_J3_chk cy  u1)) hP hD [] [] rfl rfl (by decide) (by decide) hk1 hFc hP1 hD1
  generalize H1 = H at hP hS ⊢
  have hP : va_P (dC, dI) nCl [] H := hP
  have hD : va_D A [] := hD
  refine lv_aload_n hx hb dJ1_charAt_3b067_6 rfl (lv_at hl 0 rfl) ?_
  refine lv_iload_n hx hb dJ1_charAt_3b067_7 rfl (lv_at hl 1 rfl) ?_
  refine va_tb hx hb (hE.2.2.1.1 3 (by decide)).2.2.2 hS (show vp_in (nI i9) 4 from vp_in_nI h9 (by omega)) (v := .int (sx3.getD i9 0)) (by rw [nI_clamp (by omega)]; rfl) dJ1_charAt_3b067_8 ?_
  refine lv_sipush (v := 255) hx hb dJ1_charAt_3b067_9 (by decide) ?_
  refine lv_iand hx hb dJ1_charAt_3b067_12 ?_
  refine lv_i2c (v := sx3.getD i9 0 &&& 255) hx hb dJ1_charAt_3b067_13 (sc_c2 _) ?_
  have hP : va_P (dC, dI) nCl (v1_c_J3_latin cy  (fun _ => 0)) H := hP
  have hD : va_D A (v1_c_J3_latin cy  (fun _ => 0)) := hD
  exact W.zret (v := (sx3.getD i9 0 &&& 255)) hx hb hr (sc_nar _) (fun t ht hW => ⟨⟨(sx3.getD i9 0 &&& 255), (fun _ => 0), rfl, rfl, by rw [ht]; exact hP, va_K.moved hW.alike hK, hD⟩, hS.F ht⟩) hS.2.2 dJ1_charAt_3b067_14
def v0_c_J3_charAt (cy : Nat → ClassId)  : va_W := []
def v1_c_J3_charAt (cy : Nat → ClassId)  (r : Nat → Nat) : va_W := []
set_option maxHeartbeats 40000000 in
set_option maxRecDepth 100000 in
/-- charAt(i) of the words' text -/
theorem c_J3_charAt (l : Launch) (dC : Nat → ClassId) (dI : Nat → Nat → Nat) (cy : Nat → ClassId) (k : Nat → Nat)  (i9 : Nat) (h9 : i9 < 4) (sz : Nat) : Met l yJ0_charAt_5068e wsJ0_charAt_5068e ({ frames := 3, cells := 0, slots := 0, locals := 64 }) (va_Pc [.ref (k 6), .int (nI i9)] (nInE (dC, dI) cy k sz (v0_c_J3_charAt cy ))) (va_Qi (fun (z : Int32) (_ : Nat → Nat) => z = sx3.getD i9 0 &&& 255) (fun r t => nOut (dC, dI) cy (va_A (v0_c_J3_charAt cy ) sz) (v1_c_J3_charAt cy  r) t) (va_A (v0_c_J3_charAt cy ) sz)) 0 0 (va_A (v0_c_J3_charAt cy ) sz) := by
  refine Met.ofW (cc := cJ0_charAt_5068e) (maxL := 2) (ret := (some .char)) (by decide) rfl ?_
  intro p e s m args below meth c s₁ B hml hv
  obtain ⟨rfl, ⟨hsz, hP, hK, hD0, hG⟩, hE⟩ := hv
  have hx := B.exec
  have hb := B.bytes
  have hr := B.returns
  have hts := atoms_spec (ws := wsJ0_charAt_5068e) B.pre
  have hown : s.vm.findClass RJ0 = some m.cls := findClass_of_methodNamed B.named
  have hlocks := B.notSynchronized
  subst hsz
  have hD := hD0.self (sz := s.heap.size)
  generalize hAe : va_A (v0_c_J3_charAt cy ) s.heap.size = A at hD hE ⊢
  have hA : ∀ q : Nat, s.heap.size ≤ q → A q := fun q h => by rw [← hAe]; exact Or.inr h
  have hS : va_S A s.heap s.heap [] := va_S.rf
  have hP : va_P (dC, dI) nCl (v0_c_J3_charAt cy ) s.heap := hP
  have hl := lv_entry ([.ref (k 6), .int (nI i9)]) (n := 2) (Nat.le_of_ble_eq_true rfl)
  rw [lg_entry_eq]
  generalize (lg_sl ([.ref (k 6), .int (nI i9)]) ++ List.replicate (2 - (lg_sl ([.ref (k 6), .int (nI i9)])).length) Slot.unset).toArray = ls at hl ⊢
  have hl : lv_has ls 2 [(0, .ref (k 6)), (1, .int (nI i9))] := hl
  have hP : va_P (dC, dI) nCl [] s.heap := hP
  have hD : va_D A [] := hD
  refine lv_aload_n hx hb dJ0_charAt_5068e_0 rfl (lv_at hl 0 rfl) ?_
  have hPc : va_P (dC, dI) nCl (v0_c_J3_isLatin1 cy ) s.heap := hP.sub (ws' := []) [] rfl
  have hDc : va_D A (v0_c_J3_isLatin1 cy ) := hD.sub (ws' := []) [] (by decide) rfl
  have hFc := va_free (wc := (v0_c_J3_isLatin1 cy )) hD hS hA [] rfl
  refine va_calli (va_runV (As := []) (rest := []) ⟨hx, hb, hml, hown, hts⟩ (c_J3_isLatin1 l dC dI cy k  s.heap.size) (cwV 0 hts gJ0_charAt_5068e_J0_isLatin1_aae02 rfl rfl rfl (by decide +kernel) ⟨Nat.le_of_ble_eq_true rfl, Nat.le_of_ble_eq_true rfl⟩) ⟨nb_blindE, (vk_recv (i := 3) hE.2.2.1 (by decide) hS), fun U hU hW => ⟨rfl, ⟨by rw [hU], by rw [hU]; exact hPc, va_K.moved hW.alike hK, hDc.weaken (fun _ _ _ _ => trivial), hG.warm hW⟩, nE.to hE hS hW hU hFc⟩⟩ rfl rfl hl.1 rfl (lv_room (Nat.le_of_ble_eq_true rfl)) dJ0_charAt_5068e_1 ⟨Nat.le_of_ble_eq_true rfl, Nat.le_of_ble_eq_true rfl⟩) hS (fun q _ h => hFc q h) hFc (fun r_1 u1 t H1 locs ht hvm hw hB hz1 hk1 hS => ?_)
  have hw : r_1 = 1 := hw.trans (by decide)
  subst hw
  obtain ⟨hP1, hK1, hD1⟩ := hB
  rw [ht] at hP1
  obtain ⟨hP, hD⟩ := va_join (wr := []) (w1 := (v1_c_J3_isLatin1 cy  u1)) hP hD [] [] rfl rfl (by decide) (by decide) hk1 hFc hP1 hD1
  generalize H1 = H at hP hS ⊢
  have hP : va_P (dC, dI) nCl [] H := hP
  have hD : va_D A [] := hD
  refine lv_if_eq (tgt := 16) hx hb dJ0_charAt_5068e_4 (by decide) (fun c1 => False.elim (by revert c1; decide)) (fun _ => ?_)
  refine lv_aload_n hx hb dJ0_charAt_5068e_7 rfl (lv_at hl 0 rfl) ?_
  refine vk_getf hx hb (hE.2.2.1.1 3 (by decide)).2.2.1 hS hown (hts _ (List.mem_cons_of_mem _ (List.mem_append_left _ (List.mem_of_getElem? (i := 0) rfl)))) (fun _ h9 => h9) dJ0_charAt_5068e_8 ?_
  refine lv_iload_n hx hb dJ0_charAt_5068e_11 rfl (lv_at hl 1 rfl) ?_
  have hPc : va_P (dC, dI) nCl (v0_c_J3_latin cy ) H := hP.sub (ws' := []) [] rfl
  have hDc : va_D A (v0_c_J3_latin cy ) := hD.sub (ws' := []) [] (by decide) rfl
  have hFc := va_free (wc := (v0_c_J3_latin cy )) hD hS hA [] rfl
  refine va_calli (va_runS (As := [.ref (k 7), .int (nI i9)]) (rest := []) ⟨hx, hb, hml, hown, hts⟩ (c_J3_latin l dC dI cy k i9 h9 H.size) (va_cwS 2 hts gJ0_charAt_5068e_J1_charAt_3b067 rfl rfl rfl (by decide +kernel) ⟨Nat.le_of_ble_eq_true rfl, Nat.le_of_ble_eq_true rfl⟩) ⟨nb_blindE, fun U hU hW => ⟨rfl, ⟨by rw [hU], by rw [hU]; exact hPc, va_K.moved hW.alike hK, hDc.weaken (fun _ _ _ _ => trivial), hG.warm hW⟩, nE.to hE hS hW hU hFc⟩⟩ rfl rfl hl.1 rfl (lv_room (Nat.le_of_ble_eq_true rfl)) dJ0_charAt_5068e_12 ⟨Nat.le_of_ble_eq_true rfl, Nat.le_of_ble_eq_true rfl⟩) hS (fun q _ h => hFc q h) hFc (fun r_2 u2 t H1 locs ht hvm hw hB hz1 hk1 hS => ?_)
  obtain ⟨hP1, hK1, hD1⟩ := hB
  rw [ht] at hP1
  obtain ⟨hP, hD⟩ := va_join (wr := []) (w1 := (v1_c_J3_latin cy  u2)) hP hD [] [] rfl rfl (by decide) (by decide) hk1 hFc hP1 hD1
  generalize H1 = H at hP hS ⊢
  have hP : va_P (dC, dI) nCl [] H := hP
  have hD : va_D A [] := hD
  subst hw
  have hP : va_P (dC, dI) nCl (v1_c_J3_charAt cy  (fun _ => 0)) H := hP
  have hD : va_D A (v1_c_J3_charAt cy  (fun _ => 0)) := hD
  exact W.zret (v := (sx3.getD i9 0 &&& 255)) hx hb hr (sc_nar _) (fun t ht hW => ⟨⟨(sx3.getD i9 0 &&& 255), (fun _ => 0), rfl, rfl, by rw [ht]; exact hP, va_K.moved hW.alike hK, hD⟩, hS.F ht⟩) hS.2.2 dJ0_charAt_5068e_15

def v0_c_J4_coder (cy : Nat → ClassId)  : va_W := []
def v1_c_J4_coder (cy : Nat → ClassId)  (r : Nat → Nat) : va_W := []
set_option maxHeartbeats 40000000 in
set_option maxRecDepth 100000 in
/-- coder() -/
theorem c_J4_coder (l : Launch) (dC : Nat → ClassId) (dI : Nat → Nat → Nat) (cy : Nat → ClassId) (k : Nat → Nat)  (sz : Nat) : Met l yJ0_coder_7d493 wsJ0_coder_7d493 ({ frames := 0, cells := 0, slots := 0, locals := 0 }) (va_Pc [.ref (k 8)] (nInE (dC, dI) cy k sz (v0_c_J4_coder cy ))) (va_Qi (fun (z : Int32) (_ : Nat → Nat) => z = 0) (fun r t => nOut (dC, dI) cy (va_A (v0_c_J4_coder cy ) sz) (v1_c_J4_coder cy  r) t) (va_A (v0_c_J4_coder cy ) sz)) 0 0 (va_A (v0_c_J4_coder cy ) sz) := by
  refine Met.ofW (cc := cJ0_coder_7d493) (maxL := 1) (ret := (some .byte)) (by decide) rfl ?_
  intro p e s m args below meth c s₁ B hml hv
  obtain ⟨rfl, ⟨hsz, hP, hK, hD0, hG⟩, hE⟩ := hv
  have hx := B.exec
  have hb := B.bytes
  have hr := B.returns
  have hts := atoms_spec (ws := wsJ0_coder_7d493) B.pre
  have hown : s.vm.findClass RJ0 = some m.cls := findClass_of_methodNamed B.named
  have hlocks := B.notSynchronized
  subst hsz
  have hD := hD0.self (sz := s.heap.size)
  generalize hAe : va_A (v0_c_J4_coder cy ) s.heap.size = A at hD hE ⊢
  have hA : ∀ q : Nat, s.heap.size ≤ q → A q := fun q h => by rw [← hAe]; exact Or.inr h
  have hS : va_S A s.heap s.heap [] := va_S.rf
  have hP : va_P (dC, dI) nCl (v0_c_J4_coder cy ) s.heap := hP
  have hl := lv_entry ([.ref (k 8)]) (n := 1) (Nat.le_of_ble_eq_true rfl)
  rw [lg_entry_eq]
  generalize (lg_sl ([.ref (k 8)]) ++ List.replicate (1 - (lg_sl ([.ref (k 8)])).length) Slot.unset).toArray = ls at hl ⊢
  have hl : lv_has ls 1 [(0, .ref (k 8))] := hl
  have hP : va_P (dC, dI) nCl [] s.heap := hP
  have hD : va_D A [] := hD
  refine va_gets hx hb hE.1 hS hown (hts _ (List.mem_cons_of_mem _ (List.mem_of_getElem? (i := 0) rfl))) (fun _ h9 => h9) dJ0_coder_7d493_0 ?_
  refine lv_if_eq (tgt := 13) hx hb dJ0_coder_7d493_3 (by decide) (fun c1 => False.elim (by revert c1; decide)) (fun _ => ?_)
  refine lv_aload_n hx hb dJ0_coder_7d493_6 rfl (lv_at hl 0 rfl) ?_
  refine vk_getf hx hb (hE.2.2.1.1 4 (by decide)).2.1 hS hown (hts _ (List.mem_cons_of_mem _ (List.mem_of_getElem? (i := 1) rfl))) (fun _ h9 => h9) dJ0_coder_7d493_7 ?_
  refine lv_goto (tgt := 14) hx hb dJ0_coder_7d493_10 (by decide) ?_
  have hP : va_P (dC, dI) nCl (v1_c_J4_coder cy  (fun _ => 0)) s.heap := hP
  have hD : va_D A (v1_c_J4_coder cy  (fun _ => 0)) := hD
  exact W.zret (v := 0) hx hb hr rfl (fun t ht hW => ⟨⟨0, (fun _ => 0), rfl, rfl, by rw [ht]; exact hP, va_K.moved hW.alike hK, hD⟩, hS.F ht⟩) hS.2.2 dJ0_coder_7d493_14
def v0_c_J4_len (cy : Nat → ClassId)  : va_W := []
def v1_c_J4_len (cy : Nat → ClassId)  (r : Nat → Nat) : va_W := []
set_option maxHeartbeats 40000000 in
set_option maxRecDepth 100000 in
/-- length() of the words' text -/
theorem c_J4_len (l : Launch) (dC : Nat → ClassId) (dI : Nat → Nat → Nat) (cy : Nat → ClassId) (k : Nat → Nat)  (sz : Nat) : Met l yJ0_length_8abf5 wsJ0_length_8abf5 ({ frames := 1, cells := 0, slots := 0, locals := 20 }) (va_Pc [.ref (k 8)] (nInE (dC, dI) cy k sz (v0_c_J4_len cy ))) (va_Qi (fun (z : Int32) (_ : Nat → Nat) => z = 6) (fun r t => nOut (dC, dI) cy (va_A (v0_c_J4_len cy ) sz) (v1_c_J4_len cy  r) t) (va_A (v0_c_J4_len cy ) sz)) 0 0 (va_A (v0_c_J4_len cy ) sz) := by
  refine Met.ofW (cc := cJ0_length_8abf5) (maxL := 1) (ret := (some .int)) (by decide) rfl ?_
  intro p e s m args below meth c s₁ B hml hv
  obtain ⟨rfl, ⟨hsz, hP, hK, hD0, hG⟩, hE⟩ := hv
  have hx := B.exec
  have hb := B.bytes
  have hr := B.returns
  have hts := atoms_spec (ws := wsJ0_length_8abf5) B.pre
  have hown : s.vm.findClass RJ0 = some m.cls := findClass_of_methodNamed B.named
  have hlocks := B.notSynchronized
  subst hsz
  have hD := hD0.self (sz := s.heap.size)
  generalize hAe : va_A (v0_c_J4_len cy ) s.heap.size = A at hD hE ⊢
  have hA : ∀ q : Nat, s.heap.size ≤ q → A q := fun q h => by rw [← hAe]; exact Or.inr h
  have hS : va_S A s.heap s.heap [] := va_S.rf
  have hP : va_P (dC, dI) nCl (v0_c_J4_len cy ) s.heap := hP
  have hl := lv_entry ([.ref (k 8)]) (n := 1) (Nat.le_of_ble_eq_true rfl)
  rw [lg_entry_eq]
  generalize (lg_sl ([.ref (k 8)]) ++ List.replicate (1 - (lg_sl ([.ref (k 8)])).length) Slot.unset).toArray = ls at hl ⊢
  have hl : lv_has ls 1 [(0, .ref (k 8))] := hl
  have hP : va_P (dC, dI) nCl [] s.heap := hP
  have hD : va_D A [] := hD
  refine lv_aload_n hx hb dJ0_length_8abf5_0 rfl (lv_at hl 0 rfl) ?_
  refine vk_getf hx hb (hE.2.2.1.1 4 (by decide)).2.2.1 hS hown (hts _ (List.mem_cons_of_mem _ (List.mem_of_getElem? (i := 0) rfl))) (fun _ h9 => h9) dJ0_length_8abf5_1 ?_
  refine va_tlen hx hb (hE.2.2.1.1 4 (by decide)).2.2.2 hS (v := 6) rfl dJ0_length_8abf5_4 ?_
  refine lv_aload_n hx hb dJ0_length_8abf5_5 rfl (lv_at hl 0 rfl) ?_
  have hPc : va_P (dC, dI) nCl (v0_c_J4_coder cy ) s.heap := hP.sub (ws' := []) [] rfl
  have hDc : va_D A (v0_c_J4_coder cy ) := hD.sub (ws' := []) [] (by decide) rfl
  have hFc := va_free (wc := (v0_c_J4_coder cy )) hD hS hA [] rfl
  refine va_calli (va_runV (As := []) (rest := [.int 6]) ⟨hx, hb, hml, hown, hts⟩ (c_J4_coder l dC dI cy k  s.heap.size) (cwV 0 hts gJ0_length_8abf5_J0_coder_7d493 rfl rfl rfl (by decide +kernel) ⟨Nat.le_of_ble_eq_true rfl, Nat.le_of_ble_eq_true rfl⟩) ⟨nb_blindE, (vk_recv (i := 4) hE.2.2.1 (by decide) hS), fun U hU hW => ⟨rfl, ⟨by rw [hU], by rw [hU]; exact hPc, va_K.moved hW.alike hK, hDc.weaken (fun _ _ _ _ => trivial), hG.warm hW⟩, nE.to hE hS hW hU hFc⟩⟩ rfl rfl hl.1 rfl (lv_room (Nat.le_of_ble_eq_true rfl)) dJ0_length_8abf5_6 ⟨Nat.le_of_ble_eq_true rfl, Nat.le_of_ble_eq_true rfl⟩) hS (fun q _ h => hFc q h) hFc (fun r_1 u1 t H1 locs ht hvm hw hB hz1 hk1 hS => ?_)
  have hw : r_1 = 0 := hw.trans (by decide)
  subst hw
  obtain ⟨hP1, hK1, hD1⟩ := hB
  rw [ht] at hP1
  obtain ⟨hP, hD⟩ := va_join (wr := []) (w1 := (v1_c_J4_coder cy  u1)) hP hD [] [] rfl rfl (by decide) (by decide) hk1 hFc hP1 hD1
  generalize H1 = H at hP hS ⊢
  have hP : va_P (dC, dI) nCl [] H := hP
  have hD : va_D A [] := hD
  refine lv_ishr hx hb dJ0_length_8abf5_9 ?_
  refine W.eq (g2 := F0 m 10 ls [.int 6]) rfl ?_
  have hP : va_P (dC, dI) nCl (v1_c_J4_len cy  (fun _ => 0)) H := hP
  have hD : va_D A (v1_c_J4_len cy  (fun _ => 0)) := hD
  exact W.iret (v := 6) hx hb hr (fun t ht hW => ⟨⟨6, (fun _ => 0), rfl, rfl, by rw [ht]; exact hP, va_K.moved hW.alike hK, hD⟩, hS.F ht⟩) hS.2.2 dJ0_length_8abf5_10
def v0_c_J4_isLatin1 (cy : Nat → ClassId)  : va_W := []
def v1_c_J4_isLatin1 (cy : Nat → ClassId)  (r : Nat → Nat) : va_W := []
set_option maxHeartbeats 40000000 in
set_option maxRecDepth 100000 in
/-- isLatin1() -/
theorem c_J4_isLatin1 (l : Launch) (dC : Nat → ClassId) (dI : Nat → Nat → Nat) (cy : Nat → ClassId) (k : Nat → Nat)  (sz : Nat) : Met l yJ0_isLatin1_aae02 wsJ0_isLatin1_aae02 ({ frames := 0, cells := 0, slots := 0, locals := 0 }) (va_Pc [.ref (k 8)] (nInE (dC, dI) cy k sz (v0_c_J4_isLatin1 cy ))) (va_Qi (fun (z : Int32) (_ : Nat → Nat) => z = 1) (fun r t => nOut (dC, dI) cy (va_A (v0_c_J4_isLatin1 cy ) sz) (v1_c_J4_isLatin1 cy  r) t) (va_A (v0_c_J4_isLatin1 cy ) sz)) 0 0 (va_A (v0_c_J4_isLatin1 cy ) sz) := by
  refine Met.ofW (cc := cJ0_isLatin1_aae02) (maxL := 1) (ret := (some .boolean)) (by decide) rfl ?_
  intro p e s m args below meth c s₁ B hml hv
  obtain ⟨rfl, ⟨hsz, hP, hK, hD0, hG⟩, hE⟩ := hv
  have hx := B.exec
  have hb := B.bytes
  have hr := B.returns
  have hts := atoms_spec (ws := wsJ0_isLatin1_aae02) B.pre
  have hown : s.vm.findClass RJ0 = some m.cls := findClass_of_methodNamed B.named
  have hlocks := B.notSynchronized
  subst hsz
  have hD := hD0.self (sz := s.heap.size)
  generalize hAe : va_A (v0_c_J4_isLatin1 cy ) s.heap.size = A at hD hE ⊢
  have hA : ∀ q : Nat, s.heap.size ≤ q → A q := fun q h => by rw [← hAe]; exact Or.inr h
  have hS : va_S A s.heap s.heap [] := va_S.rf
  have hP : va_P (dC, dI) nCl (v0_c_J4_isLatin1 cy ) s.heap := hP
  have hl := lv_entry ([.ref (k 8)]) (n := 1) (Nat.le_of_ble_eq_true rfl)
  rw [lg_entry_eq]
  generalize (lg_sl ([.ref (k 8)]) ++ List.replicate (1 - (lg_sl ([.ref (k 8)])).length) Slot.unset).toArray = ls at hl ⊢
  have hl : lv_has ls 1 [(0, .ref (k 8))] := hl
  have hP : va_P (dC, dI) nCl [] s.heap := hP
  have hD : va_D A [] := hD
  refine va_gets hx hb hE.1 hS hown (hts _ (List.mem_cons_of_mem _ (List.mem_of_getElem? (i := 0) rfl))) (fun _ h9 => h9) dJ0_isLatin1_aae02_0 ?_
  refine lv_if_eq (tgt := 17) hx hb dJ0_isLatin1_aae02_3 (by decide) (fun c1 => False.elim (by revert c1; decide)) (fun _ => ?_)
  refine lv_aload_n hx hb dJ0_isLatin1_aae02_6 rfl (lv_at hl 0 rfl) ?_
  refine vk_getf hx hb (hE.2.2.1.1 4 (by decide)).2.1 hS hown (hts _ (List.mem_cons_of_mem _ (List.mem_of_getElem? (i := 1) rfl))) (fun _ h9 => h9) dJ0_isLatin1_aae02_7 ?_
  refine lv_if_ne (tgt := 17) hx hb dJ0_isLatin1_aae02_10 (by decide) (fun c1 => False.elim (by revert c1; decide)) (fun _ => ?_)
  refine lv_iconst (v := 1) hx hb dJ0_isLatin1_aae02_13 (by decide) ?_
  refine lv_goto (tgt := 18) hx hb dJ0_isLatin1_aae02_14 (by decide) ?_
  have hP : va_P (dC, dI) nCl (v1_c_J4_isLatin1 cy  (fun _ => 0)) s.heap := hP
  have hD : va_D A (v1_c_J4_isLatin1 cy  (fun _ => 0)) := hD
  exact W.zret (v := 1) hx hb hr rfl (fun t ht hW => ⟨⟨1, (fun _ => 0), rfl, rfl, by rw [ht]; exact hP, va_K.moved hW.alike hK, hD⟩, hS.F ht⟩) hS.2.2 dJ0_isLatin1_aae02_18
def v0_c_J4_pre_n (cy : Nat → ClassId)  : va_W := []
def v1_c_J4_pre_n (cy : Nat → ClassId)  (r : Nat → Nat) : va_W := []
set_option maxHeartbeats 40000000 in
set_option maxRecDepth 100000 in
/-- checkIndex(i, 6, f) -/
theorem c_J4_pre_n (l : Launch) (dC : Nat → ClassId) (dI : Nat → Nat → Nat) (cy : Nat → ClassId) (k : Nat → Nat)  (i9 : Nat) (h9 : i9 < 6) (sz : Nat) : Met l yJ3_checkIndex_8e157 wsJ3_checkIndex_8e157 ({ frames := 0, cells := 0, slots := 0, locals := 0 }) (va_Pc [.int (nI i9), .int 6, .null] (nInE (dC, dI) cy k sz (v0_c_J4_pre_n cy ))) (va_Qi (fun (z : Int32) (_ : Nat → Nat) => z = nI i9) (fun r t => nOut (dC, dI) cy (va_A (v0_c_J4_pre_n cy ) sz) (v1_c_J4_pre_n cy  r) t) (va_A (v0_c_J4_pre_n cy ) sz)) 0 0 (va_A (v0_c_J4_pre_n cy ) sz) := by
  refine Met.ofW (cc := cJ3_checkIndex_8e157) (maxL := 3) (ret := (some .int)) (by decide) rfl ?_
  intro p e s m args below meth c s₁ B hml hv
  obtain ⟨rfl, ⟨hsz, hP, hK, hD0, hG⟩, hE⟩ := hv
  have hx := B.exec
  have hb := B.bytes
  have hr := B.returns
  have hts := atoms_spec (ws := wsJ3_checkIndex_8e157) B.pre
  have hown : s.vm.findClass RJ3 = some m.cls := findClass_of_methodNamed B.named
  have hlocks := B.notSynchronized
  subst hsz
  have hD := hD0.self (sz := s.heap.size)
  generalize hAe : va_A (v0_c_J4_pre_n cy ) s.heap.size = A at hD hE ⊢
  have hA : ∀ q : Nat, s.heap.size ≤ q → A q := fun q h => by rw [← hAe]; exact Or.inr h
  have hS : va_S A s.heap s.heap [] := va_S.rf
  have hP : va_P (dC, dI) nCl (v0_c_J4_pre_n cy ) s.heap := hP
  have hl := lv_entry ([.int (nI i9), .int 6, .null]) (n := 3) (Nat.le_of_ble_eq_true rfl)
  rw [lg_entry_eq]
  generalize (lg_sl ([.int (nI i9), .int 6, .null]) ++ List.replicate (3 - (lg_sl ([.int (nI i9), .int 6, .null])).length) Slot.unset).toArray = ls at hl ⊢
  have hl : lv_has ls 3 [(0, .int (nI i9)), (1, .int 6), (2, .null)] := hl
  have hP : va_P (dC, dI) nCl [] s.heap := hP
  have hD : va_D A [] := hD
  refine lv_iload_n hx hb dJ3_checkIndex_8e157_0 rfl (lv_at hl 0 rfl) ?_
  refine lv_if_lt (tgt := 9) hx hb dJ3_checkIndex_8e157_1 (by decide) (fun c1 => absurd c1 (nI_pos (by omega))) (fun _ => ?_)
  refine lv_iload_n hx hb dJ3_checkIndex_8e157_4 rfl (lv_at hl 0 rfl) ?_
  refine lv_iload_n hx hb dJ3_checkIndex_8e157_5 rfl (lv_at hl 1 rfl) ?_
  refine lv_icmp_lt (tgt := 16) hx hb dJ3_checkIndex_8e157_6 (by decide) (fun _ => ?_) (fun c1 => absurd (nI_lt (b := 6) h9 (by omega)) c1)
  refine lv_iload_n hx hb dJ3_checkIndex_8e157_16 rfl (lv_at hl 0 rfl) ?_
  have hP : va_P (dC, dI) nCl (v1_c_J4_pre_n cy  (fun _ => 0)) s.heap := hP
  have hD : va_D A (v1_c_J4_pre_n cy  (fun _ => 0)) := hD
  exact W.iret (v := (nI i9)) hx hb hr (fun t ht hW => ⟨⟨(nI i9), (fun _ => 0), rfl, rfl, by rw [ht]; exact hP, va_K.moved hW.alike hK, hD⟩, hS.F ht⟩) hS.2.2 dJ3_checkIndex_8e157_17
def v0_c_J4_pre_r (cy : Nat → ClassId)  : va_W := []
def v1_c_J4_pre_r (cy : Nat → ClassId)  (r : Nat → Nat) : va_W := []
set_option maxHeartbeats 40000000 in
set_option maxRecDepth 100000 in
/-- checkIndex(i, 6, f) -/
theorem c_J4_pre_r (l : Launch) (dC : Nat → ClassId) (dI : Nat → Nat → Nat) (cy : Nat → ClassId) (k : Nat → Nat)  (i9 : Nat) (f9 : Nat) (h9 : i9 < 6) (sz : Nat) : Met l yJ3_checkIndex_8e157 wsJ3_checkIndex_8e157 ({ frames := 0, cells := 0, slots := 0, locals := 0 }) (va_Pc [.int (nI i9), .int 6, .ref f9] (nInE (dC, dI) cy k sz (v0_c_J4_pre_r cy ))) (va_Qi (fun (z : Int32) (_ : Nat → Nat) => z = nI i9) (fun r t => nOut (dC, dI) cy (va_A (v0_c_J4_pre_r cy ) sz) (v1_c_J4_pre_r cy  r) t) (va_A (v0_c_J4_pre_r cy ) sz)) 0 0 (va_A (v0_c_J4_pre_r cy ) sz) := by
  refine Met.ofW (cc := cJ3_checkIndex_8e157) (maxL := 3) (ret := (some .int)) (by decide) rfl ?_
  intro p e s m args below meth c s₁ B hml hv
  obtain ⟨rfl, ⟨hsz, hP, hK, hD0, hG⟩, hE⟩ := hv
  have hx := B.exec
  have hb := B.bytes
  have hr := B.returns
  have hts := atoms_spec (ws := wsJ3_checkIndex_8e157) B.pre
  have hown : s.vm.findClass RJ3 = some m.cls := findClass_of_methodNamed B.named
  have hlocks := B.notSynchronized
  subst hsz
  have hD := hD0.self (sz := s.heap.size)
  generalize hAe : va_A (v0_c_J4_pre_r cy ) s.heap.size = A at hD hE ⊢
  have hA : ∀ q : Nat, s.heap.size ≤ q → A q := fun q h => by rw [← hAe]; exact Or.inr h
  have hS : va_S A s.heap s.heap [] := va_S.rf
  have hP : va_P (dC, dI) nCl (v0_c_J4_pre_r cy ) s.heap := hP
  have hl := lv_entry ([.int (nI i9), .int 6, .ref f9]) (n := 3) (Nat.le_of_ble_eq_true rfl)
  rw [lg_entry_eq]
  generalize (lg_sl ([.int (nI i9), .int 6, .ref f9]) ++ List.replicate (3 - (lg_sl ([.int (nI i9), .int 6, .ref f9])).length) Slot.unset).toArray = ls at hl ⊢
  have hl : lv_has ls 3 [(0, .int (nI i9)), (1, .int 6), (2, .ref f9)] := hl
  have hP : va_P (dC, dI) nCl [] s.heap := hP
  have hD : va_D A [] := hD
  refine lv_iload_n hx hb dJ3_checkIndex_8e157_0 rfl (lv_at hl 0 rfl) ?_
  refine lv_if_lt (tgt := 9) hx hb dJ3_checkIndex_8e157_1 (by decide) (fun c1 => absurd c1 (nI_pos (by omega))) (fun _ => ?_)
  refine lv_iload_n hx hb dJ3_checkIndex_8e157_4 rfl (lv_at hl 0 rfl) ?_
  refine lv_iload_n hx hb dJ3_checkIndex_8e157_5 rfl (lv_at hl 1 rfl) ?_
  refine lv_icmp_lt (tgt := 16) hx hb dJ3_checkIndex_8e157_6 (by decide) (fun _ => ?_) (fun c1 => absurd (nI_lt (b := 6) h9 (by omega)) c1)
  refine lv_iload_n hx hb dJ3_checkIndex_8e157_16 rfl (lv_at hl 0 rfl) ?_
  have hP : va_P (dC, dI) nCl (v1_c_J4_pre_r cy  (fun _ => 0)) s.heap := hP
  have hD : va_D A (v1_c_J4_pre_r cy  (fun _ => 0)) := hD
  exact W.iret (v := (nI i9)) hx hb hr (fun t ht hW => ⟨⟨(nI i9), (fun _ => 0), rfl, rfl, by rw [ht]; exact hP, va_K.moved hW.alike hK, hD⟩, hS.F ht⟩) hS.2.2 dJ3_checkIndex_8e157_17
def v0_c_J4_chk (cy : Nat → ClassId)  : va_W := []
def v1_c_J4_chk (cy : Nat → ClassId)  (r : Nat → Nat) : va_W := []
set_option maxHeartbeats 40000000 in
set_option maxRecDepth 100000 in
/-- String.checkIndex(i, 6) -/
theorem c_J4_chk (l : Launch) (dC : Nat → ClassId) (dI : Nat → Nat → Nat) (cy : Nat → ClassId) (k : Nat → Nat)  (i9 : Nat) (h9 : i9 < 6) (sz : Nat) : Met l yJ0_checkIndex_df160 wsJ0_checkIndex_df160 ({ frames := 1, cells := 0, slots := 0, locals := 22 }) (va_Pc [.int (nI i9), .int 6] (nInE (dC, dI) cy k sz (v0_c_J4_chk cy ))) (va_Qv (fun _ : Nat → Nat => True) (fun r t => nOut (dC, dI) cy (va_A (v0_c_J4_chk cy ) sz) (v1_c_J4_chk cy  r) t) (va_A (v0_c_J4_chk cy ) sz)) 0 0 (va_A (v0_c_J4_chk cy ) sz) := by
  refine Met.ofW (cc := cJ0_checkIndex_df160) (maxL := 2) (ret := none) (by decide) rfl ?_
  intro p e s m args below meth c s₁ B hml hv
  obtain ⟨rfl, ⟨hsz, hP, hK, hD0, hG⟩, hE⟩ := hv
  have hx := B.exec
  have hb := B.bytes
  have hr := B.returns
  have hts := atoms_spec (ws := wsJ0_checkIndex_df160) B.pre
  have hown : s.vm.findClass RJ0 = some m.cls := findClass_of_methodNamed B.named
  have hlocks := B.notSynchronized
  subst hsz
  have hD := hD0.self (sz := s.heap.size)
  generalize hAe : va_A (v0_c_J4_chk cy ) s.heap.size = A at hD hE ⊢
  have hA : ∀ q : Nat, s.heap.size ≤ q → A q := fun q h => by rw [← hAe]; exact Or.inr h
  have hS : va_S A s.heap s.heap [] := va_S.rf
  have hP : va_P (dC, dI) nCl (v0_c_J4_chk cy ) s.heap := hP
  have hl := lv_entry ([.int (nI i9), .int 6]) (n := 2) (Nat.le_of_ble_eq_true rfl)
  rw [lg_entry_eq]
  generalize (lg_sl ([.int (nI i9), .int 6]) ++ List.replicate (2 - (lg_sl ([.int (nI i9), .int 6])).length) Slot.unset).toArray = ls at hl ⊢
  have hl : lv_has ls 2 [(0, .int (nI i9)), (1, .int 6)] := hl
  have hP : va_P (dC, dI) nCl [] s.heap := hP
  have hD : va_D A [] := hD
  refine lv_iload_n hx hb dJ0_checkIndex_df160_0 rfl (lv_at hl 0 rfl) ?_
  refine lv_iload_n hx hb dJ0_checkIndex_df160_1 rfl (lv_at hl 1 rfl) ?_
  rcases hE.2.1 with hZ | ⟨f9, hZ⟩
  · refine va_gets hx hb hZ hS hown (hts _ (List.mem_cons_of_mem _ (List.mem_of_getElem? (i := 0) rfl))) (fun _ h9 => h9) dJ0_checkIndex_df160_2 ?_
    have hPc : va_P (dC, dI) nCl (v0_c_J4_pre_n cy ) s.heap := hP.sub (ws' := []) [] rfl
    have hDc : va_D A (v0_c_J4_pre_n cy ) := hD.sub (ws' := []) [] (by decide) rfl
    have hFc := va_free (wc := (v0_c_J4_pre_n cy )) hD hS hA [] rfl
    refine va_calli (va_runS (As := [.int (nI i9), .int 6, .null]) (rest := []) ⟨hx, hb, hml, hown, hts⟩ (c_J4_pre_n l dC dI cy k i9 h9 s.heap.size) (va_cwS 3 hts gJ0_checkIndex_df160_J3_checkIndex_8e157 rfl rfl rfl (by decide +kernel) ⟨Nat.le_of_ble_eq_true rfl, Nat.le_of_ble_eq_true rfl⟩) ⟨nb_blindE, fun U hU hW => ⟨rfl, ⟨by rw [hU], by rw [hU]; exact hPc, va_K.moved hW.alike hK, hDc.weaken (fun _ _ _ _ => trivial), hG.warm hW⟩, nE.to hE hS hW hU hFc⟩⟩ rfl rfl hl.1 rfl (lv_room (Nat.le_of_ble_eq_true rfl)) dJ0_checkIndex_df160_5 ⟨Nat.le_of_ble_eq_true rfl, Nat.le_of_ble_eq_true rfl⟩) hS (fun q _ h => hFc q h) hFc (fun r_1 u1 t H1 locs ht hvm hw hB hz1 hk1 hS => ?_)
    obtain ⟨hP1, hK1, hD1⟩ := hB
    rw [ht] at hP1
    obtain ⟨hP, hD⟩ := va_join (wr := []) (w1 := (v1_c_J4_pre_n cy  u1)) hP hD [] [] rfl rfl (by decide) (by decide) hk1 hFc hP1 hD1
    generalize H1 = H at hP hS ⊢
    have hP : va_P (dC, dI) nCl [] H := hP
    have hD : va_D A [] := hD
    refine lv_pop hx hb dJ0_checkIndex_df160_8 rfl ?_
    exact W.vret hx hb hr (fun t ht hW => ⟨⟨(fun _ => 0), rfl, trivial, by rw [ht]; exact hP, va_K.moved hW.alike hK, hD⟩, hS.F ht⟩) hS.2.2 dJ0_checkIndex_df160_9
  · refine va_gets hx hb hZ hS hown (hts _ (List.mem_cons_of_mem _ (List.mem_of_getElem? (i := 0) rfl))) (fun _ h9 => h9) dJ0_checkIndex_df160_2 ?_
    have hPc : va_P (dC, dI) nCl (v0_c_J4_pre_r cy ) s.heap := hP.sub (ws' := []) [] rfl
    have hDc : va_D A (v0_c_J4_pre_r cy ) := hD.sub (ws' := []) [] (by decide) rfl
    have hFc := va_free (wc := (v0_c_J4_pre_r cy )) hD hS hA [] rfl
    refine va_calli (va_runS (As := [.int (nI i9), .int 6, .ref f9]) (rest := []) ⟨hx, hb, hml, hown, hts⟩ (c_J4_pre_r l dC dI cy k i9 f9 h9 s.heap.size) (va_cwS 3 hts gJ0_checkIndex_df160_J3_checkIndex_8e157 rfl rfl rfl (by decide +kernel) ⟨Nat.le_of_ble_eq_true rfl, Nat.le_of_ble_eq_true rfl⟩) ⟨nb_blindE, fun U hU hW => ⟨rfl, ⟨by rw [hU], by rw [hU]; exact hPc, va_K.moved hW.alike hK, hDc.weaken (fun _ _ _ _ => trivial), hG.warm hW⟩, nE.to hE hS hW hU hFc⟩⟩ rfl rfl hl.1 rfl (lv_room (Nat.le_of_ble_eq_true rfl)) dJ0_checkIndex_df160_5 ⟨Nat.le_of_ble_eq_true rfl, Nat.le_of_ble_eq_true rfl⟩) hS (fun q _ h => hFc q h) hFc (fun r_2 u2 t H1 locs ht hvm hw hB hz1 hk1 hS => ?_)
    obtain ⟨hP1, hK1, hD1⟩ := hB
    rw [ht] at hP1
    obtain ⟨hP, hD⟩ := va_join (wr := []) (w1 := (v1_c_J4_pre_r cy  u2)) hP hD [] [] rfl rfl (by decide) (by decide) hk1 hFc hP1 hD1
    generalize H1 = H at hP hS ⊢
    have hP : va_P (dC, dI) nCl [] H := hP
    have hD : va_D A [] := hD
    refine lv_pop hx hb dJ0_checkIndex_df160_8 rfl ?_
    have hP : va_P (dC, dI) nCl (v1_c_J4_chk cy  (fun _ => 0)) H := hP
    have hD : va_D A (v1_c_J4_chk cy  (fun _ => 0)) := hD
    exact W.vret hx hb hr (fun t ht hW => ⟨⟨(fun _ => 0), rfl, trivial, by rw [ht]; exact hP, va_K.moved hW.alike hK, hD⟩, hS.F ht⟩) hS.2.2 dJ0_checkIndex_df160_9
def v0_c_J4_latin (cy : Nat → ClassId)  : va_W := []
def v1_c_J4_latin (cy : Nat → ClassId)  (r : Nat → Nat) : va_W := []
set_option maxHeartbeats 40000000 in
set_option maxRecDepth 100000 in
/-- StringLatin1.charAt -/
theorem c_J4_latin (l : Launch) (dC : Nat → ClassId) (dI : Nat → Nat → Nat) (cy : Nat → ClassId) (k : Nat → Nat)  (i9 : Nat) (h9 : i9 < 6) (sz : Nat) : Met l yJ1_charAt_3b067 wsJ1_charAt_3b067 ({ frames := 2, cells := 0, slots := 0, locals := 43 }) (va_Pc [.ref (k 9), .int (nI i9)] (nInE (dC, dI) cy k sz (v0_c_J4_latin cy ))) (va_Qi (fun (z : Int32) (_ : Nat → Nat) => z = sx4.getD i9 0 &&& 255) (fun r t => nOut (dC, dI) cy (va_A (v0_c_J4_latin cy ) sz) (v1_c_J4_latin cy  r) t) (va_A (v0_c_J4_latin cy ) sz)) 0 0 (va_A (v0_c_J4_latin cy ) sz) := by
  refine Met.ofW (cc := cJ1_charAt_3b067) (maxL := 2) (ret := (some .char)) (by decide) rfl ?_
  intro p e s m args below meth c s₁ B hml hv
  obtain ⟨rfl, ⟨hsz, hP, hK, hD0, hG⟩, hE⟩ := hv
  have hx := B.exec
  have hb := B.bytes
  have hr := B.returns
  have hts := atoms_spec (ws := wsJ1_charAt_3b067) B.pre
  have hown : s.vm.findClass RJ1 = some m.cls := findClass_of_methodNamed B.named
  have hlocks := B.notSynchronized
  subst hsz
  have hD := hD0.self (sz := s.heap.size)
  generalize hAe : va_A (v0_c_J4_latin cy ) s.heap.size = A at hD hE ⊢
  have hA : ∀ q : Nat, s.heap.size ≤ q → A q := fun q h => by rw [← hAe]; exact Or.inr h
  have hS : va_S A s.heap s.heap [] := va_S.rf
  have hP : va_P (dC, dI) nCl (v0_c_J4_latin cy ) s.heap := hP
  have hl := lv_entry ([.ref (k 9), .int (nI i9)]) (n := 2) (Nat.le_of_ble_eq_true rfl)
  rw [lg_entry_eq]
  generalize (lg_sl ([.ref (k 9), .int (nI i9)]) ++ List.replicate (2 - (lg_sl ([.ref (k 9), .int (nI i9)])).length) Slot.unset).toArray = ls at hl ⊢
  have hl : lv_has ls 2 [(0, .ref (k 9)), (1, .int (nI i9))] := hl
  have hP : va_P (dC, dI) nCl [] s.heap := hP
  have hD : va_D A [] := hD
  refine lv_iload_n hx hb dJ1_charAt_3b067_0 rfl (lv_at hl 1 rfl) ?_
  refine lv_aload_n hx hb dJ1_charAt_3b067_1 rfl (lv_at hl 0 rfl) ?_
  refine va_tlen hx hb (hE.2.2.1.1 4 (by decide)).2.2.2 hS (v := 6) rfl dJ1_charAt_3b067_2 ?_
  have hPc : va_P (dC, dI) nCl (v0_c_J4_chk cy ) s.heap := hP.sub (ws' := []) [] rfl
  have hDc : va_D A (v0_c_J4_chk cy ) := hD.sub (ws' := []) [] (by decide) rfl
  have hFc := va_free (wc := (v0_c_J4_chk cy )) hD hS hA [] rfl
  refine va_callv (va_runS (As := [.int (nI i9), .int 6]) (rest := []) ⟨hx, hb, hml, hown, hts⟩ (c_J4_chk l dC dI cy k i9 h9 s.heap.size) (va_cwS 2 hts gJ1_charAt_3b067_J0_checkIndex_df160 rfl rfl rfl (by decide +kernel) ⟨Nat.le_of_ble_eq_true rfl, Nat.le_of_ble_eq_true rfl⟩) ⟨nb_blindE, fun U hU hW => ⟨rfl, ⟨by rw [hU], by rw [hU]; exact hPc, va_K.moved hW.alike hK, hDc.weaken (fun _ _ _ _ => trivial), hG.warm hW⟩, nE.to hE hS hW hU hFc⟩⟩ rfl rfl hl.1 rfl (lv_room (Nat.le_of_ble_eq_true rfl)) dJ1_charAt_3b067_3 ⟨Nat.le_of_ble_eq_true rfl, Nat.le_of_ble_eq_true rfl⟩) hS (fun q _ h => hFc q h) hFc (fun u1 t H1 locs ht hvm hw hB hz1 hk1 hS => ?_)
  obtain ⟨hP1, hK1, hD1⟩ := hB
  rw [ht] at hP1
  obtain ⟨hP, hD⟩ := va_join (wr := []) (w1 := (v1_c_J4_chk cy  u1)) hP hD [] [] rfl rfl (by decide) (by decide) hk1 hFc hP1 hD1
  generalize H1 = H at hP hS ⊢
  have hP : va_P (dC, dI) nCl [] H := hP
  have hD : va_D A [] := hD
  refine lv_aload_n hx hb dJ1_charAt_3b067_6 rfl (lv_at hl 0 rfl) ?_
  refine lv_iload_n hx hb dJ1_charAt_3b067_7 rfl (lv_at hl 1 rfl) ?_
  refine va_tb hx hb (hE.2.2.1.1 4 (by decide)).2.2.2 hS (show vp_in (nI i9) 6 from vp_in_nI h9 (by omega)) (v := .int (sx4.getD i9 0)) (by rw [nI_clamp (by omega)]; rfl) dJ1_charAt_3b067_8 ?_
  refine lv_sipush (v := 255) hx hb dJ1_charAt_3b067_9 (by decide) ?_
  refine lv_iand hx hb dJ1_charAt_3b067_12 ?_
  refine lv_i2c (v := sx4.getD i9 0 &&& 255) hx hb dJ1_charAt_3b067_13 (sc_c2 _) ?_
  have hP : va_P (dC, dI) nCl (v1_c_J4_latin cy  (fun _ => 0)) H := hP
  have hD : va_D A (v1_c_J4_latin cy  (fun _ => 0)) := hD
  exact W.zret (v := (sx4.getD i9 0 &&& 255)) hx hb hr (sc_nar _) (fun t ht hW => ⟨⟨(sx4.getD i9 0 &&& 255), (fun _ => 0), rfl, rfl, by rw [ht]; exact hP, va_K.moved hW.alike hK, hD⟩, hS.F ht⟩) hS.2.2 dJ1_charAt_3b067_14
def v0_c_J4_charAt (cy : Nat → ClassId)  : va_W := []
def v1_c_J4_charAt (cy : Nat → ClassId)  (r : Nat → Nat) : va_W := []
set_option maxHeartbeats 40000000 in
set_option maxRecDepth 100000 in
/-- charAt(i) of the words' text -/
theorem c_J4_charAt (l : Launch) (dC : Nat → ClassId) (dI : Nat → Nat → Nat) (cy : Nat → ClassId) (k : Nat → Nat)  (i9 : Nat) (h9 : i9 < 6) (sz : Nat) : Met l yJ0_charAt_5068e wsJ0_charAt_5068e ({ frames := 3, cells := 0, slots := 0, locals := 64 }) (va_Pc [.ref (k 8), .int (nI i9)] (nInE (dC, dI) cy k sz (v0_c_J4_charAt cy ))) (va_Qi (fun (z : Int32) (_ : Nat → Nat) => z = sx4.getD i9 0 &&& 255) (fun r t => nOut (dC, dI) cy (va_A (v0_c_J4_charAt cy ) sz) (v1_c_J4_charAt cy  r) t) (va_A (v0_c_J4_charAt cy ) sz)) 0 0 (va_A (v0_c_J4_charAt cy ) sz) := by
  refine Met.ofW (cc := cJ0_charAt_5068e) (maxL := 2) (ret := (some .char)) (by decide) rfl ?_
  intro p e s m args below meth c s₁ B hml hv
  obtain ⟨rfl, ⟨hsz, hP, hK, hD0, hG⟩, hE⟩ := hv
  have hx := B.exec
  have hb := B.bytes
  have hr := B.returns
  have hts := atoms_spec (ws := wsJ0_charAt_5068e) B.pre
  have hown : s.vm.findClass RJ0 = some m.cls := findClass_of_methodNamed B.named
  have hlocks := B.notSynchronized
  subst hsz
  have hD := hD0.self (sz := s.heap.size)
  generalize hAe : va_A (v0_c_J4_charAt cy ) s.heap.size = A at hD hE ⊢
  have hA : ∀ q : Nat, s.heap.size ≤ q → A q := fun q h => by rw [← hAe]; exact Or.inr h
  have hS : va_S A s.heap s.heap [] := va_S.rf
  have hP : va_P (dC, dI) nCl (v0_c_J4_charAt cy ) s.heap := hP
  have hl := lv_entry ([.ref (k 8), .int (nI i9)]) (n := 2) (Nat.le_of_ble_eq_true rfl)
  rw [lg_entry_eq]
  generalize (lg_sl ([.ref (k 8), .int (nI i9)]) ++ List.replicate (2 - (lg_sl ([.ref (k 8), .int (nI i9)])).length) Slot.unset).toArray = ls at hl ⊢
  have hl : lv_has ls 2 [(0, .ref (k 8)), (1, .int (nI i9))] := hl
  have hP : va_P (dC, dI) nCl [] s.heap := hP
  have hD : va_D A [] := hD
  refine lv_aload_n hx hb dJ0_charAt_5068e_0 rfl (lv_at hl 0 rfl) ?_
  have hPc : va_P (dC, dI) nCl (v0_c_J4_isLatin1 cy ) s.heap := hP.sub (ws' := []) [] rfl
  have hDc : va_D A (v0_c_J4_isLatin1 cy ) := hD.sub (ws' := []) [] (by decide) rfl
  have hFc := va_free (wc := (v0_c_J4_isLatin1 cy )) hD hS hA [] rfl
  refine va_calli (va_runV (As := []) (rest := []) ⟨hx, hb, hml, hown, hts⟩ (c_J4_isLatin1 l dC dI cy k  s.heap.size) (cwV 0 hts gJ0_charAt_5068e_J0_isLatin1_aae02 rfl rfl rfl (by decide +kernel) ⟨Nat.le_of_ble_eq_true rfl, Nat.le_of_ble_eq_true rfl⟩) ⟨nb_blindE, (vk_recv (i := 4) hE.2.2.1 (by decide) hS), fun U hU hW => ⟨rfl, ⟨by rw [hU], by rw [hU]; exact hPc, va_K.moved hW.alike hK, hDc.weaken (fun _ _ _ _ => trivial), hG.warm hW⟩, nE.to hE hS hW hU hFc⟩⟩ rfl rfl hl.1 rfl (lv_room (Nat.le_of_ble_eq_true rfl)) dJ0_charAt_5068e_1 ⟨Nat.le_of_ble_eq_true rfl, Nat.le_of_ble_eq_true rfl⟩) hS (fun q _ h => hFc q h) hFc (fun r_1 u1 t H1 locs ht hvm hw hB hz1 hk1 hS => ?_)
  have hw : r_1 = 1 := hw.trans (by decide)
  subst hw
  obtain ⟨hP1, hK1, hD1⟩ := hB
  rw [ht] at hP1
  obtain ⟨hP, hD⟩ := va_join (wr := []) (w1 := (v1_c_J4_isLatin1 cy  u1)) hP hD [] [] rfl rfl (by decide) (by decide) hk1 hFc hP1 hD1
  generalize H1 = H at hP hS ⊢
  have hP : va_P (dC, dI) nCl [] H := hP
  have hD : va_D A [] := hD
  refine lv_if_eq (tgt := 16) hx hb dJ0_charAt_5068e_4 (by decide) (fun c1 => False.elim (by revert c1; decide)) (fun _ => ?_)
  refine lv_aload_n hx hb dJ0_charAt_5068e_7 rfl (lv_at hl 0 rfl) ?_
  refine vk_getf hx hb (hE.2.2.1.1 4 (by decide)).2.2.1 hS hown (hts _ (List.mem_cons_of_mem _ (List.mem_append_left _ (List.mem_of_getElem? (i := 0) rfl)))) (fun _ h9 => h9) dJ0_charAt_5068e_8 ?_
  refine lv_iload_n hx hb dJ0_charAt_5068e_11 rfl (lv_at hl 1 rfl) ?_
  have hPc : va_P (dC, dI) nCl (v0_c_J4_latin cy ) H := hP.sub (ws' := []) [] rfl
  have hDc : va_D A (v0_c_J4_latin cy ) := hD.sub (ws' := []) [] (by decide) rfl
  have hFc := va_free (wc := (v0_c_J4_latin cy )) hD hS hA [] rfl
  refine va_calli (va_runS (As := [.ref (k 9), .int (nI i9)]) (rest := []) ⟨hx, hb, hml, hown, hts⟩ (c_J4_latin l dC dI cy k i9 h9 H.size) (va_cwS 2 hts gJ0_charAt_5068e_J1_charAt_3b067 rfl rfl rfl (by decide +kernel) ⟨Nat.le_of_ble_eq_true rfl, Nat.le_of_ble_eq_true rfl⟩) ⟨nb_blindE, fun U hU hW => ⟨rfl, ⟨by rw [hU], by rw [hU]; exact hPc, va_K.moved hW.alike hK, hDc.weaken (fun _ _ _ _ => trivial), hG.warm hW⟩, nE.to hE hS hW hU hFc⟩⟩ rfl rfl hl.1 rfl (lv_room (Nat.le_of_ble_eq_true rfl)) dJ0_charAt_5068e_12 ⟨Nat.le_of_ble_eq_true rfl, Nat.le_of_ble_eq_true rfl⟩) hS (fun q _ h => hFc q h) hFc (fun r_2 u2 t H1 locs ht hvm hw hB hz1 hk1 hS => ?_)
  obtain ⟨hP1, hK1, hD1⟩ := hB
  rw [ht] at hP1
  obtain ⟨hP, hD⟩ := va_join (wr := []) (w1 := (v1_c_J4_latin cy  u2)) hP hD [] [] rfl rfl (by decide) (by decide) hk1 hFc hP1 hD1
  generalize H1 = H at hP hS ⊢
  have hP : va_P (dC, dI) nCl [] H := hP
  have hD : va_D A [] := hD
  subst hw
  have hP : va_P (dC, dI) nCl (v1_c_J4_charAt cy  (fun _ => 0)) H := hP
  have hD : va_D A (v1_c_J4_charAt cy  (fun _ => 0)) := hD
  exact W.zret (v := (sx4.getD i9 0 &&& 255)) hx hb hr (sc_nar _) (fun t ht hW => ⟨⟨(sx4.getD i9 0 &&& 255), (fun _ => 0), rfl, rfl, by rw [ht]; exact hP, va_K.moved hW.alike hK, hD⟩, hS.F ht⟩) hS.2.2 dJ0_charAt_5068e_15

def v0_c_J5_coder (cy : Nat → ClassId)  : va_W := []
def v1_c_J5_coder (cy : Nat → ClassId)  (r : Nat → Nat) : va_W := []
set_option maxHeartbeats 40000000 in
set_option maxRecDepth 100000 in
/-- coder() -/
theorem c_J5_coder (l : Launch) (dC : Nat → ClassId) (dI : Nat → Nat → Nat) (cy : Nat → ClassId) (k : Nat → Nat)  (sz : Nat) : Met l yJ0_coder_7d493 wsJ0_coder_7d493 ({ frames := 0, cells := 0, slots := 0, locals := 0 }) (va_Pc [.ref (k 10)] (nInE (dC, dI) cy k sz (v0_c_J5_coder cy ))) (va_Qi (fun (z : Int32) (_ : Nat → Nat) => z = 0) (fun r t => nOut (dC, dI) cy (va_A (v0_c_J5_coder cy ) sz) (v1_c_J5_coder cy  r) t) (va_A (v0_c_J5_coder cy ) sz)) 0 0 (va_A (v0_c_J5_coder cy ) sz) := by
  refine Met.ofW (cc := cJ0_coder_7d493) (maxL := 1) (ret := (some .byte)) (by decide) rfl ?_
  intro p e s m args below meth c s₁ B hml hv
  obtain ⟨rfl, ⟨hsz, hP, hK, hD0, hG⟩, hE⟩ := hv
  have hx := B.exec
  have hb := B.bytes
  have hr := B.returns
  have hts := atoms_spec (ws := wsJ0_coder_7d493) B.pre
  have hown : s.vm.findClass RJ0 = some m.cls := findClass_of_methodNamed B.named
  have hlocks := B.notSynchronized
  subst hsz
  have hD := hD0.self (sz := s.heap.size)
  generalize hAe : va_A (v0_c_J5_coder cy ) s.heap.size = A at hD hE ⊢
  have hA : ∀ q : Nat, s.heap.size ≤ q → A q := fun q h => by rw [← hAe]; exact Or.inr h
  have hS : va_S A s.heap s.heap [] := va_S.rf
  have hP : va_P (dC, dI) nCl (v0_c_J5_coder cy ) s.heap := hP
  have hl := lv_entry ([.ref (k 10)]) (n := 1) (Nat.le_of_ble_eq_true rfl)
  rw [lg_entry_eq]
  generalize (lg_sl ([.ref (k 10)]) ++ List.replicate (1 - (lg_sl ([.ref (k 10)])).length) Slot.unset).toArray = ls at hl ⊢
  have hl : lv_has ls 1 [(0, .ref (k 10))] := hl
  have hP : va_P (dC, dI) nCl [] s.heap := hP
  have hD : va_D A [] := hD
  refine va_gets hx hb hE.1 hS hown (hts _ (List.mem_cons_of_mem _ (List.mem_of_getElem? (i := 0) rfl))) (fun _ h9 => h9) dJ0_coder_7d493_0 ?_
  refine lv_if_eq (tgt := 13) hx hb dJ0_coder_7d493_3 (by decide) (fun c1 => False.elim (by revert c1; decide)) (fun _ => ?_)
  refine lv_aload_n hx hb dJ0_coder_7d493_6 rfl (lv_at hl 0 rfl) ?_
  refine vk_getf hx hb (hE.2.2.1.1 5 (by decide)).2.1 hS hown (hts _ (List.mem_cons_of_mem _ (List.mem_of_getElem? (i := 1) rfl))) (fun _ h9 => h9) dJ0_coder_7d493_7 ?_
  refine lv_goto (tgt := 14) hx hb dJ0_coder_7d493_10 (by decide) ?_
  have hP : va_P (dC, dI) nCl (v1_c_J5_coder cy  (fun _ => 0)) s.heap := hP
  have hD : va_D A (v1_c_J5_coder cy  (fun _ => 0)) := hD
  exact W.zret (v := 0) hx hb hr rfl (fun t ht hW => ⟨⟨0, (fun _ => 0), rfl, rfl, by rw [ht]; exact hP, va_K.moved hW.alike hK, hD⟩, hS.F ht⟩) hS.2.2 dJ0_coder_7d493_14
def v0_c_J5_len (cy : Nat → ClassId)  : va_W := []
def v1_c_J5_len (cy : Nat → ClassId)  (r : Nat → Nat) : va_W := []
set_option maxHeartbeats 40000000 in
set_option maxRecDepth 100000 in
/-- length() of the words' text -/
theorem c_J5_len (l : Launch) (dC : Nat → ClassId) (dI : Nat → Nat → Nat) (cy : Nat → ClassId) (k : Nat → Nat)  (sz : Nat) : Met l yJ0_length_8abf5 wsJ0_length_8abf5 ({ frames := 1, cells := 0, slots := 0, locals := 20 }) (va_Pc [.ref (k 10)] (nInE (dC, dI) cy k sz (v0_c_J5_len cy ))) (va_Qi (fun (z : Int32) (_ : Nat → Nat) => z = 5) (fun r t => nOut (dC, dI) cy (va_A (v0_c_J5_len cy ) sz) (v1_c_J5_len cy  r) t) (va_A (v0_c_J5_len cy ) sz)) 0 0 (va_A (v0_c_J5_len cy ) sz) := by
  refine Met.ofW (cc := cJ0_length_8abf5) (maxL := 1) (ret := (some .int)) (by decide) rfl ?_
  intro p e s m args below meth c s₁ B hml hv
  obtain ⟨rfl, ⟨hsz, hP, hK, hD0, hG⟩, hE⟩ := hv
  have hx := B.exec
  have hb := B.bytes
  have hr := B.returns
  have hts := atoms_spec (ws := wsJ0_length_8abf5) B.pre
  have hown : s.vm.findClass RJ0 = some m.cls := findClass_of_methodNamed B.named
  have hlocks := B.notSynchronized
  subst hsz
  have hD := hD0.self (sz := s.heap.size)
  generalize hAe : va_A (v0_c_J5_len cy ) s.heap.size = A at hD hE ⊢
  have hA : ∀ q : Nat, s.heap.size ≤ q → A q := fun q h => by rw [← hAe]; exact Or.inr h
  have hS : va_S A s.heap s.heap [] := va_S.rf
  have hP : va_P (dC, dI) nCl (v0_c_J5_len cy ) s.heap := hP
  have hl := lv_entry ([.ref (k 10)]) (n := 1) (Nat.le_of_ble_eq_true rfl)
  rw [lg_entry_eq]
  generalize (lg_sl ([.ref (k 10)]) ++ List.replicate (1 - (lg_sl ([.ref (k 10)])).length) Slot.unset).toArray = ls at hl ⊢
  have hl : lv_has ls 1 [(0, .ref (k 10))] := hl
  have hP : va_P (dC, dI) nCl [] s.heap := hP
  have hD : va_D A [] := hD
  refine lv_aload_n hx hb dJ0_length_8abf5_0 rfl (lv_at hl 0 rfl) ?_
  refine vk_getf hx hb (hE.2.2.1.1 5 (by decide)).2.2.1 hS hown (hts _ (List.mem_cons_of_mem _ (List.mem_of_getElem? (i := 0) rfl))) (fun _ h9 => h9) dJ0_length_8abf5_1 ?_
  refine va_tlen hx hb (hE.2.2.1.1 5 (by decide)).2.2.2 hS (v := 5) rfl dJ0_length_8abf5_4 ?_
  refine lv_aload_n hx hb dJ0_length_8abf5_5 rfl (lv_at hl 0 rfl) ?_
  have hPc : va_P (dC, dI) nCl (v0_c_J5_coder cy ) s.heap := hP.sub (ws' := []) [] rfl
  have hDc : va_D A (v0_c_J5_coder cy ) := hD.sub (ws' := []) [] (by decide) rfl
  have hFc := va_free (wc := (v0_c_J5_coder cy )) hD hS hA [] rfl
  refine va_calli (va_runV (As := []) (rest := [.int 5]) ⟨hx, hb, hml, hown, hts⟩ (c_J5_coder l dC dI cy k  s.heap.size) (cwV 0 hts gJ0_length_8abf5_J0_coder_7d493 rfl rfl rfl (by decide +kernel) ⟨Nat.le_of_ble_eq_true rfl, Nat.le_of_ble_eq_true rfl⟩) ⟨nb_blindE, (vk_recv (i := 5) hE.2.2.1 (by decide) hS), fun U hU hW => ⟨rfl, ⟨by rw [hU], by rw [hU]; exact hPc, va_K.moved hW.alike hK, hDc.weaken (fun _ _ _ _ => trivial), hG.warm hW⟩, nE.to hE hS hW hU hFc⟩⟩ rfl rfl hl.1 rfl (lv_room (Nat.le_of_ble_eq_true rfl)) dJ0_length_8abf5_6 ⟨Nat.le_of_ble_eq_true rfl, Nat.le_of_ble_eq_true rfl⟩) hS (fun q _ h => hFc q h) hFc (fun r_1 u1 t H1 locs ht hvm hw hB hz1 hk1 hS => ?_)
  have hw : r_1 = 0 := hw.trans (by decide)
  subst hw
  obtain ⟨hP1, hK1, hD1⟩ := hB
  rw [ht] at hP1
  obtain ⟨hP, hD⟩ := va_join (wr := []) (w1 := (v1_c_J5_coder cy  u1)) hP hD [] [] rfl rfl (by decide) (by decide) hk1 hFc hP1 hD1
  generalize H1 = H at hP hS ⊢
  have hP : va_P (dC, dI) nCl [] H := hP
  have hD : va_D A [] := hD
  refine lv_ishr hx hb dJ0_length_8abf5_9 ?_
  refine W.eq (g2 := F0 m 10 ls [.int 5]) rfl ?_
  have hP : va_P (dC, dI) nCl (v1_c_J5_len cy  (fun _ => 0)) H := hP
  have hD : va_D A (v1_c_J5_len cy  (fun _ => 0)) := hD
  exact W.iret (v := 5) hx hb hr (fun t ht hW => ⟨⟨5, (fun _ => 0), rfl, rfl, by rw [ht]; exact hP, va_K.moved hW.alike hK, hD⟩, hS.F ht⟩) hS.2.2 dJ0_length_8abf5_10
def v0_c_J5_isLatin1 (cy : Nat → ClassId)  : va_W := []
def v1_c_J5_isLatin1 (cy : Nat → ClassId)  (r : Nat → Nat) : va_W := []
set_option maxHeartbeats 40000000 in
set_option maxRecDepth 100000 in
/-- isLatin1() -/
theorem c_J5_isLatin1 (l : Launch) (dC : Nat → ClassId) (dI : Nat → Nat → Nat) (cy : Nat → ClassId) (k : Nat → Nat)  (sz : Nat) : Met l yJ0_isLatin1_aae02 wsJ0_isLatin1_aae02 ({ frames := 0, cells := 0, slots := 0, locals := 0 }) (va_Pc [.ref (k 10)] (nInE (dC, dI) cy k sz (v0_c_J5_isLatin1 cy ))) (va_Qi (fun (z : Int32) (_ : Nat → Nat) => z = 1) (fun r t => nOut (dC, dI) cy (va_A (v0_c_J5_isLatin1 cy ) sz) (v1_c_J5_isLatin1 cy  r) t) (va_A (v0_c_J5_isLatin1 cy ) sz)) 0 0 (va_A (v0_c_J5_isLatin1 cy ) sz) := by
  refine Met.ofW (cc := cJ0_isLatin1_aae02) (maxL := 1) (ret := (some .boolean)) (by decide) rfl ?_
  intro p e s m args below meth c s₁ B hml hv
  obtain ⟨rfl, ⟨hsz, hP, hK, hD0, hG⟩, hE⟩ := hv
  have hx := B.exec
  have hb := B.bytes
  have hr := B.returns
  have hts := atoms_spec (ws := wsJ0_isLatin1_aae02) B.pre
  have hown : s.vm.findClass RJ0 = some m.cls := findClass_of_methodNamed B.named
  have hlocks := B.notSynchronized
  subst hsz
  have hD := hD0.self (sz := s.heap.size)
  generalize hAe : va_A (v0_c_J5_isLatin1 cy ) s.heap.size = A at hD hE ⊢
  have hA : ∀ q : Nat, s.heap.size ≤ q → A q := fun q h => by rw [← hAe]; exact Or.inr h
  have hS : va_S A s.heap s.heap [] := va_S.rf
  have hP : va_P (dC, dI) nCl (v0_c_J5_isLatin1 cy ) s.heap := hP
  have hl := lv_entry ([.ref (k 10)]) (n := 1) (Nat.le_of_ble_eq_true rfl)
  rw [lg_entry_eq]
  generalize (lg_sl ([.ref (k 10)]) ++ List.replicate (1 - (lg_sl ([.ref (k 10)])).length) Slot.unset).toArray = ls at hl ⊢
  have hl : lv_has ls 1 [(0, .ref (k 10))] := hl
  have hP : va_P (dC, dI) nCl [] s.heap := hP
  have hD : va_D A [] := hD
  refine va_gets hx hb hE.1 hS hown (hts _ (List.mem_cons_of_mem _ (List.mem_of_getElem? (i := 0) rfl))) (fun _ h9 => h9) dJ0_isLatin1_aae02_0 ?_
  refine lv_if_eq (tgt := 17) hx hb dJ0_isLatin1_aae02_3 (by decide) (fun c1 => False.elim (by revert c1; decide)) (fun _ => ?_)
  refine lv_aload_n hx hb dJ0_isLatin1_aae02_6 rfl (lv_at hl 0 rfl) ?_
  refine vk_getf hx hb (hE.2.2.1.1 5 (by decide)).2.1 hS hown (hts _ (List.mem_cons_of_mem _ (List.mem_of_getElem? (i := 1) rfl))) (fun _ h9 => h9) dJ0_isLatin1_aae02_7 ?_
  refine lv_if_ne (tgt := 17) hx hb dJ0_isLatin1_aae02_10 (by decide) (fun c1 => False.elim (by revert c1; decide)) (fun _ => ?_)
  refine lv_iconst (v := 1) hx hb dJ0_isLatin1_aae02_13 (by decide) ?_
  refine lv_goto (tgt := 18) hx hb dJ0_isLatin1_aae02_14 (by decide) ?_
  have hP : va_P (dC, dI) nCl (v1_c_J5_isLatin1 cy  (fun _ => 0)) s.heap := hP
  have hD : va_D A (v1_c_J5_isLatin1 cy  (fun _ => 0)) := hD
  exact W.zret (v := 1) hx hb hr rfl (fun t ht hW => ⟨⟨1, (fun _ => 0), rfl, rfl, by rw [ht]; exact hP, va_K.moved hW.alike hK, hD⟩, hS.F ht⟩) hS.2.2 dJ0_isLatin1_aae02_18
def v0_c_J5_pre_n (cy : Nat → ClassId)  : va_W := []
def v1_c_J5_pre_n (cy : Nat → ClassId)  (r : Nat → Nat) : va_W := []
set_option maxHeartbeats 40000000 in
set_option maxRecDepth 100000 in
/-- checkIndex(i, 5, f) -/
theorem c_J5_pre_n (l : Launch) (dC : Nat → ClassId) (dI : Nat → Nat → Nat) (cy : Nat → ClassId) (k : Nat → Nat)  (i9 : Nat) (h9 : i9 < 5) (sz : Nat) : Met l yJ3_checkIndex_8e157 wsJ3_checkIndex_8e157 ({ frames := 0, cells := 0, slots := 0, locals := 0 }) (va_Pc [.int (nI i9), .int 5, .null] (nInE (dC, dI) cy k sz (v0_c_J5_pre_n cy ))) (va_Qi (fun (z : Int32) (_ : Nat → Nat) => z = nI i9) (fun r t => nOut (dC, dI) cy (va_A (v0_c_J5_pre_n cy ) sz) (v1_c_J5_pre_n cy  r) t) (va_A (v0_c_J5_pre_n cy ) sz)) 0 0 (va_A (v0_c_J5_pre_n cy ) sz) := by
  refine Met.ofW (cc := cJ3_checkIndex_8e157) (maxL := 3) (ret := (some .int)) (by decide) rfl ?_
  intro p e s m args below meth c s₁ B hml hv
  obtain ⟨rfl, ⟨hsz, hP, hK, hD0, hG⟩, hE⟩ := hv
  have hx := B.exec
  have hb := B.bytes
  have hr := B.returns
  have hts := atoms_spec (ws := wsJ3_checkIndex_8e157) B.pre
  have hown : s.vm.findClass RJ3 = some m.cls := findClass_of_methodNamed B.named
  have hlocks := B.notSynchronized
  subst hsz
  have hD := hD0.self (sz := s.heap.size)
  generalize hAe : va_A (v0_c_J5_pre_n cy ) s.heap.size = A at hD hE ⊢
  have hA : ∀ q : Nat, s.heap.size ≤ q → A q := fun q h => by rw [← hAe]; exact Or.inr h
  have hS : va_S A s.heap s.heap [] := va_S.rf
  have hP : va_P (dC, dI) nCl (v0_c_J5_pre_n cy ) s.heap := hP
  have hl := lv_entry ([.int (nI i9), .int 5, .null]) (n := 3) (Nat.le_of_ble_eq_true rfl)
  rw [lg_entry_eq]
  generalize (lg_sl ([.int (nI i9), .int 5, .null]) ++ List.replicate (3 - (lg_sl ([.int (nI i9), .int 5, .null])).length) Slot.unset).toArray = ls at hl ⊢
  have hl : lv_has ls 3 [(0, .int (nI i9)), (1, .int 5), (2, .null)] := hl
  have hP : va_P (dC, dI) nCl [] s.heap := hP
  have hD : va_D A [] := hD
  refine lv_iload_n hx hb dJ3_checkIndex_8e157_0 rfl (lv_at hl 0 rfl) ?_
  refine lv_if_lt (tgt := 9) hx hb dJ3_checkIndex_8e157_1 (by decide) (fun c1 => absurd c1 (nI_pos (by omega))) (fun _ => ?_)
  refine lv_iload_n hx hb dJ3_checkIndex_8e157_4 rfl (lv_at hl 0 rfl) ?_
  refine lv_iload_n hx hb dJ3_checkIndex_8e157_5 rfl (lv_at hl 1 rfl) ?_
  refine lv_icmp_lt (tgt := 16) hx hb dJ3_checkIndex_8e157_6 (by decide) (fun _ => ?_) (fun c1 => absurd (nI_lt (b := 5) h9 (by omega)) c1)
  refine lv_iload_n hx hb dJ3_checkIndex_8e157_16 rfl (lv_at hl 0 rfl) ?_
  have hP : va_P (dC, dI) nCl (v1_c_J5_pre_n cy  (fun _ => 0)) s.heap := hP
  have hD : va_D A (v1_c_J5_pre_n cy  (fun _ => 0)) := hD
  exact W.iret (v := (nI i9)) hx hb hr (fun t ht hW => ⟨⟨(nI i9), (fun _ => 0), rfl, rfl, by rw [ht]; exact hP, va_K.moved hW.alike hK, hD⟩, hS.F ht⟩) hS.2.2 dJ3_checkIndex_8e157_17
def v0_c_J5_pre_r (cy : Nat → ClassId)  : va_W := []
def v1_c_J5_pre_r (cy : Nat → ClassId)  (r : Nat → Nat) : va_W := []
set_option maxHeartbeats 40000000 in
set_option maxRecDepth 100000 in
/-- checkIndex(i, 5, f) -/
theorem c_J5_pre_r (l : Launch) (dC : Nat → ClassId) (dI : Nat → Nat → Nat) (cy : Nat → ClassId) (k : Nat → Nat)  (i9 : Nat) (f9 : Nat) (h9 : i9 < 5) (sz : Nat) : Met l yJ3_checkIndex_8e157 wsJ3_checkIndex_8e157 ({ frames := 0, cells := 0, slots := 0, locals := 0 }) (va_Pc [.int (nI i9), .int 5, .ref f9] (nInE (dC, dI) cy k sz (v0_c_J5_pre_r cy ))) (va_Qi (fun (z : Int32) (_ : Nat → Nat) => z = nI i9) (fun r t => nOut (dC, dI) cy (va_A (v0_c_J5_pre_r cy ) sz) (v1_c_J5_pre_r cy  r) t) (va_A (v0_c_J5_pre_r cy ) sz)) 0 0 (va_A (v0_c_J5_pre_r cy ) sz) := by
  refine Met.ofW (cc := cJ3_checkIndex_8e157) (maxL := 3) (ret := (some .int)) (by decide) rfl ?_
  intro p e s m args below meth c s₁ B hml hv
  obtain ⟨rfl, ⟨hsz, hP, hK, hD0, hG⟩, hE⟩ := hv
  have hx := B.exec
  have hb := B.bytes
  have hr := B.returns
  have hts := atoms_spec (ws := wsJ3_checkIndex_8e157) B.pre
  have hown : s.vm.findClass RJ3 = some m.cls := findClass_of_methodNamed B.named
  have hlocks := B.notSynchronized
  subst hsz
  have hD := hD0.self (sz := s.heap.size)
  generalize hAe : va_A (v0_c_J5_pre_r cy ) s.heap.size = A at hD hE ⊢
  have hA : ∀ q : Nat, s.heap.size ≤ q → A q := fun q h => by rw [← hAe]; exact Or.inr h
  have hS : va_S A s.heap s.heap [] := va_S.rf
  have hP : va_P (dC, dI) nCl (v0_c_J5_pre_r cy ) s.heap := hP
  have hl := lv_entry ([.int (nI i9), .int 5, .ref f9]) (n := 3) (Nat.le_of_ble_eq_true rfl)
  rw [lg_entry_eq]
  generalize (lg_sl ([.int (nI i9), .int 5, .ref f9]) ++ List.replicate (3 - (lg_sl ([.int (nI i9), .int 5, .ref f9])).length) Slot.unset).toArray = ls at hl ⊢
  have hl : lv_has ls 3 [(0, .int (nI i9)), (1, .int 5), (2, .ref f9)] := hl
  have hP : va_P (dC, dI) nCl [] s.heap := hP
  have hD : va_D A [] := hD
  refine lv_iload_n hx hb dJ3_checkIndex_8e157_0 rfl (lv_at hl 0 rfl) ?_
  refine lv_if_lt (tgt := 9) hx hb dJ3_checkIndex_8e157_1 (by decide) (fun c1 => absurd c1 (nI_pos (by omega))) (fun _ => ?_)
  refine lv_iload_n hx hb dJ3_checkIndex_8e157_4 rfl (lv_at hl 0 rfl) ?_
  refine lv_iload_n hx hb dJ3_checkIndex_8e157_5 rfl (lv_at hl 1 rfl) ?_
  refine lv_icmp_lt (tgt := 16) hx hb dJ3_checkIndex_8e157_6 (by decide) (fun _ => ?_) (fun c1 => absurd (nI_lt (b := 5) h9 (by omega)) c1)
  refine lv_iload_n hx hb dJ3_checkIndex_8e157_16 rfl (lv_at hl 0 rfl) ?_
  have hP : va_P (dC, dI) nCl (v1_c_J5_pre_r cy  (fun _ => 0)) s.heap := hP
  have hD : va_D A (v1_c_J5_pre_r cy  (fun _ => 0)) := hD
  exact W.iret (v := (nI i9)) hx hb hr (fun t ht hW => ⟨⟨(nI i9), (fun _ => 0), rfl, rfl, by rw [ht]; exact hP, va_K.moved hW.alike hK, hD⟩, hS.F ht⟩) hS.2.2 dJ3_checkIndex_8e157_17
def v0_c_J5_chk (cy : Nat → ClassId)  : va_W := []
def v1_c_J5_chk (cy : Nat → ClassId)  (r : Nat → Nat) : va_W := []
set_option maxHeartbeats 40000000 in
set_option maxRecDepth 100000 in
/-- String.checkIndex(i, 5) -/
theorem c_J5_chk (l : Launch) (dC : Nat → ClassId) (dI : Nat → Nat → Nat) (cy : Nat → ClassId) (k : Nat → Nat)  (i9 : Nat) (h9 : i9 < 5) (sz : Nat) : Met l yJ0_checkIndex_df160 wsJ0_checkIndex_df160 ({ frames := 1, cells := 0, slots := 0, locals := 22 }) (va_Pc [.int (nI i9), .int 5] (nInE (dC, dI) cy k sz (v0_c_J5_chk cy ))) (va_Qv (fun _ : Nat → Nat => True) (fun r t => nOut (dC, dI) cy (va_A (v0_c_J5_chk cy ) sz) (v1_c_J5_chk cy  r) t) (va_A (v0_c_J5_chk cy ) sz)) 0 0 (va_A (v0_c_J5_chk cy ) sz) := by
  refine Met.ofW (cc := cJ0_checkIndex_df160) (maxL := 2) (ret := none) (by decide) rfl ?_
  intro p e s m args below meth c s₁ B hml hv
  obtain ⟨rfl, ⟨hsz, hP, hK, hD0, hG⟩, hE⟩ := hv
  have hx := B.exec
  have hb := B.bytes
  have hr := B.returns
  have hts := atoms_spec (ws := wsJ0_checkIndex_df160) B.pre
  have hown : s.vm.findClass RJ0 = some m.cls := findClass_of_methodNamed B.named
  have hlocks := B.notSynchronized
  subst hsz
  have hD := hD0.self (sz := s.heap.size)
  generalize hAe : va_A (v0_c_J5_chk cy ) s.heap.size = A at hD hE ⊢
  have hA : ∀ q : Nat, s.heap.size ≤ q → A q := fun q h => by rw [← hAe]; exact Or.inr h
  have hS : va_S A s.heap s.heap [] := va_S.rf
  have hP : va_P (dC, dI) nCl (v0_c_J5_chk cy ) s.heap := hP
  have hl := lv_entry ([.int (nI i9), .int 5]) (n := 2) (Nat.le_of_ble_eq_true rfl)
  rw [lg_entry_eq]
  generalize (lg_sl ([.int (nI i9), .int 5]) ++ List.replicate (2 - (lg_sl ([.int (nI i9), .int 5])).length) Slot.unset).toArray = ls at hl ⊢
  have hl : lv_has ls 2 [(0, .int (nI i9)), (1, .int 5)] := hl
  have hP : va_P (dC, dI) nCl [] s.heap := hP
  have hD : va_D A [] := hD
  refine lv_iload_n hx hb dJ0_checkIndex_df160_0 rfl (lv_at hl 0 rfl) ?_
  refine lv_iload_n hx hb dJ0_checkIndex_df160_1 rfl (lv_at hl 1 rfl) ?_
  rcases hE.2.1 with hZ | ⟨f9, hZ⟩
  · refine va_gets hx hb hZ hS hown (hts _ (List.mem_cons_of_mem _ (List.mem_of_getElem? (i := 0) rfl))) (fun _ h9 => h9) dJ0_checkIndex_df160_2 ?_
    have hPc : va_P (dC, dI) nCl (v0_c_J5_pre_n cy ) s.heap := hP.sub (ws' := []) [] rfl
    have hDc : va_D A (v0_c_J5_pre_n cy ) := hD.sub (ws' := []) [] (by decide) rfl
    have hFc := va_free (wc := (v0_c_J5_pre_n cy )) hD hS hA [] rfl
    refine va_calli (va_runS (As := [.int (nI i9), .int 5, .null]) (rest := []) ⟨hx, hb, hml, hown, hts⟩ (c_J5_pre_n l dC dI cy k i9 h9 s.heap.size) (va_cwS 3 hts gJ0_checkIndex_df160_J3_checkIndex_8e157 rfl rfl rfl (by decide +kernel) ⟨Nat.le_of_ble_eq_true rfl, Nat.le_of_ble_eq_true rfl⟩) ⟨nb_blindE, fun U hU hW => ⟨rfl, ⟨by rw [hU], by rw [hU]; exact hPc, va_K.moved hW.alike hK, hDc.weaken (fun _ _ _ _ => trivial), hG.warm hW⟩, nE.to hE hS hW hU hFc⟩⟩ rfl rfl hl.1 rfl (lv_room (Nat.le_of_ble_eq_true rfl)) dJ0_checkIndex_df160_5 ⟨Nat.le_of_ble_eq_true rfl, Nat.le_of_ble_eq_true rfl⟩) hS (fun q _ h => hFc q h) hFc (fun r_1 u1 t H1 locs ht hvm hw hB hz1 hk1 hS => ?_)
    obtain ⟨hP1, hK1, hD1⟩ := hB
    rw [ht] at hP1
    obtain ⟨hP, hD⟩ := va_join (wr := []) (w1 := (v1_c_J5_pre_n cy  u1)) hP hD [] [] rfl rfl (by decide) (by decide) hk1 hFc hP1 hD1
    generalize H1 = H at hP hS ⊢
    have hP : va_P (dC, dI) nCl [] H := hP
    have hD : va_D A [] := hD
    refine lv_pop hx hb dJ0_checkIndex_df160_8 rfl ?_
    exact W.vret hx hb hr (fun t ht hW => ⟨⟨(fun _ => 0), rfl, trivial, by rw [ht]; exact hP, va_K.moved hW.alike hK, hD⟩, hS.F ht⟩) hS.2.2 dJ0_checkIndex_df160_9
  · refine va_gets hx hb hZ hS hown (hts _ (List.mem_cons_of_mem _ (List.mem_of_getElem? (i := 0) rfl))) (fun _ h9 => h9) dJ0_checkIndex_df160_2 ?_
    have hPc : va_P (dC, dI) nCl (v0_c_J5_pre_r cy ) s.heap := hP.sub (ws' := []) [] rfl
    have hDc : va_D A (v0_c_J5_pre_r cy ) := hD.sub (ws' := []) [] (by decide) rfl
    have hFc := va_free (wc := (v0_c_J5_pre_r cy )) hD hS hA [] rfl
    refine va_calli (va_runS (As := [.int (nI i9), .int 5, .ref f9]) (rest := []) ⟨hx, hb, hml, hown, hts⟩ (c_J5_pre_r l dC dI cy k i9 f9 h9 s.heap.size) (va_cwS 3 hts gJ0_checkIndex_df160_J3_checkIndex_8e157 rfl rfl rfl (by decide +kernel) ⟨Nat.le_of_ble_eq_true rfl, Nat.le_of_ble_eq_true rfl⟩) ⟨nb_blindE, fun U hU hW => ⟨rfl, ⟨by rw [hU], by rw [hU]; exact hPc, va_K.moved hW.alike hK, hDc.weaken (fun _ _ _ _ => trivial), hG.warm hW⟩, nE.to hE hS hW hU hFc⟩⟩ rfl rfl hl.1 rfl (lv_room (Nat.le_of_ble_eq_true rfl)) dJ0_checkIndex_df160_5 ⟨Nat.le_of_ble_eq_true rfl, Nat.le_of_ble_eq_true rfl⟩) hS (fun q _ h => hFc q h) hFc (fun r_2 u2 t H1 locs ht hvm hw hB hz1 hk1 hS => ?_)
    obtain ⟨hP1, hK1, hD1⟩ := hB
    rw [ht] at hP1
    obtain ⟨hP, hD⟩ := va_join (wr := []) (w1 := (v1_c_J5_pre_r cy  u2)) hP hD [] [] rfl rfl (by decide) (by decide) hk1 hFc hP1 hD1
    generalize H1 = H at hP hS ⊢
    have hP : va_P (dC, dI) nCl [] H := hP
    have hD : va_D A [] := hD
    refine lv_pop hx hb dJ0_checkIndex_df160_8 rfl ?_
    have hP : va_P (dC, dI) nCl (v1_c_J5_chk cy  (fun _ => 0)) H := hP
    have hD : va_D A (v1_c_J5_chk cy  (fun _ => 0)) := hD
    exact W.vret hx hb hr (fun t ht hW => ⟨⟨(fun _ => 0), rfl, trivial, by rw [ht]; exact hP, va_K.moved hW.alike hK, hD⟩, hS.F ht⟩) hS.2.2 dJ0_checkIndex_df160_9
def v0_c_J5_latin (cy : Nat → ClassId)  : va_W := []
def v1_c_J5_latin (cy : Nat → ClassId)  (r : Nat → Nat) : va_W := []
set_option maxHeartbeats 40000000 in
set_option maxRecDepth 100000 in
/-- StringLatin1.charAt -/
theorem c_J5_latin (l : Launch) (dC : Nat → ClassId) (dI : Nat → Nat → Nat) (cy : Nat → ClassId) (k : Nat → Nat)  (i9 : Nat) (h9 : i9 < 5) (sz : Nat) : Met l yJ1_charAt_3b067 wsJ1_charAt_3b067 ({ frames := 2, cells := 0, slots := 0, locals := 43 }) (va_Pc [.ref (k 11), .int (nI i9)] (nInE (dC, dI) cy k sz (v0_c_J5_latin cy ))) (va_Qi (fun (z : Int32) (_ : Nat → Nat) => z = sx5.getD i9 0 &&& 255) (fun r t => nOut (dC, dI) cy (va_A (v0_c_J5_latin cy ) sz) (v1_c_J5_latin cy  r) t) (va_A (v0_c_J5_latin cy ) sz)) 0 0 (va_A (v0_c_J5_latin cy ) sz) := by
  refine Met.ofW (cc := cJ1_charAt_3b067) (maxL := 2) (ret := (some .char)) (by decide) rfl ?_
  intro p e s m args below meth c s₁ B hml hv
  obtain ⟨rfl, ⟨hsz, hP, hK, hD0, hG⟩, hE⟩ := hv
  have hx := B.exec
  have hb := B.bytes
  have hr := B.returns
  have hts := atoms_spec (ws := wsJ1_charAt_3b067) B.pre
  have hown : s.vm.findClass RJ1 = some m.cls := findClass_of_methodNamed B.named
  have hlocks := B.notSynchronized
  subst hsz
  have hD := hD0.self (sz := s.heap.size)
  generalize hAe : va_A (v0_c_J5_latin cy ) s.heap.size = A at hD hE ⊢
  have hA : ∀ q : Nat, s.heap.size ≤ q → A q := fun q h => by rw [← hAe]; exact Or.inr h
  have hS : va_S A s.heap s.heap [] := va_S.rf
  have hP : va_P (dC, dI) nCl (v0_c_J5_latin cy ) s.heap := hP
  have hl := lv_entry ([.ref (k 11), .int (nI i9)]) (n := 2) (Nat.le_of_ble_eq_true rfl)
  rw [lg_entry_eq]
  generalize (lg_sl ([.ref (k 11), .int (nI i9)]) ++ List.replicate (2 - (lg_sl ([.ref (k 11), .int (nI i9)])).length) Slot.unset).toArray = ls at hl ⊢
  have hl : lv_has ls 2 [(0, .ref (k 11)), (1, .int (nI i9))] := hl
  have hP : va_P (dC, dI) nCl [] s.heap := hP
  have hD : va_D A [] := hD
  refine lv_iload_n hx hb dJ1_charAt_3b067_0 rfl (lv_at hl 1 rfl) ?_
  refine lv_aload_n hx hb dJ1_charAt_3b067_1 rfl (lv_at hl 0 rfl) ?_
  refine va_tlen hx hb (hE.2.2.1.1 5 (by decide)).2.2.2 hS (v := 5) rfl dJ1_charAt_3b067_2 ?_
  have hPc : va_P (dC, dI) nCl (v0_c_J5_chk cy ) s.heap := hP.sub (ws' := []) [] rfl
  have hDc : va_D A (v0_c_J5_chk cy ) := hD.sub (ws' := []) [] (by decide) rfl
  have hFc := va_free (wc := (v0_c_J5_chk cy )) hD hS hA [] rfl
  refine va_callv (va_runS (As := [.int (nI i9), .int 5]) (rest := []) ⟨hx, hb, hml, hown, hts⟩ (c_J5_chk l dC dI cy k i9 h9 s.heap.size) (va_cwS 2 hts gJ1_charAt_3b067_J0_checkIndex_df160 rfl rfl rfl (by decide +kernel) ⟨Nat.le_of_ble_eq_true rfl, Nat.le_of_ble_eq_true rfl⟩) ⟨nb_blindE, fun U hU hW => ⟨rfl, ⟨by rw [hU], by rw [hU]; exact hPc, va_K.moved hW.alike hK, hDc.weaken (fun _ _ _ _ => trivial), hG.warm hW⟩, nE.to hE hS hW hU hFc⟩⟩ rfl rfl hl.1 rfl (lv_room (Nat.le_of_ble_eq_true rfl)) dJ1_charAt_3b067_3 ⟨Nat.le_of_ble_eq_true rfl, Nat.le_of_ble_eq_true rfl⟩) hS (fun q _ h => hFc q h) hFc (fun u1 t H1 locs ht hvm hw hB hz1 hk1 hS => ?_)
  obtain ⟨hP1, hK1, hD1⟩ := hB
  rw [ht] at hP1
  obtain ⟨hP, hD⟩ := va_join (wr := []) (w1 := (v1_c_J5_chk cy  u1)) hP hD [] [] rfl rfl (by decide) (by decide) hk1 hFc hP1 hD1
  generalize H1 = H at hP hS ⊢
  have hP : va_P (dC, dI) nCl [] H := hP
  have hD : va_D A [] := hD
  refine lv_aload_n hx hb dJ1_charAt_3b067_6 rfl (lv_at hl 0 rfl) ?_
  refine lv_iload_n hx hb dJ1_charAt_3b067_7 rfl (lv_at hl 1 rfl) ?_
  refine va_tb hx hb (hE.2.2.1.1 5 (by decide)).2.2.2 hS (show vp_in (nI i9) 5 from vp_in_nI h9 (by omega)) (v := .int (sx5.getD i9 0)) (by rw [nI_clamp (by omega)]; rfl) dJ1_charAt_3b067_8 ?_
  refine lv_sipush (v := 255) hx hb dJ1_charAt_3b067_9 (by decide) ?_
  refine lv_iand hx hb dJ1_charAt_3b067_12 ?_
  refine lv_i2c (v := sx5.getD i9 0 &&& 255) hx hb dJ1_charAt_3b067_13 (sc_c2 _) ?_
  have hP : va_P (dC, dI) nCl (v1_c_J5_latin cy  (fun _ => 0)) H := hP
  have hD : va_D A (v1_c_J5_latin cy  (fun _ => 0)) := hD
  exact W.zret (v := (sx5.getD i9 0 &&& 255)) hx hb hr (sc_nar _) (fun t ht hW => ⟨⟨(sx5.getD i9 0 &&& 255), (fun _ => 0), rfl, rfl, by rw [ht]; exact hP, va_K.moved hW.alike hK, hD⟩, hS.F ht⟩) hS.2.2 dJ1_charAt_3b067_14
def v0_c_J5_charAt (cy : Nat → ClassId)  : va_W := []
def v1_c_J5_charAt (cy : Nat → ClassId)  (r : Nat → Nat) : va_W := []
set_option maxHeartbeats 40000000 in
set_option maxRecDepth 100000 in
/-- charAt(i) of the words' text -/
theorem c_J5_charAt (l : Launch) (dC : Nat → ClassId) (dI : Nat → Nat → Nat) (cy : Nat → ClassId) (k : Nat → Nat)  (i9 : Nat) (h9 : i9 < 5) (sz : Nat) : Met l yJ0_charAt_5068e wsJ0_charAt_5068e ({ frames := 3, cells := 0, slots := 0, locals := 64 }) (va_Pc [.ref (k 10), .int (nI i9)] (nInE (dC, dI) cy k sz (v0_c_J5_charAt cy ))) (va_Qi (fun (z : Int32) (_ : Nat → Nat) => z = sx5.getD i9 0 &&& 255) (fun r t => nOut (dC, dI) cy (va_A (v0_c_J5_charAt cy ) sz) (v1_c_J5_charAt cy  r) t) (va_A (v0_c_J5_charAt cy ) sz)) 0 0 (va_A (v0_c_J5_charAt cy ) sz) := by
  refine Met.ofW (cc := cJ0_charAt_5068e) (maxL := 2) (ret := (some .char)) (by decide) rfl ?_
  intro p e s m args below meth c s₁ B hml hv
  obtain ⟨rfl, ⟨hsz, hP, hK, hD0, hG⟩, hE⟩ := hv
  have hx := B.exec
  have hb := B.bytes
  have hr := B.returns
  have hts := atoms_spec (ws := wsJ0_charAt_5068e) B.pre
  have hown : s.vm.findClass RJ0 = some m.cls := findClass_of_methodNamed B.named
  have hlocks := B.notSynchronized
  subst hsz
  have hD := hD0.self (sz := s.heap.size)
  generalize hAe : va_A (v0_c_J5_charAt cy ) s.heap.size = A at hD hE ⊢
  have hA : ∀ q : Nat, s.heap.size ≤ q → A q := fun q h => by rw [← hAe]; exact Or.inr h
  have hS : va_S A s.heap s.heap [] := va_S.rf
  have hP : va_P (dC, dI) nCl (v0_c_J5_charAt cy ) s.heap := hP
  have hl := lv_entry ([.ref (k 10), .int (nI i9)]) (n := 2) (Nat.le_of_ble_eq_true rfl)
  rw [lg_entry_eq]
  generalize (lg_sl ([.ref (k 10), .int (nI i9)]) ++ List.replicate (2 - (lg_sl ([.ref (k 10), .int (nI i9)])).length) Slot.unset).toArray = ls at hl ⊢
  have hl : lv_has ls 2 [(0, .ref (k 10)), (1, .int (nI i9))] := hl
  have hP : va_P (dC, dI) nCl [] s.heap := hP
  have hD : va_D A [] := hD
  refine lv_aload_n hx hb dJ0_charAt_5068e_0 rfl (lv_at hl 0 rfl) ?_
  have hPc : va_P (dC, dI) nCl (v0_c_J5_isLatin1 cy ) s.heap := hP.sub (ws' := []) [] rfl
  have hDc : va_D A (v0_c_J5_isLatin1 cy ) := hD.sub (ws' := []) [] (by decide) rfl
  have hFc := va_free (wc := (v0_c_J5_isLatin1 cy )) hD hS hA [] rfl
  refine va_calli (va_runV (As := []) (rest := []) ⟨hx, hb, hml, hown, hts⟩ (c_J5_isLatin1 l dC dI cy k  s.heap.size) (cwV 0 hts gJ0_charAt_5068e_J0_isLatin1_aae02 rfl rfl rfl (by decide +kernel) ⟨Nat.le_of_ble_eq_true rfl, Nat.le_of_ble_eq_true rfl⟩) ⟨nb_blindE, (vk_recv (i := 5) hE.2.2.1 (by decide) hS), fun U hU hW => ⟨rfl, ⟨by rw [hU], by rw [hU]; exact hPc, va_K.moved hW.alike hK, hDc.weaken (fun _ _ _ _ => trivial), hG.warm hW⟩, nE.to hE hS hW hU hFc⟩⟩ rfl rfl hl.1 rfl (lv_room (Nat.le_of_ble_eq_true rfl)) dJ0_charAt_5068e_1 ⟨Nat.le_of_ble_eq_true rfl, Nat.le_of_ble_eq_true rfl⟩) hS (fun q _ h => hFc q h) hFc (fun r_1 u1 t H1 locs ht hvm hw hB hz1 hk1 hS => ?_)
  have hw : r_1 = 1 := hw.trans (by decide)
  subst hw
  obtain ⟨hP1, hK1, hD1⟩ := hB
  rw [ht] at hP1
  obtain ⟨hP, hD⟩ := va_join (wr := []) (w1 := (v1_c_J5_isLatin1 cy  u1)) hP hD [] [] rfl rfl (by decide) (by decide) hk1 hFc hP1 hD1
  generalize H1 = H at hP hS ⊢
  have hP : va_P (dC, dI) nCl [] H := hP
  have hD : va_D A [] := hD
  refine lv_if_eq (tgt := 16) hx hb dJ0_charAt_5068e_4 (by decide) (fun c1 => False.elim (by revert c1; decide)) (fun _ => ?_)
  refine lv_aload_n hx hb dJ0_charAt_5068e_7 rfl (lv_at hl 0 rfl) ?_
  refine vk_getf hx hb (hE.2.2.1.1 5 (by decide)).2.2.1 hS hown (hts _ (List.mem_cons_of_mem _ (List.mem_append_left _ (List.mem_of_getElem? (i := 0) rfl)))) (fun _ h9 => h9) dJ0_charAt_5068e_8 ?_
  refine lv_iload_n hx hb dJ0_charAt_5068e_11 rfl (lv_at hl 1 rfl) ?_
  have hPc : va_P (dC, dI) nCl (v0_c_J5_latin cy ) H := hP.sub (ws' := []) [] rfl
  have hDc : va_D A (v0_c_J5_latin cy ) := hD.sub (ws' := []) [] (by decide) rfl
  have hFc := va_free (wc := (v0_c_J5_latin cy )) hD hS hA [] rfl
  refine va_calli (va_runS (As := [.ref (k 11), .int (nI i9)]) (rest := []) ⟨hx, hb, hml, hown, hts⟩ (c_J5_latin l dC dI cy k i9 h9 H.size) (va_cwS 2 hts gJ0_charAt_5068e_J1_charAt_3b067 rfl rfl rfl (by decide +kernel) ⟨Nat.le_of_ble_eq_true rfl, Nat.le_of_ble_eq_true rfl⟩) ⟨nb_blindE, fun U hU hW => ⟨rfl, ⟨by rw [hU], by rw [hU]; exact hPc, va_K.moved hW.alike hK, hDc.weaken (fun _ _ _ _ => trivial), hG.warm hW⟩, nE.to hE hS hW hU hFc⟩⟩ rfl rfl hl.1 rfl (lv_room (Nat.le_of_ble_eq_true rfl)) dJ0_charAt_5068e_12 ⟨Nat.le_of_ble_eq_true rfl, Nat.le_of_ble_eq_true rfl⟩) hS (fun q _ h => hFc q h) hFc (fun r_2 u2 t H1 locs ht hvm hw hB hz1 hk1 hS => ?_)
  obtain ⟨hP1, hK1, hD1⟩ := hB
  rw [ht] at hP1
  obtain ⟨hP, hD⟩ := va_join (wr := []) (w1 := (v1_c_J5_latin cy  u2)) hP hD [] [] rfl rfl (by decide) (by decide) hk1 hFc hP1 hD1
  generalize H1 = H at hP hS ⊢
  have hP : va_P (dC, dI) nCl [] H := hP
  have hD : va_D A [] := hD
  subst hw
  have hP : va_P (dC, dI) nCl (v1_c_J5_charAt cy  (fun _ => 0)) H := hP
  have hD : va_D A (v1_c_J5_charAt cy  (fun _ => 0)) := hD
  exact W.zret (v := (sx5.getD i9 0 &&& 255)) hx hb hr (sc_nar _) (fun t ht hW => ⟨⟨(sx5.getD i9 0 &&& 255), (fun _ => 0), rfl, rfl, by rw [ht]; exact hP, va_K.moved hW.alike hK, hD⟩, hS.F ht⟩) hS.2.2 dJ0_charAt_5068e_15

def v0_c_J6_coder (cy : Nat → ClassId)  : va_W := []
def v1_c_J6_coder (cy : Nat → ClassId)  (r : Nat → Nat) : va_W := []
set_option maxHeartbeats 40000000 in
set_option maxRecDepth 100000 in
/-- coder() -/
theorem c_J6_coder (l : Launch) (dC : Nat → ClassId) (dI : Nat → Nat → Nat) (cy : Nat → ClassId) (k : Nat → Nat)  (sz : Nat) : Met l yJ0_coder_7d493 wsJ0_coder_7d493 ({ frames := 0, cells := 0, slots := 0, locals := 0 }) (va_Pc [.ref (k 12)] (nInE (dC, dI) cy k sz (v0_c_J6_coder cy ))) (va_Qi (fun (z : Int32) (_ : Nat → Nat) => z = 0) (fun r t => nOut (dC, dI) cy (va_A (v0_c_J6_coder cy ) sz) (v1_c_J6_coder cy  r) t) (va_A (v0_c_J6_coder cy ) sz)) 0 0 (va_A (v0_c_J6_coder cy ) sz) := by
  refine Met.ofW (cc := cJ0_coder_7d493) (maxL := 1) (ret := (some .byte)) (by decide) rfl ?_
  intro p e s m args below meth c s₁ B hml hv
  obtain ⟨rfl, ⟨hsz, hP, hK, hD0, hG⟩, hE⟩ := hv
  have hx := B.exec
  have hb := B.bytes
  have hr := B.returns
  have hts := atoms_spec (ws := wsJ0_coder_7d493) B.pre
  have hown : s.vm.findClass RJ0 = some m.cls := findClass_of_methodNamed B.named
  have hlocks := B.notSynchronized
  subst hsz
  have hD := hD0.self (sz := s.heap.size)
  generalize hAe : va_A (v0_c_J6_coder cy ) s.heap.size = A at hD hE ⊢
  have hA : ∀ q : Nat, s.heap.size ≤ q → A q := fun q h => by rw [← hAe]; exact Or.inr h
  have hS : va_S A s.heap s.heap [] := va_S.rf
  have hP : va_P (dC, dI) nCl (v0_c_J6_coder cy ) s.heap := hP
  have hl := lv_entry ([.ref (k 12)]) (n := 1) (Nat.le_of_ble_eq_true rfl)
  rw [lg_entry_eq]
  generalize (lg_sl ([.ref (k 12)]) ++ List.replicate (1 - (lg_sl ([.ref (k 12)])).length) Slot.unset).toArray = ls at hl ⊢
  have hl : lv_has ls 1 [(0, .ref (k 12))] := hl
  have hP : va_P (dC, dI) nCl [] s.heap := hP
  have hD : va_D A [] := hD
  refine va_gets hx hb hE.1 hS hown (hts _ (List.mem_cons_of_mem _ (List.mem_of_getElem? (i := 0) rfl))) (fun _ h9 => h9) dJ0_coder_7d493_0 ?_
  refine lv_if_eq (tgt := 13) hx hb dJ0_coder_7d493_3 (by decide) (fun c1 => False.elim (by revert c1; decide)) (fun _ => ?_)
  refine lv_aload_n hx hb dJ0_coder_7d493_6 rfl (lv_at hl 0 rfl) ?_
  refine vk_getf hx hb (hE.2.2.1.1 6 (by decide)).2.1 hS hown (hts _ (List.mem_cons_of_mem _ (List.mem_of_getElem? (i := 1) rfl))) (fun _ h9 => h9) dJ0_coder_7d493_7 ?_
  refine lv_goto (tgt := 14) hx hb dJ0_coder_7d493_10 (by decide) ?_
  have hP : va_P (dC, dI) nCl (v1_c_J6_coder cy  (fun _ => 0)) s.heap := hP
  have hD : va_D A (v1_c_J6_coder cy  (fun _ => 0)) := hD
  exact W.zret (v := 0) hx hb hr rfl (fun t ht hW => ⟨⟨0, (fun _ => 0), rfl, rfl, by rw [ht]; exact hP, va_K.moved hW.alike hK, hD⟩, hS.F ht⟩) hS.2.2 dJ0_coder_7d493_14
def v0_c_J6_len (cy : Nat → ClassId)  : va_W := []
def v1_c_J6_len (cy : Nat → ClassId)  (r : Nat → Nat) : va_W := []
set_option maxHeartbeats 40000000 in
set_option maxRecDepth 100000 in
/-- length() of the words' text -/
theorem c_J6_len (l : Launch) (dC : Nat → ClassId) (dI : Nat → Nat → Nat) (cy : Nat → ClassId) (k : Nat → Nat)  (sz : Nat) : Met l yJ0_length_8abf5 wsJ0_length_8abf5 ({ frames := 1, cells := 0, slots := 0, locals := 20 }) (va_Pc [.ref (k 12)] (nInE (dC, dI) cy k sz (v0_c_J6_len cy ))) (va_Qi (fun (z : Int32) (_ : Nat → Nat) => z = 3) (fun r t => nOut (dC, dI) cy (va_A (v0_c_J6_len cy ) sz) (v1_c_J6_len cy  r) t) (va_A (v0_c_J6_len cy ) sz)) 0 0 (va_A (v0_c_J6_len cy ) sz) := by
  refine Met.ofW (cc := cJ0_length_8abf5) (maxL := 1) (ret := (some .int)) (by decide) rfl ?_
  intro p e s m args below meth c s₁ B hml hv
  obtain ⟨rfl, ⟨hsz, hP, hK, hD0, hG⟩, hE⟩ := hv
  have hx := B.exec
  have hb := B.bytes
  have hr := B.returns
  have hts := atoms_spec (ws := wsJ0_length_8abf5) B.pre
  have hown : s.vm.findClass RJ0 = some m.cls := findClass_of_methodNamed B.named
  have hlocks := B.notSynchronized
  subst hsz
  have hD := hD0.self (sz := s.heap.size)
  generalize hAe : va_A (v0_c_J6_len cy ) s.heap.size = A at hD hE ⊢
  have hA : ∀ q : Nat, s.heap.size ≤ q → A q := fun q h => by rw [← hAe]; exact Or.inr h
  have hS : va_S A s.heap s.heap [] := va_S.rf
  have hP : va_P (dC, dI) nCl (v0_c_J6_len cy ) s.heap := hP
  have hl := lv_entry ([.ref (k 12)]) (n := 1) (Nat.le_of_ble_eq_true rfl)
  rw [lg_entry_eq]
  generalize (lg_sl ([.ref (k 12)]) ++ List.replicate (1 - (lg_sl ([.ref (k 12)])).length) Slot.unset).toArray = ls at hl ⊢
  have hl : lv_has ls 1 [(0, .ref (k 12))] := hl
  have hP : va_P (dC, dI) nCl [] s.heap := hP
  have hD : va_D A [] := hD
  refine lv_aload_n hx hb dJ0_length_8abf5_0 rfl (lv_at hl 0 rfl) ?_
  refine vk_getf hx hb (hE.2.2.1.1 6 (by decide)).2.2.1 hS hown (hts _ (List.mem_cons_of_mem _ (List.mem_of_getElem? (i := 0) rfl))) (fun _ h9 => h9) dJ0_length_8abf5_1 ?_
  refine va_tlen hx hb (hE.2.2.1.1 6 (by decide)).2.2.2 hS (v := 3) rfl dJ0_length_8abf5_4 ?_
  refine lv_aload_n hx hb dJ0_length_8abf5_5 rfl (lv_at hl 0 rfl) ?_
  have hPc : va_P (dC, dI) nCl (v0_c_J6_coder cy ) s.heap := hP.sub (ws' := []) [] rfl
  have hDc : va_D A (v0_c_J6_coder cy ) := hD.sub (ws' := []) [] (by decide) rfl
  have hFc := va_free (wc := (v0_c_J6_coder cy )) hD hS hA [] rfl
  refine va_calli (va_runV (As := []) (rest := [.int 3]) ⟨hx, hb, hml, hown, hts⟩ (c_J6_coder l dC dI cy k  s.heap.size) (cwV 0 hts gJ0_length_8abf5_J0_coder_7d493 rfl rfl rfl (by decide +kernel) ⟨Nat.le_of_ble_eq_true rfl, Nat.le_of_ble_eq_true rfl⟩) ⟨nb_blindE, (vk_recv (i := 6) hE.2.2.1 (by decide) hS), fun U hU hW => ⟨rfl, ⟨by rw [hU], by rw [hU]; exact hPc, va_K.moved hW.alike hK, hDc.weaken (fun _ _ _ _ => trivial), hG.warm hW⟩, nE.to hE hS hW hU hFc⟩⟩ rfl rfl hl.1 rfl (lv_room (Nat.le_of_ble_eq_true rfl)) dJ0_length_8abf5_6 ⟨Nat.le_of_ble_eq_true rfl, Nat.le_of_ble_eq_true rfl⟩) hS (fun q _ h => hFc q h) hFc (fun r_1 u1 t H1 locs ht hvm hw hB hz1 hk1 hS => ?_)
  have hw : r_1 = 0 := hw.trans (by decide)
  subst hw
  obtain ⟨hP1, hK1, hD1⟩ := hB
  rw [ht] at hP1
  obtain ⟨hP, hD⟩ := va_join (wr := []) (w1 := (v1_c_J6_coder cy  u1)) hP hD [] [] rfl rfl (by decide) (by decide) hk1 hFc hP1 hD1
  generalize H1 = H at hP hS ⊢
  have hP : va_P (dC, dI) nCl [] H := hP
  have hD : va_D A [] := hD
  refine lv_ishr hx hb dJ0_length_8abf5_9 ?_
  refine W.eq (g2 := F0 m 10 ls [.int 3]) rfl ?_
  have hP : va_P (dC, dI) nCl (v1_c_J6_len cy  (fun _ => 0)) H := hP
  have hD : va_D A (v1_c_J6_len cy  (fun _ => 0)) := hD
  exact W.iret (v := 3) hx hb hr (fun t ht hW => ⟨⟨3, (fun _ => 0), rfl, rfl, by rw [ht]; exact hP, va_K.moved hW.alike hK, hD⟩, hS.F ht⟩) hS.2.2 dJ0_length_8abf5_10
def v0_c_J6_isLatin1 (cy : Nat → ClassId)  : va_W := []
def v1_c_J6_isLatin1 (cy : Nat → ClassId)  (r : Nat → Nat) : va_W := []
set_option maxHeartbeats 40000000 in
set_option maxRecDepth 100000 in
/-- isLatin1() -/
theorem c_J6_isLatin1 (l : Launch) (dC : Nat → ClassId) (dI : Nat → Nat → Nat) (cy : Nat → ClassId) (k : Nat → Nat)  (sz : Nat) : Met l yJ0_isLatin1_aae02 wsJ0_isLatin1_aae02 ({ frames := 0, cells := 0, slots := 0, locals := 0 }) (va_Pc [.ref (k 12)] (nInE (dC, dI) cy k sz (v0_c_J6_isLatin1 cy ))) (va_Qi (fun (z : Int32) (_ : Nat → Nat) => z = 1) (fun r t => nOut (dC, dI) cy (va_A (v0_c_J6_isLatin1 cy ) sz) (v1_c_J6_isLatin1 cy  r) t) (va_A (v0_c_J6_isLatin1 cy ) sz)) 0 0 (va_A (v0_c_J6_isLatin1 cy ) sz) := by
  refine Met.ofW (cc := cJ0_isLatin1_aae02) (maxL := 1) (ret := (some .boolean)) (by decide) rfl ?_
  intro p e s m args below meth c s₁ B hml hv
  obtain ⟨rfl, ⟨hsz, hP, hK, hD0, hG⟩, hE⟩ := hv
  have hx := B.exec
  have hb := B.bytes
  have hr := B.returns
  have hts := atoms_spec (ws := wsJ0_isLatin1_aae02) B.pre
  have hown : s.vm.findClass RJ0 = some m.cls := findClass_of_methodNamed B.named
  have hlocks := B.notSynchronized
  subst hsz
  have hD := hD0.self (sz := s.heap.size)
  generalize hAe : va_A (v0_c_J6_isLatin1 cy ) s.heap.size = A at hD hE ⊢
  have hA : ∀ q : Nat, s.heap.size ≤ q → A q := fun q h => by rw [← hAe]; exact Or.inr h
  have hS : va_S A s.heap s.heap [] := va_S.rf
  have hP : va_P (dC, dI) nCl (v0_c_J6_isLatin1 cy ) s.heap := hP
  have hl := lv_entry ([.ref (k 12)]) (n := 1) (Nat.le_of_ble_eq_true rfl)
  rw [lg_entry_eq]
  generalize (lg_sl ([.ref (k 12)]) ++ List.replicate (1 - (lg_sl ([.ref (k 12)])).length) Slot.unset).toArray = ls at hl ⊢
  have hl : lv_has ls 1 [(0, .ref (k 12))] := hl
  have hP : va_P (dC, dI) nCl [] s.heap := hP
  have hD : va_D A [] := hD
  refine va_gets hx hb hE.1 hS hown (hts _ (List.mem_cons_of_mem _ (List.mem_of_getElem? (i := 0) rfl))) (fun _ h9 => h9) dJ0_isLatin1_aae02_0 ?_
  refine lv_if_eq (tgt := 17) hx hb dJ0_isLatin1_aae02_3 (by decide) (fun c1 => False.elim (by revert c1; decide)) (fun _ => ?_)
  refine lv_aload_n hx hb dJ0_isLatin1_aae02_6 rfl (lv_at hl 0 rfl) ?_
  refine vk_getf hx hb (hE.2.2.1.1 6 (by decide)).2.1 hS hown (hts _ (List.mem_cons_of_mem _ (List.mem_of_getElem? (i := 1) rfl))) (fun _ h9 => h9) dJ0_isLatin1_aae02_7 ?_
  refine lv_if_ne (tgt := 17) hx hb dJ0_isLatin1_aae02_10 (by decide) (fun c1 => False.elim (by revert c1; decide)) (fun _ => ?_)
  refine lv_iconst (v := 1) hx hb dJ0_isLatin1_aae02_13 (by decide) ?_
  refine lv_goto (tgt := 18) hx hb dJ0_isLatin1_aae02_14 (by decide) ?_
  have hP : va_P (dC, dI) nCl (v1_c_J6_isLatin1 cy  (fun _ => 0)) s.heap := hP
  have hD : va_D A (v1_c_J6_isLatin1 cy  (fun _ => 0)) := hD
  exact W.zret (v := 1) hx hb hr rfl (fun t ht hW => ⟨⟨1, (fun _ => 0), rfl, rfl, by rw [ht]; exact hP, va_K.moved hW.alike hK, hD⟩, hS.F ht⟩) hS.2.2 dJ0_isLatin1_aae02_18
def v0_c_J6_pre_n (cy : Nat → ClassId)  : va_W := []
def v1_c_J6_pre_n (cy : Nat → ClassId)  (r : Nat → Nat) : va_W := []
set_option maxHeartbeats 40000000 in
set_option maxRecDepth 100000 in
/-- checkIndex(i, 3, f) -/
theorem c_J6_pre_n (l : Launch) (dC : Nat → ClassId) (dI : Nat → Nat → Nat) (cy : Nat → ClassId) (k : Nat → Nat)  (i9 : Nat) (h9 : i9 < 3) (sz : Nat) : Met l yJ3_checkIndex_8e157 wsJ3_checkIndex_8e157 ({ frames := 0, cells := 0, slots := 0, locals := 0 }) (va_Pc [.int (nI i9), .int 3, .null] (nInE (dC, dI) cy k sz (v0_c_J6_pre_n cy ))) (va_Qi (fun (z : Int32) (_ : Nat → Nat) => z = nI i9) (fun r t => nOut (dC, dI) cy (va_A (v0_c_J6_pre_n cy ) sz) (v1_c_J6_pre_n cy  r) t) (va_A (v0_c_J6_pre_n cy ) sz)) 0 0 (va_A (v0_c_J6_pre_n cy ) sz) := by
  refine Met.ofW (cc := cJ3_checkIndex_8e157) (maxL := 3) (ret := (some .int)) (by decide) rfl ?_
  intro p e s m args below meth c s₁ B hml hv
  obtain ⟨rfl, ⟨hsz, hP, hK, hD0, hG⟩, hE⟩ := hv
  have hx := B.exec
  have hb := B.bytes
  have hr := B.returns
  have hts := atoms_spec (ws := wsJ3_checkIndex_8e157) B.pre
  have hown : s.vm.findClass RJ3 = some m.cls := findClass_of_methodNamed B.named
  have hlocks := B.notSynchronized
  subst hsz
  have hD := hD0.self (sz := s.heap.size)
  generalize hAe : va_A (v0_c_J6_pre_n cy ) s.heap.size = A at hD hE ⊢
  have hA : ∀ q : Nat, s.heap.size ≤ q → A q := fun q h => by rw [← hAe]; exact Or.inr h
  have hS : va_S A s.heap s.heap [] := va_S.rf
  have hP : va_P (dC, dI) nCl (v0_c_J6_pre_n cy ) s.heap := hP
  have hl := lv_entry ([.int (nI i9), .int 3, .null]) (n := 3) (Nat.le_of_ble_eq_true rfl)
  rw [lg_entry_eq]
  generalize (lg_sl ([.int (nI i9), .int 3, .null]) ++ List.replicate (3 - (lg_sl ([.int (nI i9), .int 3, .null])).length) Slot.unset).toArray = ls at hl ⊢
  have hl : lv_has ls 3 [(0, .int (nI i9)), (1, .int 3), (2, .null)] := hl
  have hP : va_P (dC, dI) nCl [] s.heap := hP
  have hD : va_D A [] := hD
  refine lv_iload_n hx hb dJ3_checkIndex_8e157_0 rfl (lv_at hl 0 rfl) ?_
  refine lv_if_lt (tgt := 9) hx hb dJ3_checkIndex_8e157_1 (by decide) (fun c1 => absurd c1 (nI_pos (by omega))) (fun _ => ?_)
  refine lv_iload_n hx hb dJ3_checkIndex_8e157_4 rfl (lv_at hl 0 rfl) ?_
  refine lv_iload_n hx hb dJ3_checkIndex_8e157_5 rfl (lv_at hl 1 rfl) ?_
  refine lv_icmp_lt (tgt := 16) hx hb dJ3_checkIndex_8e157_6 (by decide) (fun _ => ?_) (fun c1 => absurd (nI_lt (b := 3) h9 (by omega)) c1)
  refine lv_iload_n hx hb dJ3_checkIndex_8e157_16 rfl (lv_at hl 0 rfl) ?_
  have hP : va_P (dC, dI) nCl (v1_c_J6_pre_n cy  (fun _ => 0)) s.heap := hP
  have hD : va_D A (v1_c_J6_pre_n cy  (fun _ => 0)) := hD
  exact W.iret (v := (nI i9)) hx hb hr (fun t ht hW => ⟨⟨(nI i9), (fun _ => 0), rfl, rfl, by rw [ht]; exact hP, va_K.moved hW.alike hK, hD⟩, hS.F ht⟩) hS.2.2 dJ3_checkIndex_8e157_17
def v0_c_J6_pre_r (cy : Nat → ClassId)  : va_W := []
def v1_c_J6_pre_r (cy : Nat → ClassId)  (r : Nat → Nat) : va_W := []
set_option maxHeartbeats 40000000 in
set_option maxRecDepth 100000 in
/-- checkIndex(i, 3, f) -/
theorem c_J6_pre_r (l : Launch) (dC : Nat → ClassId) (dI : Nat → Nat → Nat) (cy : Nat → ClassId) (k : Nat → Nat)  (i9 : Nat) (f9 : Nat) (h9 : i9 < 3) (sz : Nat) : Met l yJ3_checkIndex_8e157 wsJ3_checkIndex_8e157 ({ frames := 0, cells := 0, slots := 0, locals := 0 }) (va_Pc [.int (nI i9), .int 3, .ref f9] (nInE (dC, dI) cy k sz (v0_c_J6_pre_r cy ))) (va_Qi (fun (z : Int32) (_ : Nat → Nat) => z = nI i9) (fun r t => nOut (dC, dI) cy (va_A (v0_c_J6_pre_r cy ) sz) (v1_c_J6_pre_r cy  r) t) (va_A (v0_c_J6_pre_r cy ) sz)) 0 0 (va_A (v0_c_J6_pre_r cy ) sz) := by
  refine Met.ofW (cc := cJ3_checkIndex_8e157) (maxL := 3) (ret := (some .int)) (by decide) rfl ?_
  intro p e s m args below meth c s₁ B hml hv
  obtain ⟨rfl, ⟨hsz, hP, hK, hD0, hG⟩, hE⟩ := hv
  have hx := B.exec
  have hb := B.bytes
  have hr := B.returns
  have hts := atoms_spec (ws := wsJ3_checkIndex_8e157) B.pre
  have hown : s.vm.findClass RJ3 = some m.cls := findClass_of_methodNamed B.named
  have hlocks := B.notSynchronized
  subst hsz
  have hD := hD0.self (sz := s.heap.size)
  generalize hAe : va_A (v0_c_J6_pre_r cy ) s.heap.size = A at hD hE ⊢
  have hA : ∀ q : Nat, s.heap.size ≤ q → A q := fun q h => by rw [← hAe]; exact Or.inr h
  have hS : va_S A s.heap s.heap [] := va_S.rf
  have hP : va_P (dC, dI) nCl (v0_c_J6_pre_r cy ) s.heap := hP
  have hl := lv_entry ([.int (nI i9), .int 3, .ref f9]) (n := 3) (Nat.le_of_ble_eq_true rfl)
  rw [lg_entry_eq]
  generalize (lg_sl ([.int (nI i9), .int 3, .ref f9]) ++ List.replicate (3 - (lg_sl ([.int (nI i9), .int 3, .ref f9])).length) Slot.unset).toArray = ls at hl ⊢
  have hl : lv_has ls 3 [(0, .int (nI i9)), (1, .int 3), (2, .ref f9)] := hl
  have hP : va_P (dC, dI) nCl [] s.heap := hP
  have hD : va_D A [] := hD
  refine lv_iload_n hx hb dJ3_checkIndex_8e157_0 rfl (lv_at hl 0 rfl) ?_
  refine lv_if_lt (tgt := 9) hx hb dJ3_checkIndex_8e157_1 (by decide) (fun c1 => absurd c1 (nI_pos (by omega))) (fun _ => ?_)
  refine lv_iload_n hx hb dJ3_checkIndex_8e157_4 rfl (lv_at hl 0 rfl) ?_
  refine lv_iload_n hx hb dJ3_checkIndex_8e157_5 rfl (lv_at hl 1 rfl) ?_
  refine lv_icmp_lt (tgt := 16) hx hb dJ3_checkIndex_8e157_6 (by decide) (fun _ => ?_) (fun c1 => absurd (nI_lt (b := 3) h9 (by omega)) c1)
  refine lv_iload_n hx hb dJ3_checkIndex_8e157_16 rfl (lv_at hl 0 rfl) ?_
  have hP : va_P (dC, dI) nCl (v1_c_J6_pre_r cy  (fun _ => 0)) s.heap := hP
  have hD : va_D A (v1_c_J6_pre_r cy  (fun _ => 0)) := hD
  exact W.iret (v := (nI i9)) hx hb hr (fun t ht hW => ⟨⟨(nI i9), (fun _ => 0), rfl, rfl, by rw [ht]; exact hP, va_K.moved hW.alike hK, hD⟩, hS.F ht⟩) hS.2.2 dJ3_checkIndex_8e157_17
def v0_c_J6_chk (cy : Nat → ClassId)  : va_W := []
def v1_c_J6_chk (cy : Nat → ClassId)  (r : Nat → Nat) : va_W := []
set_option maxHeartbeats 40000000 in
set_option maxRecDepth 100000 in
/-- String.checkIndex(i, 3) -/
theorem c_J6_chk (l : Launch) (dC : Nat → ClassId) (dI : Nat → Nat → Nat) (cy : Nat → ClassId) (k : Nat → Nat)  (i9 : Nat) (h9 : i9 < 3) (sz : Nat) : Met l yJ0_checkIndex_df160 wsJ0_checkIndex_df160 ({ frames := 1, cells := 0, slots := 0, locals := 22 }) (va_Pc [.int (nI i9), .int 3] (nInE (dC, dI) cy k sz (v0_c_J6_chk cy ))) (va_Qv (fun _ : Nat → Nat => True) (fun r t => nOut (dC, dI) cy (va_A (v0_c_J6_chk cy ) sz) (v1_c_J6_chk cy  r) t) (va_A (v0_c_J6_chk cy ) sz)) 0 0 (va_A (v0_c_J6_chk cy ) sz) := by
  refine Met.ofW (cc := cJ0_checkIndex_df160) (maxL := 2) (ret := none) (by decide) rfl ?_
  intro p e s m args below meth c s₁ B hml hv
  obtain ⟨rfl, ⟨hsz, hP, hK, hD0, hG⟩, hE⟩ := hv
  have hx := B.exec
  have hb := B.bytes
  have hr := B.returns
  have hts := atoms_spec (ws := wsJ0_checkIndex_df160) B.pre
  have hown : s.vm.findClass RJ0 = some m.cls := findClass_of_methodNamed B.named
  have hlocks := B.notSynchronized
  subst hsz
  have hD := hD0.self (sz := s.heap.size)
  generalize hAe : va_A (v0_c_J6_chk cy ) s.heap.size = A at hD hE ⊢
  have hA : ∀ q : Nat, s.heap.size ≤ q → A q := fun q h => by rw [← hAe]; exact Or.inr h
  have hS : va_S A s.heap s.heap [] := va_S.rf
  have hP : va_P (dC, dI) nCl (v0_c_J6_chk cy ) s.heap := hP
  have hl := lv_entry ([.int (nI i9), .int 3]) (n := 2) (Nat.le_of_ble_eq_true rfl)
  rw [lg_entry_eq]
  generalize (lg_sl ([.int (nI i9), .int 3]) ++ List.replicate (2 - (lg_sl ([.int (nI i9), .int 3])).length) Slot.unset).toArray = ls at hl ⊢
  have hl : lv_has ls 2 [(0, .int (nI i9)), (1, .int 3)] := hl
  have hP : va_P (dC, dI) nCl [] s.heap := hP
  have hD : va_D A [] := hD
  refine lv_iload_n hx hb dJ0_checkIndex_df160_0 rfl (lv_at hl 0 rfl) ?_
  refine lv_iload_n hx hb dJ0_checkIndex_df160_1 rfl (lv_at hl 1 rfl) ?_
  rcases hE.2.1 with hZ | ⟨f9, hZ⟩
  · refine va_gets hx hb hZ hS hown (hts _ (List.mem_cons_of_mem _ (List.mem_of_getElem? (i := 0) rfl))) (fun _ h9 => h9) dJ0_checkIndex_df160_2 ?_
    have hPc : va_P (dC, dI) nCl (v0_c_J6_pre_n cy ) s.heap := hP.sub (ws' := []) [] rfl
    have hDc : va_D A (v0_c_J6_pre_n cy ) := hD.sub (ws' := []) [] (by decide) rfl
    have hFc := va_free (wc := (v0_c_J6_pre_n cy )) hD hS hA [] rfl
    refine va_calli (va_runS (As := [.int (nI i9), .int 3, .null]) (rest := []) ⟨hx, hb, hml, hown, hts⟩ (c_J6_pre_n l dC dI cy k i9 h9 s.heap.size) (va_cwS 3 hts gJ0_checkIndex_df160_J3_checkIndex_8e157 rfl rfl rfl (by decide +kernel) ⟨Nat.le_of_ble_eq_true rfl, Nat.le_of_ble_eq_true rfl⟩) ⟨nb_blindE, fun U hU hW => ⟨rfl, ⟨by rw [hU], by rw [hU]; exact hPc, va_K.moved hW.alike hK, hDc.weaken (fun _ _ _ _ => trivial), hG.warm hW⟩, nE.to hE hS hW hU hFc⟩⟩ rfl rfl hl.1 rfl (lv_room (Nat.le_of_ble_eq_true rfl)) dJ0_checkIndex_df160_5 ⟨Nat.le_of_ble_eq_true rfl, Nat.le_of_ble_eq_true rfl⟩) hS (fun q _ h => hFc q h) hFc (fun r_1 u1 t H1 locs ht hvm hw hB hz1 hk1 hS => ?_)
    obtain ⟨hP1, hK1, hD1⟩ := hB
    rw [ht] at hP1
    obtain ⟨hP, hD⟩ := va_join (wr := []) (w1 := (v1_c_J6_pre_n cy  u1)) hP hD [] [] rfl rfl (by decide) (by decide) hk1 hFc hP1 hD1
    generalize H1 = H at hP hS ⊢
    have hP : va_P (dC, dI) nCl [] H := hP
    have hD : va_D A [] := hD
    refine lv_pop hx hb dJ0_checkIndex_df160_8 rfl ?_
    exact W.vret hx hb hr (fun t ht hW => ⟨⟨(fun _ => 0), rfl, trivial, by rw [ht]; exact hP, va_K.moved hW.alike hK, hD⟩, hS.F ht⟩) hS.2.2 dJ0_checkIndex_df160_9
  · refine va_gets hx hb hZ hS hown (hts _ (List.mem_cons_of_mem _ (List.mem_of_getElem? (i := 0) rfl))) (fun _ h9 => h9) dJ0_checkIndex_df160_2 ?_
    have hPc : va_P (dC, dI) nCl (v0_c_J6_pre_r cy ) s.heap := hP.sub (ws' := []) [] rfl
    have hDc : va_D A (v0_c_J6_pre_r cy ) := hD.sub (ws' := []) [] (by decide) rfl
    have hFc := va_free (wc := (v0_c_J6_pre_r cy )) hD hS hA [] rfl
    refine va_calli (va_runS (As := [.int (nI i9), .int 3, .ref f9]) (rest := []) ⟨hx, hb, hml, hown, hts⟩ (c_J6_pre_r l dC dI cy k i9 f9 h9 s.heap.size) (va_cwS 3 hts gJ0_checkIndex_df160_J3_checkIndex_8e157 rfl rfl rfl (by decide +kernel) ⟨Nat.le_of_ble_eq_true rfl, Nat.le_of_ble_eq_true rfl⟩) ⟨nb_blindE, fun U hU hW => ⟨rfl, ⟨by rw [hU], by rw [hU]; exact hPc, va_K.moved hW.alike hK, hDc.weaken (fun _ _ _ _ => trivial), hG.warm hW⟩, nE.to hE hS hW hU hFc⟩⟩ rfl rfl hl.1 rfl (lv_room (Nat.le_of_ble_eq_true rfl)) dJ0_checkIndex_df160_5 ⟨Nat.le_of_ble_eq_true rfl, Nat.le_of_ble_eq_true rfl⟩) hS (fun q _ h => hFc q h) hFc (fun r_2 u2 t H1 locs ht hvm hw hB hz1 hk1 hS => ?_)
    obtain ⟨hP1, hK1, hD1⟩ := hB
    rw [ht] at hP1
    obtain ⟨hP, hD⟩ := va_join (wr := []) (w1 := (v1_c_J6_pre_r cy  u2)) hP hD [] [] rfl rfl (by decide) (by decide) hk1 hFc hP1 hD1
    generalize H1 = H at hP hS ⊢
    have hP : va_P (dC, dI) nCl [] H := hP
    have hD : va_D A [] := hD
    refine lv_pop hx hb dJ0_checkIndex_df160_8 rfl ?_
    have hP : va_P (dC, dI) nCl (v1_c_J6_chk cy  (fun _ => 0)) H := hP
    have hD : va_D A (v1_c_J6_chk cy  (fun _ => 0)) := hD
    exact W.vret hx hb hr (fun t ht hW => ⟨⟨(fun _ => 0), rfl, trivial, by rw [ht]; exact hP, va_K.moved hW.alike hK, hD⟩, hS.F ht⟩) hS.2.2 dJ0_checkIndex_df160_9
def v0_c_J6_latin (cy : Nat → ClassId)  : va_W := []
def v1_c_J6_latin (cy : Nat → ClassId)  (r : Nat → Nat) : va_W := []
set_option maxHeartbeats 40000000 in
set_option maxRecDepth 100000 in
/-- StringLatin1.charAt -/
theorem c_J6_latin (l : Launch) (dC : Nat → ClassId) (dI : Nat → Nat → Nat) (cy : Nat → ClassId) (k : Nat → Nat)  (i9 : Nat) (h9 : i9 < 3) (sz : Nat) : Met l yJ1_charAt_3b067 wsJ1_charAt_3b067 ({ frames := 2, cells := 0, slots := 0, locals := 43 }) (va_Pc [.ref (k 13), .int (nI i9)] (nInE (dC, dI) cy k sz (v0_c_J6_latin cy ))) (va_Qi (fun (z : Int32) (_ : Nat → Nat) => z = sx6.getD i9 0 &&& 255) (fun r t => nOut (dC, dI) cy (va_A (v0_c_J6_latin cy ) sz) (v1_c_J6_latin cy  r) t) (va_A (v0_c_J6_latin cy ) sz)) 0 0 (va_A (v0_c_J6_latin cy ) sz) := by
  refine Met.ofW (cc := cJ1_charAt_3b067) (maxL := 2) (ret := (some .char)) (by decide) rfl ?_
  intro p e s m args below meth c s₁ B hml hv
  obtain ⟨rfl, ⟨hsz, hP, hK, hD0, hG⟩, hE⟩ := hv
  have hx := B.exec
  have hb := B.bytes
  have hr := B.returns
  have hts := atoms_spec (ws := wsJ1_charAt_3b067) B.pre
  have hown : s.vm.findClass RJ1 = some m.cls := findClass_of_methodNamed B.named
  have hlocks := B.notSynchronized
  subst hsz
  have hD := hD0.self (sz := s.heap.size)
  generalize hAe : va_A (v0_c_J6_latin cy ) s.heap.size = A at hD hE ⊢
  have hA : ∀ q : Nat, s.heap.size ≤ q → A q := fun q h => by rw [← hAe]; exact Or.inr h
  have hS : va_S A s.heap s.heap [] := va_S.rf
  have hP : va_P (dC, dI) nCl (v0_c_J6_latin cy ) s.heap := hP
  have hl := lv_entry ([.ref (k 13), .int (nI i9)]) (n := 2) (Nat.le_of_ble_eq_true rfl)
  rw [lg_entry_eq]
  generalize (lg_sl ([.ref (k 13), .int (nI i9)]) ++ List.replicate (2 - (lg_sl ([.ref (k 13), .int (nI i9)])).length) Slot.unset).toArray = ls at hl ⊢
  have hl : lv_has ls 2 [(0, .ref (k 13)), (1, .int (nI i9))] := hl
  have hP : va_P (dC, dI) nCl [] s.heap := hP
  have hD : va_D A [] := hD
  refine lv_iload_n hx hb dJ1_charAt_3b067_0 rfl (lv_at hl 1 rfl) ?_
  refine lv_aload_n hx hb dJ1_charAt_3b067_1 rfl (lv_at hl 0 rfl) ?_
  refine va_tlen hx hb (hE.2.2.1.1 6 (by decide)).2.2.2 hS (v := 3) rfl dJ1_charAt_3b067_2 ?_
  have hPc : va_P (dC, dI) nCl (v0_c_J6_chk cy ) s.heap := hP.sub (ws' := []) [] rfl
  have hDc : va_D A (v0_c_J6_chk cy ) := hD.sub (ws' := []) [] (by decide) rfl
  have hFc := va_free (wc := (v0_c_J6_chk cy )) hD hS hA [] rfl
  refine va_callv (va_runS (As := [.int (nI i9), .int 3]) (rest := []) ⟨hx, hb, hml, hown, hts⟩ (c_J6_chk l dC dI cy k i9 h9 s.heap.size) (va_cwS 2 hts gJ1_charAt_3b067_J0_checkIndex_df160 rfl rfl rfl (by decide +kernel) ⟨Nat.le_of_ble_eq_true rfl, Nat.le_of_ble_eq_true rfl⟩) ⟨nb_blindE, fun U hU hW => ⟨rfl, ⟨by rw [hU], by rw [hU]; exact hPc, va_K.moved hW.alike hK, hDc.weaken (fun _ _ _ _ => trivial), hG.warm hW⟩, nE.to hE hS hW hU hFc⟩⟩ rfl rfl hl.1 rfl (lv_room (Nat.le_of_ble_eq_true rfl)) dJ1_charAt_3b067_3 ⟨Nat.le_of_ble_eq_true rfl, Nat.le_of_ble_eq_true rfl⟩) hS (fun q _ h => hFc q h) hFc (fun u1 t H1 locs ht hvm hw hB hz1 hk1 hS => ?_)
  obtain ⟨hP1, hK1, hD1⟩ := hB
  rw [ht] at hP1
  obtain ⟨hP, hD⟩ := va_join (wr := []) (w1 := (v1_c_J6_chk cy  u1)) hP hD [] [] rfl rfl (by decide) (by decide) hk1 hFc hP1 hD1
  generalize H1 = H at hP hS ⊢
  have hP : va_P (dC, dI) nCl [] H := hP
  have hD : va_D A [] := hD
  refine lv_aload_n hx hb dJ1_charAt_3b067_6 rfl (lv_at hl 0 rfl) ?_
  refine lv_iload_n hx hb dJ1_charAt_3b067_7 rfl (lv_at hl 1 rfl) ?_
  refine va_tb hx hb (hE.2.2.1.1 6 (by decide)).2.2.2 hS (show vp_in (nI i9) 3 from vp_in_nI h9 (by omega)) (v := .int (sx6.getD i9 0)) (by rw [nI_clamp (by omega)]; rfl) dJ1_charAt_3b067_8 ?_
  refine lv_sipush (v := 255) hx hb dJ1_charAt_3b067_9 (by decide) ?_
  refine lv_iand hx hb dJ1_charAt_3b067_12 ?_
  refine lv_i2c (v := sx6.getD i9 0 &&& 255) hx hb dJ1_charAt_3b067_13 (sc_c2 _) ?_
  have hP : va_P (dC, dI) nCl (v1_c_J6_latin cy  (fun _ => 0)) H := hP
  have hD : va_D A (v1_c_J6_latin cy  (fun _ => 0)) := hD
  exact W.zret (v := (sx6.getD i9 0 &&& 255)) hx hb hr (sc_nar _) (fun t ht hW => ⟨⟨(sx6.getD i9 0 &&& 255), (fun _ => 0), rfl, rfl, by rw [ht]; exact hP, va_K.moved hW.alike hK, hD⟩, hS.F ht⟩) hS.2.2 dJ1_charAt_3b067_14
def v0_c_J6_charAt (cy : Nat → ClassId)  : va_W := []
def v1_c_J6_charAt (cy : Nat → ClassId)  (r : Nat → Nat) : va_W := []
set_option maxHeartbeats 40000000 in
set_option maxRecDepth 100000 in
/-- charAt(i) of the words' text -/
theorem c_J6_charAt (l : Launch) (dC : Nat → ClassId) (dI : Nat → Nat → Nat) (cy : Nat → ClassId) (k : Nat → Nat)  (i9 : Nat) (h9 : i9 < 3) (sz : Nat) : Met l yJ0_charAt_5068e wsJ0_charAt_5068e ({ frames := 3, cells := 0, slots := 0, locals := 64 }) (va_Pc [.ref (k 12), .int (nI i9)] (nInE (dC, dI) cy k sz (v0_c_J6_charAt cy ))) (va_Qi (fun (z : Int32) (_ : Nat → Nat) => z = sx6.getD i9 0 &&& 255) (fun r t => nOut (dC, dI) cy (va_A (v0_c_J6_charAt cy ) sz) (v1_c_J6_charAt cy  r) t) (va_A (v0_c_J6_charAt cy ) sz)) 0 0 (va_A (v0_c_J6_charAt cy ) sz) := by
  refine Met.ofW (cc := cJ0_charAt_5068e) (maxL := 2) (ret := (some .char)) (by decide) rfl ?_
  intro p e s m args below meth c s₁ B hml hv
  obtain ⟨rfl, ⟨hsz, hP, hK, hD0, hG⟩, hE⟩ := hv
  have hx := B.exec
  have hb := B.bytes
  have hr := B.returns
  have hts := atoms_spec (ws := wsJ0_charAt_5068e) B.pre
  have hown : s.vm.findClass RJ0 = some m.cls := findClass_of_methodNamed B.named
  have hlocks := B.notSynchronized
  subst hsz
  have hD := hD0.self (sz := s.heap.size)
  generalize hAe : va_A (v0_c_J6_charAt cy ) s.heap.size = A at hD hE ⊢
  have hA : ∀ q : Nat, s.heap.size ≤ q → A q := fun q h => by rw [← hAe]; exact Or.inr h
  have hS : va_S A s.heap s.heap [] := va_S.rf
  have hP : va_P (dC, dI) nCl (v0_c_J6_charAt cy ) s.heap := hP
  have hl := lv_entry ([.ref (k 12), .int (nI i9)]) (n := 2) (Nat.le_of_ble_eq_true rfl)
  rw [lg_entry_eq]
  generalize (lg_sl ([.ref (k 12), .int (nI i9)]) ++ List.replicate (2 - (lg_sl ([.ref (k 12), .int (nI i9)])).length) Slot.unset).toArray = ls at hl ⊢
  have hl : lv_has ls 2 [(0, .ref (k 12)), (1, .int (nI i9))] := hl
  have hP : va_P (dC, dI) nCl [] s.heap := hP
  have hD : va_D A [] := hD
  refine lv_aload_n hx hb dJ0_charAt_5068e_0 rfl (lv_at hl 0 rfl) ?_
  have hPc : va_P (dC, dI) nCl (v0_c_J6_isLatin1 cy ) s.heap := hP.sub (ws' := []) [] rfl
  have hDc : va_D A (v0_c_J6_isLatin1 cy ) := hD.sub (ws' := []) [] (by decide) rfl
  have hFc := va_free (wc := (v0_c_J6_isLatin1 cy )) hD hS hA [] rfl
  refine va_calli (va_runV (As := []) (rest := []) ⟨hx, hb, hml, hown, hts⟩ (c_J6_isLatin1 l dC dI cy k  s.heap.size) (cwV 0 hts gJ0_charAt_5068e_J0_isLatin1_aae02 rfl rfl rfl (by decide +kernel) ⟨Nat.le_of_ble_eq_true rfl, Nat.le_of_ble_eq_true rfl⟩) ⟨nb_blindE, (vk_recv (i := 6) hE.2.2.1 (by decide) hS), fun U hU hW => ⟨rfl, ⟨by rw [hU], by rw [hU]; exact hPc, va_K.moved hW.alike hK, hDc.weaken (fun _ _ _ _ => trivial), hG.warm hW⟩, nE.to hE hS hW hU hFc⟩⟩ rfl rfl hl.1 rfl (lv_room (Nat.le_of_ble_eq_true rfl)) dJ0_charAt_5068e_1 ⟨Nat.le_of_ble_eq_true rfl, Nat.le_of_ble_eq_true rfl⟩) hS (fun q _ h => hFc q h) hFc (fun r_1 u1 t H1 locs ht hvm hw hB hz1 hk1 hS => ?_)
  have hw : r_1 = 1 := hw.trans (by decide)
  subst hw
  obtain ⟨hP1, hK1, hD1⟩ := hB
  rw [ht] at hP1
  obtain ⟨hP, hD⟩ := va_join (wr := []) (w1 := (v1_c_J6_isLatin1 cy  u1)) hP hD [] [] rfl rfl (by decide) (by decide) hk1 hFc hP1 hD1
  generalize H1 = H at hP hS ⊢
  have hP : va_P (dC, dI) nCl [] H := hP
  have hD : va_D A [] := hD
  refine lv_if_eq (tgt := 16) hx hb dJ0_charAt_5068e_4 (by decide) (fun c1 => False.elim (by revert c1; decide)) (fun _ => ?_)
  refine lv_aload_n hx hb dJ0_charAt_5068e_7 rfl (lv_at hl 0 rfl) ?_
  refine vk_getf hx hb (hE.2.2.1.1 6 (by decide)).2.2.1 hS hown (hts _ (List.mem_cons_of_mem _ (List.mem_append_left _ (List.mem_of_getElem? (i := 0) rfl)))) (fun _ h9 => h9) dJ0_charAt_5068e_8 ?_
  refine lv_iload_n hx hb dJ0_charAt_5068e_11 rfl (lv_at hl 1 rfl) ?_
  have hPc : va_P (dC, dI) nCl (v0_c_J6_latin cy ) H := hP.sub (ws' := []) [] rfl
  have hDc : va_D A (v0_c_J6_latin cy ) := hD.sub (ws' := []) [] (by decide) rfl
  have hFc := va_free (wc := (v0_c_J6_latin cy )) hD hS hA [] rfl
  refine va_calli (va_runS (As := [.ref (k 13), .int (nI i9)]) (rest := []) ⟨hx, hb, hml, hown, hts⟩ (c_J6_latin l dC dI cy k i9 h9 H.size) (va_cwS 2 hts gJ0_charAt_5068e_J1_charAt_3b067 rfl rfl rfl (by decide +kernel) ⟨Nat.le_of_ble_eq_true rfl, Nat.le_of_ble_eq_true rfl⟩) ⟨nb_blindE, fun U hU hW => ⟨rfl, ⟨by rw [hU], by rw [hU]; exact hPc, va_K.moved hW.alike hK, hDc.weaken (fun _ _ _ _ => trivial), hG.warm hW⟩, nE.to hE hS hW hU hFc⟩⟩ rfl rfl hl.1 rfl (lv_room (Nat.le_of_ble_eq_true rfl)) dJ0_charAt_5068e_12 ⟨Nat.le_of_ble_eq_true rfl, Nat.le_of_ble_eq_true rfl⟩) hS (fun q _ h => hFc q h) hFc (fun r_2 u2 t H1 locs ht hvm hw hB hz1 hk1 hS => ?_)
  obtain ⟨hP1, hK1, hD1⟩ := hB
  rw [ht] at hP1
  obtain ⟨hP, hD⟩ := va_join (wr := []) (w1 := (v1_c_J6_latin cy  u2)) hP hD [] [] rfl rfl (by decide) (by decide) hk1 hFc hP1 hD1
  generalize H1 = H at hP hS ⊢
  have hP : va_P (dC, dI) nCl [] H := hP
  have hD : va_D A [] := hD
  subst hw
  have hP : va_P (dC, dI) nCl (v1_c_J6_charAt cy  (fun _ => 0)) H := hP
  have hD : va_D A (v1_c_J6_charAt cy  (fun _ => 0)) := hD
  exact W.zret (v := (sx6.getD i9 0 &&& 255)) hx hb hr (sc_nar _) (fun t ht hW => ⟨⟨(sx6.getD i9 0 &&& 255), (fun _ => 0), rfl, rfl, by rw [ht]; exact hP, va_K.moved hW.alike hK, hD⟩, hS.F ht⟩) hS.2.2 dJ0_charAt_5068e_15

def v0_c_J7_coder (cy : Nat → ClassId)  : va_W := []
def v1_c_J7_coder (cy : Nat → ClassId)  (r : Nat → Nat) : va_W := []
set_option maxHeartbeats 40000000 in
set_option maxRecDepth 100000 in
/-- coder() -/
theorem c_J7_coder (l : Launch) (dC : Nat → ClassId) (dI : Nat → Nat → Nat) (cy : Nat → ClassId) (k : Nat → Nat)  (sz : Nat) : Met l yJ0_coder_7d493 wsJ0_coder_7d493 ({ frames := 0, cells := 0, slots := 0, locals := 0 }) (va_Pc [.ref (k 14)] (nInE (dC, dI) cy k sz (v0_c_J7_coder cy ))) (va_Qi (fun (z : Int32) (_ : Nat → Nat) => z = 0) (fun r t => nOut (dC, dI) cy (va_A (v0_c_J7_coder cy ) sz) (v1_c_J7_coder cy  r) t) (va_A (v0_c_J7_coder cy ) sz)) 0 0 (va_A (v0_c_J7_coder cy ) sz) := by
  refine Met.ofW (cc := cJ0_coder_7d493) (maxL := 1) (ret := (some .byte)) (by decide) rfl ?_
  intro p e s m args below meth c s₁ B hml hv
  obtain ⟨rfl, ⟨hsz, hP, hK, hD0, hG⟩, hE⟩ := hv
  have hx := B.exec
  have hb := B.bytes
  have hr := B.returns
  have hts := atoms_spec (ws := wsJ0_coder_7d493) B.pre
  have hown : s.vm.findClass RJ0 = some m.cls := findClass_of_methodNamed B.named
  have hlocks := B.notSynchronized
  subst hsz
  have hD := hD0.self (sz := s.heap.size)
  generalize hAe : va_A (v0_c_J7_coder cy ) s.heap.size = A at hD hE ⊢
  have hA : ∀ q : Nat, s.heap.size ≤ q → A q := fun q h => by rw [← hAe]; exact Or.inr h
  have hS : va_S A s.heap s.heap [] := va_S.rf
  have hP : va_P (dC, dI) nCl (v0_c_J7_coder cy ) s.heap := hP
  have hl := lv_entry ([.ref (k 14)]) (n := 1) (Nat.le_of_ble_eq_true rfl)
  rw [lg_entry_eq]
  generalize (lg_sl ([.ref (k 14)]) ++ List.replicate (1 - (lg_sl ([.ref (k 14)])).length) Slot.unset).toArray = ls at hl ⊢
  have hl : lv_has ls 1 [(0, .ref (k 14))] := hl
  have hP : va_P (dC, dI) nCl [] s.heap := hP
  have hD : va_D A [] := hD
  refine va_gets hx hb hE.1 hS hown (hts _ (List.mem_cons_of_mem _ (List.mem_of_getElem? (i := 0) rfl))) (fun _ h9 => h9) dJ0_coder_7d493_0 ?_
  refine lv_if_eq (tgt := 13) hx hb dJ0_coder_7d493_3 (by decide) (fun c1 => False.elim (by revert c1; decide)) (fun _ => ?_)
  refine lv_aload_n hx hb dJ0_coder_7d493_6 rfl (lv_at hl 0 rfl) ?_
  refine vk_getf hx hb (hE.2.2.1.1 7 (by decide)).2.1 hS hown (hts _ (List.mem_cons_of_mem _ (List.mem_of_getElem? (i := 1) rfl))) (fun _ h9 => h9) dJ0_coder_7d493_7 ?_
  refine lv_goto (tgt := 14) hx hb dJ0_coder_7d493_10 (by decide) ?_
  have hP : va_P (dC, dI) nCl (v1_c_J7_coder cy  (fun _ => 0)) s.heap := hP
  have hD : va_D A (v1_c_J7_coder cy  (fun _ => 0)) := hD
  exact W.zret (v := 0) hx hb hr rfl (fun t ht hW => ⟨⟨0, (fun _ => 0), rfl, rfl, by rw [ht]; exact hP, va_K.moved hW.alike hK, hD⟩, hS.F ht⟩) hS.2.2 dJ0_coder_7d493_14
def v0_c_J7_len (cy : Nat → ClassId)  : va_W := []
def v1_c_J7_len (cy : Nat → ClassId)  (r : Nat → Nat) : va_W := []
set_option maxHeartbeats 40000000 in
set_option maxRecDepth 100000 in
/-- length() of the words' text -/
theorem c_J7_len (l : Launch) (dC : Nat → ClassId) (dI : Nat → Nat → Nat) (cy : Nat → ClassId) (k : Nat → Nat)  (sz : Nat) : Met l yJ0_length_8abf5 wsJ0_length_8abf5 ({ frames := 1, cells := 0, slots := 0, locals := 20 }) (va_Pc [.ref (k 14)] (nInE (dC, dI) cy k sz (v0_c_J7_len cy ))) (va_Qi (fun (z : Int32) (_ : Nat → Nat) => z = 2) (fun r t => nOut (dC, dI) cy (va_A (v0_c_J7_len cy ) sz) (v1_c_J7_len cy  r) t) (va_A (v0_c_J7_len cy ) sz)) 0 0 (va_A (v0_c_J7_len cy ) sz) := by
  refine Met.ofW (cc := cJ0_length_8abf5) (maxL := 1) (ret := (some .int)) (by decide) rfl ?_
  intro p e s m args below meth c s₁ B hml hv
  obtain ⟨rfl, ⟨hsz, hP, hK, hD0, hG⟩, hE⟩ := hv
  have hx := B.exec
  have hb := B.bytes
  have hr := B.returns
  have hts := atoms_spec (ws := wsJ0_length_8abf5) B.pre
  have hown : s.vm.findClass RJ0 = some m.cls := findClass_of_methodNamed B.named
  have hlocks := B.notSynchronized
  subst hsz
  have hD := hD0.self (sz := s.heap.size)
  generalize hAe : va_A (v0_c_J7_len cy ) s.heap.size = A at hD hE ⊢
  have hA : ∀ q : Nat, s.heap.size ≤ q → A q := fun q h => by rw [← hAe]; exact Or.inr h
  have hS : va_S A s.heap s.heap [] := va_S.rf
  have hP : va_P (dC, dI) nCl (v0_c_J7_len cy ) s.heap := hP
  have hl := lv_entry ([.ref (k 14)]) (n := 1) (Nat.le_of_ble_eq_true rfl)
  rw [lg_entry_eq]
  generalize (lg_sl ([.ref (k 14)]) ++ List.replicate (1 - (lg_sl ([.ref (k 14)])).length) Slot.unset).toArray = ls at hl ⊢
  have hl : lv_has ls 1 [(0, .ref (k 14))] := hl
  have hP : va_P (dC, dI) nCl [] s.heap := hP
  have hD : va_D A [] := hD
  refine lv_aload_n hx hb dJ0_length_8abf5_0 rfl (lv_at hl 0 rfl) ?_
  refine vk_getf hx hb (hE.2.2.1.1 7 (by decide)).2.2.1 hS hown (hts _ (List.mem_cons_of_mem _ (List.mem_of_getElem? (i := 0) rfl))) (fun _ h9 => h9) dJ0_length_8abf5_1 ?_
  refine va_tlen hx hb (hE.2.2.1.1 7 (by decide)).2.2.2 hS (v := 2) rfl dJ0_length_8abf5_4 ?_
  refine lv_aload_n hx hb dJ0_length_8abf5_5 rfl (lv_at hl 0 rfl) ?_
  have hPc : va_P (dC, dI) nCl (v0_c_J7_coder cy ) s.heap := hP.sub (ws' := []) [] rfl
  have hDc : va_D A (v0_c_J7_coder cy ) := hD.sub (ws' := []) [] (by decide) rfl
  have hFc := va_free (wc := (v0_c_J7_coder cy )) hD hS hA [] rfl
  refine va_calli (va_runV (As := []) (rest := [.int 2]) ⟨hx, hb, hml, hown, hts⟩ (c_J7_coder l dC dI cy k  s.heap.size) (cwV 0 hts gJ0_length_8abf5_J0_coder_7d493 rfl rfl rfl (by decide +kernel) ⟨Nat.le_of_ble_eq_true rfl, Nat.le_of_ble_eq_true rfl⟩) ⟨nb_blindE, (vk_recv (i := 7) hE.2.2.1 (by decide) hS), fun U hU hW => ⟨rfl, ⟨by rw [hU], by rw [hU]; exact hPc, va_K.moved hW.alike hK, hDc.weaken (fun _ _ _ _ => trivial), hG.warm hW⟩, nE.to hE hS hW hU hFc⟩⟩ rfl rfl hl.1 rfl (lv_room (Nat.le_of_ble_eq_true rfl)) dJ0_length_8abf5_6 ⟨Nat.le_of_ble_eq_true rfl, Nat.le_of_ble_eq_true rfl⟩) hS (fun q _ h => hFc q h) hFc (fun r_1 u1 t H1 locs ht hvm hw hB hz1 hk1 hS => ?_)
  have hw : r_1 = 0 := hw.trans (by decide)
  subst hw
  obtain ⟨hP1, hK1, hD1⟩ := hB
  rw [ht] at hP1
  obtain ⟨hP, hD⟩ := va_join (wr := []) (w1 := (v1_c_J7_coder cy  u1)) hP hD [] [] rfl rfl (by decide) (by decide) hk1 hFc hP1 hD1
  generalize H1 = H at hP hS ⊢
  have hP : va_P (dC, dI) nCl [] H := hP
  have hD : va_D A [] := hD
  refine lv_ishr hx hb dJ0_length_8abf5_9 ?_
  refine W.eq (g2 := F0 m 10 ls [.int 2]) rfl ?_
  have hP : va_P (dC, dI) nCl (v1_c_J7_len cy  (fun _ => 0)) H := hP
  have hD : va_D A (v1_c_J7_len cy  (fun _ => 0)) := hD
  exact W.iret (v := 2) hx hb hr (fun t ht hW => ⟨⟨2, (fun _ => 0), rfl, rfl, by rw [ht]; exact hP, va_K.moved hW.alike hK, hD⟩, hS.F ht⟩) hS.2.2 dJ0_length_8abf5_10
def v0_c_J7_isLatin1 (cy : Nat → ClassId)  : va_W := []
def v1_c_J7_isLatin1 (cy : Nat → ClassId)  (r : Nat → Nat) : va_W := []
set_option maxHeartbeats 40000000 in
set_option maxRecDepth 100000 in
/-- isLatin1() -/
theorem c_J7_isLatin1 (l : Launch) (dC : Nat → ClassId) (dI : Nat → Nat → Nat) (cy : Nat → ClassId) (k : Nat → Nat)  (sz : Nat) : Met l yJ0_isLatin1_aae02 wsJ0_isLatin1_aae02 ({ frames := 0, cells := 0, slots := 0, locals := 0 }) (va_Pc [.ref (k 14)] (nInE (dC, dI) cy k sz (v0_c_J7_isLatin1 cy ))) (va_Qi (fun (z : Int32) (_ : Nat → Nat) => z = 1) (fun r t => nOut (dC, dI) cy (va_A (v0_c_J7_isLatin1 cy ) sz) (v1_c_J7_isLatin1 cy  r) t) (va_A (v0_c_J7_isLatin1 cy ) sz)) 0 0 (va_A (v0_c_J7_isLatin1 cy ) sz) := by
  refine Met.ofW (cc := cJ0_isLatin1_aae02) (maxL := 1) (ret := (some .boolean)) (by decide) rfl ?_
  intro p e s m args below meth c s₁ B hml hv
  obtain ⟨rfl, ⟨hsz, hP, hK, hD0, hG⟩, hE⟩ := hv
  have hx := B.exec
  have hb := B.bytes
  have hr := B.returns
  have hts := atoms_spec (ws := wsJ0_isLatin1_aae02) B.pre
  have hown : s.vm.findClass RJ0 = some m.cls := findClass_of_methodNamed B.named
  have hlocks := B.notSynchronized
  subst hsz
  have hD := hD0.self (sz := s.heap.size)
  generalize hAe : va_A (v0_c_J7_isLatin1 cy ) s.heap.size = A at hD hE ⊢
  have hA : ∀ q : Nat, s.heap.size ≤ q → A q := fun q h => by rw [← hAe]; exact Or.inr h
  have hS : va_S A s.heap s.heap [] := va_S.rf
  have hP : va_P (dC, dI) nCl (v0_c_J7_isLatin1 cy ) s.heap := hP
  have hl := lv_entry ([.ref (k 14)]) (n := 1) (Nat.le_of_ble_eq_true rfl)
  rw [lg_entry_eq]
  generalize (lg_sl ([.ref (k 14)]) ++ List.replicate (1 - (lg_sl ([.ref (k 14)])).length) Slot.unset).toArray = ls at hl ⊢
  have hl : lv_has ls 1 [(0, .ref (k 14))] := hl
  have hP : va_P (dC, dI) nCl [] s.heap := hP
  have hD : va_D A [] := hD
  refine va_gets hx hb hE.1 hS hown (hts _ (List.mem_cons_of_mem _ (List.mem_of_getElem? (i := 0) rfl))) (fun _ h9 => h9) dJ0_isLatin1_aae02_0 ?_
  refine lv_if_eq (tgt := 17) hx hb dJ0_isLatin1_aae02_3 (by decide) (fun c1 => False.elim (by revert c1; decide)) (fun _ => ?_)
  refine lv_aload_n hx hb dJ0_isLatin1_aae02_6 rfl (lv_at hl 0 rfl) ?_
  refine vk_getf hx hb (hE.2.2.1.1 7 (by decide)).2.1 hS hown (hts _ (List.mem_cons_of_mem _ (List.mem_of_getElem? (i := 1) rfl))) (fun _ h9 => h9) dJ0_isLatin1_aae02_7 ?_
  refine lv_if_ne (tgt := 17) hx hb dJ0_isLatin1_aae02_10 (by decide) (fun c1 => False.elim (by revert c1; decide)) (fun _ => ?_)
  refine lv_iconst (v := 1) hx hb dJ0_isLatin1_aae02_13 (by decide) ?_
  refine lv_goto (tgt := 18) hx hb dJ0_isLatin1_aae02_14 (by decide) ?_
  have hP : va_P (dC, dI) nCl (v1_c_J7_isLatin1 cy  (fun _ => 0)) s.heap := hP
  have hD : va_D A (v1_c_J7_isLatin1 cy  (fun _ => 0)) := hD
  exact W.zret (v := 1) hx hb hr rfl (fun t ht hW => ⟨⟨1, (fun _ => 0), rfl, rfl, by rw [ht]; exact hP, va_K.moved hW.alike hK, hD⟩, hS.F ht⟩) hS.2.2 dJ0_isLatin1_aae02_18
def v0_c_J7_pre_n (cy : Nat → ClassId)  : va_W := []
def v1_c_J7_pre_n (cy : Nat → ClassId)  (r : Nat → Nat) : va_W := []
set_option maxHeartbeats 40000000 in
set_option maxRecDepth 100000 in
/-- checkIndex(i, 2, f) -/
theorem c_J7_pre_n (l : Launch) (dC : Nat → ClassId) (dI : Nat → Nat → Nat) (cy : Nat → ClassId) (k : Nat → Nat)  (i9 : Nat) (h9 : i9 < 2) (sz : Nat) : Met l yJ3_checkIndex_8e157 wsJ3_checkIndex_8e157 ({ frames := 0, cells := 0, slots := 0, locals := 0 }) (va_Pc [.int (nI i9), .int 2, .null] (nInE (dC, dI) cy k sz (v0_c_J7_pre_n cy ))) (va_Qi (fun (z : Int32) (_ : Nat → Nat) => z = nI i9) (fun r t => nOut (dC, dI) cy (va_A (v0_c_J7_pre_n cy ) sz) (v1_c_J7_pre_n cy  r) t) (va_A (v0_c_J7_pre_n cy ) sz)) 0 0 (va_A (v0_c_J7_pre_n cy ) sz) := by
  refine Met.ofW (cc := cJ3_checkIndex_8e157) (maxL := 3) (ret := (some .int)) (by decide) rfl ?_
  intro p e s m args below meth c s₁ B hml hv
  obtain ⟨rfl, ⟨hsz, hP, hK, hD0, hG⟩, hE⟩ := hv
  have hx := B.exec
  have hb := B.bytes
  have hr := B.returns
  have hts := atoms_spec (ws := wsJ3_checkIndex_8e157) B.pre
  have hown : s.vm.findClass RJ3 = some m.cls := findClass_of_methodNamed B.named
  have hlocks := B.notSynchronized
  subst hsz
  have hD := hD0.self (sz := s.heap.size)
  generalize hAe : va_A (v0_c_J7_pre_n cy ) s.heap.size = A at hD hE ⊢
  have hA : ∀ q : Nat, s.heap.size ≤ q → A q := fun q h => by rw [← hAe]; exact Or.inr h
  have hS : va_S A s.heap s.heap [] := va_S.rf
  have hP : va_P (dC, dI) nCl (v0_c_J7_pre_n cy ) s.heap := hP
  have hl := lv_entry ([.int (nI i9), .int 2, .null]) (n := 3) (Nat.le_of_ble_eq_true rfl)
  rw [lg_entry_eq]
  generalize (lg_sl ([.int (nI i9), .int 2, .null]) ++ List.replicate (3 - (lg_sl ([.int (nI i9), .int 2, .null])).length) Slot.unset).toArray = ls at hl ⊢
  have hl : lv_has ls 3 [(0, .int (nI i9)), (1, .int 2), (2, .null)] := hl
  have hP : va_P (dC, dI) nCl [] s.heap := hP
  have hD : va_D A [] := hD
  refine lv_iload_n hx hb dJ3_checkIndex_8e157_0 rfl (lv_at hl 0 rfl) ?_
  refine lv_if_lt (tgt := 9) hx hb dJ3_checkIndex_8e157_1 (by decide) (fun c1 => absurd c1 (nI_pos (by omega))) (fun _ => ?_)
  refine lv_iload_n hx hb dJ3_checkIndex_8e157_4 rfl (lv_at hl 0 rfl) ?_
  refine lv_iload_n hx hb dJ3_checkIndex_8e157_5 rfl (lv_at hl 1 rfl) ?_
  refine lv_icmp_lt (tgt := 16) hx hb dJ3_checkIndex_8e157_6 (by decide) (fun _ => ?_) (fun c1 => absurd (nI_lt (b := 2) h9 (by omega)) c1)
  refine lv_iload_n hx hb dJ3_checkIndex_8e157_16 rfl (lv_at hl 0 rfl) ?_
  have hP : va_P (dC, dI) nCl (v1_c_J7_pre_n cy  (fun _ => 0)) s.heap := hP
  have hD : va_D A (v1_c_J7_pre_n cy  (fun _ => 0)) := hD
  exact W.iret (v := (nI i9)) hx hb hr (fun t ht hW => ⟨⟨(nI i9), (fun _ => 0), rfl, rfl, by rw [ht]; exact hP, va_K.moved hW.alike hK, hD⟩, hS.F ht⟩) hS.2.2 dJ3_checkIndex_8e157_17
def v0_c_J7_pre_r (cy : Nat → ClassId)  : va_W := []
def v1_c_J7_pre_r (cy : Nat → ClassId)  (r : Nat → Nat) : va_W := []
set_option maxHeartbeats 40000000 in
set_option maxRecDepth 100000 in
/-- checkIndex(i, 2, f) -/
theorem c_J7_pre_r (l : Launch) (dC : Nat → ClassId) (dI : Nat → Nat → Nat) (cy : Nat → ClassId) (k : Nat → Nat)  (i9 : Nat) (f9 : Nat) (h9 : i9 < 2) (sz : Nat) : Met l yJ3_checkIndex_8e157 wsJ3_checkIndex_8e157 ({ frames := 0, cells := 0, slots := 0, locals := 0 }) (va_Pc [.int (nI i9), .int 2, .ref f9] (nInE (dC, dI) cy k sz (v0_c_J7_pre_r cy ))) (va_Qi (fun (z : Int32) (_ : Nat → Nat) => z = nI i9) (fun r t => nOut (dC, dI) cy (va_A (v0_c_J7_pre_r cy ) sz) (v1_c_J7_pre_r cy  r) t) (va_A (v0_c_J7_pre_r cy ) sz)) 0 0 (va_A (v0_c_J7_pre_r cy ) sz) := by
  refine Met.ofW (cc := cJ3_checkIndex_8e157) (maxL := 3) (ret := (some .int)) (by decide) rfl ?_
  intro p e s m args below meth c s₁ B hml hv
  obtain ⟨rfl, ⟨hsz, hP, hK, hD0, hG⟩, hE⟩ := hv
  have hx := B.exec
  have hb := B.bytes
  have hr := B.returns
  have hts := atoms_spec (ws := wsJ3_checkIndex_8e157) B.pre
  have hown : s.vm.findClass RJ3 = some m.cls := findClass_of_methodNamed B.named
  have hlocks := B.notSynchronized
  subst hsz
  have hD := hD0.self (sz := s.heap.size)
  generalize hAe : va_A (v0_c_J7_pre_r cy ) s.heap.size = A at hD hE ⊢
  have hA : ∀ q : Nat, s.heap.size ≤ q → A q := fun q h => by rw [← hAe]; exact Or.inr h
  have hS : va_S A s.heap s.heap [] := va_S.rf
  have hP : va_P (dC, dI) nCl (v0_c_J7_pre_r cy ) s.heap := hP
  have hl := lv_entry ([.int (nI i9), .int 2, .ref f9]) (n := 3) (Nat.le_of_ble_eq_true rfl)
  rw [lg_entry_eq]
  generalize (lg_sl ([.int (nI i9), .int 2, .ref f9]) ++ List.replicate (3 - (lg_sl ([.int (nI i9), .int 2, .ref f9])).length) Slot.unset).toArray = ls at hl ⊢
  have hl : lv_has ls 3 [(0, .int (nI i9)), (1, .int 2), (2, .ref f9)] := hl
  have hP : va_P (dC, dI) nCl [] s.heap := hP
  have hD : va_D A [] := hD
  refine lv_iload_n hx hb dJ3_checkIndex_8e157_0 rfl (lv_at hl 0 rfl) ?_
  refine lv_if_lt (tgt := 9) hx hb dJ3_checkIndex_8e157_1 (by decide) (fun c1 => absurd c1 (nI_pos (by omega))) (fun _ => ?_)
  refine lv_iload_n hx hb dJ3_checkIndex_8e157_4 rfl (lv_at hl 0 rfl) ?_
  refine lv_iload_n hx hb dJ3_checkIndex_8e157_5 rfl (lv_at hl 1 rfl) ?_
  refine lv_icmp_lt (tgt := 16) hx hb dJ3_checkIndex_8e157_6 (by decide) (fun _ => ?_) (fun c1 => absurd (nI_lt (b := 2) h9 (by omega)) c1)
  refine lv_iload_n hx hb dJ3_checkIndex_8e157_16 rfl (lv_at hl 0 rfl) ?_
  have hP : va_P (dC, dI) nCl (v1_c_J7_pre_r cy  (fun _ => 0)) s.heap := hP
  have hD : va_D A (v1_c_J7_pre_r cy  (fun _ => 0)) := hD
  exact W.iret (v := (nI i9)) hx hb hr (fun t ht hW => ⟨⟨(nI i9), (fun _ => 0), rfl, rfl, by rw [ht]; exact hP, va_K.moved hW.alike hK, hD⟩, hS.F ht⟩) hS.2.2 dJ3_checkIndex_8e157_17
def v0_c_J7_chk (cy : Nat → ClassId)  : va_W := []
def v1_c_J7_chk (cy : Nat → ClassId)  (r : Nat → Nat) : va_W := []
set_option maxHeartbeats 40000000 in
set_option maxRecDepth 100000 in
/-- String.checkIndex(i, 2) -/
theorem c_J7_chk (l : Launch) (dC : Nat → ClassId) (dI : Nat → Nat → Nat) (cy : Nat → ClassId) (k : Nat → Nat)  (i9 : Nat) (h9 : i9 < 2) (sz : Nat) : Met l yJ0_checkIndex_df160 wsJ0_checkIndex_df160 ({ frames := 1, cells := 0, slots := 0, locals := 22 }) (va_Pc [.int (nI i9), .int 2] (nInE (dC, dI) cy k sz (v0_c_J7_chk cy ))) (va_Qv (fun _ : Nat → Nat => True) (fun r t => nOut (dC, dI) cy (va_A (v0_c_J7_chk cy ) sz) (v1_c_J7_chk cy  r) t) (va_A (v0_c_J7_chk cy ) sz)) 0 0 (va_A (v0_c_J7_chk cy ) sz) := by
  refine Met.ofW (cc := cJ0_checkIndex_df160) (maxL := 2) (ret := none) (by decide) rfl ?_
  intro p e s m args below meth c s₁ B hml hv
  obtain ⟨rfl, ⟨hsz, hP, hK, hD0, hG⟩, hE⟩ := hv
  have hx := B.exec
  have hb := B.bytes
  have hr := B.returns
  have hts := atoms_spec (ws := wsJ0_checkIndex_df160) B.pre
  have hown : s.vm.findClass RJ0 = some m.cls := findClass_of_methodNamed B.named
  have hlocks := B.notSynchronized
  subst hsz
  have hD := hD0.self (sz := s.heap.size)
  generalize hAe : va_A (v0_c_J7_chk cy ) s.heap.size = A at hD hE ⊢
  have hA : ∀ q : Nat, s.heap.size ≤ q → A q := fun q h => by rw [← hAe]; exact Or.inr h
  have hS : va_S A s.heap s.heap [] := va_S.rf
  have hP : va_P (dC, dI) nCl (v0_c_J7_chk cy ) s.heap := hP
  have hl := lv_entry ([.int (nI i9), .int 2]) (n := 2) (Nat.le_of_ble_eq_true rfl)
  rw [lg_entry_eq]
  generalize (lg_sl ([.int (nI i9), .int 2]) ++ List.replicate (2 - (lg_sl ([.int (nI i9), .int 2])).length) Slot.unset).toArray = ls at hl ⊢
  have hl : lv_has ls 2 [(0, .int (nI i9)), (1, .int 2)] := hl
  have hP : va_P (dC, dI) nCl [] s.heap := hP
  have hD : va_D A [] := hD
  refine lv_iload_n hx hb dJ0_checkIndex_df160_0 rfl (lv_at hl 0 rfl) ?_
  refine lv_iload_n hx hb dJ0_checkIndex_df160_1 rfl (lv_at hl 1 rfl) ?_
  rcases hE.2.1 with hZ | ⟨f9, hZ⟩
  · refine va_gets hx hb hZ hS hown (hts _ (List.mem_cons_of_mem _ (List.mem_of_getElem? (i := 0) rfl))) (fun _ h9 => h9) dJ0_checkIndex_df160_2 ?_
    have hPc : va_P (dC, dI) nCl (v0_c_J7_pre_n cy ) s.heap := hP.sub (ws' := []) [] rfl
    have hDc : va_D A (v0_c_J7_pre_n cy ) := hD.sub (ws' := []) [] (by decide) rfl
    have hFc := va_free (wc := (v0_c_J7_pre_n cy )) hD hS hA [] rfl
    refine va_calli (va_runS (As := [.int (nI i9), .int 2, .null]) (rest := []) ⟨hx, hb, hml, hown, hts⟩ (c_J7_pre_n l dC dI cy k i9 h9 s.heap.size) (va_cwS 3 hts gJ0_checkIndex_df160_J3_checkIndex_8e157 rfl rfl rfl (by decide +kernel) ⟨Nat.le_of_ble_eq_true rfl, Nat.le_of_ble_eq_true rfl⟩) ⟨nb_blindE, fun U hU hW => ⟨rfl, ⟨by rw [hU], by rw [hU]; exact hPc, va_K.moved hW.alike hK, hDc.weaken (fun _ _ _ _ => trivial), hG.warm hW⟩, nE.to hE hS hW hU hFc⟩⟩ rfl rfl hl.1 rfl (lv_room (Nat.le_of_ble_eq_true rfl)) dJ0_checkIndex_df160_5 ⟨Nat.le_of_ble_eq_true rfl, Nat.le_of_ble_eq_true rfl⟩) hS (fun q _ h => hFc q h) hFc (fun r_1 u1 t H1 locs ht hvm hw hB hz1 hk1 hS => ?_)
    obtain ⟨hP1, hK1, hD1⟩ := hB
    rw [ht] at hP1
    obtain ⟨hP, hD⟩ := va_join (wr := []) (w1 := (v1_c_J7_pre_n cy  u1)) hP hD [] [] rfl rfl (by decide) (by decide) hk1 hFc hP1 hD1
    generalize H1 = H at hP hS ⊢
    have hP : va_P (dC, dI) nCl [] H := hP
    have hD : va_D A [] := hD
    refine lv_pop hx hb dJ0_checkIndex_df160_8 rfl ?_
    exact W.vret hx hb hr (fun t ht hW => ⟨⟨(fun _ => 0), rfl, trivial, by rw [ht]; exact hP, va_K.moved hW.alike hK, hD⟩, hS.F ht⟩) hS.2.2 dJ0_checkIndex_df160_9
  · refine va_gets hx hb hZ hS hown (hts _ (List.mem_cons_of_mem _ (List.mem_of_getElem? (i := 0) rfl))) (fun _ h9 => h9) dJ0_checkIndex_df160_2 ?_
    have hPc : va_P (dC, dI) nCl (v0_c_J7_pre_r cy ) s.heap := hP.sub (ws' := []) [] rfl
    have hDc : va_D A (v0_c_J7_pre_r cy ) := hD.sub (ws' := []) [] (by decide) rfl
    have hFc := va_free (wc := (v0_c_J7_pre_r cy )) hD hS hA [] rfl
    refine va_calli (va_runS (As := [.int (nI i9), .int 2, .ref f9]) (rest := []) ⟨hx, hb, hml, hown, hts⟩ (c_J7_pre_r l dC dI cy k i9 f9 h9 s.heap.size) (va_cwS 3 hts gJ0_checkIndex_df160_J3_checkIndex_8e157 rfl rfl rfl (by decide +kernel) ⟨Nat.le_of_ble_eq_true rfl, Nat.le_of_ble_eq_true rfl⟩) ⟨nb_blindE, fun U hU hW => ⟨rfl, ⟨by rw [hU], by rw [hU]; exact hPc, va_K.moved hW.alike hK, hDc.weaken (fun _ _ _ _ => trivial), hG.warm hW⟩, nE.to hE hS hW hU hFc⟩⟩ rfl rfl hl.1 rfl (lv_room (Nat.le_of_ble_eq_true rfl)) dJ0_checkIndex_df160_5 ⟨Nat.le_of_ble_eq_true rfl, Nat.le_of_ble_eq_true rfl⟩) hS (fun q _ h => hFc q h) hFc (fun r_2 u2 t H1 locs ht hvm hw hB hz1 hk1 hS => ?_)
    obtain ⟨hP1, hK1, hD1⟩ := hB
    rw [ht] at hP1
    obtain ⟨hP, hD⟩ := va_join (wr := []) (w1 := (v1_c_J7_pre_r cy  u2)) hP hD [] [] rfl rfl (by decide) (by decide) hk1 hFc hP1 hD1
    generalize H1 = H at hP hS ⊢
    have hP : va_P (dC, dI) nCl [] H := hP
    have hD : va_D A [] := hD
    refine lv_pop hx hb dJ0_checkIndex_df160_8 rfl ?_
    have hP : va_P (dC, dI) nCl (v1_c_J7_chk cy  (fun _ => 0)) H := hP
    have hD : va_D A (v1_c_J7_chk cy  (fun _ => 0)) := hD
    exact W.vret hx hb hr (fun t ht hW => ⟨⟨(fun _ => 0), rfl, trivial, by rw [ht]; exact hP, va_K.moved hW.alike hK, hD⟩, hS.F ht⟩) hS.2.2 dJ0_checkIndex_df160_9
def v0_c_J7_latin (cy : Nat → ClassId)  : va_W := []
def v1_c_J7_latin (cy : Nat → ClassId)  (r : Nat → Nat) : va_W := []
set_option maxHeartbeats 40000000 in
set_option maxRecDepth 100000 in
/-- StringLatin1.charAt -/
theorem c_J7_latin (l : Launch) (dC : Nat → ClassId) (dI : Nat → Nat → Nat) (cy : Nat → ClassId) (k : Nat → Nat)  (i9 : Nat) (h9 : i9 < 2) (sz : Nat) : Met l yJ1_charAt_3b067 wsJ1_charAt_3b067 ({ frames := 2, cells := 0, slots := 0, locals := 43 }) (va_Pc [.ref (k 15), .int (nI i9)] (nInE (dC, dI) cy k sz (v0_c_J7_latin cy ))) (va_Qi (fun (z : Int32) (_ : Nat → Nat) => z = sx7.getD i9 0 &&& 255) (fun r t => nOut (dC, dI) cy (va_A (v0_c_J7_latin cy ) sz) (v1_c_J7_latin cy  r) t) (va_A (v0_c_J7_latin cy ) sz)) 0 0 (va_A (v0_c_J7_latin cy ) sz) := by
  refine Met.ofW (cc := cJ1_charAt_3b067) (maxL := 2) (ret := (some .char)) (by decide) rfl ?_
  intro p e s m args below meth c s₁ B hml hv
  obtain ⟨rfl, ⟨hsz, hP, hK, hD0, hG⟩, hE⟩ := hv
  have hx := B.exec
  have hb := B.bytes
  have hr := B.returns
  have hts := atoms_spec (ws := wsJ1_charAt_3b067) B.pre
  have hown : s.vm.findClass RJ1 = some m.cls := findClass_of_methodNamed B.named
  have hlocks := B.notSynchronized
  subst hsz
  have hD := hD0.self (sz := s.heap.size)
  generalize hAe : va_A (v0_c_J7_latin cy ) s.heap.size = A at hD hE ⊢
  have hA : ∀ q : Nat, s.heap.size ≤ q → A q := fun q h => by rw [← hAe]; exact Or.inr h
  have hS : va_S A s.heap s.heap [] := va_S.rf
  have hP : va_P (dC, dI) nCl (v0_c_J7_latin cy ) s.heap := hP
  have hl := lv_entry ([.ref (k 15), .int (nI i9)]) (n := 2) (Nat.le_of_ble_eq_true rfl)
  rw [lg_entry_eq]
  generalize (lg_sl ([.ref (k 15), .int (nI i9)]) ++ List.replicate (2 - (lg_sl ([.ref (k 15), .int (nI i9)])).length) Slot.unset).toArray = ls at hl ⊢
  have hl : lv_has ls 2 [(0, .ref (k 15)), (1, .int (nI i9))] := hl
  have hP : va_P (dC, dI) nCl [] s.heap := hP
  have hD : va_D A [] := hD
  refine lv_iload_n hx hb dJ1_charAt_3b067_0 rfl (lv_at hl 1 rfl) ?_
  refine lv_aload_n hx hb dJ1_charAt_3b067_1 rfl (lv_at hl 0 rfl) ?_
  refine va_tlen hx hb (hE.2.2.1.1 7 (by decide)).2.2.2 hS (v := 2) rfl dJ1_charAt_3b067_2 ?_
  have hPc : va_P (dC, dI) nCl (v0_c_J7_chk cy ) s.heap := hP.sub (ws' := []) [] rfl
  have hDc : va_D A (v0_c_J7_chk cy ) := hD.sub (ws' := []) [] (by decide) rfl
  have hFc := va_free (wc := (v0_c_J7_chk cy )) hD hS hA [] rfl
  refine va_callv (va_runS (As := [.int (nI i9), .int 2]) (rest := []) ⟨hx, hb, hml, hown, hts⟩ (c_J7_chk l dC dI cy k i9 h9 s.heap.size) (va_cwS 2 hts gJ1_charAt_3b067_J0_checkIndex_df160 rfl rfl rfl (by decide +kernel) ⟨Nat.le_of_ble_eq_true rfl, Nat.le_of_ble_eq_true rfl⟩) ⟨nb_blindE, fun U hU hW => ⟨rfl, ⟨by rw [hU], by rw [hU]; exact hPc, va_K.moved hW.alike hK, hDc.weaken (fun _ _ _ _ => trivial), hG.warm hW⟩, nE.to hE hS hW hU hFc⟩⟩ rfl rfl hl.1 rfl (lv_room (Nat.le_of_ble_eq_true rfl)) dJ1_charAt_3b067_3 ⟨Nat.le_of_ble_eq_true rfl, Nat.le_of_ble_eq_true rfl⟩) hS (fun q _ h => hFc q h) hFc (fun u1 t H1 locs ht hvm hw hB hz1 hk1 hS => ?_)
  obtain ⟨hP1, hK1, hD1⟩ := hB
  rw [ht] at hP1
  obtain ⟨hP, hD⟩ := va_join (wr := []) (w1 := (v1_c_J7_chk cy  u1)) hP hD [] [] rfl rfl (by decide) (by decide) hk1 hFc hP1 hD1
  generalize H1 = H at hP hS ⊢
  have hP : va_P (dC, dI) nCl [] H := hP
  have hD : va_D A [] := hD
  refine lv_aload_n hx hb dJ1_charAt_3b067_6 rfl (lv_at hl 0 rfl) ?_
  refine lv_iload_n hx hb dJ1_charAt_3b067_7 rfl (lv_at hl 1 rfl) ?_
  refine va_tb hx hb (hE.2.2.1.1 7 (by decide)).2.2.2 hS (show vp_in (nI i9) 2 from vp_in_nI h9 (by omega)) (v := .int (sx7.getD i9 0)) (by rw [nI_clamp (by omega)]; rfl) dJ1_charAt_3b067_8 ?_
  refine lv_sipush (v := 255) hx hb dJ1_charAt_3b067_9 (by decide) ?_
  refine lv_iand hx hb dJ1_charAt_3b067_12 ?_
  refine lv_i2c (v := sx7.getD i9 0 &&& 255) hx hb dJ1_charAt_3b067_13 (sc_c2 _) ?_
  have hP : va_P (dC, dI) nCl (v1_c_J7_latin cy  (fun _ => 0)) H := hP
  have hD : va_D A (v1_c_J7_latin cy  (fun _ => 0)) := hD
  exact W.zret (v := (sx7.getD i9 0 &&& 255)) hx hb hr (sc_nar _) (fun t ht hW => ⟨⟨(sx7.getD i9 0 &&& 255), (fun _ => 0), rfl, rfl, by rw [ht]; exact hP, va_K.moved hW.alike hK, hD⟩, hS.F ht⟩) hS.2.2 dJ1_charAt_3b067_14
def v0_c_J7_charAt (cy : Nat → ClassId)  : va_W := []
def v1_c_J7_charAt (cy : Nat → ClassId)  (r : Nat → Nat) : va_W := []
set_option maxHeartbeats 40000000 in
set_option maxRecDepth 100000 in
/-- charAt(i) of the words' text -/
theorem c_J7_charAt (l : Launch) (dC : Nat → ClassId) (dI : Nat → Nat → Nat) (cy : Nat → ClassId) (k : Nat → Nat)  (i9 : Nat) (h9 : i9 < 2) (sz : Nat) : Met l yJ0_charAt_5068e wsJ0_charAt_5068e ({ frames := 3, cells := 0, slots := 0, locals := 64 }) (va_Pc [.ref (k 14), .int (nI i9)] (nInE (dC, dI) cy k sz (v0_c_J7_charAt cy ))) (va_Qi (fun (z : Int32) (_ : Nat → Nat) => z = sx7.getD i9 0 &&& 255) (fun r t => nOut (dC, dI) cy (va_A (v0_c_J7_charAt cy ) sz) (v1_c_J7_charAt cy  r) t) (va_A (v0_c_J7_charAt cy ) sz)) 0 0 (va_A (v0_c_J7_charAt cy ) sz) := by
  refine Met.ofW (cc := cJ0_charAt_5068e) (maxL := 2) (ret := (some .char)) (by decide) rfl ?_
  intro p e s m args below meth c s₁ B hml hv
  obtain ⟨rfl, ⟨hsz, hP, hK, hD0, hG⟩, hE⟩ := hv
  have hx := B.exec
  have hb := B.bytes
  have hr := B.returns
  have hts := atoms_spec (ws := wsJ0_charAt_5068e) B.pre
  have hown : s.vm.findClass RJ0 = some m.cls := findClass_of_methodNamed B.named
  have hlocks := B.notSynchronized
  subst hsz
  have hD := hD0.self (sz := s.heap.size)
  generalize hAe : va_A (v0_c_J7_charAt cy ) s.heap.size = A at hD hE ⊢
  have hA : ∀ q : Nat, s.heap.size ≤ q → A q := fun q h => by rw [← hAe]; exact Or.inr h
  have hS : va_S A s.heap s.heap [] := va_S.rf
  have hP : va_P (dC, dI) nCl (v0_c_J7_charAt cy ) s.heap := hP
  have hl := lv_entry ([.ref (k 14), .int (nI i9)]) (n := 2) (Nat.le_of_ble_eq_true rfl)
  rw [lg_entry_eq]
  generalize (lg_sl ([.ref (k 14), .int (nI i9)]) ++ List.replicate (2 - (lg_sl ([.ref (k 14), .int (nI i9)])).length) Slot.unset).toArray = ls at hl ⊢
  have hl : lv_has ls 2 [(0, .ref (k 14)), (1, .int (nI i9))] := hl
  have hP : va_P (dC, dI) nCl [] s.heap := hP
  have hD : va_D A [] := hD
  refine lv_aload_n hx hb dJ0_charAt_5068e_0 rfl (lv_at hl 0 rfl) ?_
  have hPc : va_P (dC, dI) nCl (v0_c_J7_isLatin1 cy ) s.heap := hP.sub (ws' := []) [] rfl
  have hDc : va_D A (v0_c_J7_isLatin1 cy ) := hD.sub (ws' := []) [] (by decide) rfl
  have hFc := va_free (wc := (v0_c_J7_isLatin1 cy )) hD hS hA [] rfl
  refine va_calli (va_runV (As := []) (rest := []) ⟨hx, hb, hml, hown, hts⟩ (c_J7_isLatin1 l dC dI cy k  s.heap.size) (cwV 0 hts gJ0_charAt_5068e_J0_isLatin1_aae02 rfl rfl rfl (by decide +kernel) ⟨Nat.le_of_ble_eq_true rfl, Nat.le_of_ble_eq_true rfl⟩) ⟨nb_blindE, (vk_recv (i := 7) hE.2.2.1 (by decide) hS), fun U hU hW => ⟨rfl, ⟨by rw [hU], by rw [hU]; exact hPc, va_K.moved hW.alike hK, hDc.weaken (fun _ _ _ _ => trivial), hG.warm hW⟩, nE.to hE hS hW hU hFc⟩⟩ rfl rfl hl.1 rfl (lv_room (Nat.le_of_ble_eq_true rfl)) dJ0_charAt_5068e_1 ⟨Nat.le_of_ble_eq_true rfl, Nat.le_of_ble_eq_true rfl⟩) hS (fun q _ h => hFc q h) hFc (fun r_1 u1 t H1 locs ht hvm hw hB hz1 hk1 hS => ?_)
  have hw : r_1 = 1 := hw.trans (by decide)
  subst hw
  obtain ⟨hP1, hK1, hD1⟩ := hB
  rw [ht] at hP1
  obtain ⟨hP, hD⟩ := va_join (wr := []) (w1 := (v1_c_J7_isLatin1 cy  u1)) hP hD [] [] rfl rfl (by decide) (by decide) hk1 hFc hP1 hD1
  generalize H1 = H at hP hS ⊢
  have hP : va_P (dC, dI) nCl [] H := hP
  have hD : va_D A [] := hD
  refine lv_if_eq (tgt := 16) hx hb dJ0_charAt_5068e_4 (by decide) (fun c1 => False.elim (by revert c1; decide)) (fun _ => ?_)
  refine lv_aload_n hx hb dJ0_charAt_5068e_7 rfl (lv_at hl 0 rfl) ?_
  refine vk_getf hx hb (hE.2.2.1.1 7 (by decide)).2.2.1 hS hown (hts _ (List.mem_cons_of_mem _ (List.mem_append_left _ (List.mem_of_getElem? (i := 0) rfl)))) (fun _ h9 => h9) dJ0_charAt_5068e_8 ?_
  refine lv_iload_n hx hb dJ0_charAt_5068e_11 rfl (lv_at hl 1 rfl) ?_
  have hPc : va_P (dC, dI) nCl (v0_c_J7_latin cy ) H := hP.sub (ws' := []) [] rfl
  have hDc : va_D A (v0_c_J7_latin cy ) := hD.sub (ws' := []) [] (by decide) rfl
  have hFc := va_free (wc := (v0_c_J7_latin cy )) hD hS hA [] rfl
  refine va_calli (va_runS (As := [.ref (k 15), .int (nI i9)]) (rest := []) ⟨hx, hb, hml, hown, hts⟩ (c_J7_latin l dC dI cy k i9 h9 H.size) (va_cwS 2 hts gJ0_charAt_5068e_J1_charAt_3b067 rfl rfl rfl (by decide +kernel) ⟨Nat.le_of_ble_eq_true rfl, Nat.le_of_ble_eq_true rfl⟩) ⟨nb_blindE, fun U hU hW => ⟨rfl, ⟨by rw [hU], by rw [hU]; exact hPc, va_K.moved hW.alike hK, hDc.weaken (fun _ _ _ _ => trivial), hG.warm hW⟩, nE.to hE hS hW hU hFc⟩⟩ rfl rfl hl.1 rfl (lv_room (Nat.le_of_ble_eq_true rfl)) dJ0_charAt_5068e_12 ⟨Nat.le_of_ble_eq_true rfl, Nat.le_of_ble_eq_true rfl⟩) hS (fun q _ h => hFc q h) hFc (fun r_2 u2 t H1 locs ht hvm hw hB hz1 hk1 hS => ?_)
  obtain ⟨hP1, hK1, hD1⟩ := hB
  rw [ht] at hP1
  obtain ⟨hP, hD⟩ := va_join (wr := []) (w1 := (v1_c_J7_latin cy  u2)) hP hD [] [] rfl rfl (by decide) (by decide) hk1 hFc hP1 hD1
  generalize H1 = H at hP hS ⊢
  have hP : va_P (dC, dI) nCl [] H := hP
  have hD : va_D A [] := hD
  subst hw
  have hP : va_P (dC, dI) nCl (v1_c_J7_charAt cy  (fun _ => 0)) H := hP
  have hD : va_D A (v1_c_J7_charAt cy  (fun _ => 0)) := hD
  exact W.zret (v := (sx7.getD i9 0 &&& 255)) hx hb hr (sc_nar _) (fun t ht hW => ⟨⟨(sx7.getD i9 0 &&& 255), (fun _ => 0), rfl, rfl, by rw [ht]; exact hP, va_K.moved hW.alike hK, hD⟩, hS.F ht⟩) hS.2.2 dJ0_charAt_5068e_15

def v0_c_J8_coder (cy : Nat → ClassId)  : va_W := []
def v1_c_J8_coder (cy : Nat → ClassId)  (r : Nat → Nat) : va_W := []
set_option maxHeartbeats 40000000 in
set_option maxRecDepth 100000 in
/-- coder() -/
theorem c_J8_coder (l : Launch) (dC : Nat → ClassId) (dI : Nat → Nat → Nat) (cy : Nat → ClassId) (k : Nat → Nat)  (sz : Nat) : Met l yJ0_coder_7d493 wsJ0_coder_7d493 ({ frames := 0, cells := 0, slots := 0, locals := 0 }) (va_Pc [.ref (k 16)] (nInE (dC, dI) cy k sz (v0_c_J8_coder cy ))) (va_Qi (fun (z : Int32) (_ : Nat → Nat) => z = 0) (fun r t => nOut (dC, dI) cy (va_A (v0_c_J8_coder cy ) sz) (v1_c_J8_coder cy  r) t) (va_A (v0_c_J8_coder cy ) sz)) 0 0 (va_A (v0_c_J8_coder cy ) sz) := by
  refine Met.ofW (cc := cJ0_coder_7d493) (maxL := 1) (ret := (some .byte)) (by decide) rfl ?_
  intro p e s m args below meth c s₁ B hml hv
  obtain ⟨rfl, ⟨hsz, hP, hK, hD0, hG⟩, hE⟩ := hv
  have hx := B.exec
  have hb := B.bytes
  have hr := B.returns
  have hts := atoms_spec (ws := wsJ0_coder_7d493) B.pre
  have hown : s.vm.findClass RJ0 = some m.cls := findClass_of_methodNamed B.named
  have hlocks := B.notSynchronized
  subst hsz
  have hD := hD0.self (sz := s.heap.size)
  generalize hAe : va_A (v0_c_J8_coder cy ) s.heap.size = A at hD hE ⊢
  have hA : ∀ q : Nat, s.heap.size ≤ q → A q := fun q h => by rw [← hAe]; exact Or.inr h
  have hS : va_S A s.heap s.heap [] := va_S.rf
  have hP : va_P (dC, dI) nCl (v0_c_J8_coder cy ) s.heap := hP
  have hl := lv_entry ([.ref (k 16)]) (n := 1) (Nat.le_of_ble_eq_true rfl)
  rw [lg_entry_eq]
  generalize (lg_sl ([.ref (k 16)]) ++ List.replicate (1 - (lg_sl ([.ref (k 16)])).length) Slot.unset).toArray = ls at hl ⊢
  have hl : lv_has ls 1 [(0, .ref (k 16))] := hl
  have hP : va_P (dC, dI) nCl [] s.heap := hP
  have hD : va_D A [] := hD
  refine va_gets hx hb hE.1 hS hown (hts _ (List.mem_cons_of_mem _ (List.mem_of_getElem? (i := 0) rfl))) (fun _ h9 => h9) dJ0_coder_7d493_0 ?_
  refine lv_if_eq (tgt := 13) hx hb dJ0_coder_7d493_3 (by decide) (fun c1 => False.elim (by revert c1; decide)) (fun _ => ?_)
  refine lv_aload_n hx hb dJ0_coder_7d493_6 rfl (lv_at hl 0 rfl) ?_
  refine vk_getf hx hb (hE.2.2.1.1 8 (by decide)).2.1 hS hown (hts _ (List.mem_cons_of_mem _ (List.mem_of_getElem? (i := 1) rfl))) (fun _ h9 => h9) dJ0_coder_7d493_7 ?_
  refine lv_goto (tgt := 14) hx hb dJ0_coder_7d493_10 (by decide) ?_
  have hP : va_P (dC, dI) nCl (v1_c_J8_coder cy  (fun _ => 0)) s.heap := hP
  have hD : va_D A (v1_c_J8_coder cy  (fun _ => 0)) := hD
  exact W.zret (v := 0) hx hb hr rfl (fun t ht hW => ⟨⟨0, (fun _ => 0), rfl, rfl, by rw [ht]; exact hP, va_K.moved hW.alike hK, hD⟩, hS.F ht⟩) hS.2.2 dJ0_coder_7d493_14
def v0_c_J8_len (cy : Nat → ClassId)  : va_W := []
def v1_c_J8_len (cy : Nat → ClassId)  (r : Nat → Nat) : va_W := []
set_option maxHeartbeats 40000000 in
set_option maxRecDepth 100000 in
/-- length() of the words' text -/
theorem c_J8_len (l : Launch) (dC : Nat → ClassId) (dI : Nat → Nat → Nat) (cy : Nat → ClassId) (k : Nat → Nat)  (sz : Nat) : Met l yJ0_length_8abf5 wsJ0_length_8abf5 ({ frames := 1, cells := 0, slots := 0, locals := 20 }) (va_Pc [.ref (k 16)] (nInE (dC, dI) cy k sz (v0_c_J8_len cy ))) (va_Qi (fun (z : Int32) (_ : Nat → Nat) => z = 4) (fun r t => nOut (dC, dI) cy (va_A (v0_c_J8_len cy ) sz) (v1_c_J8_len cy  r) t) (va_A (v0_c_J8_len cy ) sz)) 0 0 (va_A (v0_c_J8_len cy ) sz) := by
  refine Met.ofW (cc := cJ0_length_8abf5) (maxL := 1) (ret := (some .int)) (by decide) rfl ?_
  intro p e s m args below meth c s₁ B hml hv
  obtain ⟨rfl, ⟨hsz, hP, hK, hD0, hG⟩, hE⟩ := hv
  have hx := B.exec
  have hb := B.bytes
  have hr := B.returns
  have hts := atoms_spec (ws := wsJ0_length_8abf5) B.pre
  have hown : s.vm.findClass RJ0 = some m.cls := findClass_of_methodNamed B.named
  have hlocks := B.notSynchronized
  subst hsz
  have hD := hD0.self (sz := s.heap.size)
  generalize hAe : va_A (v0_c_J8_len cy ) s.heap.size = A at hD hE ⊢
  have hA : ∀ q : Nat, s.heap.size ≤ q → A q := fun q h => by rw [← hAe]; exact Or.inr h
  have hS : va_S A s.heap s.heap [] := va_S.rf
  have hP : va_P (dC, dI) nCl (v0_c_J8_len cy ) s.heap := hP
  have hl := lv_entry ([.ref (k 16)]) (n := 1) (Nat.le_of_ble_eq_true rfl)
  rw [lg_entry_eq]
  generalize (lg_sl ([.ref (k 16)]) ++ List.replicate (1 - (lg_sl ([.ref (k 16)])).length) Slot.unset).toArray = ls at hl ⊢
  have hl : lv_has ls 1 [(0, .ref (k 16))] := hl
  have hP : va_P (dC, dI) nCl [] s.heap := hP
  have hD : va_D A [] := hD
  refine lv_aload_n hx hb dJ0_length_8abf5_0 rfl (lv_at hl 0 rfl) ?_
  refine vk_getf hx hb (hE.2.2.1.1 8 (by decide)).2.2.1 hS hown (hts _ (List.mem_cons_of_mem _ (List.mem_of_getElem? (i := 0) rfl))) (fun _ h9 => h9) dJ0_length_8abf5_1 ?_
  refine va_tlen hx hb (hE.2.2.1.1 8 (by decide)).2.2.2 hS (v := 4) rfl dJ0_length_8abf5_4 ?_
  refine lv_aload_n hx hb dJ0_length_8abf5_5 rfl (lv_at hl 0 rfl) ?_
  have hPc : va_P (dC, dI) nCl (v0_c_J8_coder cy ) s.heap := hP.sub (ws' := []) [] rfl
  have hDc : va_D A (v0_c_J8_coder cy ) := hD.sub (ws' := []) [] (by decide) rfl
  have hFc := va_free (wc := (v0_c_J8_coder cy )) hD hS hA [] rfl
  refine va_calli (va_runV (As := []) (rest := [.int 4]) ⟨hx, hb, hml, hown, hts⟩ (c_J8_coder l dC dI cy k  s.heap.size) (cwV 0 hts gJ0_length_8abf5_J0_coder_7d493 rfl rfl rfl (by decide +kernel) ⟨Nat.le_of_ble_eq_true rfl, Nat.le_of_ble_eq_true rfl⟩) ⟨nb_blindE, (vk_recv (i := 8) hE.2.2.1 (by decide) hS), fun U hU hW => ⟨rfl, ⟨by rw [hU], by rw [hU]; exact hPc, va_K.moved hW.alike hK, hDc.weaken (fun _ _ _ _ => trivial), hG.warm hW⟩, nE.to hE hS hW hU hFc⟩⟩ rfl rfl hl.1 rfl (lv_room (Nat.le_of_ble_eq_true rfl)) dJ0_length_8abf5_6 ⟨Nat.le_of_ble_eq_true rfl, Nat.le_of_ble_eq_true rfl⟩) hS (fun q _ h => hFc q h) hFc (fun r_1 u1 t H1 locs ht hvm hw hB hz1 hk1 hS => ?_)
  have hw : r_1 = 0 := hw.trans (by decide)
  subst hw
  obtain ⟨hP1, hK1, hD1⟩ := hB
  rw [ht] at hP1
  obtain ⟨hP, hD⟩ := va_join (wr := []) (w1 := (v1_c_J8_coder cy  u1)) hP hD [] [] rfl rfl (by decide) (by decide) hk1 hFc hP1 hD1
  generalize H1 = H at hP hS ⊢
  have hP : va_P (dC, dI) nCl [] H := hP
  have hD : va_D A [] := hD
  refine lv_ishr hx hb dJ0_length_8abf5_9 ?_
  refine W.eq (g2 := F0 m 10 ls [.int 4]) rfl ?_
  have hP : va_P (dC, dI) nCl (v1_c_J8_len cy  (fun _ => 0)) H := hP
  have hD : va_D A (v1_c_J8_len cy  (fun _ => 0)) := hD
  exact W.iret (v := 4) hx hb hr (fun t ht hW => ⟨⟨4, (fun _ => 0), rfl, rfl, by rw [ht]; exact hP, va_K.moved hW.alike hK, hD⟩, hS.F ht⟩) hS.2.2 dJ0_length_8abf5_10
def v0_c_J8_isLatin1 (cy : Nat → ClassId)  : va_W := []
def v1_c_J8_isLatin1 (cy : Nat → ClassId)  (r : Nat → Nat) : va_W := []
set_option maxHeartbeats 40000000 in
set_option maxRecDepth 100000 in
/-- isLatin1() -/
theorem c_J8_isLatin1 (l : Launch) (dC : Nat → ClassId) (dI : Nat → Nat → Nat) (cy : Nat → ClassId) (k : Nat → Nat)  (sz : Nat) : Met l yJ0_isLatin1_aae02 wsJ0_isLatin1_aae02 ({ frames := 0, cells := 0, slots := 0, locals := 0 }) (va_Pc [.ref (k 16)] (nInE (dC, dI) cy k sz (v0_c_J8_isLatin1 cy ))) (va_Qi (fun (z : Int32) (_ : Nat → Nat) => z = 1) (fun r t => nOut (dC, dI) cy (va_A (v0_c_J8_isLatin1 cy ) sz) (v1_c_J8_isLatin1 cy  r) t) (va_A (v0_c_J8_isLatin1 cy ) sz)) 0 0 (va_A (v0_c_J8_isLatin1 cy ) sz) := by
  refine Met.ofW (cc := cJ0_isLatin1_aae02) (maxL := 1) (ret := (some .boolean)) (by decide) rfl ?_
  intro p e s m args below meth c s₁ B hml hv
  obtain ⟨rfl, ⟨hsz, hP, hK, hD0, hG⟩, hE⟩ := hv
  have hx := B.exec
  have hb := B.bytes
  have hr := B.returns
  have hts := atoms_spec (ws := wsJ0_isLatin1_aae02) B.pre
  have hown : s.vm.findClass RJ0 = some m.cls := findClass_of_methodNamed B.named
  have hlocks := B.notSynchronized
  subst hsz
  have hD := hD0.self (sz := s.heap.size)
  generalize hAe : va_A (v0_c_J8_isLatin1 cy ) s.heap.size = A at hD hE ⊢
  have hA : ∀ q : Nat, s.heap.size ≤ q → A q := fun q h => by rw [← hAe]; exact Or.inr h
  have hS : va_S A s.heap s.heap [] := va_S.rf
  have hP : va_P (dC, dI) nCl (v0_c_J8_isLatin1 cy ) s.heap := hP
  have hl := lv_entry ([.ref (k 16)]) (n := 1) (Nat.le_of_ble_eq_true rfl)
  rw [lg_entry_eq]
  generalize (lg_sl ([.ref (k 16)]) ++ List.replicate (1 - (lg_sl ([.ref (k 16)])).length) Slot.unset).toArray = ls at hl ⊢
  have hl : lv_has ls 1 [(0, .ref (k 16))] := hl
  have hP : va_P (dC, dI) nCl [] s.heap := hP
  have hD : va_D A [] := hD
  refine va_gets hx hb hE.1 hS hown (hts _ (List.mem_cons_of_mem _ (List.mem_of_getElem? (i := 0) rfl))) (fun _ h9 => h9) dJ0_isLatin1_aae02_0 ?_
  refine lv_if_eq (tgt := 17) hx hb dJ0_isLatin1_aae02_3 (by decide) (fun c1 => False.elim (by revert c1; decide)) (fun _ => ?_)
  refine lv_aload_n hx hb dJ0_isLatin1_aae02_6 rfl (lv_at hl 0 rfl) ?_
  refine vk_getf hx hb (hE.2.2.1.1 8 (by decide)).2.1 hS hown (hts _ (List.mem_cons_of_mem _ (List.mem_of_getElem? (i := 1) rfl))) (fun _ h9 => h9) dJ0_isLatin1_aae02_7 ?_
  refine lv_if_ne (tgt := 17) hx hb dJ0_isLatin1_aae02_10 (by decide) (fun c1 => False.elim (by revert c1; decide)) (fun _ => ?_)
  refine lv_iconst (v := 1) hx hb dJ0_isLatin1_aae02_13 (by decide) ?_
  refine lv_goto (tgt := 18) hx hb dJ0_isLatin1_aae02_14 (by decide) ?_
  have hP : va_P (dC, dI) nCl (v1_c_J8_isLatin1 cy  (fun _ => 0)) s.heap := hP
  have hD : va_D A (v1_c_J8_isLatin1 cy  (fun _ => 0)) := hD
  exact W.zret (v := 1) hx hb hr rfl (fun t ht hW => ⟨⟨1, (fun _ => 0), rfl, rfl, by rw [ht]; exact hP, va_K.moved hW.alike hK, hD⟩, hS.F ht⟩) hS.2.2 dJ0_isLatin1_aae02_18
def v0_c_J8_pre_n (cy : Nat → ClassId)  : va_W := []
def v1_c_J8_pre_n (cy : Nat → ClassId)  (r : Nat → Nat) : va_W := []
set_option maxHeartbeats 40000000 in
set_option maxRecDepth 100000 in
/-- checkIndex(i, 4, f) -/
theorem c_J8_pre_n (l : Launch) (dC : Nat → ClassId) (dI : Nat → Nat → Nat) (cy : Nat → ClassId) (k : Nat → Nat)  (i9 : Nat) (h9 : i9 < 4) (sz : Nat) : Met l yJ3_checkIndex_8e157 wsJ3_checkIndex_8e157 ({ frames := 0, cells := 0, slots := 0, locals := 0 }) (va_Pc [.int (nI i9), .int 4, .null] (nInE (dC, dI) cy k sz (v0_c_J8_pre_n cy ))) (va_Qi (fun (z : Int32) (_ : Nat → Nat) => z = nI i9) (fun r t => nOut (dC, dI) cy (va_A (v0_c_J8_pre_n cy ) sz) (v1_c_J8_pre_n cy  r) t) (va_A (v0_c_J8_pre_n cy ) sz)) 0 0 (va_A (v0_c_J8_pre_n cy ) sz) := by
  refine Met.ofW (cc := cJ3_checkIndex_8e157) (maxL := 3) (ret := (some .int)) (by decide) rfl ?_
  intro p e s m args below meth c s₁ B hml hv
  obtain ⟨rfl, ⟨hsz, hP, hK, hD0, hG⟩, hE⟩ := hv
  have hx := B.exec
  have hb := B.bytes
  have hr := B.returns
  have hts := atoms_spec (ws := wsJ3_checkIndex_8e157) B.pre
  have hown : s.vm.findClass RJ3 = some m.cls := findClass_of_methodNamed B.named
  have hlocks := B.notSynchronized
  subst hsz
  have hD := hD0.self (sz := s.heap.size)
  generalize hAe : va_A (v0_c_J8_pre_n cy ) s.heap.size = A at hD hE ⊢
  have hA : ∀ q : Nat, s.heap.size ≤ q → A q := fun q h => by rw [← hAe]; exact Or.inr h
  have hS : va_S A s.heap s.heap [] := va_S.rf
  have hP : va_P (dC, dI) nCl (v0_c_J8_pre_n cy ) s.heap := hP
  have hl := lv_entry ([.int (nI i9), .int 4, .null]) (n := 3) (Nat.le_of_ble_eq_true rfl)
  rw [lg_entry_eq]
  generalize (lg_sl ([.int (nI i9), .int 4, .null]) ++ List.replicate (3 - (lg_sl ([.int (nI i9), .int 4, .null])).length) Slot.unset).toArray = ls at hl ⊢
  have hl : lv_has ls 3 [(0, .int (nI i9)), (1, .int 4), (2, .null)] := hl
  have hP : va_P (dC, dI) nCl [] s.heap := hP
  have hD : va_D A [] := hD
  refine lv_iload_n hx hb dJ3_checkIndex_8e157_0 rfl (lv_at hl 0 rfl) ?_
  refine lv_if_lt (tgt := 9) hx hb dJ3_checkIndex_8e157_1 (by decide) (fun c1 => absurd c1 (nI_pos (by omega))) (fun _ => ?_)
  refine lv_iload_n hx hb dJ3_checkIndex_8e157_4 rfl (lv_at hl 0 rfl) ?_
  refine lv_iload_n hx hb dJ3_checkIndex_8e157_5 rfl (lv_at hl 1 rfl) ?_
  refine lv_icmp_lt (tgt := 16) hx hb dJ3_checkIndex_8e157_6 (by decide) (fun _ => ?_) (fun c1 => absurd (nI_lt (b := 4) h9 (by omega)) c1)
  refine lv_iload_n hx hb dJ3_checkIndex_8e157_16 rfl (lv_at hl 0 rfl) ?_
  have hP : va_P (dC, dI) nCl (v1_c_J8_pre_n cy  (fun _ => 0)) s.heap := hP
  have hD : va_D A (v1_c_J8_pre_n cy  (fun _ => 0)) := hD
  exact W.iret (v := (nI i9)) hx hb hr (fun t ht hW => ⟨⟨(nI i9), (fun _ => 0), rfl, rfl, by rw [ht]; exact hP, va_K.moved hW.alike hK, hD⟩, hS.F ht⟩) hS.2.2 dJ3_checkIndex_8e157_17
def v0_c_J8_pre_r (cy : Nat → ClassId)  : va_W := []
def v1_c_J8_pre_r (cy : Nat → ClassId)  (r : Nat → Nat) : va_W := []
set_option maxHeartbeats 40000000 in
set_option maxRecDepth 100000 in
/-- checkIndex(i, 4, f) -/
theorem c_J8_pre_r (l : Launch) (dC : Nat → ClassId) (dI : Nat → Nat → Nat) (cy : Nat → ClassId) (k : Nat → Nat)  (i9 : Nat) (f9 : Nat) (h9 : i9 < 4) (sz : Nat) : Met l yJ3_checkIndex_8e157 wsJ3_checkIndex_8e157 ({ frames := 0, cells := 0, slots := 0, locals := 0 }) (va_Pc [.int (nI i9), .int 4, .ref f9] (nInE (dC, dI) cy k sz (v0_c_J8_pre_r cy ))) (va_Qi (fun (z : Int32) (_ : Nat → Nat) => z = nI i9) (fun r t => nOut (dC, dI) cy (va_A (v0_c_J8_pre_r cy ) sz) (v1_c_J8_pre_r cy  r) t) (va_A (v0_c_J8_pre_r cy ) sz)) 0 0 (va_A (v0_c_J8_pre_r cy ) sz) := by
  refine Met.ofW (cc := cJ3_checkIndex_8e157) (maxL := 3) (ret := (some .int)) (by decide) rfl ?_
  intro p e s m args below meth c s₁ B hml hv
  obtain ⟨rfl, ⟨hsz, hP, hK, hD0, hG⟩, hE⟩ := hv
  have hx := B.exec
  have hb := B.bytes
  have hr := B.returns
  have hts := atoms_spec (ws := wsJ3_checkIndex_8e157) B.pre
  have hown : s.vm.findClass RJ3 = some m.cls := findClass_of_methodNamed B.named
  have hlocks := B.notSynchronized
  subst hsz
  have hD := hD0.self (sz := s.heap.size)
  generalize hAe : va_A (v0_c_J8_pre_r cy ) s.heap.size = A at hD hE ⊢
  have hA : ∀ q : Nat, s.heap.size ≤ q → A q := fun q h => by rw [← hAe]; exact Or.inr h
  have hS : va_S A s.heap s.heap [] := va_S.rf
  have hP : va_P (dC, dI) nCl (v0_c_J8_pre_r cy ) s.heap := hP
  have hl := lv_entry ([.int (nI i9), .int 4, .ref f9]) (n := 3) (Nat.le_of_ble_eq_true rfl)
  rw [lg_entry_eq]
  generalize (lg_sl ([.int (nI i9), .int 4, .ref f9]) ++ List.replicate (3 - (lg_sl ([.int (nI i9), .int 4, .ref f9])).length) Slot.unset).toArray = ls at hl ⊢
  have hl : lv_has ls 3 [(0, .int (nI i9)), (1, .int 4), (2, .ref f9)] := hl
  have hP : va_P (dC, dI) nCl [] s.heap := hP
  have hD : va_D A [] := hD
  refine lv_iload_n hx hb dJ3_checkIndex_8e157_0 rfl (lv_at hl 0 rfl) ?_
  refine lv_if_lt (tgt := 9) hx hb dJ3_checkIndex_8e157_1 (by decide) (fun c1 => absurd c1 (nI_pos (by omega))) (fun _ => ?_)
  refine lv_iload_n hx hb dJ3_checkIndex_8e157_4 rfl (lv_at hl 0 rfl) ?_
  refine lv_iload_n hx hb dJ3_checkIndex_8e157_5 rfl (lv_at hl 1 rfl) ?_
  refine lv_icmp_lt (tgt := 16) hx hb dJ3_checkIndex_8e157_6 (by decide) (fun _ => ?_) (fun c1 => absurd (nI_lt (b := 4) h9 (by omega)) c1)
  refine lv_iload_n hx hb dJ3_checkIndex_8e157_16 rfl (lv_at hl 0 rfl) ?_
  have hP : va_P (dC, dI) nCl (v1_c_J8_pre_r cy  (fun _ => 0)) s.heap := hP
  have hD : va_D A (v1_c_J8_pre_r cy  (fun _ => 0)) := hD
  exact W.iret (v := (nI i9)) hx hb hr (fun t ht hW => ⟨⟨(nI i9), (fun _ => 0), rfl, rfl, by rw [ht]; exact hP, va_K.moved hW.alike hK, hD⟩, hS.F ht⟩) hS.2.2 dJ3_checkIndex_8e157_17
def v0_c_J8_chk (cy : Nat → ClassId)  : va_W := []
def v1_c_J8_chk (cy : Nat → ClassId)  (r : Nat → Nat) : va_W := []
set_option maxHeartbeats 40000000 in
set_option maxRecDepth 100000 in
/-- String.checkIndex(i, 4) -/
theorem c_J8_chk (l : Launch) (dC : Nat → ClassId) (dI : Nat → Nat → Nat) (cy : Nat → ClassId) (k : Nat → Nat)  (i9 : Nat) (h9 : i9 < 4) (sz : Nat) : Met l yJ0_checkIndex_df160 wsJ0_checkIndex_df160 ({ frames := 1, cells := 0, slots := 0, locals := 22 }) (va_Pc [.int (nI i9), .int 4] (nInE (dC, dI) cy k sz (v0_c_J8_chk cy ))) (va_Qv (fun _ : Nat → Nat => True) (fun r t => nOut (dC, dI) cy (va_A (v0_c_J8_chk cy ) sz) (v1_c_J8_chk cy  r) t) (va_A (v0_c_J8_chk cy ) sz)) 0 0 (va_A (v0_c_J8_chk cy ) sz) := by
  refine Met.ofW (cc := cJ0_checkIndex_df160) (maxL := 2) (ret := none) (by decide) rfl ?_
  intro p e s m args below meth c s₁ B hml hv
  obtain ⟨rfl, ⟨hsz, hP, hK, hD0, hG⟩, hE⟩ := hv
  have hx := B.exec
  have hb := B.bytes
  have hr := B.returns
  have hts := atoms_spec (ws := wsJ0_checkIndex_df160) B.pre
  have hown : s.vm.findClass RJ0 = some m.cls := findClass_of_methodNamed B.named
  have hlocks := B.notSynchronized
  subst hsz
  have hD := hD0.self (sz := s.heap.size)
  generalize hAe : va_A (v0_c_J8_chk cy ) s.heap.size = A at hD hE ⊢
  have hA : ∀ q : Nat, s.heap.size ≤ q → A q := fun q h => by rw [← hAe]; exact Or.inr h
  have hS : va_S A s.heap s.heap [] := va_S.rf
  have hP : va_P (dC, dI) nCl (v0_c_J8_chk cy ) s.heap := hP
  have hl := lv_entry ([.int (nI i9), .int 4]) (n := 2) (Nat.le_of_ble_eq_true rfl)
  rw [lg_entry_eq]
  generalize (lg_sl ([.int (nI i9), .int 4]) ++ List.replicate (2 - (lg_sl ([.int (nI i9), .int 4])).length) Slot.unset).toArray = ls at hl ⊢
  have hl : lv_has ls 2 [(0, .int (nI i9)), (1, .int 4)] := hl
  have hP : va_P (dC, dI) nCl [] s.heap := hP
  have hD : va_D A [] := hD
  refine lv_iload_n hx hb dJ0_checkIndex_df160_0 rfl (lv_at hl 0 rfl) ?_
  refine lv_iload_n hx hb dJ0_checkIndex_df160_1 rfl (lv_at hl 1 rfl) ?_
  rcases hE.2.1 with hZ | ⟨f9, hZ⟩
  · refine va_gets hx hb hZ hS hown (hts _ (List.mem_cons_of_mem _ (List.mem_of_getElem? (i := 0) rfl))) (fun _ h9 => h9) dJ0_checkIndex_df160_2 ?_
    have hPc : va_P (dC, dI) nCl (v0_c_J8_pre_n cy ) s.heap := hP.sub (ws' := []) [] rfl
    have hDc : va_D A (v0_c_J8_pre_n cy ) := hD.sub (ws' := []) [] (by decide) rfl
    have hFc := va_free (wc := (v0_c_J8_pre_n cy )) hD hS hA [] rfl
    refine va_calli (va_runS (As := [.int (nI i9), .int 4, .null]) (rest := []) ⟨hx, hb, hml, hown, hts⟩ (c_J8_pre_n l dC dI cy k i9 h9 s.heap.size) (va_cwS 3 hts gJ0_checkIndex_df160_J3_checkIndex_8e157 rfl rfl rfl (by decide +kernel) ⟨Nat.le_of_ble_eq_true rfl, Nat.le_of_ble_eq_true rfl⟩) ⟨nb_blindE, fun U hU hW => ⟨rfl, ⟨by rw [hU], by rw [hU]; exact hPc, va_K.moved hW.alike hK, hDc.weaken (fun _ _ _ _ => trivial), hG.warm hW⟩, nE.to hE hS hW hU hFc⟩⟩ rfl rfl hl.1 rfl (lv_room (Nat.le_of_ble_eq_true rfl)) dJ0_checkIndex_df160_5 ⟨Nat.le_of_ble_eq_true rfl, Nat.le_of_ble_eq_true rfl⟩) hS (fun q _ h => hFc q h) hFc (fun r_1 u1 t H1 locs ht hvm hw hB hz1 hk1 hS => ?_)
    obtain ⟨hP1, hK1, hD1⟩ := hB
    rw [ht] at hP1
    obtain ⟨hP, hD⟩ := va_join (wr := []) (w1 := (v1_c_J8_pre_n cy  u1)) hP hD [] [] rfl rfl (by decide) (by decide) hk1 hFc hP1 hD1
    generalize H1 = H at hP hS ⊢
    have hP : va_P (dC, dI) nCl [] H := hP
    have hD : va_D A [] := hD
    refine lv_pop hx hb dJ0_checkIndex_df160_8 rfl ?_
    exact W.vret hx hb hr (fun t ht hW => ⟨⟨(fun _ => 0), rfl, trivial, by rw [ht]; exact hP, va_K.moved hW.alike hK, hD⟩, hS.F ht⟩) hS.2.2 dJ0_checkIndex_df160_9
  · refine va_gets hx hb hZ hS hown (hts _ (List.mem_cons_of_mem _ (List.mem_of_getElem? (i := 0) rfl))) (fun _ h9 => h9) dJ0_checkIndex_df160_2 ?_
    have hPc : va_P (dC, dI) nCl (v0_c_J8_pre_r cy ) s.heap := hP.sub (ws' := []) [] rfl
    have hDc : va_D A (v0_c_J8_pre_r cy ) := hD.sub (ws' := []) [] (by decide) rfl
    have hFc := va_free (wc := (v0_c_J8_pre_r cy )) hD hS hA [] rfl
    refine va_calli (va_runS (As := [.int (nI i9), .int 4, .ref f9]) (rest := []) ⟨hx, hb, hml, hown, hts⟩ (c_J8_pre_r l dC dI cy k i9 f9 h9 s.heap.size) (va_cwS 3 hts gJ0_checkIndex_df160_J3_checkIndex_8e157 rfl rfl rfl (by decide +kernel) ⟨Nat.le_of_ble_eq_true rfl, Nat.le_of_ble_eq_true rfl⟩) ⟨nb_blindE, fun U hU hW => ⟨rfl, ⟨by rw [hU], by rw [hU]; exact hPc, va_K.moved hW.alike hK, hDc.weaken (fun _ _ _ _ => trivial), hG.warm hW⟩, nE.to hE hS hW hU hFc⟩⟩ rfl rfl hl.1 rfl (lv_room (Nat.le_of_ble_eq_true rfl)) dJ0_checkIndex_df160_5 ⟨Nat.le_of_ble_eq_true rfl, Nat.le_of_ble_eq_true rfl⟩) hS (fun q _ h => hFc q h) hFc (fun r_2 u2 t H1 locs ht hvm hw hB hz1 hk1 hS => ?_)
    obtain ⟨hP1, hK1, hD1⟩ := hB
    rw [ht] at hP1
    obtain ⟨hP, hD⟩ := va_join (wr := []) (w1 := (v1_c_J8_pre_r cy  u2)) hP hD [] [] rfl rfl (by decide) (by decide) hk1 hFc hP1 hD1
    generalize H1 = H at hP hS ⊢
    have hP : va_P (dC, dI) nCl [] H := hP
    have hD : va_D A [] := hD
    refine lv_pop hx hb dJ0_checkIndex_df160_8 rfl ?_
    have hP : va_P (dC, dI) nCl (v1_c_J8_chk cy  (fun _ => 0)) H := hP
    have hD : va_D A (v1_c_J8_chk cy  (fun _ => 0)) := hD
    exact W.vret hx hb hr (fun t ht hW => ⟨⟨(fun _ => 0), rfl, trivial, by rw [ht]; exact hP, va_K.moved hW.alike hK, hD⟩, hS.F ht⟩) hS.2.2 dJ0_checkIndex_df160_9
def v0_c_J8_latin (cy : Nat → ClassId)  : va_W := []
def v1_c_J8_latin (cy : Nat → ClassId)  (r : Nat → Nat) : va_W := []
set_option maxHeartbeats 40000000 in
set_option maxRecDepth 100000 in
/-- StringLatin1.charAt -/
theorem c_J8_latin (l : Launch) (dC : Nat → ClassId) (dI : Nat → Nat → Nat) (cy : Nat → ClassId) (k : Nat → Nat)  (i9 : Nat) (h9 : i9 < 4) (sz : Nat) : Met l yJ1_charAt_3b067 wsJ1_charAt_3b067 ({ frames := 2, cells := 0, slots := 0, locals := 43 }) (va_Pc [.ref (k 17), .int (nI i9)] (nInE (dC, dI) cy k sz (v0_c_J8_latin cy ))) (va_Qi (fun (z : Int32) (_ : Nat → Nat) => z = sx8.getD i9 0 &&& 255) (fun r t => nOut (dC, dI) cy (va_A (v0_c_J8_latin cy ) sz) (v1_c_J8_latin cy  r) t) (va_A (v0_c_J8_latin cy ) sz)) 0 0 (va_A (v0_c_J8_latin cy ) sz) := by
  refine Met.ofW (cc := cJ1_charAt_3b067) (maxL := 2) (ret := (some .char)) (by decide) rfl ?_
  intro p e s m args below meth c s₁ B hml hv
  obtain ⟨rfl, ⟨hsz, hP, hK, hD0, hG⟩, hE⟩ := hv
  have hx := B.exec
  have hb := B.bytes
  have hr := B.returns
  have hts := atoms_spec (ws := wsJ1_charAt_3b067) B.pre
  have hown : s.vm.findClass RJ1 = some m.cls := findClass_of_methodNamed B.named
  have hlocks := B.notSynchronized
  subst hsz
  have hD := hD0.self (sz := s.heap.size)
  generalize hAe : va_A (v0_c_J8_latin cy ) s.heap.size = A at hD hE ⊢
  have hA : ∀ q : Nat, s.heap.size ≤ q → A q := fun q h => by rw [← hAe]; exact Or.inr h
  have hS : va_S A s.heap s.heap [] := va_S.rf
  have hP : va_P (dC, dI) nCl (v0_c_J8_latin cy ) s.heap := hP
  have hl := lv_entry ([.ref (k 17), .int (nI i9)]) (n := 2) (Nat.le_of_ble_eq_true rfl)
  rw [lg_entry_eq]
  generalize (lg_sl ([.ref (k 17), .int (nI i9)]) ++ List.replicate (2 - (lg_sl ([.ref (k 17), .int (nI i9)])).length) Slot.unset).toArray = ls at hl ⊢
  have hl : lv_has ls 2 [(0, .ref (k 17)), (1, .int (nI i9))] := hl
  have hP : va_P (dC, dI) nCl [] s.heap := hP
  have hD : va_D A [] := hD
  refine lv_iload_n hx hb dJ1_charAt_3b067_0 rfl (lv_at hl 1 rfl) ?_
  refine lv_aload_n hx hb dJ1_charAt_3b067_1 rfl (lv_at hl 0 rfl) ?_
  refine va_tlen hx hb (hE.2.2.1.1 8 (by decide)).2.2.2 hS (v := 4) rfl dJ1_charAt_3b067_2 ?_
  have hPc : va_P (dC, dI) nCl (v0_c_J8_chk cy ) s.heap := hP.sub (ws' := []) [] rfl
  have hDc : va_D A (v0_c_J8_chk cy ) := hD.sub (ws' := []) [] (by decide) rfl
  have hFc := va_free (wc := (v0_c_J8_chk cy )) hD hS hA [] rfl
  refine va_callv (va_runS (As := [.int (nI i9), .int 4]) (rest := []) ⟨hx, hb, hml, hown, hts⟩ (c_J8_chk l dC dI cy k i9 h9 s.heap.size) (va_cwS 2 hts gJ1_charAt_3b067_J0_checkIndex_df160 rfl rfl rfl (by decide +kernel) ⟨Nat.le_of_ble_eq_true rfl, Nat.le_of_ble_eq_true rfl⟩) ⟨nb_blindE, fun U hU hW => ⟨rfl, ⟨by rw [hU], by rw [hU]; exact hPc, va_K.moved hW.alike hK, hDc.weaken (fun _ _ _ _ => trivial), hG.warm hW⟩, nE.to hE hS hW hU hFc⟩⟩ rfl rfl hl.1 rfl (lv_room (Nat.le_of_ble_eq_true rfl)) dJ1_charAt_3b067_3 ⟨Nat.le_of_ble_eq_true rfl, Nat.le_of_ble_eq_true rfl⟩) hS (fun q _ h => hFc q h) hFc (fun u1 t H1 locs ht hvm hw hB hz1 hk1 hS => ?_)
  obtain ⟨hP1, hK1, hD1⟩ := hB
  rw [ht] at hP1
  obtain ⟨hP, hD⟩ := va_join (wr := []) (w1 := (v1_c_J8_chk cy  u1)) hP hD [] [] rfl rfl (by decide) (by decide) hk1 hFc hP1 hD1
  generalize H1 = H at hP hS ⊢
  have hP : va_P (dC, dI) nCl [] H := hP
  have hD : va_D A [] := hD
  refine lv_aload_n hx hb dJ1_charAt_3b067_6 rfl (lv_at hl 0 rfl) ?_
  refine lv_iload_n hx hb dJ1_charAt_3b067_7 rfl (lv_at hl 1 rfl) ?_
  refine va_tb hx hb (hE.2.2.1.1 8 (by decide)).2.2.2 hS (show vp_in (nI i9) 4 from vp_in_nI h9 (by omega)) (v := .int (sx8.getD i9 0)) (by rw [nI_clamp (by omega)]; rfl) dJ1_charAt_3b067_8 ?_
  refine lv_sipush (v := 255) hx hb dJ1_charAt_3b067_9 (by decide) ?_
  refine lv_iand hx hb dJ1_charAt_3b067_12 ?_
  refine lv_i2c (v := sx8.getD i9 0 &&& 255) hx hb dJ1_charAt_3b067_13 (sc_c2 _) ?_
  have hP : va_P (dC, dI) nCl (v1_c_J8_latin cy  (fun _ => 0)) H := hP
  have hD : va_D A (v1_c_J8_latin cy  (fun _ => 0)) := hD
  exact W.zret (v := (sx8.getD i9 0 &&& 255)) hx hb hr (sc_nar _) (fun t ht hW => ⟨⟨(sx8.getD i9 0 &&& 255), (fun _ => 0), rfl, rfl, by rw [ht]; exact hP, va_K.moved hW.alike hK, hD⟩, hS.F ht⟩) hS.2.2 dJ1_charAt_3b067_14
def v0_c_J8_charAt (cy : Nat → ClassId)  : va_W := []
def v1_c_J8_charAt (cy : Nat → ClassId)  (r : Nat → Nat) : va_W := []
set_option maxHeartbeats 40000000 in
set_option maxRecDepth 100000 in
/-- charAt(i) of the words' text -/
theorem c_J8_charAt (l : Launch) (dC : Nat → ClassId) (dI : Nat → Nat → Nat) (cy : Nat → ClassId) (k : Nat → Nat)  (i9 : Nat) (h9 : i9 < 4) (sz : Nat) : Met l yJ0_charAt_5068e wsJ0_charAt_5068e ({ frames := 3, cells := 0, slots := 0, locals := 64 }) (va_Pc [.ref (k 16), .int (nI i9)] (nInE (dC, dI) cy k sz (v0_c_J8_charAt cy ))) (va_Qi (fun (z : Int32) (_ : Nat → Nat) => z = sx8.getD i9 0 &&& 255) (fun r t => nOut (dC, dI) cy (va_A (v0_c_J8_charAt cy ) sz) (v1_c_J8_charAt cy  r) t) (va_A (v0_c_J8_charAt cy ) sz)) 0 0 (va_A (v0_c_J8_charAt cy ) sz) := by
  refine Met.ofW (cc := cJ0_charAt_5068e) (maxL := 2) (ret := (some .char)) (by decide) rfl ?_
  intro p e s m args below meth c s₁ B hml hv
  obtain ⟨rfl, ⟨hsz, hP, hK, hD0, hG⟩, hE⟩ := hv
  have hx := B.exec
  have hb := B.bytes
  have hr := B.returns
  have hts := atoms_spec (ws := wsJ0_charAt_5068e) B.pre
  have hown : s.vm.findClass RJ0 = some m.cls := findClass_of_methodNamed B.named
  have hlocks := B.notSynchronized
  subst hsz
  have hD := hD0.self (sz := s.heap.size)
  generalize hAe : va_A (v0_c_J8_charAt cy ) s.heap.size = A at hD hE ⊢
  have hA : ∀ q : Nat, s.heap.size ≤ q → A q := fun q h => by rw [← hAe]; exact Or.inr h
  have hS : va_S A s.heap s.heap [] := va_S.rf
  have hP : va_P (dC, dI) nCl (v0_c_J8_charAt cy ) s.heap := hP
  have hl := lv_entry ([.ref (k 16), .int (nI i9)]) (n := 2) (Nat.le_of_ble_eq_true rfl)
  rw [lg_entry_eq]
  generalize (lg_sl ([.ref (k 16), .int (nI i9)]) ++ List.replicate (2 - (lg_sl ([.ref (k 16), .int (nI i9)])).length) Slot.unset).toArray = ls at hl ⊢
  have hl : lv_has ls 2 [(0, .ref (k 16)), (1, .int (nI i9))] := hl
  have hP : va_P (dC, dI) nCl [] s.heap := hP
  have hD : va_D A [] := hD
  refine lv_aload_n hx hb dJ0_charAt_5068e_0 rfl (lv_at hl 0 rfl) ?_
  have hPc : va_P (dC, dI) nCl (v0_c_J8_isLatin1 cy ) s.heap := hP.sub (ws' := []) [] rfl
  have hDc : va_D A (v0_c_J8_isLatin1 cy ) := hD.sub (ws' := []) [] (by decide) rfl
  have hFc := va_free (wc := (v0_c_J8_isLatin1 cy )) hD hS hA [] rfl
  refine va_calli (va_runV (As := []) (rest := []) ⟨hx, hb, hml, hown, hts⟩ (c_J8_isLatin1 l dC dI cy k  s.heap.size) (cwV 0 hts gJ0_charAt_5068e_J0_isLatin1_aae02 rfl rfl rfl (by decide +kernel) ⟨Nat.le_of_ble_eq_true rfl, Nat.le_of_ble_eq_true rfl⟩) ⟨nb_blindE, (vk_recv (i := 8) hE.2.2.1 (by decide) hS), fun U hU hW => ⟨rfl, ⟨by rw [hU], by rw [hU]; exact hPc, va_K.moved hW.alike hK, hDc.weaken (fun _ _ _ _ => trivial), hG.warm hW⟩, nE.to hE hS hW hU hFc⟩⟩ rfl rfl hl.1 rfl (lv_room (Nat.le_of_ble_eq_true rfl)) dJ0_charAt_5068e_1 ⟨Nat.le_of_ble_eq_true rfl, Nat.le_of_ble_eq_true rfl⟩) hS (fun q _ h => hFc q h) hFc (fun r_1 u1 t H1 locs ht hvm hw hB hz1 hk1 hS => ?_)
  have hw : r_1 = 1 := hw.trans (by decide)
  subst hw
  obtain ⟨hP1, hK1, hD1⟩ := hB
  rw [ht] at hP1
  obtain ⟨hP, hD⟩ := va_join (wr := []) (w1 := (v1_c_J8_isLatin1 cy  u1)) hP hD [] [] rfl rfl (by decide) (by decide) hk1 hFc hP1 hD1
  generalize H1 = H at hP hS ⊢
  have hP : va_P (dC, dI) nCl [] H := hP
  have hD : va_D A [] := hD
  refine lv_if_eq (tgt := 16) hx hb dJ0_charAt_5068e_4 (by decide) (fun c1 => False.elim (by revert c1; decide)) (fun _ => ?_)
  refine lv_aload_n hx hb dJ0_charAt_5068e_7 rfl (lv_at hl 0 rfl) ?_
  refine vk_getf hx hb (hE.2.2.1.1 8 (by decide)).2.2.1 hS hown (hts _ (List.mem_cons_of_mem _ (List.mem_append_left _ (List.mem_of_getElem? (i := 0) rfl)))) (fun _ h9 => h9) dJ0_charAt_5068e_8 ?_
  refine lv_iload_n hx hb dJ0_charAt_5068e_11 rfl (lv_at hl 1 rfl) ?_
  have hPc : va_P (dC, dI) nCl (v0_c_J8_latin cy ) H := hP.sub (ws' := []) [] rfl
  have hDc : va_D A (v0_c_J8_latin cy ) := hD.sub (ws' := []) [] (by decide) rfl
  have hFc := va_free (wc := (v0_c_J8_latin cy )) hD hS hA [] rfl
  refine va_calli (va_runS (As := [.ref (k 17), .int (nI i9)]) (rest := []) ⟨hx, hb, hml, hown, hts⟩ (c_J8_latin l dC dI cy k i9 h9 H.size) (va_cwS 2 hts gJ0_charAt_5068e_J1_charAt_3b067 rfl rfl rfl (by decide +kernel) ⟨Nat.le_of_ble_eq_true rfl, Nat.le_of_ble_eq_true rfl⟩) ⟨nb_blindE, fun U hU hW => ⟨rfl, ⟨by rw [hU], by rw [hU]; exact hPc, va_K.moved hW.alike hK, hDc.weaken (fun _ _ _ _ => trivial), hG.warm hW⟩, nE.to hE hS hW hU hFc⟩⟩ rfl rfl hl.1 rfl (lv_room (Nat.le_of_ble_eq_true rfl)) dJ0_charAt_5068e_12 ⟨Nat.le_of_ble_eq_true rfl, Nat.le_of_ble_eq_true rfl⟩) hS (fun q _ h => hFc q h) hFc (fun r_2 u2 t H1 locs ht hvm hw hB hz1 hk1 hS => ?_)
  obtain ⟨hP1, hK1, hD1⟩ := hB
  rw [ht] at hP1
  obtain ⟨hP, hD⟩ := va_join (wr := []) (w1 := (v1_c_J8_latin cy  u2)) hP hD [] [] rfl rfl (by decide) (by decide) hk1 hFc hP1 hD1
  generalize H1 = H at hP hS ⊢
  have hP : va_P (dC, dI) nCl [] H := hP
  have hD : va_D A [] := hD
  subst hw
  have hP : va_P (dC, dI) nCl (v1_c_J8_charAt cy  (fun _ => 0)) H := hP
  have hD : va_D A (v1_c_J8_charAt cy  (fun _ => 0)) := hD
  exact W.zret (v := (sx8.getD i9 0 &&& 255)) hx hb hr (sc_nar _) (fun t ht hW => ⟨⟨(sx8.getD i9 0 &&& 255), (fun _ => 0), rfl, rfl, by rw [ht]; exact hP, va_K.moved hW.alike hK, hD⟩, hS.F ht⟩) hS.2.2 dJ0_charAt_5068e_15

def v0_c_J9_coder (cy : Nat → ClassId)  : va_W := []
def v1_c_J9_coder (cy : Nat → ClassId)  (r : Nat → Nat) : va_W := []
set_option maxHeartbeats 40000000 in
set_option maxRecDepth 100000 in
/-- coder() -/
theorem c_J9_coder (l : Launch) (dC : Nat → ClassId) (dI : Nat → Nat → Nat) (cy : Nat → ClassId) (k : Nat → Nat)  (sz : Nat) : Met l yJ0_coder_7d493 wsJ0_coder_7d493 ({ frames := 0, cells := 0, slots := 0, locals := 0 }) (va_Pc [.ref (k 18)] (nInE (dC, dI) cy k sz (v0_c_J9_coder cy ))) (va_Qi (fun (z : Int32) (_ : Nat → Nat) => z = 0) (fun r t => nOut (dC, dI) cy (va_A (v0_c_J9_coder cy ) sz) (v1_c_J9_coder cy  r) t) (va_A (v0_c_J9_coder cy ) sz)) 0 0 (va_A (v0_c_J9_coder cy ) sz) := by
  refine Met.ofW (cc := cJ0_coder_7d493) (maxL := 1) (ret := (some .byte)) (by decide) rfl ?_
  intro p e s m args below meth c s₁ B hml hv
  obtain ⟨rfl, ⟨hsz, hP, hK, hD0, hG⟩, hE⟩ := hv
  have hx := B.exec
  have hb := B.bytes
  have hr := B.returns
  have hts := atoms_spec (ws := wsJ0_coder_7d493) B.pre
  have hown : s.vm.findClass RJ0 = some m.cls := findClass_of_methodNamed B.named
  have hlocks := B.notSynchronized
  subst hsz
  have hD := hD0.self (sz := s.heap.size)
  generalize hAe : va_A (v0_c_J9_coder cy ) s.heap.size = A at hD hE ⊢
  have hA : ∀ q : Nat, s.heap.size ≤ q → A q := fun q h => by rw [← hAe]; exact Or.inr h
  have hS : va_S A s.heap s.heap [] := va_S.rf
  have hP : va_P (dC, dI) nCl (v0_c_J9_coder cy ) s.heap := hP
  have hl := lv_entry ([.ref (k 18)]) (n := 1) (Nat.le_of_ble_eq_true rfl)
  rw [lg_entry_eq]
  generalize (lg_sl ([.ref (k 18)]) ++ List.replicate (1 - (lg_sl ([.ref (k 18)])).length) Slot.unset).toArray = ls at hl ⊢
  have hl : lv_has ls 1 [(0, .ref (k 18))] := hl
  have hP : va_P (dC, dI) nCl [] s.heap := hP
  have hD : va_D A [] := hD
  refine va_gets hx hb hE.1 hS hown (hts _ (List.mem_cons_of_mem _ (List.mem_of_getElem? (i := 0) rfl))) (fun _ h9 => h9) dJ0_coder_7d493_0 ?_
  refine lv_if_eq (tgt := 13) hx hb dJ0_coder_7d493_3 (by decide) (fun c1 => False.elim (by revert c1; decide)) (fun _ => ?_)
  refine lv_aload_n hx hb dJ0_coder_7d493_6 rfl (lv_at hl 0 rfl) ?_
  refine vk_getf hx hb (hE.2.2.1.1 9 (by decide)).2.1 hS hown (hts _ (List.mem_cons_of_mem _ (List.mem_of_getElem? (i := 1) rfl))) (fun _ h9 => h9) dJ0_coder_7d493_7 ?_
  refine lv_goto (tgt := 14) hx hb dJ0_coder_7d493_10 (by decide) ?_
  have hP : va_P (dC, dI) nCl (v1_c_J9_coder cy  (fun _ => 0)) s.heap := hP
  have hD : va_D A (v1_c_J9_coder cy  (fun _ => 0)) := hD
  exact W.zret (v := 0) hx hb hr rfl (fun t ht hW => ⟨⟨0, (fun _ => 0), rfl, rfl, by rw [ht]; exact hP, va_K.moved hW.alike hK, hD⟩, hS.F ht⟩) hS.2.2 dJ0_coder_7d493_14
def v0_c_J9_len (cy : Nat → ClassId)  : va_W := []
def v1_c_J9_len (cy : Nat → ClassId)  (r : Nat → Nat) : va_W := []
set_option maxHeartbeats 40000000 in
set_option maxRecDepth 100000 in
/-- length() of the words' text -/
theorem c_J9_len (l : Launch) (dC : Nat → ClassId) (dI : Nat → Nat → Nat) (cy : Nat → ClassId) (k : Nat → Nat)  (sz : Nat) : Met l yJ0_length_8abf5 wsJ0_length_8abf5 ({ frames := 1, cells := 0, slots := 0, locals := 20 }) (va_Pc [.ref (k 18)] (nInE (dC, dI) cy k sz (v0_c_J9_len cy ))) (va_Qi (fun (z : Int32) (_ : Nat → Nat) => z = 5) (fun r t => nOut (dC, dI) cy (va_A (v0_c_J9_len cy ) sz) (v1_c_J9_len cy  r) t) (va_A (v0_c_J9_len cy ) sz)) 0 0 (va_A (v0_c_J9_len cy ) sz) := by
  refine Met.ofW (cc := cJ0_length_8abf5) (maxL := 1) (ret := (some .int)) (by decide) rfl ?_
  intro p e s m args below meth c s₁ B hml hv
  obtain ⟨rfl, ⟨hsz, hP, hK, hD0, hG⟩, hE⟩ := hv
  have hx := B.exec
  have hb := B.bytes
  have hr := B.returns
  have hts := atoms_spec (ws := wsJ0_length_8abf5) B.pre
  have hown : s.vm.findClass RJ0 = some m.cls := findClass_of_methodNamed B.named
  have hlocks := B.notSynchronized
  subst hsz
  have hD := hD0.self (sz := s.heap.size)
  generalize hAe : va_A (v0_c_J9_len cy ) s.heap.size = A at hD hE ⊢
  have hA : ∀ q : Nat, s.heap.size ≤ q → A q := fun q h => by rw [← hAe]; exact Or.inr h
  have hS : va_S A s.heap s.heap [] := va_S.rf
  have hP : va_P (dC, dI) nCl (v0_c_J9_len cy ) s.heap := hP
  have hl := lv_entry ([.ref (k 18)]) (n := 1) (Nat.le_of_ble_eq_true rfl)
  rw [lg_entry_eq]
  generalize (lg_sl ([.ref (k 18)]) ++ List.replicate (1 - (lg_sl ([.ref (k 18)])).length) Slot.unset).toArray = ls at hl ⊢
  have hl : lv_has ls 1 [(0, .ref (k 18))] := hl
  have hP : va_P (dC, dI) nCl [] s.heap := hP
  have hD : va_D A [] := hD
  refine lv_aload_n hx hb dJ0_length_8abf5_0 rfl (lv_at hl 0 rfl) ?_
  refine vk_getf hx hb (hE.2.2.1.1 9 (by decide)).2.2.1 hS hown (hts _ (List.mem_cons_of_mem _ (List.mem_of_getElem? (i := 0) rfl))) (fun _ h9 => h9) dJ0_length_8abf5_1 ?_
  refine va_tlen hx hb (hE.2.2.1.1 9 (by decide)).2.2.2 hS (v := 5) rfl dJ0_length_8abf5_4 ?_
  refine lv_aload_n hx hb dJ0_length_8abf5_5 rfl (lv_at hl 0 rfl) ?_
  have hPc : va_P (dC, dI) nCl (v0_c_J9_coder cy ) s.heap := hP.sub (ws' := []) [] rfl
  have hDc : va_D A (v0_c_J9_coder cy ) := hD.sub (ws' := []) [] (by decide) rfl
  have hFc := va_free (wc := (v0_c_J9_coder cy )) hD hS hA [] rfl
  refine va_calli (va_runV (As := []) (rest := [.int 5]) ⟨hx, hb, hml, hown, hts⟩ (c_J9_coder l dC dI cy k  s.heap.size) (cwV 0 hts gJ0_length_8abf5_J0_coder_7d493 rfl rfl rfl (by decide +kernel) ⟨Nat.le_of_ble_eq_true rfl, Nat.le_of_ble_eq_true rfl⟩) ⟨nb_blindE, (vk_recv (i := 9) hE.2.2.1 (by decide) hS), fun U hU hW => ⟨rfl, ⟨by rw [hU], by rw [hU]; exact hPc, va_K.moved hW.alike hK, hDc.weaken (fun _ _ _ _ => trivial), hG.warm hW⟩, nE.to hE hS hW hU hFc⟩⟩ rfl rfl hl.1 rfl (lv_room (Nat.le_of_ble_eq_true rfl)) dJ0_length_8abf5_6 ⟨Nat.le_of_ble_eq_true rfl, Nat.le_of_ble_eq_true rfl⟩) hS (fun q _ h => hFc q h) hFc (fun r_1 u1 t H1 locs ht hvm hw hB hz1 hk1 hS => ?_)
  have hw : r_1 = 0 := hw.trans (by decide)
  subst hw
  obtain ⟨hP1, hK1, hD1⟩ := hB
  rw [ht] at hP1
  obtain ⟨hP, hD⟩ := va_join (wr := []) (w1 := (v1_c_J9_coder cy  u1)) hP hD [] [] rfl rfl (by decide) (by decide) hk1 hFc hP1 hD1
  generalize H1 = H at hP hS ⊢
  have hP : va_P (dC, dI) nCl [] H := hP
  have hD : va_D A [] := hD
  refine lv_ishr hx hb dJ0_length_8abf5_9 ?_
  refine W.eq (g2 := F0 m 10 ls [.int 5]) rfl ?_
  have hP : va_P (dC, dI) nCl (v1_c_J9_len cy  (fun _ => 0)) H := hP
  have hD : va_D A (v1_c_J9_len cy  (fun _ => 0)) := hD
  exact W.iret (v := 5) hx hb hr (fun t ht hW => ⟨⟨5, (fun _ => 0), rfl, rfl, by rw [ht]; exact hP, va_K.moved hW.alike hK, hD⟩, hS.F ht⟩) hS.2.2 dJ0_length_8abf5_10
def v0_c_J9_isLatin1 (cy : Nat → ClassId)  : va_W := []
def v1_c_J9_isLatin1 (cy : Nat → ClassId)  (r : Nat → Nat) : va_W := []
set_option maxHeartbeats 40000000 in
set_option maxRecDepth 100000 in
/-- isLatin1() -/
theorem c_J9_isLatin1 (l : Launch) (dC : Nat → ClassId) (dI : Nat → Nat → Nat) (cy : Nat → ClassId) (k : Nat → Nat)  (sz : Nat) : Met l yJ0_isLatin1_aae02 wsJ0_isLatin1_aae02 ({ frames := 0, cells := 0, slots := 0, locals := 0 }) (va_Pc [.ref (k 18)] (nInE (dC, dI) cy k sz (v0_c_J9_isLatin1 cy ))) (va_Qi (fun (z : Int32) (_ : Nat → Nat) => z = 1) (fun r t => nOut (dC, dI) cy (va_A (v0_c_J9_isLatin1 cy ) sz) (v1_c_J9_isLatin1 cy  r) t) (va_A (v0_c_J9_isLatin1 cy ) sz)) 0 0 (va_A (v0_c_J9_isLatin1 cy ) sz) := by
  refine Met.ofW (cc := cJ0_isLatin1_aae02) (maxL := 1) (ret := (some .boolean)) (by decide) rfl ?_
  intro p e s m args below meth c s₁ B hml hv
  obtain ⟨rfl, ⟨hsz, hP, hK, hD0, hG⟩, hE⟩ := hv
  have hx := B.exec
  have hb := B.bytes
  have hr := B.returns
  have hts := atoms_spec (ws := wsJ0_isLatin1_aae02) B.pre
  have hown : s.vm.findClass RJ0 = some m.cls := findClass_of_methodNamed B.named
  have hlocks := B.notSynchronized
  subst hsz
  have hD := hD0.self (sz := s.heap.size)
  generalize hAe : va_A (v0_c_J9_isLatin1 cy ) s.heap.size = A at hD hE ⊢
  have hA : ∀ q : Nat, s.heap.size ≤ q → A q := fun q h => by rw [← hAe]; exact Or.inr h
  have hS : va_S A s.heap s.heap [] := va_S.rf
  have hP : va_P (dC, dI) nCl (v0_c_J9_isLatin1 cy ) s.heap := hP
  have hl := lv_entry ([.ref (k 18)]) (n := 1) (Nat.le_of_ble_eq_true rfl)
  rw [lg_entry_eq]
  generalize (lg_sl ([.ref (k 18)]) ++ List.replicate (1 - (lg_sl ([.ref (k 18)])).length) Slot.unset).toArray = ls at hl ⊢
  have hl : lv_has ls 1 [(0, .ref (k 18))] := hl
  have hP : va_P (dC, dI) nCl [] s.heap := hP
  have hD : va_D A [] := hD
  refine va_gets hx hb hE.1 hS hown (hts _ (List.mem_cons_of_mem _ (List.mem_of_getElem? (i := 0) rfl))) (fun _ h9 => h9) dJ0_isLatin1_aae02_0 ?_
  refine lv_if_eq (tgt := 17) hx hb dJ0_isLatin1_aae02_3 (by decide) (fun c1 => False.elim (by revert c1; decide)) (fun _ => ?_)
  refine lv_aload_n hx hb dJ0_isLatin1_aae02_6 rfl (lv_at hl 0 rfl) ?_
  refine vk_getf hx hb (hE.2.2.1.1 9 (by decide)).2.1 hS hown (hts _ (List.mem_cons_of_mem _ (List.mem_of_getElem? (i := 1) rfl))) (fun _ h9 => h9) dJ0_isLatin1_aae02_7 ?_
  refine lv_if_ne (tgt := 17) hx hb dJ0_isLatin1_aae02_10 (by decide) (fun c1 => False.elim (by revert c1; decide)) (fun _ => ?_)
  refine lv_iconst (v := 1) hx hb dJ0_isLatin1_aae02_13 (by decide) ?_
  refine lv_goto (tgt := 18) hx hb dJ0_isLatin1_aae02_14 (by decide) ?_
  have hP : va_P (dC, dI) nCl (v1_c_J9_isLatin1 cy  (fun _ => 0)) s.heap := hP
  have hD : va_D A (v1_c_J9_isLatin1 cy  (fun _ => 0)) := hD
  exact W.zret (v := 1) hx hb hr rfl (fun t ht hW => ⟨⟨1, (fun _ => 0), rfl, rfl, by rw [ht]; exact hP, va_K.moved hW.alike hK, hD⟩, hS.F ht⟩) hS.2.2 dJ0_isLatin1_aae02_18
def v0_c_J9_pre_n (cy : Nat → ClassId)  : va_W := []
def v1_c_J9_pre_n (cy : Nat → ClassId)  (r : Nat → Nat) : va_W := []
set_option maxHeartbeats 40000000 in
set_option maxRecDepth 100000 in
/-- checkIndex(i, 5, f) -/
theorem c_J9_pre_n (l : Launch) (dC : Nat → ClassId) (dI : Nat → Nat → Nat) (cy : Nat → ClassId) (k : Nat → Nat)  (i9 : Nat) (h9 : i9 < 5) (sz : Nat) : Met l yJ3_checkIndex_8e157 wsJ3_checkIndex_8e157 ({ frames := 0, cells := 0, slots := 0, locals := 0 }) (va_Pc [.int (nI i9), .int 5, .null] (nInE (dC, dI) cy k sz (v0_c_J9_pre_n cy ))) (va_Qi (fun (z : Int32) (_ : Nat → Nat) => z = nI i9) (fun r t => nOut (dC, dI) cy (va_A (v0_c_J9_pre_n cy ) sz) (v1_c_J9_pre_n cy  r) t) (va_A (v0_c_J9_pre_n cy ) sz)) 0 0 (va_A (v0_c_J9_pre_n cy ) sz) := by
  refine Met.ofW (cc := cJ3_checkIndex_8e157) (maxL := 3) (ret := (some .int)) (by decide) rfl ?_
  intro p e s m args below meth c s₁ B hml hv
  obtain ⟨rfl, ⟨hsz, hP, hK, hD0, hG⟩, hE⟩ := hv
  have hx := B.exec
  have hb := B.bytes
  have hr := B.returns
  have hts := atoms_spec (ws := wsJ3_checkIndex_8e157) B.pre
  have hown : s.vm.findClass RJ3 = some m.cls := findClass_of_methodNamed B.named
  have hlocks := B.notSynchronized
  subst hsz
  have hD := hD0.self (sz := s.heap.size)
  generalize hAe : va_A (v0_c_J9_pre_n cy ) s.heap.size = A at hD hE ⊢
  have hA : ∀ q : Nat, s.heap.size ≤ q → A q := fun q h => by rw [← hAe]; exact Or.inr h
  have hS : va_S A s.heap s.heap [] := va_S.rf
  have hP : va_P (dC, dI) nCl (v0_c_J9_pre_n cy ) s.heap := hP
  have hl := lv_entry ([.int (nI i9), .int 5, .null]) (n := 3) (Nat.le_of_ble_eq_true rfl)
  rw [lg_entry_eq]
  generalize (lg_sl ([.int (nI i9), .int 5, .null]) ++ List.replicate (3 - (lg_sl ([.int (nI i9), .int 5, .null])).length) Slot.unset).toArray = ls at hl ⊢
  have hl : lv_has ls 3 [(0, .int (nI i9)), (1, .int 5), (2, .null)] := hl
  have hP : va_P (dC, dI) nCl [] s.heap := hP
  have hD : va_D A [] := hD
  refine lv_iload_n hx hb dJ3_checkIndex_8e157_0 rfl (lv_at hl 0 rfl) ?_
  refine lv_if_lt (tgt := 9) hx hb dJ3_checkIndex_8e157_1 (by decide) (fun c1 => absurd c1 (nI_pos (by omega))) (fun _ => ?_)
  refine lv_iload_n hx hb dJ3_checkIndex_8e157_4 rfl (lv_at hl 0 rfl) ?_
  refine lv_iload_n hx hb dJ3_checkIndex_8e157_5 rfl (lv_at hl 1 rfl) ?_
  refine lv_icmp_lt (tgt := 16) hx hb dJ3_checkIndex_8e157_6 (by decide) (fun _ => ?_) (fun c1 => absurd (nI_lt (b := 5) h9 (by omega)) c1)
  refine lv_iload_n hx hb dJ3_checkIndex_8e157_16 rfl (lv_at hl 0 rfl) ?_
  have hP : va_P (dC, dI) nCl (v1_c_J9_pre_n cy  (fun _ => 0)) s.heap := hP
  have hD : va_D A (v1_c_J9_pre_n cy  (fun _ => 0)) := hD
  exact W.iret (v := (nI i9)) hx hb hr (fun t ht hW => ⟨⟨(nI i9), (fun _ => 0), rfl, rfl, by rw [ht]; exact hP, va_K.moved hW.alike hK, hD⟩, hS.F ht⟩) hS.2.2 dJ3_checkIndex_8e157_17
def v0_c_J9_pre_r (cy : Nat → ClassId)  : va_W := []
def v1_c_J9_pre_r (cy : Nat → ClassId)  (r : Nat → Nat) : va_W := []
set_option maxHeartbeats 40000000 in
set_option maxRecDepth 100000 in
/-- checkIndex(i, 5, f) -/
theorem c_J9_pre_r (l : Launch) (dC : Nat → ClassId) (dI : Nat → Nat → Nat) (cy : Nat → ClassId) (k : Nat → Nat)  (i9 : Nat) (f9 : Nat) (h9 : i9 < 5) (sz : Nat) : Met l yJ3_checkIndex_8e157 wsJ3_checkIndex_8e157 ({ frames := 0, cells := 0, slots := 0, locals := 0 }) (va_Pc [.int (nI i9), .int 5, .ref f9] (nInE (dC, dI) cy k sz (v0_c_J9_pre_r cy ))) (va_Qi (fun (z : Int32) (_ : Nat → Nat) => z = nI i9) (fun r t => nOut (dC, dI) cy (va_A (v0_c_J9_pre_r cy ) sz) (v1_c_J9_pre_r cy  r) t) (va_A (v0_c_J9_pre_r cy ) sz)) 0 0 (va_A (v0_c_J9_pre_r cy ) sz) := by
  refine Met.ofW (cc := cJ3_checkIndex_8e157) (maxL := 3) (ret := (some .int)) (by decide) rfl ?_
  intro p e s m args below meth c s₁ B hml hv
  obtain ⟨rfl, ⟨hsz, hP, hK, hD0, hG⟩, hE⟩ := hv
  have hx := B.exec
  have hb := B.bytes
  have hr := B.returns
  have hts := atoms_spec (ws := wsJ3_checkIndex_8e157) B.pre
  have hown : s.vm.findClass RJ3 = some m.cls := findClass_of_methodNamed B.named
  have hlocks := B.notSynchronized
  subst hsz
  have hD := hD0.self (sz := s.heap.size)
  generalize hAe : va_A (v0_c_J9_pre_r cy ) s.heap.size = A at hD hE ⊢
  have hA : ∀ q : Nat, s.heap.size ≤ q → A q := fun q h => by rw [← hAe]; exact Or.inr h
  have hS : va_S A s.heap s.heap [] := va_S.rf
  have hP : va_P (dC, dI) nCl (v0_c_J9_pre_r cy ) s.heap := hP
  have hl := lv_entry ([.int (nI i9), .int 5, .ref f9]) (n := 3) (Nat.le_of_ble_eq_true rfl)
  rw [lg_entry_eq]
  generalize (lg_sl ([.int (nI i9), .int 5, .ref f9]) ++ List.replicate (3 - (lg_sl ([.int (nI i9), .int 5, .ref f9])).length) Slot.unset).toArray = ls at hl ⊢
  have hl : lv_has ls 3 [(0, .int (nI i9)), (1, .int 5), (2, .ref f9)] := hl
  have hP : va_P (dC, dI) nCl [] s.heap := hP
  have hD : va_D A [] := hD
  refine lv_iload_n hx hb dJ3_checkIndex_8e157_0 rfl (lv_at hl 0 rfl) ?_
  refine lv_if_lt (tgt := 9) hx hb dJ3_checkIndex_8e157_1 (by decide) (fun c1 => absurd c1 (nI_pos (by omega))) (fun _ => ?_)
  refine lv_iload_n hx hb dJ3_checkIndex_8e157_4 rfl (lv_at hl 0 rfl) ?_
  refine lv_iload_n hx hb dJ3_checkIndex_8e157_5 rfl (lv_at hl 1 rfl) ?_
  refine lv_icmp_lt (tgt := 16) hx hb dJ3_checkIndex_8e157_6 (by decide) (fun _ => ?_) (fun c1 => absurd (nI_lt (b := 5) h9 (by omega)) c1)
  refine lv_iload_n hx hb dJ3_checkIndex_8e157_16 rfl (lv_at hl 0 rfl) ?_
  have hP : va_P (dC, dI) nCl (v1_c_J9_pre_r cy  (fun _ => 0)) s.heap := hP
  have hD : va_D A (v1_c_J9_pre_r cy  (fun _ => 0)) := hD
  exact W.iret (v := (nI i9)) hx hb hr (fun t ht hW => ⟨⟨(nI i9), (fun _ => 0), rfl, rfl, by rw [ht]; exact hP, va_K.moved hW.alike hK, hD⟩, hS.F ht⟩) hS.2.2 dJ3_checkIndex_8e157_17
def v0_c_J9_chk (cy : Nat → ClassId)  : va_W := []
def v1_c_J9_chk (cy : Nat → ClassId)  (r : Nat → Nat) : va_W := []
set_option maxHeartbeats 40000000 in
set_option maxRecDepth 100000 in
/-- String.checkIndex(i, 5) -/
theorem c_J9_chk (l : Launch) (dC : Nat → ClassId) (dI : Nat → Nat → Nat) (cy : Nat → ClassId) (k : Nat → Nat)  (i9 : Nat) (h9 : i9 < 5) (sz : Nat) : Met l yJ0_checkIndex_df160 wsJ0_checkIndex_df160 ({ frames := 1, cells := 0, slots := 0, locals := 22 }) (va_Pc [.int (nI i9), .int 5] (nInE (dC, dI) cy k sz (v0_c_J9_chk cy ))) (va_Qv (fun _ : Nat → Nat => True) (fun r t => nOut (dC, dI) cy (va_A (v0_c_J9_chk cy ) sz) (v1_c_J9_chk cy  r) t) (va_A (v0_c_J9_chk cy ) sz)) 0 0 (va_A (v0_c_J9_chk cy ) sz) := by
  refine Met.ofW (cc := cJ0_checkIndex_df160) (maxL := 2) (ret := none) (by decide) rfl ?_
  intro p e s m args below meth c s₁ B hml hv
  obtain ⟨rfl, ⟨hsz, hP, hK, hD0, hG⟩, hE⟩ := hv
  have hx := B.exec
  have hb := B.bytes
  have hr := B.returns
  have hts := atoms_spec (ws := wsJ0_checkIndex_df160) B.pre
  have hown : s.vm.findClass RJ0 = some m.cls := findClass_of_methodNamed B.named
  have hlocks := B.notSynchronized
  subst hsz
  have hD := hD0.self (sz := s.heap.size)
  generalize hAe : va_A (v0_c_J9_chk cy ) s.heap.size = A at hD hE ⊢
  have hA : ∀ q : Nat, s.heap.size ≤ q → A q := fun q h => by rw [← hAe]; exact Or.inr h
  have hS : va_S A s.heap s.heap [] := va_S.rf
  have hP : va_P (dC, dI) nCl (v0_c_J9_chk cy ) s.heap := hP
  have hl := lv_entry ([.int (nI i9), .int 5]) (n := 2) (Nat.le_of_ble_eq_true rfl)
  rw [lg_entry_eq]
  generalize (lg_sl ([.int (nI i9), .int 5]) ++ List.replicate (2 - (lg_sl ([.int (nI i9), .int 5])).length) Slot.unset).toArray = ls at hl ⊢
  have hl : lv_has ls 2 [(0, .int (nI i9)), (1, .int 5)] := hl
  have hP : va_P (dC, dI) nCl [] s.heap := hP
  have hD : va_D A [] := hD
  refine lv_iload_n hx hb dJ0_checkIndex_df160_0 rfl (lv_at hl 0 rfl) ?_
  refine lv_iload_n hx hb dJ0_checkIndex_df160_1 rfl (lv_at hl 1 rfl) ?_
  rcases hE.2.1 with hZ | ⟨f9, hZ⟩
  · refine va_gets hx hb hZ hS hown (hts _ (List.mem_cons_of_mem _ (List.mem_of_getElem? (i := 0) rfl))) (fun _ h9 => h9) dJ0_checkIndex_df160_2 ?_
    have hPc : va_P (dC, dI) nCl (v0_c_J9_pre_n cy ) s.heap := hP.sub (ws' := []) [] rfl
    have hDc : va_D A (v0_c_J9_pre_n cy ) := hD.sub (ws' := []) [] (by decide) rfl
    have hFc := va_free (wc := (v0_c_J9_pre_n cy )) hD hS hA [] rfl
    refine va_calli (va_runS (As := [.int (nI i9), .int 5, .null]) (rest := []) ⟨hx, hb, hml, hown, hts⟩ (c_J9_pre_n l dC dI cy k i9 h9 s.heap.size) (va_cwS 3 hts gJ0_checkIndex_df160_J3_checkIndex_8e157 rfl rfl rfl (by decide +kernel) ⟨Nat.le_of_ble_eq_true rfl, Nat.le_of_ble_eq_true rfl⟩) ⟨nb_blindE, fun U hU hW => ⟨rfl, ⟨by rw [hU], by rw [hU]; exact hPc, va_K.moved hW.alike hK, hDc.weaken (fun _ _ _ _ => trivial), hG.warm hW⟩, nE.to hE hS hW hU hFc⟩⟩ rfl rfl hl.1 rfl (lv_room (Nat.le_of_ble_eq_true rfl)) dJ0_checkIndex_df160_5 ⟨Nat.le_of_ble_eq_true rfl, Nat.le_of_ble_eq_true rfl⟩) hS (fun q _ h => hFc q h) hFc (fun r_1 u1 t H1 locs ht hvm hw hB hz1 hk1 hS => ?_)
    obtain ⟨hP1, hK1, hD1⟩ := hB
    rw [ht] at hP1
    obtain ⟨hP, hD⟩ := va_join (wr := []) (w1 := (v1_c_J9_pre_n cy  u1)) hP hD [] [] rfl rfl (by decide) (by decide) hk1 hFc hP1 hD1
    generalize H1 = H at hP hS ⊢
    have hP : va_P (dC, dI) nCl [] H := hP
    have hD : va_D A [] := hD
    refine lv_pop hx hb dJ0_checkIndex_df160_8 rfl ?_
    exact W.vret hx hb hr (fun t ht hW => ⟨⟨(fun _ => 0), rfl, trivial, by rw [ht]; exact hP, va_K.moved hW.alike hK, hD⟩, hS.F ht⟩) hS.2.2 dJ0_checkIndex_df160_9
  · refine va_gets hx hb hZ hS hown (hts _ (List.mem_cons_of_mem _ (List.mem_of_getElem? (i := 0) rfl))) (fun _ h9 => h9) dJ0_checkIndex_df160_2 ?_
    have hPc : va_P (dC, dI) nCl (v0_c_J9_pre_r cy ) s.heap := hP.sub (ws' := []) [] rfl
    have hDc : va_D A (v0_c_J9_pre_r cy ) := hD.sub (ws' := []) [] (by decide) rfl
    have hFc := va_free (wc := (v0_c_J9_pre_r cy )) hD hS hA [] rfl
    refine va_calli (va_runS (As := [.int (nI i9), .int 5, .ref f9]) (rest := []) ⟨hx, hb, hml, hown, hts⟩ (c_J9_pre_r l dC dI cy k i9 f9 h9 s.heap.size) (va_cwS 3 hts gJ0_checkIndex_df160_J3_checkIndex_8e157 rfl rfl rfl (by decide +kernel) ⟨Nat.le_of_ble_eq_true rfl, Nat.le_of_ble_eq_true rfl⟩) ⟨nb_blindE, fun U hU hW => ⟨rfl, ⟨by rw [hU], by rw [hU]; exact hPc, va_K.moved hW.alike hK, hDc.weaken (fun _ _ _ _ => trivial), hG.warm hW⟩, nE.to hE hS hW hU hFc⟩⟩ rfl rfl hl.1 rfl (lv_room (Nat.le_of_ble_eq_true rfl)) dJ0_checkIndex_df160_5 ⟨Nat.le_of_ble_eq_true rfl, Nat.le_of_ble_eq_true rfl⟩) hS (fun q _ h => hFc q h) hFc (fun r_2 u2 t H1 locs ht hvm hw hB hz1 hk1 hS => ?_)
    obtain ⟨hP1, hK1, hD1⟩ := hB
    rw [ht] at hP1
    obtain ⟨hP, hD⟩ := va_join (wr := []) (w1 := (v1_c_J9_pre_r cy  u2)) hP hD [] [] rfl rfl (by decide) (by decide) hk1 hFc hP1 hD1
    generalize H1 = H at hP hS ⊢
    have hP : va_P (dC, dI) nCl [] H := hP
    have hD : va_D A [] := hD
    refine lv_pop hx hb dJ0_checkIndex_df160_8 rfl ?_
    have hP : va_P (dC, dI) nCl (v1_c_J9_chk cy  (fun _ => 0)) H := hP
    have hD : va_D A (v1_c_J9_chk cy  (fun _ => 0)) := hD
    exact W.vret hx hb hr (fun t ht hW => ⟨⟨(fun _ => 0), rfl, trivial, by rw [ht]; exact hP, va_K.moved hW.alike hK, hD⟩, hS.F ht⟩) hS.2.2 dJ0_checkIndex_df160_9
def v0_c_J9_latin (cy : Nat → ClassId)  : va_W := []
def v1_c_J9_latin (cy : Nat → ClassId)  (r : Nat → Nat) : va_W := []
set_option maxHeartbeats 40000000 in
set_option maxRecDepth 100000 in
/-- StringLatin1.charAt -/
theorem c_J9_latin (l : Launch) (dC : Nat → ClassId) (dI : Nat → Nat → Nat) (cy : Nat → ClassId) (k : Nat → Nat)  (i9 : Nat) (h9 : i9 < 5) (sz : Nat) : Met l yJ1_charAt_3b067 wsJ1_charAt_3b067 ({ frames := 2, cells := 0, slots := 0, locals := 43 }) (va_Pc [.ref (k 19), .int (nI i9)] (nInE (dC, dI) cy k sz (v0_c_J9_latin cy ))) (va_Qi (fun (z : Int32) (_ : Nat → Nat) => z = sx9.getD i9 0 &&& 255) (fun r t => nOut (dC, dI) cy (va_A (v0_c_J9_latin cy ) sz) (v1_c_J9_latin cy  r) t) (va_A (v0_c_J9_latin cy ) sz)) 0 0 (va_A (v0_c_J9_latin cy ) sz) := by
  refine Met.ofW (cc := cJ1_charAt_3b067) (maxL := 2) (ret := (some .char)) (by decide) rfl ?_
  intro p e s m args below meth c s₁ B hml hv
  obtain ⟨rfl, ⟨hsz, hP, hK, hD0, hG⟩, hE⟩ := hv
  have hx := B.exec
  have hb := B.bytes
  have hr := B.returns
  have hts := atoms_spec (ws := wsJ1_charAt_3b067) B.pre
  have hown : s.vm.findClass RJ1 = some m.cls := findClass_of_methodNamed B.named
  have hlocks := B.notSynchronized
  subst hsz
  have hD := hD0.self (sz := s.heap.size)
  generalize hAe : va_A (v0_c_J9_latin cy ) s.heap.size = A at hD hE ⊢
  have hA : ∀ q : Nat, s.heap.size ≤ q → A q := fun q h => by rw [← hAe]; exact Or.inr h
  have hS : va_S A s.heap s.heap [] := va_S.rf
  have hP : va_P (dC, dI) nCl (v0_c_J9_latin cy ) s.heap := hP
  have hl := lv_entry ([.ref (k 19), .int (nI i9)]) (n := 2) (Nat.le_of_ble_eq_true rfl)
  rw [lg_entry_eq]
  generalize (lg_sl ([.ref (k 19), .int (nI i9)]) ++ List.replicate (2 - (lg_sl ([.ref (k 19), .int (nI i9)])).length) Slot.unset).toArray = ls at hl ⊢
  have hl : lv_has ls 2 [(0, .ref (k 19)), (1, .int (nI i9))] := hl
  have hP : va_P (dC, dI) nCl [] s.heap := hP
  have hD : va_D A [] := hD
  refine lv_iload_n hx hb dJ1_charAt_3b067_0 rfl (lv_at hl 1 rfl) ?_
  refine lv_aload_n hx hb dJ1_charAt_3b067_1 rfl (lv_at hl 0 rfl) ?_
  refine va_tlen hx hb (hE.2.2.1.1 9 (by decide)).2.2.2 hS (v := 5) rfl dJ1_charAt_3b067_2 ?_
  have hPc : va_P (dC, dI) nCl (v0_c_J9_chk cy ) s.heap := hP.sub (ws' := []) [] rfl
  have hDc : va_D A (v0_c_J9_chk cy ) := hD.sub (ws' := []) [] (by decide) rfl
  have hFc := va_free (wc := (v0_c_J9_chk cy )) hD hS hA [] rfl
  refine va_callv (va_runS (As := [.int (nI i9), .int 5]) (rest := []) ⟨hx, hb, hml, hown, hts⟩ (c_J9_chk l dC dI cy k i9 h9 s.heap.size) (va_cwS 2 hts gJ1_charAt_3b067_J0_checkIndex_df160 rfl rfl rfl (by decide +kernel) ⟨Nat.le_of_ble_eq_true rfl, Nat.le_of_ble_eq_true rfl⟩) ⟨nb_blindE, fun U hU hW => ⟨rfl, ⟨by rw [hU], by rw [hU]; exact hPc, va_K.moved hW.alike hK, hDc.weaken (fun _ _ _ _ => trivial), hG.warm hW⟩, nE.to hE hS hW hU hFc⟩⟩ rfl rfl hl.1 rfl (lv_room (Nat.le_of_ble_eq_true rfl)) dJ1_charAt_3b067_3 ⟨Nat.le_of_ble_eq_true rfl, Nat.le_of_ble_eq_true rfl⟩) hS (fun q _ h => hFc q h) hFc (fun u1 t H1 locs ht hvm hw hB hz1 hk1 hS => ?_)
  obtain ⟨hP1, hK1, hD1⟩ := hB
  rw [ht] at hP1
  obtain ⟨hP, hD⟩ := va_join (wr := []) (w1 := (v1_c_J9_chk cy  u1)) hP hD [] [] rfl rfl (by decide) (by decide) hk1 hFc hP1 hD1
  generalize H1 = H at hP hS ⊢
  have hP : va_P (dC, dI) nCl [] H := hP
  have hD : va_D A [] := hD
  refine lv_aload_n hx hb dJ1_charAt_3b067_6 rfl (lv_at hl 0 rfl) ?_
  refine lv_iload_n hx hb dJ1_charAt_3b067_7 rfl (lv_at hl 1 rfl) ?_
  refine va_tb hx hb (hE.2.2.1.1 9 (by decide)).2.2.2 hS (show vp_in (nI i9) 5 from vp_in_nI h9 (by omega)) (v := .int (sx9.getD i9 0)) (by rw [nI_clamp (by omega)]; rfl) dJ1_charAt_3b067_8 ?_
  refine lv_sipush (v := 255) hx hb dJ1_charAt_3b067_9 (by decide) ?_
  refine lv_iand hx hb dJ1_charAt_3b067_12 ?_
  refine lv_i2c (v := sx9.getD i9 0 &&& 255) hx hb dJ1_charAt_3b067_13 (sc_c2 _) ?_
  have hP : va_P (dC, dI) nCl (v1_c_J9_latin cy  (fun _ => 0)) H := hP
  have hD : va_D A (v1_c_J9_latin cy  (fun _ => 0)) := hD
  exact W.zret (v := (sx9.getD i9 0 &&& 255)) hx hb hr (sc_nar _) (fun t ht hW => ⟨⟨(sx9.getD i9 0 &&& 255), (fun _ => 0), rfl, rfl, by rw [ht]; exact hP, va_K.moved hW.alike hK, hD⟩, hS.F ht⟩) hS.2.2 dJ1_charAt_3b067_14
def v0_c_J9_charAt (cy : Nat → ClassId)  : va_W := []
def v1_c_J9_charAt (cy : Nat → ClassId)  (r : Nat → Nat) : va_W := []
set_option maxHeartbeats 40000000 in
set_option maxRecDepth 100000 in
/-- charAt(i) of the words' text -/
theorem c_J9_charAt (l : Launch) (dC : Nat → ClassId) (dI : Nat → Nat → Nat) (cy : Nat → ClassId) (k : Nat → Nat)  (i9 : Nat) (h9 : i9 < 5) (sz : Nat) : Met l yJ0_charAt_5068e wsJ0_charAt_5068e ({ frames := 3, cells := 0, slots := 0, locals := 64 }) (va_Pc [.ref (k 18), .int (nI i9)] (nInE (dC, dI) cy k sz (v0_c_J9_charAt cy ))) (va_Qi (fun (z : Int32) (_ : Nat → Nat) => z = sx9.getD i9 0 &&& 255) (fun r t => nOut (dC, dI) cy (va_A (v0_c_J9_charAt cy ) sz) (v1_c_J9_charAt cy  r) t) (va_A (v0_c_J9_charAt cy ) sz)) 0 0 (va_A (v0_c_J9_charAt cy ) sz) := by
  refine Met.ofW (cc := cJ0_charAt_5068e) (maxL := 2) (ret := (some .char)) (by decide) rfl ?_
  intro p e s m args below meth c s₁ B hml hv
  obtain ⟨rfl, ⟨hsz, hP, hK, hD0, hG⟩, hE⟩ := hv
  have hx := B.exec
  have hb := B.bytes
  have hr := B.returns
  have hts := atoms_spec (ws := wsJ0_charAt_5068e) B.pre
  have hown : s.vm.findClass RJ0 = some m.cls := findClass_of_methodNamed B.named
  have hlocks := B.notSynchronized
  subst hsz
  have hD := hD0.self (sz := s.heap.size)
  generalize hAe : va_A (v0_c_J9_charAt cy ) s.heap.size = A at hD hE ⊢
  have hA : ∀ q : Nat, s.heap.size ≤ q → A q := fun q h => by rw [← hAe]; exact Or.inr h
  have hS : va_S A s.heap s.heap [] := va_S.rf
  have hP : va_P (dC, dI) nCl (v0_c_J9_charAt cy ) s.heap := hP
  have hl := lv_entry ([.ref (k 18), .int (nI i9)]) (n := 2) (Nat.le_of_ble_eq_true rfl)
  rw [lg_entry_eq]
  generalize (lg_sl ([.ref (k 18), .int (nI i9)]) ++ List.replicate (2 - (lg_sl ([.ref (k 18), .int (nI i9)])).length) Slot.unset).toArray = ls at hl ⊢
  have hl : lv_has ls 2 [(0, .ref (k 18)), (1, .int (nI i9))] := hl
  have hP : va_P (dC, dI) nCl [] s.heap := hP
  have hD : va_D A [] := hD
  refine lv_aload_n hx hb dJ0_charAt_5068e_0 rfl (lv_at hl 0 rfl) ?_
  have hPc : va_P (dC, dI) nCl (v0_c_J9_isLatin1 cy ) s.heap := hP.sub (ws' := []) [] rfl
  have hDc : va_D A (v0_c_J9_isLatin1 cy ) := hD.sub (ws' := []) [] (by decide) rfl
  have hFc := va_free (wc := (v0_c_J9_isLatin1 cy )) hD hS hA [] rfl
  refine va_calli (va_runV (As := []) (rest := []) ⟨hx, hb, hml, hown, hts⟩ (c_J9_isLatin1 l dC dI cy k  s.heap.size) (cwV 0 hts gJ0_charAt_5068e_J0_isLatin1_aae02 rfl rfl rfl (by decide +kernel) ⟨Nat.le_of_ble_eq_true rfl, Nat.le_of_ble_eq_true rfl⟩) ⟨nb_blindE, (vk_recv (i := 9) hE.2.2.1 (by decide) hS), fun U hU hW => ⟨rfl, ⟨by rw [hU], by rw [hU]; exact hPc, va_K.moved hW.alike hK, hDc.weaken (fun _ _ _ _ => trivial), hG.warm hW⟩, nE.to hE hS hW hU hFc⟩⟩ rfl rfl hl.1 rfl (lv_room (Nat.le_of_ble_eq_true rfl)) dJ0_charAt_5068e_1 ⟨Nat.le_of_ble_eq_true rfl, Nat.le_of_ble_eq_true rfl⟩) hS (fun q _ h => hFc q h) hFc (fun r_1 u1 t H1 locs ht hvm hw hB hz1 hk1 hS => ?_)
  have hw : r_1 = 1 := hw.trans (by decide)
  subst hw
  obtain ⟨hP1, hK1, hD1⟩ := hB
  rw [ht] at hP1
  obtain ⟨hP, hD⟩ := va_join (wr := []) (w1 := (v1_c_J9_isLatin1 cy  u1)) hP hD [] [] rfl rfl (by decide) (by decide) hk1 hFc hP1 hD1
  generalize H1 = H at hP hS ⊢
  have hP : va_P (dC, dI) nCl [] H := hP
  have hD : va_D A [] := hD
  refine lv_if_eq (tgt := 16) hx hb dJ0_charAt_5068e_4 (by decide) (fun c1 => False.elim (by revert c1; decide)) (fun _ => ?_)
  refine lv_aload_n hx hb dJ0_charAt_5068e_7 rfl (lv_at hl 0 rfl) ?_
  refine vk_getf hx hb (hE.2.2.1.1 9 (by decide)).2.2.1 hS hown (hts _ (List.mem_cons_of_mem _ (List.mem_append_left _ (List.mem_of_getElem? (i := 0) rfl)))) (fun _ h9 => h9) dJ0_charAt_5068e_8 ?_
  refine lv_iload_n hx hb dJ0_charAt_5068e_11 rfl (lv_at hl 1 rfl) ?_
  have hPc : va_P (dC, dI) nCl (v0_c_J9_latin cy ) H := hP.sub (ws' := []) [] rfl
  have hDc : va_D A (v0_c_J9_latin cy ) := hD.sub (ws' := []) [] (by decide) rfl
  have hFc := va_free (wc := (v0_c_J9_latin cy )) hD hS hA [] rfl
  refine va_calli (va_runS (As := [.ref (k 19), .int (nI i9)]) (rest := []) ⟨hx, hb, hml, hown, hts⟩ (c_J9_latin l dC dI cy k i9 h9 H.size) (va_cwS 2 hts gJ0_charAt_5068e_J1_charAt_3b067 rfl rfl rfl (by decide +kernel) ⟨Nat.le_of_ble_eq_true rfl, Nat.le_of_ble_eq_true rfl⟩) ⟨nb_blindE, fun U hU hW => ⟨rfl, ⟨by rw [hU], by rw [hU]; exact hPc, va_K.moved hW.alike hK, hDc.weaken (fun _ _ _ _ => trivial), hG.warm hW⟩, nE.to hE hS hW hU hFc⟩⟩ rfl rfl hl.1 rfl (lv_room (Nat.le_of_ble_eq_true rfl)) dJ0_charAt_5068e_12 ⟨Nat.le_of_ble_eq_true rfl, Nat.le_of_ble_eq_true rfl⟩) hS (fun q _ h => hFc q h) hFc (fun r_2 u2 t H1 locs ht hvm hw hB hz1 hk1 hS => ?_)
  obtain ⟨hP1, hK1, hD1⟩ := hB
  rw [ht] at hP1
  obtain ⟨hP, hD⟩ := va_join (wr := []) (w1 := (v1_c_J9_latin cy  u2)) hP hD [] [] rfl rfl (by decide) (by decide) hk1 hFc hP1 hD1
  generalize H1 = H at hP hS ⊢
  have hP : va_P (dC, dI) nCl [] H := hP
  have hD : va_D A [] := hD
  subst hw
  have hP : va_P (dC, dI) nCl (v1_c_J9_charAt cy  (fun _ => 0)) H := hP
  have hD : va_D A (v1_c_J9_charAt cy  (fun _ => 0)) := hD
  exact W.zret (v := (sx9.getD i9 0 &&& 255)) hx hb hr (sc_nar _) (fun t ht hW => ⟨⟨(sx9.getD i9 0 &&& 255), (fun _ => 0), rfl, rfl, by rw [ht]; exact hP, va_K.moved hW.alike hK, hD⟩, hS.F ht⟩) hS.2.2 dJ0_charAt_5068e_15

theorem nA_nil {q sz : Nat} (h : q < sz) : ¬ va_A ([] : va_W) sz q := fun h2 => h2.elim (fun ⟨k, e, h3⟩ => by simp at h3) (fun h3 => absurd h3 (Nat.not_le.mpr h))
section NBS
variable {p : Program} {l : Launch} {e : Env} {R : Room} {s : State} {m : MethodId} {args : Array Value} {below : List Frame} {meth : Method} {c : Code} {H : Heap} {locs : List Loc} {cells slots : Nat} {Q : State → Prop}
variable {cc : ByteArray} {pc : Nat} {ls : Array Slot} {rest : List Value} {dC : Nat → ClassId} {dI : Nat → Nat → Nat} {cy : Nat → ClassId} {a z : Nat → Nat} {σ : CS} {A : Nat → Prop} {H0 : Heap} {index : Nat} {own host : String} {Ts : List Cond}
theorem ks_i {v : Int32} {av : Array Value} {st : List Value} (hr : va_Run p l e R s m args below meth c H locs cells slots 0 0 (F0 m pc ls st) rest (va_Qi (fun (x : Int32) (_ : Nat → Nat) => x = v) (fun r t => nOut (dC, dI) cy (va_A [] H.size) [] t) (va_A [] H.size) av) (va_A [] H.size)) (hA : ∀ q : Nat, H0.size ≤ q → A q) (hP : va_P (dC, dI) nCl (vC cy a z σ) H) (hD : va_D A (vC cy a z σ)) (hS : va_S A H0 H locs)
    (kk : ∀ (H1 : Heap) (locs1 : List Loc), va_P (dC, dI) nCl (vC cy a z σ) H1 → va_S A H0 H1 locs1 → W p l e R s m args below meth c H1 locs1 cells slots Q (F0 m (pc + 3) ls (.int v :: rest))) : W p l e R s m args below meth c H locs cells slots Q (F0 m pc ls st) := by
  have hFc : ∀ q, va_A ([] : va_W) H.size q → A q := va_free (wc := []) hD hS hA [] rfl
  refine va_calli hr hS (fun q _ h => hFc q h) hFc (fun z9 _ t H1 locs ht hvm hw hB hz1 hk1 hS => ?_)
  subst hw
  exact kk H1 locs (hP.kept (fun j q hq => hk1 q.1 ((hP j q hq).lt) (nA_nil ((hP j q hq).lt)))) hS
theorem ks_r {v : Nat} {av : Array Value} {st : List Value} (hr : va_Run p l e R s m args below meth c H locs cells slots 0 0 (F0 m pc ls st) rest (va_Qr (fun _ : Unit => True) (fun _ q t => q = v ∧ nOut (dC, dI) cy (va_A [] H.size) [] t) (va_A [] H.size) av) (va_A [] H.size)) (hA : ∀ q : Nat, H0.size ≤ q → A q) (hP : va_P (dC, dI) nCl (vC cy a z σ) H) (hD : va_D A (vC cy a z σ)) (hS : va_S A H0 H locs)
    (kk : ∀ (H1 : Heap) (locs1 : List Loc), va_P (dC, dI) nCl (vC cy a z σ) H1 → va_S A H0 H1 locs1 → W p l e R s m args below meth c H1 locs1 cells slots Q (F0 m (pc + 3) ls (.ref v :: rest))) : W p l e R s m args below meth c H locs cells slots Q (F0 m pc ls st) := by
  have hFc : ∀ q, va_A ([] : va_W) H.size q → A q := va_free (wc := []) hD hS hA [] rfl
  refine va_callr hr hS (fun q _ h => hFc q h) hFc (fun _ z9 t H1 locs ht hvm hw hB hz1 hk1 hS => ?_)
  obtain ⟨hra, _⟩ := hB
  subst hra
  exact kk H1 locs (hP.kept (fun j q hq => hk1 q.1 ((hP j q hq).lt) (nA_nil ((hP j q hq).lt)))) hS
end NBS
def w_f_X0_typeName : List Cond := [.code yX0_typeName cX0_typeName 1 (some (.object "java/lang/String"))]
theorem w_f_X0_typeName_good : w_f_X0_typeName.all goodWord = true := by decide +kernel
set_option maxHeartbeats 4000000 in
theorem c_tn_1 (l : Launch) (dC : Nat → ClassId) (dI : Nat → Nat → Nat) (cy : Nat → ClassId) (k : Nat → Nat) (x : Int32) (hx0 : x = 1) (sz : Nat) : Met l yX0_typeName w_f_X0_typeName ({ frames := 0, cells := 0, slots := 0, locals := 0 }) (va_Pc [.int x] (nInE (dC, dI) cy k sz [])) (va_Qr (fun _ : Unit => True) (fun _ q t => q = k 2 ∧ nOut (dC, dI) cy (va_A [] sz) [] t) (va_A [] sz)) 0 0 (va_A [] sz) := by
  refine Met.ofW (cc := cX0_typeName) (maxL := 1) (ret := (some (.object "java/lang/String"))) (by decide) rfl ?_
  intro p e s m args below meth c s₁ B hml hv
  obtain ⟨rfl, ⟨hsz, hP, hK, hD0, hG⟩, hE⟩ := hv
  have hx := B.exec
  have hb := B.bytes
  have hr := B.returns
  have hown : s.vm.findClass RX0 = some m.cls := findClass_of_methodNamed B.named
  have hlocks := B.notSynchronized
  subst hsz
  have hD := hD0.self (sz := s.heap.size)
  generalize hAe : va_A ([] : va_W) s.heap.size = A at hD hE ⊢
  have hS : va_S A s.heap s.heap [] := va_S.rf
  have hl := lv_entry ([.int x]) (n := 1) (Nat.le_of_ble_eq_true rfl)
  rw [lg_entry_eq]
  generalize (lg_sl ([.int x]) ++ List.replicate (1 - (lg_sl ([.int x])).length) Slot.unset).toArray = ls at hl ⊢
  have hl : lv_has ls 1 [(0, .int x)] := hl
  refine lv_iload_n hx hb dX0_typeName_0 rfl (lv_at hl 0 rfl) ?_
  refine lv_tableIn (off := 39) (tgt := 40) hx hb dX0_typeName_1 (by rw [hx0]; decide) (by rw [hx0]; decide) (by rw [hx0]; decide) (by decide) ?_
  refine va_ldcS hx hb hown (hE.2.2.2.1 _ (List.mem_of_getElem? (i := 1) rfl)) dX0_typeName_40 ?_
  exact W.aret (v := .ref (k 2)) hx hb hr (Or.inl ⟨_, rfl⟩) (Or.inr ⟨_, rfl⟩) (fun t ht hW => ⟨⟨(), k 2, rfl, trivial, rfl, by rw [ht]; exact hP, va_K.moved hW.alike hK, hD⟩, hS.F ht⟩) hS.2.2 dX0_typeName_42
set_option maxHeartbeats 4000000 in
theorem c_tn_2 (l : Launch) (dC : Nat → ClassId) (dI : Nat → Nat → Nat) (cy : Nat → ClassId) (k : Nat → Nat) (x : Int32) (hx0 : x = 2) (sz : Nat) : Met l yX0_typeName w_f_X0_typeName ({ frames := 0, cells := 0, slots := 0, locals := 0 }) (va_Pc [.int x] (nInE (dC, dI) cy k sz [])) (va_Qr (fun _ : Unit => True) (fun _ q t => q = k 4 ∧ nOut (dC, dI) cy (va_A [] sz) [] t) (va_A [] sz)) 0 0 (va_A [] sz) := by
  refine Met.ofW (cc := cX0_typeName) (maxL := 1) (ret := (some (.object "java/lang/String"))) (by decide) rfl ?_
  intro p e s m args below meth c s₁ B hml hv
  obtain ⟨rfl, ⟨hsz, hP, hK, hD0, hG⟩, hE⟩ := hv
  have hx := B.exec
  have hb := B.bytes
  have hr := B.returns
  have hown : s.vm.findClass RX0 = some m.cls := findClass_of_methodNamed B.named
  have hlocks := B.notSynchronized
  subst hsz
  have hD := hD0.self (sz := s.heap.size)
  generalize hAe : va_A ([] : va_W) s.heap.size = A at hD hE ⊢
  have hS : va_S A s.heap s.heap [] := va_S.rf
  have hl := lv_entry ([.int x]) (n := 1) (Nat.le_of_ble_eq_true rfl)
  rw [lg_entry_eq]
  generalize (lg_sl ([.int x]) ++ List.replicate (1 - (lg_sl ([.int x])).length) Slot.unset).toArray = ls at hl ⊢
  have hl : lv_has ls 1 [(0, .int x)] := hl
  refine lv_iload_n hx hb dX0_typeName_0 rfl (lv_at hl 0 rfl) ?_
  refine lv_tableIn (off := 42) (tgt := 43) hx hb dX0_typeName_1 (by rw [hx0]; decide) (by rw [hx0]; decide) (by rw [hx0]; decide) (by decide) ?_
  refine va_ldcS hx hb hown (hE.2.2.2.1 _ (List.mem_of_getElem? (i := 2) rfl)) dX0_typeName_43 ?_
  exact W.aret (v := .ref (k 4)) hx hb hr (Or.inl ⟨_, rfl⟩) (Or.inr ⟨_, rfl⟩) (fun t ht hW => ⟨⟨(), k 4, rfl, trivial, rfl, by rw [ht]; exact hP, va_K.moved hW.alike hK, hD⟩, hS.F ht⟩) hS.2.2 dX0_typeName_45
set_option maxHeartbeats 4000000 in
theorem c_tn_3 (l : Launch) (dC : Nat → ClassId) (dI : Nat → Nat → Nat) (cy : Nat → ClassId) (k : Nat → Nat) (x : Int32) (hx0 : x = 3) (sz : Nat) : Met l yX0_typeName w_f_X0_typeName ({ frames := 0, cells := 0, slots := 0, locals := 0 }) (va_Pc [.int x] (nInE (dC, dI) cy k sz [])) (va_Qr (fun _ : Unit => True) (fun _ q t => q = k 6 ∧ nOut (dC, dI) cy (va_A [] sz) [] t) (va_A [] sz)) 0 0 (va_A [] sz) := by
  refine Met.ofW (cc := cX0_typeName) (maxL := 1) (ret := (some (.object "java/lang/String"))) (by decide) rfl ?_
  intro p e s m args below meth c s₁ B hml hv
  obtain ⟨rfl, ⟨hsz, hP, hK, hD0, hG⟩, hE⟩ := hv
  have hx := B.exec
  have hb := B.bytes
  have hr := B.returns
  have hown : s.vm.findClass RX0 = some m.cls := findClass_of_methodNamed B.named
  have hlocks := B.notSynchronized
  subst hsz
  have hD := hD0.self (sz := s.heap.size)
  generalize hAe : va_A ([] : va_W) s.heap.size = A at hD hE ⊢
  have hS : va_S A s.heap s.heap [] := va_S.rf
  have hl := lv_entry ([.int x]) (n := 1) (Nat.le_of_ble_eq_true rfl)
  rw [lg_entry_eq]
  generalize (lg_sl ([.int x]) ++ List.replicate (1 - (lg_sl ([.int x])).length) Slot.unset).toArray = ls at hl ⊢
  have hl : lv_has ls 1 [(0, .int x)] := hl
  refine lv_iload_n hx hb dX0_typeName_0 rfl (lv_at hl 0 rfl) ?_
  refine lv_tableIn (off := 45) (tgt := 46) hx hb dX0_typeName_1 (by rw [hx0]; decide) (by rw [hx0]; decide) (by rw [hx0]; decide) (by decide) ?_
  refine va_ldcS hx hb hown (hE.2.2.2.1 _ (List.mem_of_getElem? (i := 3) rfl)) dX0_typeName_46 ?_
  exact W.aret (v := .ref (k 6)) hx hb hr (Or.inl ⟨_, rfl⟩) (Or.inr ⟨_, rfl⟩) (fun t ht hW => ⟨⟨(), k 6, rfl, trivial, rfl, by rw [ht]; exact hP, va_K.moved hW.alike hK, hD⟩, hS.F ht⟩) hS.2.2 dX0_typeName_48
set_option maxHeartbeats 4000000 in
theorem c_tn_4 (l : Launch) (dC : Nat → ClassId) (dI : Nat → Nat → Nat) (cy : Nat → ClassId) (k : Nat → Nat) (x : Int32) (hx0 : x = 4) (sz : Nat) : Met l yX0_typeName w_f_X0_typeName ({ frames := 0, cells := 0, slots := 0, locals := 0 }) (va_Pc [.int x] (nInE (dC, dI) cy k sz [])) (va_Qr (fun _ : Unit => True) (fun _ q t => q = k 8 ∧ nOut (dC, dI) cy (va_A [] sz) [] t) (va_A [] sz)) 0 0 (va_A [] sz) := by
  refine Met.ofW (cc := cX0_typeName) (maxL := 1) (ret := (some (.object "java/lang/String"))) (by decide) rfl ?_
  intro p e s m args below meth c s₁ B hml hv
  obtain ⟨rfl, ⟨hsz, hP, hK, hD0, hG⟩, hE⟩ := hv
  have hx := B.exec
  have hb := B.bytes
  have hr := B.returns
  have hown : s.vm.findClass RX0 = some m.cls := findClass_of_methodNamed B.named
  have hlocks := B.notSynchronized
  subst hsz
  have hD := hD0.self (sz := s.heap.size)
  generalize hAe : va_A ([] : va_W) s.heap.size = A at hD hE ⊢
  have hS : va_S A s.heap s.heap [] := va_S.rf
  have hl := lv_entry ([.int x]) (n := 1) (Nat.le_of_ble_eq_true rfl)
  rw [lg_entry_eq]
  generalize (lg_sl ([.int x]) ++ List.replicate (1 - (lg_sl ([.int x])).length) Slot.unset).toArray = ls at hl ⊢
  have hl : lv_has ls 1 [(0, .int x)] := hl
  refine lv_iload_n hx hb dX0_typeName_0 rfl (lv_at hl 0 rfl) ?_
  refine lv_tableIn (off := 48) (tgt := 49) hx hb dX0_typeName_1 (by rw [hx0]; decide) (by rw [hx0]; decide) (by rw [hx0]; decide) (by decide) ?_
  refine va_ldcS hx hb hown (hE.2.2.2.1 _ (List.mem_of_getElem? (i := 4) rfl)) dX0_typeName_49 ?_
  exact W.aret (v := .ref (k 8)) hx hb hr (Or.inl ⟨_, rfl⟩) (Or.inr ⟨_, rfl⟩) (fun t ht hW => ⟨⟨(), k 8, rfl, trivial, rfl, by rw [ht]; exact hP, va_K.moved hW.alike hK, hD⟩, hS.F ht⟩) hS.2.2 dX0_typeName_51
set_option maxHeartbeats 4000000 in
theorem c_tn_5 (l : Launch) (dC : Nat → ClassId) (dI : Nat → Nat → Nat) (cy : Nat → ClassId) (k : Nat → Nat) (x : Int32) (hx0 : x = 5) (sz : Nat) : Met l yX0_typeName w_f_X0_typeName ({ frames := 0, cells := 0, slots := 0, locals := 0 }) (va_Pc [.int x] (nInE (dC, dI) cy k sz [])) (va_Qr (fun _ : Unit => True) (fun _ q t => q = k 10 ∧ nOut (dC, dI) cy (va_A [] sz) [] t) (va_A [] sz)) 0 0 (va_A [] sz) := by
  refine Met.ofW (cc := cX0_typeName) (maxL := 1) (ret := (some (.object "java/lang/String"))) (by decide) rfl ?_
  intro p e s m args below meth c s₁ B hml hv
  obtain ⟨rfl, ⟨hsz, hP, hK, hD0, hG⟩, hE⟩ := hv
  have hx := B.exec
  have hb := B.bytes
  have hr := B.returns
  have hown : s.vm.findClass RX0 = some m.cls := findClass_of_methodNamed B.named
  have hlocks := B.notSynchronized
  subst hsz
  have hD := hD0.self (sz := s.heap.size)
  generalize hAe : va_A ([] : va_W) s.heap.size = A at hD hE ⊢
  have hS : va_S A s.heap s.heap [] := va_S.rf
  have hl := lv_entry ([.int x]) (n := 1) (Nat.le_of_ble_eq_true rfl)
  rw [lg_entry_eq]
  generalize (lg_sl ([.int x]) ++ List.replicate (1 - (lg_sl ([.int x])).length) Slot.unset).toArray = ls at hl ⊢
  have hl : lv_has ls 1 [(0, .int x)] := hl
  refine lv_iload_n hx hb dX0_typeName_0 rfl (lv_at hl 0 rfl) ?_
  refine lv_tableIn (off := 51) (tgt := 52) hx hb dX0_typeName_1 (by rw [hx0]; decide) (by rw [hx0]; decide) (by rw [hx0]; decide) (by decide) ?_
  refine va_ldcS hx hb hown (hE.2.2.2.1 _ (List.mem_of_getElem? (i := 5) rfl)) dX0_typeName_52 ?_
  exact W.aret (v := .ref (k 10)) hx hb hr (Or.inl ⟨_, rfl⟩) (Or.inr ⟨_, rfl⟩) (fun t ht hW => ⟨⟨(), k 10, rfl, trivial, rfl, by rw [ht]; exact hP, va_K.moved hW.alike hK, hD⟩, hS.F ht⟩) hS.2.2 dX0_typeName_54
set_option maxHeartbeats 4000000 in
theorem c_tn_6 (l : Launch) (dC : Nat → ClassId) (dI : Nat → Nat → Nat) (cy : Nat → ClassId) (k : Nat → Nat) (x : Int32) (hx0 : x = 6) (sz : Nat) : Met l yX0_typeName w_f_X0_typeName ({ frames := 0, cells := 0, slots := 0, locals := 0 }) (va_Pc [.int x] (nInE (dC, dI) cy k sz [])) (va_Qr (fun _ : Unit => True) (fun _ q t => q = k 12 ∧ nOut (dC, dI) cy (va_A [] sz) [] t) (va_A [] sz)) 0 0 (va_A [] sz) := by
  refine Met.ofW (cc := cX0_typeName) (maxL := 1) (ret := (some (.object "java/lang/String"))) (by decide) rfl ?_
  intro p e s m args below meth c s₁ B hml hv
  obtain ⟨rfl, ⟨hsz, hP, hK, hD0, hG⟩, hE⟩ := hv
  have hx := B.exec
  have hb := B.bytes
  have hr := B.returns
  have hown : s.vm.findClass RX0 = some m.cls := findClass_of_methodNamed B.named
  have hlocks := B.notSynchronized
  subst hsz
  have hD := hD0.self (sz := s.heap.size)
  generalize hAe : va_A ([] : va_W) s.heap.size = A at hD hE ⊢
  have hS : va_S A s.heap s.heap [] := va_S.rf
  have hl := lv_entry ([.int x]) (n := 1) (Nat.le_of_ble_eq_true rfl)
  rw [lg_entry_eq]
  generalize (lg_sl ([.int x]) ++ List.replicate (1 - (lg_sl ([.int x])).length) Slot.unset).toArray = ls at hl ⊢
  have hl : lv_has ls 1 [(0, .int x)] := hl
  refine lv_iload_n hx hb dX0_typeName_0 rfl (lv_at hl 0 rfl) ?_
  refine lv_tableIn (off := 54) (tgt := 55) hx hb dX0_typeName_1 (by rw [hx0]; decide) (by rw [hx0]; decide) (by rw [hx0]; decide) (by decide) ?_
  refine va_ldcS hx hb hown (hE.2.2.2.1 _ (List.mem_of_getElem? (i := 6) rfl)) dX0_typeName_55 ?_
  exact W.aret (v := .ref (k 12)) hx hb hr (Or.inl ⟨_, rfl⟩) (Or.inr ⟨_, rfl⟩) (fun t ht hW => ⟨⟨(), k 12, rfl, trivial, rfl, by rw [ht]; exact hP, va_K.moved hW.alike hK, hD⟩, hS.F ht⟩) hS.2.2 dX0_typeName_57
set_option maxHeartbeats 4000000 in
theorem c_tn_d (l : Launch) (dC : Nat → ClassId) (dI : Nat → Nat → Nat) (cy : Nat → ClassId) (k : Nat → Nat) (x : Int32) (hx0 : x.toInt < 1 ∨ 6 < x.toInt) (sz : Nat) : Met l yX0_typeName w_f_X0_typeName ({ frames := 0, cells := 0, slots := 0, locals := 0 }) (va_Pc [.int x] (nInE (dC, dI) cy k sz [])) (va_Qr (fun _ : Unit => True) (fun _ q t => q = k 14 ∧ nOut (dC, dI) cy (va_A [] sz) [] t) (va_A [] sz)) 0 0 (va_A [] sz) := by
  refine Met.ofW (cc := cX0_typeName) (maxL := 1) (ret := (some (.object "java/lang/String"))) (by decide) rfl ?_
  intro p e s m args below meth c s₁ B hml hv
  obtain ⟨rfl, ⟨hsz, hP, hK, hD0, hG⟩, hE⟩ := hv
  have hx := B.exec
  have hb := B.bytes
  have hr := B.returns
  have hown : s.vm.findClass RX0 = some m.cls := findClass_of_methodNamed B.named
  have hlocks := B.notSynchronized
  subst hsz
  have hD := hD0.self (sz := s.heap.size)
  generalize hAe : va_A ([] : va_W) s.heap.size = A at hD hE ⊢
  have hS : va_S A s.heap s.heap [] := va_S.rf
  have hl := lv_entry ([.int x]) (n := 1) (Nat.le_of_ble_eq_true rfl)
  rw [lg_entry_eq]
  generalize (lg_sl ([.int x]) ++ List.replicate (1 - (lg_sl ([.int x])).length) Slot.unset).toArray = ls at hl ⊢
  have hl : lv_has ls 1 [(0, .int x)] := hl
  refine lv_iload_n hx hb dX0_typeName_0 rfl (lv_at hl 0 rfl) ?_
  refine lv_tableOut (tgt := 58) hx hb dX0_typeName_1 hx0 (by decide) ?_
  refine va_ldcS hx hb hown (hE.2.2.2.1 _ (List.mem_of_getElem? (i := 7) rfl)) dX0_typeName_58 ?_
  exact W.aret (v := .ref (k 14)) hx hb hr (Or.inl ⟨_, rfl⟩) (Or.inr ⟨_, rfl⟩) (fun t ht hW => ⟨⟨(), k 14, rfl, trivial, rfl, by rw [ht]; exact hP, va_K.moved hW.alike hK, hD⟩, hS.F ht⟩) hS.2.2 dX0_typeName_60

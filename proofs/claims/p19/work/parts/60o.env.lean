/-! What does not change: statics of the JDK and of the class, the words' text; k: where they lie. -/
def lxB : List Int32 := [118, 97, 114, 32, 112, 114, 111, 99, 32, 102, 117, 110, 99, 32, 114, 100, 32, 119, 114, 32, 114, 119, 32, 101, 110, 100, 32, 105, 102, 32, 116, 104, 101, 110, 32, 101, 108, 115, 101, 105, 102, 32, 101, 108, 115, 101, 32, 119, 104, 105, 108, 101, 32, 100, 111, 32, 102, 111, 114, 32, 105, 110, 32, 110, 111, 116, 105, 110, 32, 115, 117, 98, 115, 101, 116, 32, 113, 117, 105, 116, 32, 99, 111, 110, 116, 105, 110, 117, 101, 32, 114, 101, 116, 117, 114, 110, 32, 112, 114, 105, 110, 116, 32, 97, 115, 115, 101, 114, 116, 32, 115, 116, 111, 112, 32, 115, 117, 99, 99, 101, 101, 100, 32, 102, 97, 105, 108, 32, 102, 114, 111, 109, 32, 102, 114, 111, 109, 98, 32, 102, 114, 111, 109, 101, 32, 111, 109, 32, 116, 114, 117, 101, 32, 102, 97, 108, 115, 101, 32, 111, 107, 32, 97, 110, 100, 32, 111, 114, 32, 110, 111, 116, 32, 100, 105, 118, 32, 109, 111, 100, 32, 101, 120, 105, 115, 116, 115, 32, 102, 111, 114, 97, 108, 108, 32, 97, 98, 115, 32, 97, 114, 98, 32, 100, 111, 109, 97, 105, 110, 32, 114, 97, 110, 103, 101, 32, 112, 111, 119, 32, 116, 121, 112, 101, 32, 115, 116, 114, 32, 99, 104, 97, 114, 32, 99, 111, 100, 101, 32, 109, 105, 110, 32, 109, 97, 120, 32, 114, 101, 118, 32, 110, 101, 119, 97, 116, 32, 114, 97, 110, 100, 111, 109, 32]
def nE1 (k : Nat → Nat) (A : Nat → Prop) (U : State) (H : Heap) : Prop :=
  va_Z "java/lang/String" "COMPACT_STRINGS" "Z" (.int 1) A U H ∧ va_Zq "jdk/internal/util/Preconditions" "SIOOBE_FORMATTER" "Ljava/util/function/BiFunction;" A U H ∧ vk_S 1 [264] [lxB] (fun _ => k 0) (fun _ => k 1) A U H ∧ vk_R "SetHouse$Lexer" 19 "var proc func rd wr rw end if then elseif else while do for in notin subset quit continue return print assert stop succeed fail from fromb frome om true false ok and or not div mod exists forall abs arb domain range pow type str char code min max rev newat random " (k 0) U ∧ va_Z "SetHouse$Lexer" "CLASSES" "[B" (.ref (k 2)) A U H ∧ va_T .byte (k 2) 128 (fun j => .int (lxC.getD j 0)) A U H
theorem nE1.to {k : Nat → Nat} {A B : Nat → Prop} {s U : State} {H : Heap} {locs : List Loc} (h : nE1 k A s s.heap) (hS : va_S A s.heap H locs) (hW : s.WarmedH U.vm) (hU : U.heap = H) (hAB : ∀ q, B q → A q) : nE1 k B U U.heap := by
  obtain ⟨h1, h2, h3, h4, h5, h6⟩ := h
  rw [hU]
  exact ⟨((h1.kept hS.2.1).moved hW.alike).narrow hAB, ((h2.kept hS.2.1).moved hW.alike).narrow hAB, ((h3.kept hS.2.1).moved hW.alike).narrow hAB, h4.warm hW, ((h5.kept hS.2.1).moved hW.alike).narrow hAB, ((h6.kept hS.2.1).moved hW.alike).narrow hAB⟩
theorem nE1.same {k : Nat → Nat} {A : Nat → Prop} {u U : State} (h : nE1 k A u u.heap) (e : u.vm = U.vm) (e2 : u.heap = U.heap) : nE1 k A U U.heap := by
  obtain ⟨h1, h2, h3, h4, h5, h6⟩ := h
  have ha : u.vm.Alike U.vm := e ▸ Vm.Alike.refl u.vm
  rw [← e2]
  exact ⟨h1.moved ha, h2.moved ha, h3.moved ha, h4.same e.symm, h5.moved ha, h6.moved ha⟩
abbrev nInE1 (D : va_G) (cy : Nat → ClassId) (k : Nat → Nat) (sz : Nat) (ws : va_W) : State → Prop := fun U => nIn D cy sz ws U ∧ nE1 k (va_A ws sz) U U.heap
theorem nb_blindE1 {D : va_G} {cy : Nat → ClassId} {k : Nat → Nat} {sz : Nat} {ws : va_W} {av : List Value} : FrameBlind (va_Pc av (nInE1 D cy k sz ws)) := fun a U g mk q => by
  obtain ⟨q0, ⟨q1, qP, qK, qD, qG⟩, qE⟩ := q
  exact ⟨q0, ⟨q1, qP, va_K.moved (u := U) (U := U.calling g mk a) (Vm.Alike.refl U.vm) qK, qD, nG.same (U := U.calling g mk a) qG rfl⟩, nE1.same (U := U.calling g mk a) qE rfl rfl⟩
def v0_c_J_coder (cy : Nat → ClassId)  : va_W := []
def v1_c_J_coder (cy : Nat → ClassId)  (r : Nat → Nat) : va_W := []
set_option maxHeartbeats 40000000 in
set_option maxRecDepth 100000 in
/-- coder() -/
theorem c_J_coder (l : Launch) (dC : Nat → ClassId) (dI : Nat → Nat → Nat) (cy : Nat → ClassId) (k : Nat → Nat)  (sz : Nat) : Met l yJ0_coder_7d493 wsJ0_coder_7d493 ({ frames := 0, cells := 0, slots := 0, locals := 0 }) (va_Pc [.ref (k 0)] (nInE1 (dC, dI) cy k sz (v0_c_J_coder cy ))) (va_Qi (fun (z : Int32) (_ : Nat → Nat) => z = 0) (fun r t => nOut (dC, dI) cy (va_A (v0_c_J_coder cy ) sz) (v1_c_J_coder cy  r) t) (va_A (v0_c_J_coder cy ) sz)) 0 0 (va_A (v0_c_J_coder cy ) sz) := by
  refine Met.ofW (cc := cJ0_coder_7d493) (maxL := 1) (ret := (some .byte)) (by decide) rfl ?_
  intro p e s m args below meth c s₁ B hml hv
  obtain ⟨rfl, ⟨hsz, hP, hK, hD0, hG⟩, hE⟩ := hv
  have hx := B.exec
  have hb := B.bytes
  have hr := B.returns
  have hts := atoms_spec (ws := wsJ0_coder_7d493) B.pre
  have hown : s.vm.findClass RJ0 = some m.cls := findClass_of_methodNamed B.named
  have hlocks := B.notSynchronized
  subst hsz
  have hD := hD0.self (sz := s.heap.size)
  generalize hAe : va_A (v0_c_J_coder cy ) s.heap.size = A at hD hE ⊢
  have hA : ∀ q : Nat, s.heap.size ≤ q → A q := fun q h => by rw [← hAe]; exact Or.inr h
  have hS : va_S A s.heap s.heap [] := va_S.rf
  have hP : va_P (dC, dI) nCl (v0_c_J_coder cy ) s.heap := hP
  have hl := lv_entry ([.ref (k 0)]) (n := 1) (Nat.le_of_ble_eq_true rfl)
  rw [lg_entry_eq]
  generalize (lg_sl ([.ref (k 0)]) ++ List.replicate (1 - (lg_sl ([.ref (k 0)])).length) Slot.unset).toArray = ls at hl ⊢
  have hl : lv_has ls 1 [(0, .ref (k 0))] := hl
  have hP : va_P (dC, dI) nCl [] s.heap := hP
  have hD : va_D A [] := hD
  refine va_gets hx hb hE.1 hS hown (hts _ (List.mem_cons_of_mem _ (List.mem_of_getElem? (i := 0) rfl))) (fun _ h9 => h9) dJ0_coder_7d493_0 ?_
  refine lv_if_eq (tgt := 13) hx hb dJ0_coder_7d493_3 (by decide) (fun c1 => False.elim (by revert c1; decide)) (fun _ => ?_)
  refine lv_aload_n hx hb dJ0_coder_7d493_6 rfl (lv_at hl 0 rfl) ?_
  refine vk_getf hx hb (hE.2.2.1.1 0 (by decide)).2.1 hS hown (hts _ (List.mem_cons_of_mem _ (List.mem_of_getElem? (i := 1) rfl))) (fun _ h9 => h9) dJ0_coder_7d493_7 ?_
  refine lv_goto (tgt := 14) hx hb dJ0_coder_7d493_10 (by decide) ?_
  have hP : va_P (dC, dI) nCl (v1_c_J_coder cy  (fun _ => 0)) s.heap := hP
  have hD : va_D A (v1_c_J_coder cy  (fun _ => 0)) := hD
  exact W.zret (v := 0) hx hb hr rfl (fun t ht hW => ⟨⟨0, (fun _ => 0), rfl, rfl, by rw [ht]; exact hP, va_K.moved hW.alike hK, hD⟩, hS.F ht⟩) hS.2.2 dJ0_coder_7d493_14
def v0_c_J_len (cy : Nat → ClassId)  : va_W := []
def v1_c_J_len (cy : Nat → ClassId)  (r : Nat → Nat) : va_W := []
set_option maxHeartbeats 40000000 in
set_option maxRecDepth 100000 in
/-- length() of the words' text -/
theorem c_J_len (l : Launch) (dC : Nat → ClassId) (dI : Nat → Nat → Nat) (cy : Nat → ClassId) (k : Nat → Nat)  (sz : Nat) : Met l yJ0_length_8abf5 wsJ0_length_8abf5 ({ frames := 1, cells := 0, slots := 0, locals := 20 }) (va_Pc [.ref (k 0)] (nInE1 (dC, dI) cy k sz (v0_c_J_len cy ))) (va_Qi (fun (z : Int32) (_ : Nat → Nat) => z = 264) (fun r t => nOut (dC, dI) cy (va_A (v0_c_J_len cy ) sz) (v1_c_J_len cy  r) t) (va_A (v0_c_J_len cy ) sz)) 0 0 (va_A (v0_c_J_len cy ) sz) := by
  refine Met.ofW (cc := cJ0_length_8abf5) (maxL := 1) (ret := (some .int)) (by decide) rfl ?_
  intro p e s m args below meth c s₁ B hml hv
  obtain ⟨rfl, ⟨hsz, hP, hK, hD0, hG⟩, hE⟩ := hv
  have hx := B.exec
  have hb := B.bytes
  have hr := B.returns
  have hts := atoms_spec (ws := wsJ0_length_8abf5) B.pre
  have hown : s.vm.findClass RJ0 = some m.cls := findClass_of_methodNamed B.named
  have hlocks := B.notSynchronized
  subst hsz
  have hD := hD0.self (sz := s.heap.size)
  generalize hAe : va_A (v0_c_J_len cy ) s.heap.size = A at hD hE ⊢
  have hA : ∀ q : Nat, s.heap.size ≤ q → A q := fun q h => by rw [← hAe]; exact Or.inr h
  have hS : va_S A s.heap s.heap [] := va_S.rf
  have hP : va_P (dC, dI) nCl (v0_c_J_len cy ) s.heap := hP
  have hl := lv_entry ([.ref (k 0)]) (n := 1) (Nat.le_of_ble_eq_true rfl)
  rw [lg_entry_eq]
  generalize (lg_sl ([.ref (k 0)]) ++ List.replicate (1 - (lg_sl ([.ref (k 0)])).length) Slot.unset).toArray = ls at hl ⊢
  have hl : lv_has ls 1 [(0, .ref (k 0))] := hl
  have hP : va_P (dC, dI) nCl [] s.heap := hP
  have hD : va_D A [] := hD
  refine lv_aload_n hx hb dJ0_length_8abf5_0 rfl (lv_at hl 0 rfl) ?_
  refine vk_getf hx hb (hE.2.2.1.1 0 (by decide)).2.2.1 hS hown (hts _ (List.mem_cons_of_mem _ (List.mem_of_getElem? (i := 0) rfl))) (fun _ h9 => h9) dJ0_length_8abf5_1 ?_
  refine va_tlen hx hb (hE.2.2.1.1 0 (by decide)).2.2.2 hS (v := 264) rfl dJ0_length_8abf5_4 ?_
  refine lv_aload_n hx hb dJ0_length_8abf5_5 rfl (lv_at hl 0 rfl) ?_
  have hPc : va_P (dC, dI) nCl (v0_c_J_coder cy ) s.heap := hP.sub (ws' := []) [] rfl
  have hDc : va_D A (v0_c_J_coder cy ) := hD.sub (ws' := []) [] (by decide) rfl
  have hFc := va_free (wc := (v0_c_J_coder cy )) hD hS hA [] rfl
  refine va_calli (va_runV (As := []) (rest := [.int 264]) ⟨hx, hb, hml, hown, hts⟩ (c_J_coder l dC dI cy k  s.heap.size) (cwV 0 hts gJ0_length_8abf5_J0_coder_7d493 rfl rfl rfl (by decide +kernel) ⟨Nat.le_of_ble_eq_true rfl, Nat.le_of_ble_eq_true rfl⟩) ⟨nb_blindE1, (vk_recv (i := 0) hE.2.2.1 (by decide) hS), fun U hU hW => ⟨rfl, ⟨by rw [hU], by rw [hU]; exact hPc, va_K.moved hW.alike hK, hDc.weaken (fun _ _ _ _ => trivial), hG.warm hW⟩, nE1.to hE hS hW hU hFc⟩⟩ rfl rfl hl.1 rfl (lv_room (Nat.le_of_ble_eq_true rfl)) dJ0_length_8abf5_6 ⟨Nat.le_of_ble_eq_true rfl, Nat.le_of_ble_eq_true rfl⟩) hS (fun q _ h => hFc q h) hFc (fun r_1 u1 t H1 locs ht hvm hw hB hz1 hk1 hS => ?_)
  have hw : r_1 = 0 := hw.trans (by decide)
  subst hw
  obtain ⟨hP1, hK1, hD1⟩ := hB
  rw [ht] at hP1
  obtain ⟨hP, hD⟩ := va_join (wr := []) (w1 := (v1_c_J_coder cy  u1)) hP hD [] [] rfl rfl (by decide) (by decide) hk1 hFc hP1 hD1
  generalize H1 = H at hP hS ⊢
  have hP : va_P (dC, dI) nCl [] H := hP
  have hD : va_D A [] := hD
  refine lv_ishr hx hb dJ0_length_8abf5_9 ?_
  refine W.eq (g2 := F0 m 10 ls [.int 264]) rfl ?_
  have hP : va_P (dC, dI) nCl (v1_c_J_len cy  (fun _ => 0)) H := hP
  have hD : va_D A (v1_c_J_len cy  (fun _ => 0)) := hD
  exact W.iret (v := 264) hx hb hr (fun t ht hW => ⟨⟨264, (fun _ => 0), rfl, rfl, by rw [ht]; exact hP, va_K.moved hW.alike hK, hD⟩, hS.F ht⟩) hS.2.2 dJ0_length_8abf5_10
def v0_c_J_isLatin1 (cy : Nat → ClassId)  : va_W := []
def v1_c_J_isLatin1 (cy : Nat → ClassId)  (r : Nat → Nat) : va_W := []
set_option maxHeartbeats 40000000 in
set_option maxRecDepth 100000 in
/-- isLatin1() -/
theorem c_J_isLatin1 (l : Launch) (dC : Nat → ClassId) (dI : Nat → Nat → Nat) (cy : Nat → ClassId) (k : Nat → Nat)  (sz : Nat) : Met l yJ0_isLatin1_aae02 wsJ0_isLatin1_aae02 ({ frames := 0, cells := 0, slots := 0, locals := 0 }) (va_Pc [.ref (k 0)] (nInE1 (dC, dI) cy k sz (v0_c_J_isLatin1 cy ))) (va_Qi (fun (z : Int32) (_ : Nat → Nat) => z = 1) (fun r t => nOut (dC, dI) cy (va_A (v0_c_J_isLatin1 cy ) sz) (v1_c_J_isLatin1 cy  r) t) (va_A (v0_c_J_isLatin1 cy ) sz)) 0 0 (va_A (v0_c_J_isLatin1 cy ) sz) := by
  refine Met.ofW (cc := cJ0_isLatin1_aae02) (maxL := 1) (ret := (some .boolean)) (by decide) rfl ?_
  intro p e s m args below meth c s₁ B hml hv
  obtain ⟨rfl, ⟨hsz, hP, hK, hD0, hG⟩, hE⟩ := hv
  have hx := B.exec
  have hb := B.bytes
  have hr := B.returns
  have hts := atoms_spec (ws := wsJ0_isLatin1_aae02) B.pre
  have hown : s.vm.findClass RJ0 = some m.cls := findClass_of_methodNamed B.named
  have hlocks := B.notSynchronized
  subst hsz
  have hD := hD0.self (sz := s.heap.size)
  generalize hAe : va_A (v0_c_J_isLatin1 cy ) s.heap.size = A at hD hE ⊢
  have hA : ∀ q : Nat, s.heap.size ≤ q → A q := fun q h => by rw [← hAe]; exact Or.inr h
  have hS : va_S A s.heap s.heap [] := va_S.rf
  have hP : va_P (dC, dI) nCl (v0_c_J_isLatin1 cy ) s.heap := hP
  have hl := lv_entry ([.ref (k 0)]) (n := 1) (Nat.le_of_ble_eq_true rfl)
  rw [lg_entry_eq]
  generalize (lg_sl ([.ref (k 0)]) ++ List.replicate (1 - (lg_sl ([.ref (k 0)])).length) Slot.unset).toArray = ls at hl ⊢
  have hl : lv_has ls 1 [(0, .ref (k 0))] := hl
  have hP : va_P (dC, dI) nCl [] s.heap := hP
  have hD : va_D A [] := hD
  refine va_gets hx hb hE.1 hS hown (hts _ (List.mem_cons_of_mem _ (List.mem_of_getElem? (i := 0) rfl))) (fun _ h9 => h9) dJ0_isLatin1_aae02_0 ?_
  refine lv_if_eq (tgt := 17) hx hb dJ0_isLatin1_aae02_3 (by decide) (fun c1 => False.elim (by revert c1; decide)) (fun _ => ?_)
  refine lv_aload_n hx hb dJ0_isLatin1_aae02_6 rfl (lv_at hl 0 rfl) ?_
  refine vk_getf hx hb (hE.2.2.1.1 0 (by decide)).2.1 hS hown (hts _ (List.mem_cons_of_mem _ (List.mem_of_getElem? (i := 1) rfl))) (fun _ h9 => h9) dJ0_isLatin1_aae02_7 ?_
  refine lv_if_ne (tgt := 17) hx hb dJ0_isLatin1_aae02_10 (by decide) (fun c1 => False.elim (by revert c1; decide)) (fun _ => ?_)
  refine lv_iconst (v := 1) hx hb dJ0_isLatin1_aae02_13 (by decide) ?_
  refine lv_goto (tgt := 18) hx hb dJ0_isLatin1_aae02_14 (by decide) ?_
  have hP : va_P (dC, dI) nCl (v1_c_J_isLatin1 cy  (fun _ => 0)) s.heap := hP
  have hD : va_D A (v1_c_J_isLatin1 cy  (fun _ => 0)) := hD
  exact W.zret (v := 1) hx hb hr rfl (fun t ht hW => ⟨⟨1, (fun _ => 0), rfl, rfl, by rw [ht]; exact hP, va_K.moved hW.alike hK, hD⟩, hS.F ht⟩) hS.2.2 dJ0_isLatin1_aae02_18
def v0_c_J_pre_n (cy : Nat → ClassId)  : va_W := []
def v1_c_J_pre_n (cy : Nat → ClassId)  (r : Nat → Nat) : va_W := []
set_option maxHeartbeats 40000000 in
set_option maxRecDepth 100000 in
/-- checkIndex(i, 264, f) -/
theorem c_J_pre_n (l : Launch) (dC : Nat → ClassId) (dI : Nat → Nat → Nat) (cy : Nat → ClassId) (k : Nat → Nat)  (i9 : Nat) (h9 : i9 < 264) (sz : Nat) : Met l yJ3_checkIndex_8e157 wsJ3_checkIndex_8e157 ({ frames := 0, cells := 0, slots := 0, locals := 0 }) (va_Pc [.int (nI i9), .int 264, .null] (nInE1 (dC, dI) cy k sz (v0_c_J_pre_n cy ))) (va_Qi (fun (z : Int32) (_ : Nat → Nat) => z = nI i9) (fun r t => nOut (dC, dI) cy (va_A (v0_c_J_pre_n cy ) sz) (v1_c_J_pre_n cy  r) t) (va_A (v0_c_J_pre_n cy ) sz)) 0 0 (va_A (v0_c_J_pre_n cy ) sz) := by
  refine Met.ofW (cc := cJ3_checkIndex_8e157) (maxL := 3) (ret := (some .int)) (by decide) rfl ?_
  intro p e s m args below meth c s₁ B hml hv
  obtain ⟨rfl, ⟨hsz, hP, hK, hD0, hG⟩, hE⟩ := hv
  have hx := B.exec
  have hb := B.bytes
  have hr := B.returns
  have hts := atoms_spec (ws := wsJ3_checkIndex_8e157) B.pre
  have hown : s.vm.findClass RJ3 = some m.cls := findClass_of_methodNamed B.named
  have hlocks := B.notSynchronized
  subst hsz
  have hD := hD0.self (sz := s.heap.size)
  generalize hAe : va_A (v0_c_J_pre_n cy ) s.heap.size = A at hD hE ⊢
  have hA : ∀ q : Nat, s.heap.size ≤ q → A q := fun q h => by rw [← hAe]; exact Or.inr h
  have hS : va_S A s.heap s.heap [] := va_S.rf
  have hP : va_P (dC, dI) nCl (v0_c_J_pre_n cy ) s.heap := hP
  have hl := lv_entry ([.int (nI i9), .int 264, .null]) (n := 3) (Nat.le_of_ble_eq_true rfl)
  rw [lg_entry_eq]
  generalize (lg_sl ([.int (nI i9), .int 264, .null]) ++ List.replicate (3 - (lg_sl ([.int (nI i9), .int 264, .null])).length) Slot.unset).toArray = ls at hl ⊢
  have hl : lv_has ls 3 [(0, .int (nI i9)), (1, .int 264), (2, .null)] := hl
  have hP : va_P (dC, dI) nCl [] s.heap := hP
  have hD : va_D A [] := hD
  refine lv_iload_n hx hb dJ3_checkIndex_8e157_0 rfl (lv_at hl 0 rfl) ?_
  refine lv_if_lt (tgt := 9) hx hb dJ3_checkIndex_8e157_1 (by decide) (fun c1 => absurd c1 (nI_pos (by omega))) (fun _ => ?_)
  refine lv_iload_n hx hb dJ3_checkIndex_8e157_4 rfl (lv_at hl 0 rfl) ?_
  refine lv_iload_n hx hb dJ3_checkIndex_8e157_5 rfl (lv_at hl 1 rfl) ?_
  refine lv_icmp_lt (tgt := 16) hx hb dJ3_checkIndex_8e157_6 (by decide) (fun _ => ?_) (fun c1 => absurd (nI_lt (b := 264) h9 (by omega)) c1)
  refine lv_iload_n hx hb dJ3_checkIndex_8e157_16 rfl (lv_at hl 0 rfl) ?_
  have hP : va_P (dC, dI) nCl (v1_c_J_pre_n cy  (fun _ => 0)) s.heap := hP
  have hD : va_D A (v1_c_J_pre_n cy  (fun _ => 0)) := hD
  exact W.iret (v := (nI i9)) hx hb hr (fun t ht hW => ⟨⟨(nI i9), (fun _ => 0), rfl, rfl, by rw [ht]; exact hP, va_K.moved hW.alike hK, hD⟩, hS.F ht⟩) hS.2.2 dJ3_checkIndex_8e157_17
def v0_c_J_pre_r (cy : Nat → ClassId)  : va_W := []
def v1_c_J_pre_r (cy : Nat → ClassId)  (r : Nat → Nat) : va_W := []
set_option maxHeartbeats 40000000 in
set_option maxRecDepth 100000 in
/-- checkIndex(i, 264, f) -/
theorem c_J_pre_r (l : Launch) (dC : Nat → ClassId) (dI : Nat → Nat → Nat) (cy : Nat → ClassId) (k : Nat → Nat)  (i9 : Nat) (f9 : Nat) (h9 : i9 < 264) (sz : Nat) : Met l yJ3_checkIndex_8e157 wsJ3_checkIndex_8e157 ({ frames := 0, cells := 0, slots := 0, locals := 0 }) (va_Pc [.int (nI i9), .int 264, .ref f9] (nInE1 (dC, dI) cy k sz (v0_c_J_pre_r cy ))) (va_Qi (fun (z : Int32) (_ : Nat → Nat) => z = nI i9) (fun r t => nOut (dC, dI) cy (va_A (v0_c_J_pre_r cy ) sz) (v1_c_J_pre_r cy  r) t) (va_A (v0_c_J_pre_r cy ) sz)) 0 0 (va_A (v0_c_J_pre_r cy ) sz) := by
  refine Met.ofW (cc := cJ3_checkIndex_8e157) (maxL := 3) (ret := (some .int)) (by decide) rfl ?_
  intro p e s m args below meth c s₁ B hml hv
  obtain ⟨rfl, ⟨hsz, hP, hK, hD0, hG⟩, hE⟩ := hv
  have hx := B.exec
  have hb := B.bytes
  have hr := B.returns
  have hts := atoms_spec (ws := wsJ3_checkIndex_8e157) B.pre
  have hown : s.vm.findClass RJ3 = some m.cls := findClass_of_methodNamed B.named
  have hlocks := B.notSynchronized
  subst hsz
  have hD := hD0.self (sz := s.heap.size)
  generalize hAe : va_A (v0_c_J_pre_r cy ) s.heap.size = A at hD hE ⊢
  have hA : ∀ q : Nat, s.heap.size ≤ q → A q := fun q h => by rw [← hAe]; exact Or.inr h
  have hS : va_S A s.heap s.heap [] := va_S.rf
  have hP : va_P (dC, dI) nCl (v0_c_J_pre_r cy ) s.heap := hP
  have hl := lv_entry ([.int (nI i9), .int 264, .ref f9]) (n := 3) (Nat.le_of_ble_eq_true rfl)
  rw [lg_entry_eq]
  generalize (lg_sl ([.int (nI i9), .int 264, .ref f9]) ++ List.replicate (3 - (lg_sl ([.int (nI i9), .int 264, .ref f9])).length) Slot.unset).toArray = ls at hl ⊢
  have hl : lv_has ls 3 [(0, .int (nI i9)), (1, .int 264), (2, .ref f9)] := hl
  have hP : va_P (dC, dI) nCl [] s.heap := hP
  have hD : va_D A [] := hD
  refine lv_iload_n hx hb dJ3_checkIndex_8e157_0 rfl (lv_at hl 0 rfl) ?_
  refine lv_if_lt (tgt := 9) hx hb dJ3_checkIndex_8e157_1 (by decide) (fun c1 => absurd c1 (nI_pos (by omega))) (fun _ => ?_)
  refine lv_iload_n hx hb dJ3_checkIndex_8e157_4 rfl (lv_at hl 0 rfl) ?_
  refine lv_iload_n hx hb dJ3_checkIndex_8e157_5 rfl (lv_at hl 1 rfl) ?_
  refine lv_icmp_lt (tgt := 16) hx hb dJ3_checkIndex_8e157_6 (by decide) (fun _ => ?_) (fun c1 => absurd (nI_lt (b := 264) h9 (by omega)) c1)
  refine lv_iload_n hx hb dJ3_checkIndex_8e157_16 rfl (lv_at hl 0 rfl) ?_
  have hP : va_P (dC, dI) nCl (v1_c_J_pre_r cy  (fun _ => 0)) s.heap := hP
  have hD : va_D A (v1_c_J_pre_r cy  (fun _ => 0)) := hD
  exact W.iret (v := (nI i9)) hx hb hr (fun t ht hW => ⟨⟨(nI i9), (fun _ => 0), rfl, rfl, by rw [ht]; exact hP, va_K.moved hW.alike hK, hD⟩, hS.F ht⟩) hS.2.2 dJ3_checkIndex_8e157_17
def v0_c_J_chk (cy : Nat → ClassId)  : va_W := []
def v1_c_J_chk (cy : Nat → ClassId)  (r : Nat → Nat) : va_W := []
set_option maxHeartbeats 40000000 in
set_option maxRecDepth 100000 in
/-- String.checkIndex(i, 264) -/
theorem c_J_chk (l : Launch) (dC : Nat → ClassId) (dI : Nat → Nat → Nat) (cy : Nat → ClassId) (k : Nat → Nat)  (i9 : Nat) (h9 : i9 < 264) (sz : Nat) : Met l yJ0_checkIndex_df160 wsJ0_checkIndex_df160 ({ frames := 1, cells := 0, slots := 0, locals := 22 }) (va_Pc [.int (nI i9), .int 264] (nInE1 (dC, dI) cy k sz (v0_c_J_chk cy ))) (va_Qv (fun _ : Nat → Nat => True) (fun r t => nOut (dC, dI) cy (va_A (v0_c_J_chk cy ) sz) (v1_c_J_chk cy  r) t) (va_A (v0_c_J_chk cy ) sz)) 0 0 (va_A (v0_c_J_chk cy ) sz) := by
  refine Met.ofW (cc := cJ0_checkIndex_df160) (maxL := 2) (ret := none) (by decide) rfl ?_
  intro p e s m args below meth c s₁ B hml hv
  obtain ⟨rfl, ⟨hsz, hP, hK, hD0, hG⟩, hE⟩ := hv
  have hx := B.exec
  have hb := B.bytes
  have hr := B.returns
  have hts := atoms_spec (ws := wsJ0_checkIndex_df160) B.pre
  have hown : s.vm.findClass RJ0 = some m.cls := findClass_of_methodNamed B.named
  have hlocks := B.notSynchronized
  subst hsz
  have hD := hD0.self (sz := s.heap.size)
  generalize hAe : va_A (v0_c_J_chk cy ) s.heap.size = A at hD hE ⊢
  have hA : ∀ q : Nat, s.heap.size ≤ q → A q := fun q h => by rw [← hAe]; exact Or.inr h
  have hS : va_S A s.heap s.heap [] := va_S.rf
  have hP : va_P (dC, dI) nCl (v0_c_J_chk cy ) s.heap := hP
  have hl := lv_entry ([.int (nI i9), .int 264]) (n := 2) (Nat.le_of_ble_eq_true rfl)
  rw [lg_entry_eq]
  generalize (lg_sl ([.int (nI i9), .int 264]) ++ List.replicate (2 - (lg_sl ([.int (nI i9), .int 264])).length) Slot.unset).toArray = ls at hl ⊢
  have hl : lv_has ls 2 [(0, .int (nI i9)), (1, .int 264)] := hl
  have hP : va_P (dC, dI) nCl [] s.heap := hP
  have hD : va_D A [] := hD
  refine lv_iload_n hx hb dJ0_checkIndex_df160_0 rfl (lv_at hl 0 rfl) ?_
  refine lv_iload_n hx hb dJ0_checkIndex_df160_1 rfl (lv_at hl 1 rfl) ?_
  rcases hE.2.1 with hZ | ⟨f9, hZ⟩
  · refine va_gets hx hb hZ hS hown (hts _ (List.mem_cons_of_mem _ (List.mem_of_getElem? (i := 0) rfl))) (fun _ h9 => h9) dJ0_checkIndex_df160_2 ?_
    have hPc : va_P (dC, dI) nCl (v0_c_J_pre_n cy ) s.heap := hP.sub (ws' := []) [] rfl
    have hDc : va_D A (v0_c_J_pre_n cy ) := hD.sub (ws' := []) [] (by decide) rfl
    have hFc := va_free (wc := (v0_c_J_pre_n cy )) hD hS hA [] rfl
    refine va_calli (va_runS (As := [.int (nI i9), .int 264, .null]) (rest := []) ⟨hx, hb, hml, hown, hts⟩ (c_J_pre_n l dC dI cy k i9 h9 s.heap.size) (va_cwS 3 hts gJ0_checkIndex_df160_J3_checkIndex_8e157 rfl rfl rfl (by decide +kernel) ⟨Nat.le_of_ble_eq_true rfl, Nat.le_of_ble_eq_true rfl⟩) ⟨nb_blindE1, fun U hU hW => ⟨rfl, ⟨by rw [hU], by rw [hU]; exact hPc, va_K.moved hW.alike hK, hDc.weaken (fun _ _ _ _ => trivial), hG.warm hW⟩, nE1.to hE hS hW hU hFc⟩⟩ rfl rfl hl.1 rfl (lv_room (Nat.le_of_ble_eq_true rfl)) dJ0_checkIndex_df160_5 ⟨Nat.le_of_ble_eq_true rfl, Nat.le_of_ble_eq_true rfl⟩) hS (fun q _ h => hFc q h) hFc (fun r_1 u1 t H1 locs ht hvm hw hB hz1 hk1 hS => ?_)
    obtain ⟨hP1, hK1, hD1⟩ := hB
    rw [ht] at hP1
    obtain ⟨hP, hD⟩ := va_join (wr := []) (w1 := (v1_c_J_pre_n cy  u1)) hP hD [] [] rfl rfl (by decide) (by decide) hk1 hFc hP1 hD1
    generalize H1 = H at hP hS ⊢
    have hP : va_P (dC, dI) nCl [] H := hP
    have hD : va_D A [] := hD
    refine lv_pop hx hb dJ0_checkIndex_df160_8 rfl ?_
    exact W.vret hx hb hr (fun t ht hW => ⟨⟨(fun _ => 0), rfl, trivial, by rw [ht]; exact hP, va_K.moved hW.alike hK, hD⟩, hS.F ht⟩) hS.2.2 dJ0_checkIndex_df160_9
  · refine va_gets hx hb hZ hS hown (hts _ (List.mem_cons_of_mem _ (List.mem_of_getElem? (i := 0) rfl))) (fun _ h9 => h9) dJ0_checkIndex_df160_2 ?_
    have hPc : va_P (dC, dI) nCl (v0_c_J_pre_r cy ) s.heap := hP.sub (ws' := []) [] rfl
    have hDc : va_D A (v0_c_J_pre_r cy ) := hD.sub (ws' := []) [] (by decide) rfl
    have hFc := va_free (wc := (v0_c_J_pre_r cy )) hD hS hA [] rfl
    refine va_calli (va_runS (As := [.int (nI i9), .int 264, .ref f9]) (rest := []) ⟨hx, hb, hml, hown, hts⟩ (c_J_pre_r l dC dI cy k i9 f9 h9 s.heap.size) (va_cwS 3 hts gJ0_checkIndex_df160_J3_checkIndex_8e157 rfl rfl rfl (by decide +kernel) ⟨Nat.le_of_ble_eq_true rfl, Nat.le_of_ble_eq_true rfl⟩) ⟨nb_blindE1, fun U hU hW => ⟨rfl, ⟨by rw [hU], by rw [hU]; exact hPc, va_K.moved hW.alike hK, hDc.weaken (fun _ _ _ _ => trivial), hG.warm hW⟩, nE1.to hE hS hW hU hFc⟩⟩ rfl rfl hl.1 rfl (lv_room (Nat.le_of_ble_eq_true rfl)) dJ0_checkIndex_df160_5 ⟨Nat.le_of_ble_eq_true rfl, Nat.le_of_ble_eq_true rfl⟩) hS (fun q _ h => hFc q h) hFc (fun r_2 u2 t H1 locs ht hvm hw hB hz1 hk1 hS => ?_)
    obtain ⟨hP1, hK1, hD1⟩ := hB
    rw [ht] at hP1
    obtain ⟨hP, hD⟩ := va_join (wr := []) (w1 := (v1_c_J_pre_r cy  u2)) hP hD [] [] rfl rfl (by decide) (by decide) hk1 hFc hP1 hD1
    generalize H1 = H at hP hS ⊢
    have hP : va_P (dC, dI) nCl [] H := hP
    have hD : va_D A [] := hD
    refine lv_pop hx hb dJ0_checkIndex_df160_8 rfl ?_
    have hP : va_P (dC, dI) nCl (v1_c_J_chk cy  (fun _ => 0)) H := hP
    have hD : va_D A (v1_c_J_chk cy  (fun _ => 0)) := hD
    exact W.vret hx hb hr (fun t ht hW => ⟨⟨(fun _ => 0), rfl, trivial, by rw [ht]; exact hP, va_K.moved hW.alike hK, hD⟩, hS.F ht⟩) hS.2.2 dJ0_checkIndex_df160_9
def v0_c_J_latin (cy : Nat → ClassId)  : va_W := []
def v1_c_J_latin (cy : Nat → ClassId)  (r : Nat → Nat) : va_W := []
set_option maxHeartbeats 40000000 in
set_option maxRecDepth 100000 in
/-- StringLatin1.charAt -/
theorem c_J_latin (l : Launch) (dC : Nat → ClassId) (dI : Nat → Nat → Nat) (cy : Nat → ClassId) (k : Nat → Nat)  (i9 : Nat) (h9 : i9 < 264) (sz : Nat) : Met l yJ1_charAt_3b067 wsJ1_charAt_3b067 ({ frames := 2, cells := 0, slots := 0, locals := 43 }) (va_Pc [.ref (k 1), .int (nI i9)] (nInE1 (dC, dI) cy k sz (v0_c_J_latin cy ))) (va_Qi (fun (z : Int32) (_ : Nat → Nat) => z = lxB.getD i9 0 &&& 255) (fun r t => nOut (dC, dI) cy (va_A (v0_c_J_latin cy ) sz) (v1_c_J_latin cy  r) t) (va_A (v0_c_J_latin cy ) sz)) 0 0 (va_A (v0_c_J_latin cy ) sz) := by
  refine Met.ofW (cc := cJ1_charAt_3b067) (maxL := 2) (ret := (some .char)) (by decide) rfl ?_
  intro p e s m args below meth c s₁ B hml hv
  obtain ⟨rfl, ⟨hsz, hP, hK, hD0, hG⟩, hE⟩ := hv
  have hx := B.exec
  have hb := B.bytes
  have hr := B.returns
  have hts := atoms_spec (ws := wsJ1_charAt_3b067) B.pre
  have hown : s.vm.findClass RJ1 = some m.cls := findClass_of_methodNamed B.named
  have hlocks := B.notSynchronized
  subst hsz
  have hD := hD0.self (sz := s.heap.size)
  generalize hAe : va_A (v0_c_J_latin cy ) s.heap.size = A at hD hE ⊢
  have hA : ∀ q : Nat, s.heap.size ≤ q → A q := fun q h => by rw [← hAe]; exact Or.inr h
  have hS : va_S A s.heap s.heap [] := va_S.rf
  have hP : va_P (dC, dI) nCl (v0_c_J_latin cy ) s.heap := hP
  have hl := lv_entry ([.ref (k 1), .int (nI i9)]) (n := 2) (Nat.le_of_ble_eq_true rfl)
  rw [lg_entry_eq]
  generalize (lg_sl ([.ref (k 1), .int (nI i9)]) ++ List.replicate (2 - (lg_sl ([.ref (k 1), .int (nI i9)])).length) Slot.unset).toArray = ls at hl ⊢
  have hl : lv_has ls 2 [(0, .ref (k 1)), (1, .int (nI i9))] := hl
  have hP : va_P (dC, dI) nCl [] s.heap := hP
  have hD : va_D A [] := hD
  refine lv_iload_n hx hb dJ1_charAt_3b067_0 rfl (lv_at hl 1 rfl) ?_
  refine lv_aload_n hx hb dJ1_charAt_3b067_1 rfl (lv_at hl 0 rfl) ?_
  refine va_tlen hx hb (hE.2.2.1.1 0 (by decide)).2.2.2 hS (v := 264) rfl dJ1_charAt_3b067_2 ?_
  have hPc : va_P (dC, dI) nCl (v0_c_J_chk cy ) s.heap := hP.sub (ws' := []) [] rfl
  have hDc : va_D A (v0_c_J_chk cy ) := hD.sub (ws' := []) [] (by decide) rfl
  have hFc := va_free (wc := (v0_c_J_chk cy )) hD hS hA [] rfl
  refine va_callv (va_runS (As := [.int (nI i9), .int 264]) (rest := []) ⟨hx, hb, hml, hown, hts⟩ (c_J_chk l dC dI cy k i9 h9 s.heap.size) (va_cwS 2 hts gJ1_charAt_3b067_J0_checkIndex_df160 rfl rfl rfl (by decide +kernel) ⟨Nat.le_of_ble_eq_true rfl, Nat.le_of_ble_eq_true rfl⟩) ⟨nb_blindE1, fun U hU hW => ⟨rfl, ⟨by rw [hU], by rw [hU]; exact hPc, va_K.moved hW.alike hK, hDc.weaken (fun _ _ _ _ => trivial), hG.warm hW⟩, nE1.to hE hS hW hU hFc⟩⟩ rfl rfl hl.1 rfl (lv_room (Nat.le_of_ble_eq_true rfl)) dJ1_charAt_3b067_3 ⟨Nat.le_of_ble_eq_true rfl, Nat.le_of_ble_eq_true rfl⟩) hS (fun q _ h => hFc q h) hFc (fun u1 t H1 locs ht hvm hw hB hz1 hk1 hS => ?_)
  obtain ⟨hP1, hK1, hD1⟩ := hB
  rw [ht] at hP1
  obtain ⟨hP, hD⟩ := va_join (wr := []) (w1 := (v1_c_J_chk cy  u1)) hP hD [] [] rfl rfl (by decide) (by decide) hk1 hFc hP1 hD1
  generalize H1 = H at hP hS ⊢
  have hP : va_P (dC, dI) nCl [] H := hP
  have hD : va_D A [] := hD
  refine lv_aload_n hx hb dJ1_charAt_3b067_6 rfl (lv_at hl 0 rfl) ?_
  refine lv_iload_n hx hb dJ1_charAt_3b067_7 rfl (lv_at hl 1 rfl) ?_
  refine va_tb hx hb (hE.2.2.1.1 0 (by decide)).2.2.2 hS (show vp_in (nI i9) 264 from vp_in_nI h9 (by omega)) (v := .int (lxB.getD i9 0)) (by rw [nI_clamp (by omega)]; rfl) dJ1_charAt_3b067_8 ?_
  refine lv_sipush (v := 255) hx hb dJ1_charAt_3b067_9 (by decide) ?_
  refine lv_iand hx hb dJ1_charAt_3b067_12 ?_
  refine lv_i2c (v := lxB.getD i9 0 &&& 255) hx hb dJ1_charAt_3b067_13 (sc_c2 _) ?_
  have hP : va_P (dC, dI) nCl (v1_c_J_latin cy  (fun _ => 0)) H := hP
  have hD : va_D A (v1_c_J_latin cy  (fun _ => 0)) := hD
  exact W.zret (v := (lxB.getD i9 0 &&& 255)) hx hb hr (sc_nar _) (fun t ht hW => ⟨⟨(lxB.getD i9 0 &&& 255), (fun _ => 0), rfl, rfl, by rw [ht]; exact hP, va_K.moved hW.alike hK, hD⟩, hS.F ht⟩) hS.2.2 dJ1_charAt_3b067_14
def v0_c_J_charAt (cy : Nat → ClassId)  : va_W := []
def v1_c_J_charAt (cy : Nat → ClassId)  (r : Nat → Nat) : va_W := []
set_option maxHeartbeats 40000000 in
set_option maxRecDepth 100000 in
/-- charAt(i) of the words' text -/
theorem c_J_charAt (l : Launch) (dC : Nat → ClassId) (dI : Nat → Nat → Nat) (cy : Nat → ClassId) (k : Nat → Nat)  (i9 : Nat) (h9 : i9 < 264) (sz : Nat) : Met l yJ0_charAt_5068e wsJ0_charAt_5068e ({ frames := 3, cells := 0, slots := 0, locals := 64 }) (va_Pc [.ref (k 0), .int (nI i9)] (nInE1 (dC, dI) cy k sz (v0_c_J_charAt cy ))) (va_Qi (fun (z : Int32) (_ : Nat → Nat) => z = lxB.getD i9 0 &&& 255) (fun r t => nOut (dC, dI) cy (va_A (v0_c_J_charAt cy ) sz) (v1_c_J_charAt cy  r) t) (va_A (v0_c_J_charAt cy ) sz)) 0 0 (va_A (v0_c_J_charAt cy ) sz) := by
  refine Met.ofW (cc := cJ0_charAt_5068e) (maxL := 2) (ret := (some .char)) (by decide) rfl ?_
  intro p e s m args below meth c s₁ B hml hv
  obtain ⟨rfl, ⟨hsz, hP, hK, hD0, hG⟩, hE⟩ := hv
  have hx := B.exec
  have hb := B.bytes
  have hr := B.returns
  have hts := atoms_spec (ws := wsJ0_charAt_5068e) B.pre
  have hown : s.vm.findClass RJ0 = some m.cls := findClass_of_methodNamed B.named
  have hlocks := B.notSynchronized
  subst hsz
  have hD := hD0.self (sz := s.heap.size)
  generalize hAe : va_A (v0_c_J_charAt cy ) s.heap.size = A at hD hE ⊢
  have hA : ∀ q : Nat, s.heap.size ≤ q → A q := fun q h => by rw [← hAe]; exact Or.inr h
  have hS : va_S A s.heap s.heap [] := va_S.rf
  have hP : va_P (dC, dI) nCl (v0_c_J_charAt cy ) s.heap := hP
  have hl := lv_entry ([.ref (k 0), .int (nI i9)]) (n := 2) (Nat.le_of_ble_eq_true rfl)
  rw [lg_entry_eq]
  generalize (lg_sl ([.ref (k 0), .int (nI i9)]) ++ List.replicate (2 - (lg_sl ([.ref (k 0), .int (nI i9)])).length) Slot.unset).toArray = ls at hl ⊢
  have hl : lv_has ls 2 [(0, .ref (k 0)), (1, .int (nI i9))] := hl
  have hP : va_P (dC, dI) nCl [] s.heap := hP
  have hD : va_D A [] := hD
  refine lv_aload_n hx hb dJ0_charAt_5068e_0 rfl (lv_at hl 0 rfl) ?_
  have hPc : va_P (dC, dI) nCl (v0_c_J_isLatin1 cy ) s.heap := hP.sub (ws' := []) [] rfl
  have hDc : va_D A (v0_c_J_isLatin1 cy ) := hD.sub (ws' := []) [] (by decide) rfl
  have hFc := va_free (wc := (v0_c_J_isLatin1 cy )) hD hS hA [] rfl
  refine va_calli (va_runV (As := []) (rest := []) ⟨hx, hb, hml, hown, hts⟩ (c_J_isLatin1 l dC dI cy k  s.heap.size) (cwV 0 hts gJ0_charAt_5068e_J0_isLatin1_aae02 rfl rfl rfl (by decide +kernel) ⟨Nat.le_of_ble_eq_true rfl, Nat.le_of_ble_eq_true rfl⟩) ⟨nb_blindE1, (vk_recv (i := 0) hE.2.2.1 (by decide) hS), fun U hU hW => ⟨rfl, ⟨by rw [hU], by rw [hU]; exact hPc, va_K.moved hW.alike hK, hDc.weaken (fun _ _ _ _ => trivial), hG.warm hW⟩, nE1.to hE hS hW hU hFc⟩⟩ rfl rfl hl.1 rfl (lv_room (Nat.le_of_ble_eq_true rfl)) dJ0_charAt_5068e_1 ⟨Nat.le_of_ble_eq_true rfl, Nat.le_of_ble_eq_true rfl⟩) hS (fun q _ h => hFc q h) hFc (fun r_1 u1 t H1 locs ht hvm hw hB hz1 hk1 hS => ?_)
  have hw : r_1 = 1 := hw.trans (by decide)
  subst hw
  obtain ⟨hP1, hK1, hD1⟩ := hB
  rw [ht] at hP1
  obtain ⟨hP, hD⟩ := va_join (wr := []) (w1 := (v1_c_J_isLatin1 cy  u1)) hP hD [] [] rfl rfl (by decide) (by decide) hk1 hFc hP1 hD1
  generalize H1 = H at hP hS ⊢
  have hP : va_P (dC, dI) nCl [] H := hP
  have hD : va_D A [] := hD
  refine lv_if_eq (tgt := 16) hx hb dJ0_charAt_5068e_4 (by decide) (fun c1 => False.elim (by revert c1; decide)) (fun _ => ?_)
  refine lv_aload_n hx hb dJ0_charAt_5068e_7 rfl (lv_at hl 0 rfl) ?_
  refine vk_getf hx hb (hE.2.2.1.1 0 (by decide)).2.2.1 hS hown (hts _ (List.mem_cons_of_mem _ (List.mem_append_left _ (List.mem_of_getElem? (i := 0) rfl)))) (fun _ h9 => h9) dJ0_charAt_5068e_8 ?_
  refine lv_iload_n hx hb dJ0_charAt_5068e_11 rfl (lv_at hl 1 rfl) ?_
  have hPc : va_P (dC, dI) nCl (v0_c_J_latin cy ) H := hP.sub (ws' := []) [] rfl
  have hDc : va_D A (v0_c_J_latin cy ) := hD.sub (ws' := []) [] (by decide) rfl
  have hFc := va_free (wc := (v0_c_J_latin cy )) hD hS hA [] rfl
  refine va_calli (va_runS (As := [.ref (k 1), .int (nI i9)]) (rest := []) ⟨hx, hb, hml, hown, hts⟩ (c_J_latin l dC dI cy k i9 h9 H.size) (va_cwS 2 hts gJ0_charAt_5068e_J1_charAt_3b067 rfl rfl rfl (by decide +kernel) ⟨Nat.le_of_ble_eq_true rfl, Nat.le_of_ble_eq_true rfl⟩) ⟨nb_blindE1, fun U hU hW => ⟨rfl, ⟨by rw [hU], by rw [hU]; exact hPc, va_K.moved hW.alike hK, hDc.weaken (fun _ _ _ _ => trivial), hG.warm hW⟩, nE1.to hE hS hW hU hFc⟩⟩ rfl rfl hl.1 rfl (lv_room (Nat.le_of_ble_eq_true rfl)) dJ0_charAt_5068e_12 ⟨Nat.le_of_ble_eq_true rfl, Nat.le_of_ble_eq_true rfl⟩) hS (fun q _ h => hFc q h) hFc (fun r_2 u2 t H1 locs ht hvm hw hB hz1 hk1 hS => ?_)
  obtain ⟨hP1, hK1, hD1⟩ := hB
  rw [ht] at hP1
  obtain ⟨hP, hD⟩ := va_join (wr := []) (w1 := (v1_c_J_latin cy  u2)) hP hD [] [] rfl rfl (by decide) (by decide) hk1 hFc hP1 hD1
  generalize H1 = H at hP hS ⊢
  have hP : va_P (dC, dI) nCl [] H := hP
  have hD : va_D A [] := hD
  subst hw
  have hP : va_P (dC, dI) nCl (v1_c_J_charAt cy  (fun _ => 0)) H := hP
  have hD : va_D A (v1_c_J_charAt cy  (fun _ => 0)) := hD
  exact W.zret (v := (lxB.getD i9 0 &&& 255)) hx hb hr (sc_nar _) (fun t ht hW => ⟨⟨(lxB.getD i9 0 &&& 255), (fun _ => 0), rfl, rfl, by rw [ht]; exact hP, va_K.moved hW.alike hK, hD⟩, hS.F ht⟩) hS.2.2 dJ0_charAt_5068e_15

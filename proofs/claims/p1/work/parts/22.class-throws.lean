def nThrW : List Cond := [.castable "java/lang/IllegalStateException" "java/lang/IllegalStateException", .castable "java/lang/IllegalArgumentException" "java/lang/IllegalArgumentException", .castable "java/lang/IndexOutOfBoundsException" "java/lang/IndexOutOfBoundsException", .castable "java/lang/UnsupportedOperationException" "java/lang/UnsupportedOperationException", .declares (Bundle.init0 "java/lang/RuntimeException"), .declares (Bundle.init0 "java/lang/Exception"), .declares (Bundle.init0 Bundle.tN)]
/-- what throws rest on -/
def nT (A : Nat → Prop) (U : State) (H : Heap) : Prop := vx_Zq Bundle.tN "UNASSIGNED_STACK" Bundle.steD A U H ∧ vx_Zq Bundle.tN "SUPPRESSED_SENTINEL" Bundle.listD A U H ∧ (∀ w ∈ nThrW, va_Nw w U) ∧ va_Nc "java/lang/IllegalStateException" "java/lang/IndexOutOfBoundsException" U
theorem nThr_tab : ∀ w ∈ nThrW, w.onTables = true := by decide +kernel
theorem nThr_warm {w : Cond} (h : w ∈ nThrW) {s U : State} (hW : s.WarmedH U.vm) (hZ : va_Nw w s) : va_Nw w U := by
  simp only [nThrW, List.mem_cons, List.not_mem_nil, or_false] at h
  rcases h with rfl | rfl | rfl | rfl | rfl | rfl | rfl <;> first | exact va_Nw.warmC hW hZ | exact va_Nw.warmD hW hZ
theorem nT.to {A B : Nat → Prop} {s U : State} {H : Heap} {locs : List Loc} (h : nT A s s.heap) (hS : va_S A s.heap H locs) (hW : s.WarmedH U.vm) (hU : U.heap = H) (hAB : ∀ q, B q → A q) : nT B U U.heap := by
  obtain ⟨h1, h2, h3, h4⟩ := h
  rw [hU]
  exact ⟨((h1.kept hS.2.1).moved hW.alike).narrow hAB, ((h2.kept hS.2.1).moved hW.alike).narrow hAB, fun w hw => nThr_warm hw hW (h3 w hw), h4.moved hW.alike⟩
theorem nT.same {A : Nat → Prop} {u U : State} (h : nT A u u.heap) (e : u.vm = U.vm) (e2 : u.heap = U.heap) : nT A U U.heap := by
  obtain ⟨h1, h2, h3, h4⟩ := h
  have ha : u.vm.Alike U.vm := e ▸ Vm.Alike.refl u.vm
  rw [← e2]
  exact ⟨h1.moved ha, h2.moved ha, fun w hw => va_Nw.same (nThr_tab w hw) e (h3 w hw), h4.moved ha⟩
abbrev nInF (D : va_G) (cy : Nat → ClassId) (k : Nat → Nat) (sz : Nat) (ws : va_W) : State → Prop := fun U => nInE D cy k sz ws U ∧ nT (va_A ws sz) U U.heap
theorem nb_blindF {D : va_G} {cy : Nat → ClassId} {k : Nat → Nat} {sz : Nat} {ws : va_W} {av : List Value} : FrameBlind (va_Pc av (nInF D cy k sz ws)) := fun a U g mk q => by
  obtain ⟨q0, ⟨⟨q1, qP, qK, qD, qG⟩, qE⟩, qT⟩ := q
  exact ⟨q0, ⟨⟨q1, qP, va_K.moved (u := U) (U := U.calling g mk a) (Vm.Alike.refl U.vm) qK, qD, nG.same (U := U.calling g mk a) qG rfl⟩, nE.same (U := U.calling g mk a) qE rfl rfl⟩, nT.same (U := U.calling g mk a) qT rfl rfl⟩
theorem nb_fg (x : List Cond) : (x.filter goodWord).all goodWord = true := by
  rw [List.all_eq_true]
  intro w hw
  exact (List.mem_filter.mp hw).2
theorem nb_nil {D : va_G} {cl : List vw_C} {H : Heap} : va_P D cl [] H := fun k q h => by simp at h
theorem nb_nilD {A : Nat → Prop} : va_D A [] := ⟨fun i j p q h => by simp at h, fun k q h => by simp at h⟩
def o_t_wantRun : List Cond := [.fieldLink RX11 156 "SetHouse" "hasRun" "Z", .classLink RX11 165 "java/lang/IllegalStateException", .initialized "java/lang/IllegalStateException"]
theorem o_t_wantRun_good : o_t_wantRun.all goodWord = true := by decide +kernel
def p_t_wantRun : List Cond := o_t_wantRun ++ (((vx_at0 RX11 167 "java/lang/IllegalStateException" ["java/lang/RuntimeException", "java/lang/Exception"]).filter goodWord) ++ [])
theorem p_t_wantRun_good : p_t_wantRun.all goodWord = true := nb_all2 o_t_wantRun_good (nb_all2 (nb_fg _) rfl)
def w_t_wantRun : List Cond := .code yX11_wantRun cX11_wantRun 1 none :: (p_t_wantRun ++ fC)
theorem w_t_wantRun_good : w_t_wantRun.all goodWord = true := nb_allc (by decide +kernel) (nb_all2 p_t_wantRun_good fC_good)
theorem in_t_wantRun_X11 : ∀ w ∈ wsX110, w ∈ w_t_wantRun := fun _ h => List.mem_cons_of_mem _ (List.mem_append_right _ (List.mem_append_right _ (List.mem_append_right _ (List.mem_append_right _ (List.mem_append_right _ (List.mem_append_right _ (List.mem_append_right _ (List.mem_append_right _ (List.mem_append_right _ (List.mem_append_right _ (List.mem_append_right _ h)))))))))))
def v0_t_wantRun (cy : Nat → ClassId) (a : Nat → Nat) : va_W := [((a 0), .inr (10, [.ref (a 1), .ref (a 2), .ref (a 3), .ref (a 4), .ref (a 5), .ref (a 6), .ref (a 7), .ref (a 8), .ref (a 9), .ref (a 10), .int 0, .int 0, .int 0, .int 0, .ref (a 11), .ref (a 12), .ref (a 13), .int 0, .int 0, .int 0]))]
set_option maxHeartbeats 40000000 in
set_option maxRecDepth 100000 in
theorem t_wantRun (l : Launch) (hl0 : l.stackTraces = false) (dC : Nat → ClassId) (dI : Nat → Nat → Nat) (cy : Nat → ClassId) (k : Nat → Nat) (a : Nat → Nat) (sz : Nat) : vx_Met l yX11_wantRun w_t_wantRun ({ frames := 6, cells := 1, slots := 6, locals := 90 }) (va_Pc [.ref (a 0)] (nInF (dC, dI) cy k sz (v0_t_wantRun cy a))) (va_Qv (fun _ : Unit => False) (fun _ _ => True) (va_A (v0_t_wantRun cy a) sz)) (vx_X (fun _ : Unit => True) (fun E _ _ => E = "java/lang/IllegalStateException") (va_A (v0_t_wantRun cy a) sz)) 1 6 (va_A (v0_t_wantRun cy a) sz) := by
  refine vx_ofW (cc := cX11_wantRun) (maxL := 1) (ret := none) (by decide) rfl ?_
  intro p e s m args below meth c s₁ B hml hno hv
  obtain ⟨rfl, ⟨⟨hsz, hP, hK, hD0, hG⟩, hE⟩, hT⟩ := hv
  have hx := B.exec
  have hb := B.bytes
  have hr := B.returns
  have hts := atoms_spec (ws := w_t_wantRun) B.pre
  have hown : s.vm.findClass RX11 = some m.cls := findClass_of_methodNamed B.named
  have hlocks := B.notSynchronized
  subst hsz
  have hD := hD0.self (sz := s.heap.size)
  generalize hAe : va_A (v0_t_wantRun cy a) s.heap.size = A at hD hE hT ⊢
  have hA : ∀ q : Nat, s.heap.size ≤ q → A q := fun q h => by rw [← hAe]; exact Or.inr h
  have hS : va_S A s.heap s.heap [] := va_S.rf
  have hP : va_P (dC, dI) nCl (v0_t_wantRun cy a) s.heap := hP
  have hl := lv_entry ([.ref (a 0)]) (n := 1) (Nat.le_of_ble_eq_true rfl)
  rw [lg_entry_eq]
  generalize (lg_sl ([.ref (a 0)]) ++ List.replicate (1 - (lg_sl ([.ref (a 0)])).length) Slot.unset).toArray = ls at hl ⊢
  have hl : lv_has ls 1 [(0, .ref (a 0))] := hl
  have hP : va_P (dC, dI) nCl [((a 0), .inr (10, [.ref (a 1), .ref (a 2), .ref (a 3), .ref (a 4), .ref (a 5), .ref (a 6), .ref (a 7), .ref (a 8), .ref (a 9), .ref (a 10), .int 0, .int 0, .int 0, .int 0, .ref (a 11), .ref (a 12), .ref (a 13), .int 0, .int 0, .int 0]))] s.heap := hP
  have hD : va_D A [((a 0), .inr (10, [.ref (a 1), .ref (a 2), .ref (a 3), .ref (a 4), .ref (a 5), .ref (a 6), .ref (a 7), .ref (a 8), .ref (a 9), .ref (a 10), .int 0, .int 0, .int 0, .int 0, .ref (a 11), .ref (a 12), .ref (a 13), .int 0, .int 0, .int 0]))] := hD
  refine lv_aload_n hx hb dX11_wantRun_0 rfl (lv_at hl 0 rfl) ?_
  refine va_get (D := (dC, dI)) (ci := 10) (v := .int 0) (C := RX11) (T := TX11) (N := 20) hx hb hts in_t_wantRun_X11 hown hK hP 0 rfl rfl 11 (by decide) (hts _ (List.mem_cons_of_mem _ (List.mem_append_left _ (List.mem_append_left _ (List.mem_of_getElem? (i := 0) rfl))))) (fun _ h9 => h9) rfl dX11_wantRun_1 ?_
  refine lv_if_ne (tgt := 15) hx hb dX11_wantRun_4 (by decide) (fun c1 => False.elim (by revert c1; decide)) (fun _ => ?_)
  refine vx_throw0 (cls := "java/lang/IllegalStateException") (names := ["java/lang/RuntimeException", "java/lang/Exception"]) (mc := 1) (ms := 6) hx hb hl0 hown (by decide) (by decide) (hts _ (List.mem_cons_of_mem _ (List.mem_append_left _ (List.mem_append_left _ (List.mem_of_getElem? (i := 1) rfl))))) (hts _ (List.mem_cons_of_mem _ (List.mem_append_left _ (List.mem_append_left _ (List.mem_of_getElem? (i := 2) rfl))))) (vx_hat (B := [.castable "java/lang/IllegalStateException" "java/lang/IllegalStateException", .declares (Bundle.init0 "java/lang/RuntimeException"), .declares (Bundle.init0 "java/lang/Exception"), .declares (Bundle.init0 Bundle.tN)]) (fun w h => hts w (List.mem_cons_of_mem _ (List.mem_append_left _ (List.mem_append_right _ (List.mem_append_left _ h))))) (by decide +kernel) (vx_c (va_Nw.use (by decide +kernel) (hT.2.2.1 _ (List.mem_of_getElem? (i := 0) rfl))) (vx_c (va_Nw.use (by decide +kernel) (hT.2.2.1 _ (List.mem_of_getElem? (i := 4) rfl))) (vx_c (va_Nw.use (by decide +kernel) (hT.2.2.1 _ (List.mem_of_getElem? (i := 5) rfl))) (vx_c (va_Nw.use (by decide +kernel) (hT.2.2.1 _ (List.mem_of_getElem? (i := 6) rfl))) vx_n))))) (fun w h => List.all_eq_true.mp (by decide +kernel : (Cond.classLink RX11 165 "java/lang/IllegalStateException" :: Cond.initialized "java/lang/IllegalStateException" :: (vx_at0 RX11 167 "java/lang/IllegalStateException" ["java/lang/RuntimeException", "java/lang/Exception"])).all vx_ot = true) w h) hT.1 hT.2.1 hS (hl.1.trans hml.symm) dX11_wantRun_7 dX11_wantRun_10 dX11_wantRun_11 dX11_wantRun_14 (fun x h => (hno x h).elim) (Nat.le_of_ble_eq_true rfl) (Nat.le_of_ble_eq_true rfl) (Nat.le_of_ble_eq_true rfl) (Nat.le_of_ble_eq_true rfl) hlocks (fun t _ hz hk => ⟨(), trivial, rfl, Nat.le_trans hS.1 hz, fun q hq hn => (hk q (Nat.lt_of_lt_of_le hq hS.1)).trans (hS.2.1 q hq hn)⟩) hS.2.2 (Nat.le_of_ble_eq_true rfl) (Nat.le_of_ble_eq_true rfl)
def o_t_start : List Cond := [.fieldLink RX11 152 "SetHouse" "hasProgram" "Z", .classLink RX11 165 "java/lang/IllegalStateException", .initialized "java/lang/IllegalStateException"]
theorem o_t_start_good : o_t_start.all goodWord = true := by decide +kernel
def p_t_start : List Cond := o_t_start ++ (((vx_at0 RX11 167 "java/lang/IllegalStateException" ["java/lang/RuntimeException", "java/lang/Exception"]).filter goodWord) ++ [])
theorem p_t_start_good : p_t_start.all goodWord = true := nb_all2 o_t_start_good (nb_all2 (nb_fg _) rfl)
def w_t_start : List Cond := .code yX11_start cX11_start 3 none :: (p_t_start ++ fC)
theorem w_t_start_good : w_t_start.all goodWord = true := nb_allc (by decide +kernel) (nb_all2 p_t_start_good fC_good)
theorem in_t_start_X11 : ∀ w ∈ wsX110, w ∈ w_t_start := fun _ h => List.mem_cons_of_mem _ (List.mem_append_right _ (List.mem_append_right _ (List.mem_append_right _ (List.mem_append_right _ (List.mem_append_right _ (List.mem_append_right _ (List.mem_append_right _ (List.mem_append_right _ (List.mem_append_right _ (List.mem_append_right _ (List.mem_append_right _ h)))))))))))
def v0_t_start (cy : Nat → ClassId) (a : Nat → Nat) (s9 : Int64) : va_W := [((a 0), .inr (10, [.ref (a 1), .ref (a 2), .ref (a 3), .ref (a 4), .ref (a 5), .ref (a 6), .ref (a 7), .ref (a 8), .ref (a 9), .ref (a 10), .int 0, .int 0, .int 0, .int 0, .ref (a 11), .ref (a 12), .ref (a 13), .int 0, .int 0, .int 0]))]
set_option maxHeartbeats 40000000 in
set_option maxRecDepth 100000 in
theorem t_start (l : Launch) (hl0 : l.stackTraces = false) (dC : Nat → ClassId) (dI : Nat → Nat → Nat) (cy : Nat → ClassId) (k : Nat → Nat) (a : Nat → Nat) (s9 : Int64) (sz : Nat) : vx_Met l yX11_start w_t_start ({ frames := 6, cells := 1, slots := 6, locals := 90 }) (va_Pc [.ref (a 0), .long s9] (nInF (dC, dI) cy k sz (v0_t_start cy a s9))) (va_Qv (fun _ : Unit => False) (fun _ _ => True) (va_A (v0_t_start cy a s9) sz)) (vx_X (fun _ : Unit => True) (fun E _ _ => E = "java/lang/IllegalStateException") (va_A (v0_t_start cy a s9) sz)) 1 6 (va_A (v0_t_start cy a s9) sz) := by
  refine vx_ofW (cc := cX11_start) (maxL := 3) (ret := none) (by decide) rfl ?_
  intro p e s m args below meth c s₁ B hml hno hv
  obtain ⟨rfl, ⟨⟨hsz, hP, hK, hD0, hG⟩, hE⟩, hT⟩ := hv
  have hx := B.exec
  have hb := B.bytes
  have hr := B.returns
  have hts := atoms_spec (ws := w_t_start) B.pre
  have hown : s.vm.findClass RX11 = some m.cls := findClass_of_methodNamed B.named
  have hlocks := B.notSynchronized
  subst hsz
  have hD := hD0.self (sz := s.heap.size)
  generalize hAe : va_A (v0_t_start cy a s9) s.heap.size = A at hD hE hT ⊢
  have hA : ∀ q : Nat, s.heap.size ≤ q → A q := fun q h => by rw [← hAe]; exact Or.inr h
  have hS : va_S A s.heap s.heap [] := va_S.rf
  have hP : va_P (dC, dI) nCl (v0_t_start cy a s9) s.heap := hP
  have hl := lv_entry ([.ref (a 0), .long s9]) (n := 3) (Nat.le_of_ble_eq_true rfl)
  rw [lg_entry_eq]
  generalize (lg_sl ([.ref (a 0), .long s9]) ++ List.replicate (3 - (lg_sl ([.ref (a 0), .long s9])).length) Slot.unset).toArray = ls at hl ⊢
  have hl : lv_has ls 3 [(0, .ref (a 0)), (1, .long s9)] := hl
  have hP : va_P (dC, dI) nCl [((a 0), .inr (10, [.ref (a 1), .ref (a 2), .ref (a 3), .ref (a 4), .ref (a 5), .ref (a 6), .ref (a 7), .ref (a 8), .ref (a 9), .ref (a 10), .int 0, .int 0, .int 0, .int 0, .ref (a 11), .ref (a 12), .ref (a 13), .int 0, .int 0, .int 0]))] s.heap := hP
  have hD : va_D A [((a 0), .inr (10, [.ref (a 1), .ref (a 2), .ref (a 3), .ref (a 4), .ref (a 5), .ref (a 6), .ref (a 7), .ref (a 8), .ref (a 9), .ref (a 10), .int 0, .int 0, .int 0, .int 0, .ref (a 11), .ref (a 12), .ref (a 13), .int 0, .int 0, .int 0]))] := hD
  refine lv_aload_n hx hb dX11_start_0 rfl (lv_at hl 0 rfl) ?_
  refine va_get (D := (dC, dI)) (ci := 10) (v := .int 0) (C := RX11) (T := TX11) (N := 20) hx hb hts in_t_start_X11 hown hK hP 0 rfl rfl 10 (by decide) (hts _ (List.mem_cons_of_mem _ (List.mem_append_left _ (List.mem_append_left _ (List.mem_of_getElem? (i := 0) rfl))))) (fun _ h9 => h9) rfl dX11_start_1 ?_
  refine lv_if_ne (tgt := 15) hx hb dX11_start_4 (by decide) (fun c1 => False.elim (by revert c1; decide)) (fun _ => ?_)
  refine vx_throw0 (cls := "java/lang/IllegalStateException") (names := ["java/lang/RuntimeException", "java/lang/Exception"]) (mc := 1) (ms := 6) hx hb hl0 hown (by decide) (by decide) (hts _ (List.mem_cons_of_mem _ (List.mem_append_left _ (List.mem_append_left _ (List.mem_of_getElem? (i := 1) rfl))))) (hts _ (List.mem_cons_of_mem _ (List.mem_append_left _ (List.mem_append_left _ (List.mem_of_getElem? (i := 2) rfl))))) (vx_hat (B := [.castable "java/lang/IllegalStateException" "java/lang/IllegalStateException", .declares (Bundle.init0 "java/lang/RuntimeException"), .declares (Bundle.init0 "java/lang/Exception"), .declares (Bundle.init0 Bundle.tN)]) (fun w h => hts w (List.mem_cons_of_mem _ (List.mem_append_left _ (List.mem_append_right _ (List.mem_append_left _ h))))) (by decide +kernel) (vx_c (va_Nw.use (by decide +kernel) (hT.2.2.1 _ (List.mem_of_getElem? (i := 0) rfl))) (vx_c (va_Nw.use (by decide +kernel) (hT.2.2.1 _ (List.mem_of_getElem? (i := 4) rfl))) (vx_c (va_Nw.use (by decide +kernel) (hT.2.2.1 _ (List.mem_of_getElem? (i := 5) rfl))) (vx_c (va_Nw.use (by decide +kernel) (hT.2.2.1 _ (List.mem_of_getElem? (i := 6) rfl))) vx_n))))) (fun w h => List.all_eq_true.mp (by decide +kernel : (Cond.classLink RX11 165 "java/lang/IllegalStateException" :: Cond.initialized "java/lang/IllegalStateException" :: (vx_at0 RX11 167 "java/lang/IllegalStateException" ["java/lang/RuntimeException", "java/lang/Exception"])).all vx_ot = true) w h) hT.1 hT.2.1 hS (hl.1.trans hml.symm) dX11_start_7 dX11_start_10 dX11_start_11 dX11_start_14 (fun x h => (hno x h).elim) (Nat.le_of_ble_eq_true rfl) (Nat.le_of_ble_eq_true rfl) (Nat.le_of_ble_eq_true rfl) (Nat.le_of_ble_eq_true rfl) hlocks (fun t _ hz hk => ⟨(), trivial, rfl, Nat.le_trans hS.1 hz, fun q hq hn => (hk q (Nat.lt_of_lt_of_le hq hS.1)).trans (hS.2.1 q hq hn)⟩) hS.2.2 (Nat.le_of_ble_eq_true rfl) (Nat.le_of_ble_eq_true rfl)
def o_t_view : List Cond := [.fieldLink RX11 152 "SetHouse" "hasProgram" "Z", .classLink RX11 165 "java/lang/IllegalStateException", .initialized "java/lang/IllegalStateException"]
theorem o_t_view_good : o_t_view.all goodWord = true := by decide +kernel
def p_t_view : List Cond := o_t_view ++ (((vx_at0 RX11 167 "java/lang/IllegalStateException" ["java/lang/RuntimeException", "java/lang/Exception"]).filter goodWord) ++ [])
theorem p_t_view_good : p_t_view.all goodWord = true := nb_all2 o_t_view_good (nb_all2 (nb_fg _) rfl)
def w_t_view : List Cond := .code yX11_view cX11_view 4 (some .int) :: (p_t_view ++ fC)
theorem w_t_view_good : w_t_view.all goodWord = true := nb_allc (by decide +kernel) (nb_all2 p_t_view_good fC_good)
theorem in_t_view_X11 : ∀ w ∈ wsX110, w ∈ w_t_view := fun _ h => List.mem_cons_of_mem _ (List.mem_append_right _ (List.mem_append_right _ (List.mem_append_right _ (List.mem_append_right _ (List.mem_append_right _ (List.mem_append_right _ (List.mem_append_right _ (List.mem_append_right _ (List.mem_append_right _ (List.mem_append_right _ (List.mem_append_right _ h)))))))))))
def v0_t_view (cy : Nat → ClassId) (a : Nat → Nat) : va_W := [((a 0), .inr (10, [.ref (a 1), .ref (a 2), .ref (a 3), .ref (a 4), .ref (a 5), .ref (a 6), .ref (a 7), .ref (a 8), .ref (a 9), .ref (a 10), .int 0, .int 0, .int 0, .int 0, .ref (a 11), .ref (a 12), .ref (a 13), .int 0, .int 0, .int 0]))]
set_option maxHeartbeats 40000000 in
set_option maxRecDepth 100000 in
theorem t_view (l : Launch) (hl0 : l.stackTraces = false) (dC : Nat → ClassId) (dI : Nat → Nat → Nat) (cy : Nat → ClassId) (k : Nat → Nat) (a : Nat → Nat) (sz : Nat) : vx_Met l yX11_view w_t_view ({ frames := 6, cells := 1, slots := 6, locals := 90 }) (va_Pc [.ref (a 0)] (nInF (dC, dI) cy k sz (v0_t_view cy a))) (va_Qi (fun (_ : Int32) (_ : Unit) => False) (fun _ _ => True) (va_A (v0_t_view cy a) sz)) (vx_X (fun _ : Unit => True) (fun E _ _ => E = "java/lang/IllegalStateException") (va_A (v0_t_view cy a) sz)) 1 6 (va_A (v0_t_view cy a) sz) := by
  refine vx_ofW (cc := cX11_view) (maxL := 4) (ret := (some .int)) (by decide) rfl ?_
  intro p e s m args below meth c s₁ B hml hno hv
  obtain ⟨rfl, ⟨⟨hsz, hP, hK, hD0, hG⟩, hE⟩, hT⟩ := hv
  have hx := B.exec
  have hb := B.bytes
  have hr := B.returns
  have hts := atoms_spec (ws := w_t_view) B.pre
  have hown : s.vm.findClass RX11 = some m.cls := findClass_of_methodNamed B.named
  have hlocks := B.notSynchronized
  subst hsz
  have hD := hD0.self (sz := s.heap.size)
  generalize hAe : va_A (v0_t_view cy a) s.heap.size = A at hD hE hT ⊢
  have hA : ∀ q : Nat, s.heap.size ≤ q → A q := fun q h => by rw [← hAe]; exact Or.inr h
  have hS : va_S A s.heap s.heap [] := va_S.rf
  have hP : va_P (dC, dI) nCl (v0_t_view cy a) s.heap := hP
  have hl := lv_entry ([.ref (a 0)]) (n := 4) (Nat.le_of_ble_eq_true rfl)
  rw [lg_entry_eq]
  generalize (lg_sl ([.ref (a 0)]) ++ List.replicate (4 - (lg_sl ([.ref (a 0)])).length) Slot.unset).toArray = ls at hl ⊢
  have hl : lv_has ls 4 [(0, .ref (a 0))] := hl
  have hP : va_P (dC, dI) nCl [((a 0), .inr (10, [.ref (a 1), .ref (a 2), .ref (a 3), .ref (a 4), .ref (a 5), .ref (a 6), .ref (a 7), .ref (a 8), .ref (a 9), .ref (a 10), .int 0, .int 0, .int 0, .int 0, .ref (a 11), .ref (a 12), .ref (a 13), .int 0, .int 0, .int 0]))] s.heap := hP
  have hD : va_D A [((a 0), .inr (10, [.ref (a 1), .ref (a 2), .ref (a 3), .ref (a 4), .ref (a 5), .ref (a 6), .ref (a 7), .ref (a 8), .ref (a 9), .ref (a 10), .int 0, .int 0, .int 0, .int 0, .ref (a 11), .ref (a 12), .ref (a 13), .int 0, .int 0, .int 0]))] := hD
  refine lv_aload_n hx hb dX11_view_0 rfl (lv_at hl 0 rfl) ?_
  refine va_get (D := (dC, dI)) (ci := 10) (v := .int 0) (C := RX11) (T := TX11) (N := 20) hx hb hts in_t_view_X11 hown hK hP 0 rfl rfl 10 (by decide) (hts _ (List.mem_cons_of_mem _ (List.mem_append_left _ (List.mem_append_left _ (List.mem_of_getElem? (i := 0) rfl))))) (fun _ h9 => h9) rfl dX11_view_1 ?_
  refine lv_if_ne (tgt := 15) hx hb dX11_view_4 (by decide) (fun c1 => False.elim (by revert c1; decide)) (fun _ => ?_)
  refine vx_throw0 (cls := "java/lang/IllegalStateException") (names := ["java/lang/RuntimeException", "java/lang/Exception"]) (mc := 1) (ms := 6) hx hb hl0 hown (by decide) (by decide) (hts _ (List.mem_cons_of_mem _ (List.mem_append_left _ (List.mem_append_left _ (List.mem_of_getElem? (i := 1) rfl))))) (hts _ (List.mem_cons_of_mem _ (List.mem_append_left _ (List.mem_append_left _ (List.mem_of_getElem? (i := 2) rfl))))) (vx_hat (B := [.castable "java/lang/IllegalStateException" "java/lang/IllegalStateException", .declares (Bundle.init0 "java/lang/RuntimeException"), .declares (Bundle.init0 "java/lang/Exception"), .declares (Bundle.init0 Bundle.tN)]) (fun w h => hts w (List.mem_cons_of_mem _ (List.mem_append_left _ (List.mem_append_right _ (List.mem_append_left _ h))))) (by decide +kernel) (vx_c (va_Nw.use (by decide +kernel) (hT.2.2.1 _ (List.mem_of_getElem? (i := 0) rfl))) (vx_c (va_Nw.use (by decide +kernel) (hT.2.2.1 _ (List.mem_of_getElem? (i := 4) rfl))) (vx_c (va_Nw.use (by decide +kernel) (hT.2.2.1 _ (List.mem_of_getElem? (i := 5) rfl))) (vx_c (va_Nw.use (by decide +kernel) (hT.2.2.1 _ (List.mem_of_getElem? (i := 6) rfl))) vx_n))))) (fun w h => List.all_eq_true.mp (by decide +kernel : (Cond.classLink RX11 165 "java/lang/IllegalStateException" :: Cond.initialized "java/lang/IllegalStateException" :: (vx_at0 RX11 167 "java/lang/IllegalStateException" ["java/lang/RuntimeException", "java/lang/Exception"])).all vx_ot = true) w h) hT.1 hT.2.1 hS (hl.1.trans hml.symm) dX11_view_7 dX11_view_10 dX11_view_11 dX11_view_14 (fun x h => (hno x h).elim) (Nat.le_of_ble_eq_true rfl) (Nat.le_of_ble_eq_true rfl) (Nat.le_of_ble_eq_true rfl) (Nat.le_of_ble_eq_true rfl) hlocks (fun t _ hz hk => ⟨(), trivial, rfl, Nat.le_trans hS.1 hz, fun q hq hn => (hk q (Nat.lt_of_lt_of_le hq hS.1)).trans (hS.2.1 q hq hn)⟩) hS.2.2 (Nat.le_of_ble_eq_true rfl) (Nat.le_of_ble_eq_true rfl)
def o_t_step : List Cond := [.methodLink RX11 175 yX11_wantRun, .instanceMethod yX11_wantRun, .selects RX11 yX11_wantRun yX11_wantRun, .initialized RX11]
theorem o_t_step_good : o_t_step.all goodWord = true := by decide +kernel
def p_t_step : List Cond := o_t_step ++ ((.code yX11_wantRun cX11_wantRun 1 none :: p_t_wantRun) ++ [])
theorem p_t_step_good : p_t_step.all goodWord = true := nb_all2 o_t_step_good (nb_all2 (nb_allc (by decide +kernel) p_t_wantRun_good) rfl)
def w_t_step : List Cond := .code yX11_step cX11_step 2 (some .int) :: (p_t_step ++ fC)
theorem w_t_step_good : w_t_step.all goodWord = true := nb_allc (by decide +kernel) (nb_all2 p_t_step_good fC_good)
theorem gg_t_step_t_wantRun : GoodIn w_t_step w_t_wantRun := goodIn_sub (fun w h => (List.mem_cons.mp h).elim (fun e => (List.mem_cons_of_mem _ (List.mem_append_left _ (List.mem_append_right _ (List.mem_append_left _ (List.mem_cons.mpr (Or.inl e))))))) (fun h => (List.mem_append.mp h).elim (fun h => (List.mem_cons_of_mem _ (List.mem_append_left _ (List.mem_append_right _ (List.mem_append_left _ (List.mem_cons_of_mem _ h)))))) (fun h => List.mem_cons_of_mem _ (List.mem_append_right _ h)))) w_t_wantRun_good
theorem g_t_step_175_t_wantRun : GoodIn w_t_step (wsV RX11 175 RX11 yX11_wantRun w_t_wantRun) := goodIn_app (nb_g4 (List.mem_cons_of_mem _ (List.mem_append_left _ (List.mem_append_left _ (List.mem_of_getElem? (i := 0) rfl)))) (List.mem_cons_of_mem _ (List.mem_append_left _ (List.mem_append_left _ (List.mem_of_getElem? (i := 1) rfl)))) (List.mem_cons_of_mem _ (List.mem_append_left _ (List.mem_append_left _ (List.mem_of_getElem? (i := 2) rfl)))) (List.mem_cons_of_mem _ (List.mem_append_left _ (List.mem_append_left _ (List.mem_of_getElem? (i := 3) rfl)))) (by decide +kernel)) gg_t_step_t_wantRun
def v0_t_step (cy : Nat → ClassId) (a : Nat → Nat) (n9 : Int32) : va_W := [((a 0), .inr (10, [.ref (a 1), .ref (a 2), .ref (a 3), .ref (a 4), .ref (a 5), .ref (a 6), .ref (a 7), .ref (a 8), .ref (a 9), .ref (a 10), .int 0, .int 0, .int 0, .int 0, .ref (a 11), .ref (a 12), .ref (a 13), .int 0, .int 0, .int 0]))]
set_option maxHeartbeats 40000000 in
set_option maxRecDepth 100000 in
theorem t_step (l : Launch) (hl0 : l.stackTraces = false) (dC : Nat → ClassId) (dI : Nat → Nat → Nat) (cy : Nat → ClassId) (k : Nat → Nat) (a : Nat → Nat) (n9 : Int32) (sz : Nat) : vx_Met l yX11_step w_t_step ({ frames := 7, cells := 1, slots := 6, locals := 110 }) (va_Pc [.ref (a 0), .int n9] (nInF (dC, dI) cy k sz (v0_t_step cy a n9))) (va_Qi (fun (_ : Int32) (_ : Unit) => False) (fun _ _ => True) (va_A (v0_t_step cy a n9) sz)) (vx_X (fun _ : Unit => True) (fun E _ _ => E = "java/lang/IllegalStateException") (va_A (v0_t_step cy a n9) sz)) 1 6 (va_A (v0_t_step cy a n9) sz) := by
  refine vx_ofW (cc := cX11_step) (maxL := 2) (ret := (some .int)) (by decide) rfl ?_
  intro p e s m args below meth c s₁ B hml hno hv
  obtain ⟨rfl, ⟨⟨hsz, hP, hK, hD0, hG⟩, hE⟩, hT⟩ := hv
  have hx := B.exec
  have hb := B.bytes
  have hr := B.returns
  have hts := atoms_spec (ws := w_t_step) B.pre
  have hown : s.vm.findClass RX11 = some m.cls := findClass_of_methodNamed B.named
  have hlocks := B.notSynchronized
  subst hsz
  have hD := hD0.self (sz := s.heap.size)
  generalize hAe : va_A (v0_t_step cy a n9) s.heap.size = A at hD hE hT ⊢
  have hA : ∀ q : Nat, s.heap.size ≤ q → A q := fun q h => by rw [← hAe]; exact Or.inr h
  have hS : va_S A s.heap s.heap [] := va_S.rf
  have hP : va_P (dC, dI) nCl (v0_t_step cy a n9) s.heap := hP
  have hl := lv_entry ([.ref (a 0), .int n9]) (n := 2) (Nat.le_of_ble_eq_true rfl)
  rw [lg_entry_eq]
  generalize (lg_sl ([.ref (a 0), .int n9]) ++ List.replicate (2 - (lg_sl ([.ref (a 0), .int n9])).length) Slot.unset).toArray = ls at hl ⊢
  have hl : lv_has ls 2 [(0, .ref (a 0)), (1, .int n9)] := hl
  have hP : va_P (dC, dI) nCl [((a 0), .inr (10, [.ref (a 1), .ref (a 2), .ref (a 3), .ref (a 4), .ref (a 5), .ref (a 6), .ref (a 7), .ref (a 8), .ref (a 9), .ref (a 10), .int 0, .int 0, .int 0, .int 0, .ref (a 11), .ref (a 12), .ref (a 13), .int 0, .int 0, .int 0]))] s.heap := hP
  have hD : va_D A [((a 0), .inr (10, [.ref (a 1), .ref (a 2), .ref (a 3), .ref (a 4), .ref (a 5), .ref (a 6), .ref (a 7), .ref (a 8), .ref (a 9), .ref (a 10), .int 0, .int 0, .int 0, .int 0, .ref (a 11), .ref (a 12), .ref (a 13), .int 0, .int 0, .int 0]))] := hD
  refine lv_aload_n hx hb dX11_step_0 rfl (lv_at hl 0 rfl) ?_
  have hPc := hP.sub (ws' := [((a 0), .inr (10, [.ref (a 1), .ref (a 2), .ref (a 3), .ref (a 4), .ref (a 5), .ref (a 6), .ref (a 7), .ref (a 8), .ref (a 9), .ref (a 10), .int 0, .int 0, .int 0, .int 0, .ref (a 11), .ref (a 12), .ref (a 13), .int 0, .int 0, .int 0]))]) [0] rfl
  have hPc : va_P (dC, dI) nCl (v0_t_wantRun cy (fun j9 => [(a 0), (a 1), (a 2), (a 3), (a 4), (a 5), (a 6), (a 7), (a 8), (a 9), (a 10), (a 11), (a 12), (a 13)].getD j9 0)) s.heap := hPc
  have hDc := hD.sub (ws' := [((a 0), .inr (10, [.ref (a 1), .ref (a 2), .ref (a 3), .ref (a 4), .ref (a 5), .ref (a 6), .ref (a 7), .ref (a 8), .ref (a 9), .ref (a 10), .int 0, .int 0, .int 0, .int 0, .ref (a 11), .ref (a 12), .ref (a 13), .int 0, .int 0, .int 0]))]) [0] (by decide) rfl
  have hDc : va_D A (v0_t_wantRun cy (fun j9 => [(a 0), (a 1), (a 2), (a 3), (a 4), (a 5), (a 6), (a 7), (a 8), (a 9), (a 10), (a 11), (a 12), (a 13)].getD j9 0)) := hDc
  have hFc := va_free (wc := (v0_t_wantRun cy (fun j9 => [(a 0), (a 1), (a 2), (a 3), (a 4), (a 5), (a 6), (a 7), (a 8), (a 9), (a 10), (a 11), (a 12), (a 13)].getD j9 0))) hD hS hA [0] rfl
  exact vx_callv (vx_runV (As := []) (rest := []) ⟨hx, hb, hml, hown, hts⟩ (t_wantRun l hl0 dC dI cy k (fun j9 => [(a 0), (a 1), (a 2), (a 3), (a 4), (a 5), (a 6), (a 7), (a 8), (a 9), (a 10), (a 11), (a 12), (a 13)].getD j9 0) s.heap.size) (cwV 0 hts g_t_step_175_t_wantRun rfl rfl rfl (by decide +kernel) ⟨Nat.le_of_ble_eq_true rfl, Nat.le_of_ble_eq_true rfl⟩) ⟨nb_blindF, va_recv hK hPc (ci := 10) (q0 := 0) rfl rfl, fun U hU hW => ⟨rfl, ⟨⟨by rw [hU], by rw [hU]; exact hPc, va_K.moved hW.alike hK, hDc.weaken (fun _ _ _ _ => trivial), hG.warm hW⟩, nE.to hE hS hW hU hFc⟩, nT.to hT hS hW hU hFc⟩⟩ rfl rfl hl.1 rfl (lv_room (Nat.le_of_ble_eq_true rfl)) dX11_step_1 ⟨Nat.le_of_ble_eq_true rfl, Nat.le_of_ble_eq_true rfl⟩) hS (fun q _ h => hFc q h) hFc (fun q _ h => hFc q h) (fun E ce q9 u t H1 locs ht hvm hp hB hz1 hk1 hS hce hcv hcl => vx_out (fun x h => (hno x h).elim) hlocks hce hcv hcl (fun t2 ht2 hv2 => ⟨(), trivial, hB, hS.F ht2⟩) hS.2.2 (Nat.le_of_ble_eq_true rfl) (Nat.le_of_ble_eq_true rfl)) (fun u t H1 locs ht hvm hp hB hz1 hk1 hS => hp.elim)
def o_t_back : List Cond := [.methodLink RX11 175 yX11_wantRun, .instanceMethod yX11_wantRun, .selects RX11 yX11_wantRun yX11_wantRun, .initialized RX11]
theorem o_t_back_good : o_t_back.all goodWord = true := by decide +kernel
def p_t_back : List Cond := o_t_back ++ ((.code yX11_wantRun cX11_wantRun 1 none :: p_t_wantRun) ++ [])
theorem p_t_back_good : p_t_back.all goodWord = true := nb_all2 o_t_back_good (nb_all2 (nb_allc (by decide +kernel) p_t_wantRun_good) rfl)
def w_t_back : List Cond := .code yX11_back cX11_back 2 (some .int) :: (p_t_back ++ fC)
theorem w_t_back_good : w_t_back.all goodWord = true := nb_allc (by decide +kernel) (nb_all2 p_t_back_good fC_good)
theorem gg_t_back_t_wantRun : GoodIn w_t_back w_t_wantRun := goodIn_sub (fun w h => (List.mem_cons.mp h).elim (fun e => (List.mem_cons_of_mem _ (List.mem_append_left _ (List.mem_append_right _ (List.mem_append_left _ (List.mem_cons.mpr (Or.inl e))))))) (fun h => (List.mem_append.mp h).elim (fun h => (List.mem_cons_of_mem _ (List.mem_append_left _ (List.mem_append_right _ (List.mem_append_left _ (List.mem_cons_of_mem _ h)))))) (fun h => List.mem_cons_of_mem _ (List.mem_append_right _ h)))) w_t_wantRun_good
theorem g_t_back_175_t_wantRun : GoodIn w_t_back (wsV RX11 175 RX11 yX11_wantRun w_t_wantRun) := goodIn_app (nb_g4 (List.mem_cons_of_mem _ (List.mem_append_left _ (List.mem_append_left _ (List.mem_of_getElem? (i := 0) rfl)))) (List.mem_cons_of_mem _ (List.mem_append_left _ (List.mem_append_left _ (List.mem_of_getElem? (i := 1) rfl)))) (List.mem_cons_of_mem _ (List.mem_append_left _ (List.mem_append_left _ (List.mem_of_getElem? (i := 2) rfl)))) (List.mem_cons_of_mem _ (List.mem_append_left _ (List.mem_append_left _ (List.mem_of_getElem? (i := 3) rfl)))) (by decide +kernel)) gg_t_back_t_wantRun
def v0_t_back (cy : Nat → ClassId) (a : Nat → Nat) (n9 : Int32) : va_W := [((a 0), .inr (10, [.ref (a 1), .ref (a 2), .ref (a 3), .ref (a 4), .ref (a 5), .ref (a 6), .ref (a 7), .ref (a 8), .ref (a 9), .ref (a 10), .int 0, .int 0, .int 0, .int 0, .ref (a 11), .ref (a 12), .ref (a 13), .int 0, .int 0, .int 0]))]
set_option maxHeartbeats 40000000 in
set_option maxRecDepth 100000 in
theorem t_back (l : Launch) (hl0 : l.stackTraces = false) (dC : Nat → ClassId) (dI : Nat → Nat → Nat) (cy : Nat → ClassId) (k : Nat → Nat) (a : Nat → Nat) (n9 : Int32) (sz : Nat) : vx_Met l yX11_back w_t_back ({ frames := 7, cells := 1, slots := 6, locals := 110 }) (va_Pc [.ref (a 0), .int n9] (nInF (dC, dI) cy k sz (v0_t_back cy a n9))) (va_Qi (fun (_ : Int32) (_ : Unit) => False) (fun _ _ => True) (va_A (v0_t_back cy a n9) sz)) (vx_X (fun _ : Unit => True) (fun E _ _ => E = "java/lang/IllegalStateException") (va_A (v0_t_back cy a n9) sz)) 1 6 (va_A (v0_t_back cy a n9) sz) := by
  refine vx_ofW (cc := cX11_back) (maxL := 2) (ret := (some .int)) (by decide) rfl ?_
  intro p e s m args below meth c s₁ B hml hno hv
  obtain ⟨rfl, ⟨⟨hsz, hP, hK, hD0, hG⟩, hE⟩, hT⟩ := hv
  have hx := B.exec
  have hb := B.bytes
  have hr := B.returns
  have hts := atoms_spec (ws := w_t_back) B.pre
  have hown : s.vm.findClass RX11 = some m.cls := findClass_of_methodNamed B.named
  have hlocks := B.notSynchronized
  subst hsz
  have hD := hD0.self (sz := s.heap.size)
  generalize hAe : va_A (v0_t_back cy a n9) s.heap.size = A at hD hE hT ⊢
  have hA : ∀ q : Nat, s.heap.size ≤ q → A q := fun q h => by rw [← hAe]; exact Or.inr h
  have hS : va_S A s.heap s.heap [] := va_S.rf
  have hP : va_P (dC, dI) nCl (v0_t_back cy a n9) s.heap := hP
  have hl := lv_entry ([.ref (a 0), .int n9]) (n := 2) (Nat.le_of_ble_eq_true rfl)
  rw [lg_entry_eq]
  generalize (lg_sl ([.ref (a 0), .int n9]) ++ List.replicate (2 - (lg_sl ([.ref (a 0), .int n9])).length) Slot.unset).toArray = ls at hl ⊢
  have hl : lv_has ls 2 [(0, .ref (a 0)), (1, .int n9)] := hl
  have hP : va_P (dC, dI) nCl [((a 0), .inr (10, [.ref (a 1), .ref (a 2), .ref (a 3), .ref (a 4), .ref (a 5), .ref (a 6), .ref (a 7), .ref (a 8), .ref (a 9), .ref (a 10), .int 0, .int 0, .int 0, .int 0, .ref (a 11), .ref (a 12), .ref (a 13), .int 0, .int 0, .int 0]))] s.heap := hP
  have hD : va_D A [((a 0), .inr (10, [.ref (a 1), .ref (a 2), .ref (a 3), .ref (a 4), .ref (a 5), .ref (a 6), .ref (a 7), .ref (a 8), .ref (a 9), .ref (a 10), .int 0, .int 0, .int 0, .int 0, .ref (a 11), .ref (a 12), .ref (a 13), .int 0, .int 0, .int 0]))] := hD
  refine lv_aload_n hx hb dX11_back_0 rfl (lv_at hl 0 rfl) ?_
  have hPc := hP.sub (ws' := [((a 0), .inr (10, [.ref (a 1), .ref (a 2), .ref (a 3), .ref (a 4), .ref (a 5), .ref (a 6), .ref (a 7), .ref (a 8), .ref (a 9), .ref (a 10), .int 0, .int 0, .int 0, .int 0, .ref (a 11), .ref (a 12), .ref (a 13), .int 0, .int 0, .int 0]))]) [0] rfl
  have hPc : va_P (dC, dI) nCl (v0_t_wantRun cy (fun j9 => [(a 0), (a 1), (a 2), (a 3), (a 4), (a 5), (a 6), (a 7), (a 8), (a 9), (a 10), (a 11), (a 12), (a 13)].getD j9 0)) s.heap := hPc
  have hDc := hD.sub (ws' := [((a 0), .inr (10, [.ref (a 1), .ref (a 2), .ref (a 3), .ref (a 4), .ref (a 5), .ref (a 6), .ref (a 7), .ref (a 8), .ref (a 9), .ref (a 10), .int 0, .int 0, .int 0, .int 0, .ref (a 11), .ref (a 12), .ref (a 13), .int 0, .int 0, .int 0]))]) [0] (by decide) rfl
  have hDc : va_D A (v0_t_wantRun cy (fun j9 => [(a 0), (a 1), (a 2), (a 3), (a 4), (a 5), (a 6), (a 7), (a 8), (a 9), (a 10), (a 11), (a 12), (a 13)].getD j9 0)) := hDc
  have hFc := va_free (wc := (v0_t_wantRun cy (fun j9 => [(a 0), (a 1), (a 2), (a 3), (a 4), (a 5), (a 6), (a 7), (a 8), (a 9), (a 10), (a 11), (a 12), (a 13)].getD j9 0))) hD hS hA [0] rfl
  exact vx_callv (vx_runV (As := []) (rest := []) ⟨hx, hb, hml, hown, hts⟩ (t_wantRun l hl0 dC dI cy k (fun j9 => [(a 0), (a 1), (a 2), (a 3), (a 4), (a 5), (a 6), (a 7), (a 8), (a 9), (a 10), (a 11), (a 12), (a 13)].getD j9 0) s.heap.size) (cwV 0 hts g_t_back_175_t_wantRun rfl rfl rfl (by decide +kernel) ⟨Nat.le_of_ble_eq_true rfl, Nat.le_of_ble_eq_true rfl⟩) ⟨nb_blindF, va_recv hK hPc (ci := 10) (q0 := 0) rfl rfl, fun U hU hW => ⟨rfl, ⟨⟨by rw [hU], by rw [hU]; exact hPc, va_K.moved hW.alike hK, hDc.weaken (fun _ _ _ _ => trivial), hG.warm hW⟩, nE.to hE hS hW hU hFc⟩, nT.to hT hS hW hU hFc⟩⟩ rfl rfl hl.1 rfl (lv_room (Nat.le_of_ble_eq_true rfl)) dX11_back_1 ⟨Nat.le_of_ble_eq_true rfl, Nat.le_of_ble_eq_true rfl⟩) hS (fun q _ h => hFc q h) hFc (fun q _ h => hFc q h) (fun E ce q9 u t H1 locs ht hvm hp hB hz1 hk1 hS hce hcv hcl => vx_out (fun x h => (hno x h).elim) hlocks hce hcv hcl (fun t2 ht2 hv2 => ⟨(), trivial, hB, hS.F ht2⟩) hS.2.2 (Nat.le_of_ble_eq_true rfl) (Nat.le_of_ble_eq_true rfl)) (fun u t H1 locs ht hvm hp hB hz1 hk1 hS => hp.elim)
def o_t_value : List Cond := [.methodLink RX11 175 yX11_wantRun, .instanceMethod yX11_wantRun, .selects RX11 yX11_wantRun yX11_wantRun, .initialized RX11]
theorem o_t_value_good : o_t_value.all goodWord = true := by decide +kernel
def p_t_value : List Cond := o_t_value ++ ((.code yX11_wantRun cX11_wantRun 1 none :: p_t_wantRun) ++ [])
theorem p_t_value_good : p_t_value.all goodWord = true := nb_all2 o_t_value_good (nb_all2 (nb_allc (by decide +kernel) p_t_wantRun_good) rfl)
def w_t_value : List Cond := .code yX11_value cX11_value 3 (some .int) :: (p_t_value ++ fC)
theorem w_t_value_good : w_t_value.all goodWord = true := nb_allc (by decide +kernel) (nb_all2 p_t_value_good fC_good)
theorem gg_t_value_t_wantRun : GoodIn w_t_value w_t_wantRun := goodIn_sub (fun w h => (List.mem_cons.mp h).elim (fun e => (List.mem_cons_of_mem _ (List.mem_append_left _ (List.mem_append_right _ (List.mem_append_left _ (List.mem_cons.mpr (Or.inl e))))))) (fun h => (List.mem_append.mp h).elim (fun h => (List.mem_cons_of_mem _ (List.mem_append_left _ (List.mem_append_right _ (List.mem_append_left _ (List.mem_cons_of_mem _ h)))))) (fun h => List.mem_cons_of_mem _ (List.mem_append_right _ h)))) w_t_wantRun_good
theorem g_t_value_175_t_wantRun : GoodIn w_t_value (wsV RX11 175 RX11 yX11_wantRun w_t_wantRun) := goodIn_app (nb_g4 (List.mem_cons_of_mem _ (List.mem_append_left _ (List.mem_append_left _ (List.mem_of_getElem? (i := 0) rfl)))) (List.mem_cons_of_mem _ (List.mem_append_left _ (List.mem_append_left _ (List.mem_of_getElem? (i := 1) rfl)))) (List.mem_cons_of_mem _ (List.mem_append_left _ (List.mem_append_left _ (List.mem_of_getElem? (i := 2) rfl)))) (List.mem_cons_of_mem _ (List.mem_append_left _ (List.mem_append_left _ (List.mem_of_getElem? (i := 3) rfl)))) (by decide +kernel)) gg_t_value_t_wantRun
def v0_t_value (cy : Nat → ClassId) (a : Nat → Nat) : va_W := [((a 0), .inr (10, [.ref (a 1), .ref (a 2), .ref (a 3), .ref (a 4), .ref (a 5), .ref (a 6), .ref (a 7), .ref (a 8), .ref (a 9), .ref (a 10), .int 0, .int 0, .int 0, .int 0, .ref (a 11), .ref (a 12), .ref (a 13), .int 0, .int 0, .int 0]))]
set_option maxHeartbeats 40000000 in
set_option maxRecDepth 100000 in
theorem t_value (l : Launch) (hl0 : l.stackTraces = false) (dC : Nat → ClassId) (dI : Nat → Nat → Nat) (cy : Nat → ClassId) (k : Nat → Nat) (a : Nat → Nat) (sz : Nat) : vx_Met l yX11_value w_t_value ({ frames := 7, cells := 1, slots := 6, locals := 110 }) (va_Pc [.ref (a 0)] (nInF (dC, dI) cy k sz (v0_t_value cy a))) (va_Qi (fun (_ : Int32) (_ : Unit) => False) (fun _ _ => True) (va_A (v0_t_value cy a) sz)) (vx_X (fun _ : Unit => True) (fun E _ _ => E = "java/lang/IllegalStateException") (va_A (v0_t_value cy a) sz)) 1 6 (va_A (v0_t_value cy a) sz) := by
  refine vx_ofW (cc := cX11_value) (maxL := 3) (ret := (some .int)) (by decide) rfl ?_
  intro p e s m args below meth c s₁ B hml hno hv
  obtain ⟨rfl, ⟨⟨hsz, hP, hK, hD0, hG⟩, hE⟩, hT⟩ := hv
  have hx := B.exec
  have hb := B.bytes
  have hr := B.returns
  have hts := atoms_spec (ws := w_t_value) B.pre
  have hown : s.vm.findClass RX11 = some m.cls := findClass_of_methodNamed B.named
  have hlocks := B.notSynchronized
  subst hsz
  have hD := hD0.self (sz := s.heap.size)
  generalize hAe : va_A (v0_t_value cy a) s.heap.size = A at hD hE hT ⊢
  have hA : ∀ q : Nat, s.heap.size ≤ q → A q := fun q h => by rw [← hAe]; exact Or.inr h
  have hS : va_S A s.heap s.heap [] := va_S.rf
  have hP : va_P (dC, dI) nCl (v0_t_value cy a) s.heap := hP
  have hl := lv_entry ([.ref (a 0)]) (n := 3) (Nat.le_of_ble_eq_true rfl)
  rw [lg_entry_eq]
  generalize (lg_sl ([.ref (a 0)]) ++ List.replicate (3 - (lg_sl ([.ref (a 0)])).length) Slot.unset).toArray = ls at hl ⊢
  have hl : lv_has ls 3 [(0, .ref (a 0))] := hl
  have hP : va_P (dC, dI) nCl [((a 0), .inr (10, [.ref (a 1), .ref (a 2), .ref (a 3), .ref (a 4), .ref (a 5), .ref (a 6), .ref (a 7), .ref (a 8), .ref (a 9), .ref (a 10), .int 0, .int 0, .int 0, .int 0, .ref (a 11), .ref (a 12), .ref (a 13), .int 0, .int 0, .int 0]))] s.heap := hP
  have hD : va_D A [((a 0), .inr (10, [.ref (a 1), .ref (a 2), .ref (a 3), .ref (a 4), .ref (a 5), .ref (a 6), .ref (a 7), .ref (a 8), .ref (a 9), .ref (a 10), .int 0, .int 0, .int 0, .int 0, .ref (a 11), .ref (a 12), .ref (a 13), .int 0, .int 0, .int 0]))] := hD
  refine lv_aload_n hx hb dX11_value_0 rfl (lv_at hl 0 rfl) ?_
  have hPc := hP.sub (ws' := [((a 0), .inr (10, [.ref (a 1), .ref (a 2), .ref (a 3), .ref (a 4), .ref (a 5), .ref (a 6), .ref (a 7), .ref (a 8), .ref (a 9), .ref (a 10), .int 0, .int 0, .int 0, .int 0, .ref (a 11), .ref (a 12), .ref (a 13), .int 0, .int 0, .int 0]))]) [0] rfl
  have hPc : va_P (dC, dI) nCl (v0_t_wantRun cy (fun j9 => [(a 0), (a 1), (a 2), (a 3), (a 4), (a 5), (a 6), (a 7), (a 8), (a 9), (a 10), (a 11), (a 12), (a 13)].getD j9 0)) s.heap := hPc
  have hDc := hD.sub (ws' := [((a 0), .inr (10, [.ref (a 1), .ref (a 2), .ref (a 3), .ref (a 4), .ref (a 5), .ref (a 6), .ref (a 7), .ref (a 8), .ref (a 9), .ref (a 10), .int 0, .int 0, .int 0, .int 0, .ref (a 11), .ref (a 12), .ref (a 13), .int 0, .int 0, .int 0]))]) [0] (by decide) rfl
  have hDc : va_D A (v0_t_wantRun cy (fun j9 => [(a 0), (a 1), (a 2), (a 3), (a 4), (a 5), (a 6), (a 7), (a 8), (a 9), (a 10), (a 11), (a 12), (a 13)].getD j9 0)) := hDc
  have hFc := va_free (wc := (v0_t_wantRun cy (fun j9 => [(a 0), (a 1), (a 2), (a 3), (a 4), (a 5), (a 6), (a 7), (a 8), (a 9), (a 10), (a 11), (a 12), (a 13)].getD j9 0))) hD hS hA [0] rfl
  exact vx_callv (vx_runV (As := []) (rest := []) ⟨hx, hb, hml, hown, hts⟩ (t_wantRun l hl0 dC dI cy k (fun j9 => [(a 0), (a 1), (a 2), (a 3), (a 4), (a 5), (a 6), (a 7), (a 8), (a 9), (a 10), (a 11), (a 12), (a 13)].getD j9 0) s.heap.size) (cwV 0 hts g_t_value_175_t_wantRun rfl rfl rfl (by decide +kernel) ⟨Nat.le_of_ble_eq_true rfl, Nat.le_of_ble_eq_true rfl⟩) ⟨nb_blindF, va_recv hK hPc (ci := 10) (q0 := 0) rfl rfl, fun U hU hW => ⟨rfl, ⟨⟨by rw [hU], by rw [hU]; exact hPc, va_K.moved hW.alike hK, hDc.weaken (fun _ _ _ _ => trivial), hG.warm hW⟩, nE.to hE hS hW hU hFc⟩, nT.to hT hS hW hU hFc⟩⟩ rfl rfl hl.1 rfl (lv_room (Nat.le_of_ble_eq_true rfl)) dX11_value_1 ⟨Nat.le_of_ble_eq_true rfl, Nat.le_of_ble_eq_true rfl⟩) hS (fun q _ h => hFc q h) hFc (fun q _ h => hFc q h) (fun E ce q9 u t H1 locs ht hvm hp hB hz1 hk1 hS hce hcv hcl => vx_out (fun x h => (hno x h).elim) hlocks hce hcv hcl (fun t2 ht2 hv2 => ⟨(), trivial, hB, hS.F ht2⟩) hS.2.2 (Nat.le_of_ble_eq_true rfl) (Nat.le_of_ble_eq_true rfl)) (fun u t H1 locs ht hvm hp hB hz1 hk1 hS => hp.elim)
def o_t_work : List Cond := [.methodLink RX11 175 yX11_wantRun, .instanceMethod yX11_wantRun, .selects RX11 yX11_wantRun yX11_wantRun, .initialized RX11]
theorem o_t_work_good : o_t_work.all goodWord = true := by decide +kernel
def p_t_work : List Cond := o_t_work ++ ((.code yX11_wantRun cX11_wantRun 1 none :: p_t_wantRun) ++ [])
theorem p_t_work_good : p_t_work.all goodWord = true := nb_all2 o_t_work_good (nb_all2 (nb_allc (by decide +kernel) p_t_wantRun_good) rfl)
def w_t_work : List Cond := .code yX11_work cX11_work 4 (some .int) :: (p_t_work ++ fC)
theorem w_t_work_good : w_t_work.all goodWord = true := nb_allc (by decide +kernel) (nb_all2 p_t_work_good fC_good)
theorem gg_t_work_t_wantRun : GoodIn w_t_work w_t_wantRun := goodIn_sub (fun w h => (List.mem_cons.mp h).elim (fun e => (List.mem_cons_of_mem _ (List.mem_append_left _ (List.mem_append_right _ (List.mem_append_left _ (List.mem_cons.mpr (Or.inl e))))))) (fun h => (List.mem_append.mp h).elim (fun h => (List.mem_cons_of_mem _ (List.mem_append_left _ (List.mem_append_right _ (List.mem_append_left _ (List.mem_cons_of_mem _ h)))))) (fun h => List.mem_cons_of_mem _ (List.mem_append_right _ h)))) w_t_wantRun_good
theorem g_t_work_175_t_wantRun : GoodIn w_t_work (wsV RX11 175 RX11 yX11_wantRun w_t_wantRun) := goodIn_app (nb_g4 (List.mem_cons_of_mem _ (List.mem_append_left _ (List.mem_append_left _ (List.mem_of_getElem? (i := 0) rfl)))) (List.mem_cons_of_mem _ (List.mem_append_left _ (List.mem_append_left _ (List.mem_of_getElem? (i := 1) rfl)))) (List.mem_cons_of_mem _ (List.mem_append_left _ (List.mem_append_left _ (List.mem_of_getElem? (i := 2) rfl)))) (List.mem_cons_of_mem _ (List.mem_append_left _ (List.mem_append_left _ (List.mem_of_getElem? (i := 3) rfl)))) (by decide +kernel)) gg_t_work_t_wantRun
def v0_t_work (cy : Nat → ClassId) (a : Nat → Nat) : va_W := [((a 0), .inr (10, [.ref (a 1), .ref (a 2), .ref (a 3), .ref (a 4), .ref (a 5), .ref (a 6), .ref (a 7), .ref (a 8), .ref (a 9), .ref (a 10), .int 0, .int 0, .int 0, .int 0, .ref (a 11), .ref (a 12), .ref (a 13), .int 0, .int 0, .int 0]))]
set_option maxHeartbeats 40000000 in
set_option maxRecDepth 100000 in
theorem t_work (l : Launch) (hl0 : l.stackTraces = false) (dC : Nat → ClassId) (dI : Nat → Nat → Nat) (cy : Nat → ClassId) (k : Nat → Nat) (a : Nat → Nat) (sz : Nat) : vx_Met l yX11_work w_t_work ({ frames := 7, cells := 1, slots := 6, locals := 110 }) (va_Pc [.ref (a 0)] (nInF (dC, dI) cy k sz (v0_t_work cy a))) (va_Qi (fun (_ : Int32) (_ : Unit) => False) (fun _ _ => True) (va_A (v0_t_work cy a) sz)) (vx_X (fun _ : Unit => True) (fun E _ _ => E = "java/lang/IllegalStateException") (va_A (v0_t_work cy a) sz)) 1 6 (va_A (v0_t_work cy a) sz) := by
  refine vx_ofW (cc := cX11_work) (maxL := 4) (ret := (some .int)) (by decide) rfl ?_
  intro p e s m args below meth c s₁ B hml hno hv
  obtain ⟨rfl, ⟨⟨hsz, hP, hK, hD0, hG⟩, hE⟩, hT⟩ := hv
  have hx := B.exec
  have hb := B.bytes
  have hr := B.returns
  have hts := atoms_spec (ws := w_t_work) B.pre
  have hown : s.vm.findClass RX11 = some m.cls := findClass_of_methodNamed B.named
  have hlocks := B.notSynchronized
  subst hsz
  have hD := hD0.self (sz := s.heap.size)
  generalize hAe : va_A (v0_t_work cy a) s.heap.size = A at hD hE hT ⊢
  have hA : ∀ q : Nat, s.heap.size ≤ q → A q := fun q h => by rw [← hAe]; exact Or.inr h
  have hS : va_S A s.heap s.heap [] := va_S.rf
  have hP : va_P (dC, dI) nCl (v0_t_work cy a) s.heap := hP
  have hl := lv_entry ([.ref (a 0)]) (n := 4) (Nat.le_of_ble_eq_true rfl)
  rw [lg_entry_eq]
  generalize (lg_sl ([.ref (a 0)]) ++ List.replicate (4 - (lg_sl ([.ref (a 0)])).length) Slot.unset).toArray = ls at hl ⊢
  have hl : lv_has ls 4 [(0, .ref (a 0))] := hl
  have hP : va_P (dC, dI) nCl [((a 0), .inr (10, [.ref (a 1), .ref (a 2), .ref (a 3), .ref (a 4), .ref (a 5), .ref (a 6), .ref (a 7), .ref (a 8), .ref (a 9), .ref (a 10), .int 0, .int 0, .int 0, .int 0, .ref (a 11), .ref (a 12), .ref (a 13), .int 0, .int 0, .int 0]))] s.heap := hP
  have hD : va_D A [((a 0), .inr (10, [.ref (a 1), .ref (a 2), .ref (a 3), .ref (a 4), .ref (a 5), .ref (a 6), .ref (a 7), .ref (a 8), .ref (a 9), .ref (a 10), .int 0, .int 0, .int 0, .int 0, .ref (a 11), .ref (a 12), .ref (a 13), .int 0, .int 0, .int 0]))] := hD
  refine lv_aload_n hx hb dX11_work_0 rfl (lv_at hl 0 rfl) ?_
  have hPc := hP.sub (ws' := [((a 0), .inr (10, [.ref (a 1), .ref (a 2), .ref (a 3), .ref (a 4), .ref (a 5), .ref (a 6), .ref (a 7), .ref (a 8), .ref (a 9), .ref (a 10), .int 0, .int 0, .int 0, .int 0, .ref (a 11), .ref (a 12), .ref (a 13), .int 0, .int 0, .int 0]))]) [0] rfl
  have hPc : va_P (dC, dI) nCl (v0_t_wantRun cy (fun j9 => [(a 0), (a 1), (a 2), (a 3), (a 4), (a 5), (a 6), (a 7), (a 8), (a 9), (a 10), (a 11), (a 12), (a 13)].getD j9 0)) s.heap := hPc
  have hDc := hD.sub (ws' := [((a 0), .inr (10, [.ref (a 1), .ref (a 2), .ref (a 3), .ref (a 4), .ref (a 5), .ref (a 6), .ref (a 7), .ref (a 8), .ref (a 9), .ref (a 10), .int 0, .int 0, .int 0, .int 0, .ref (a 11), .ref (a 12), .ref (a 13), .int 0, .int 0, .int 0]))]) [0] (by decide) rfl
  have hDc : va_D A (v0_t_wantRun cy (fun j9 => [(a 0), (a 1), (a 2), (a 3), (a 4), (a 5), (a 6), (a 7), (a 8), (a 9), (a 10), (a 11), (a 12), (a 13)].getD j9 0)) := hDc
  have hFc := va_free (wc := (v0_t_wantRun cy (fun j9 => [(a 0), (a 1), (a 2), (a 3), (a 4), (a 5), (a 6), (a 7), (a 8), (a 9), (a 10), (a 11), (a 12), (a 13)].getD j9 0))) hD hS hA [0] rfl
  exact vx_callv (vx_runV (As := []) (rest := []) ⟨hx, hb, hml, hown, hts⟩ (t_wantRun l hl0 dC dI cy k (fun j9 => [(a 0), (a 1), (a 2), (a 3), (a 4), (a 5), (a 6), (a 7), (a 8), (a 9), (a 10), (a 11), (a 12), (a 13)].getD j9 0) s.heap.size) (cwV 0 hts g_t_work_175_t_wantRun rfl rfl rfl (by decide +kernel) ⟨Nat.le_of_ble_eq_true rfl, Nat.le_of_ble_eq_true rfl⟩) ⟨nb_blindF, va_recv hK hPc (ci := 10) (q0 := 0) rfl rfl, fun U hU hW => ⟨rfl, ⟨⟨by rw [hU], by rw [hU]; exact hPc, va_K.moved hW.alike hK, hDc.weaken (fun _ _ _ _ => trivial), hG.warm hW⟩, nE.to hE hS hW hU hFc⟩, nT.to hT hS hW hU hFc⟩⟩ rfl rfl hl.1 rfl (lv_room (Nat.le_of_ble_eq_true rfl)) dX11_work_1 ⟨Nat.le_of_ble_eq_true rfl, Nat.le_of_ble_eq_true rfl⟩) hS (fun q _ h => hFc q h) hFc (fun q _ h => hFc q h) (fun E ce q9 u t H1 locs ht hvm hp hB hz1 hk1 hS hce hcv hcl => vx_out (fun x h => (hno x h).elim) hlocks hce hcv hcl (fun t2 ht2 hv2 => ⟨(), trivial, hB, hS.F ht2⟩) hS.2.2 (Nat.le_of_ble_eq_true rfl) (Nat.le_of_ble_eq_true rfl)) (fun u t H1 locs ht hvm hp hB hz1 hk1 hS => hp.elim)
def o_t_round : List Cond := [.methodLink RX11 175 yX11_wantRun, .instanceMethod yX11_wantRun, .selects RX11 yX11_wantRun yX11_wantRun, .initialized RX11]
theorem o_t_round_good : o_t_round.all goodWord = true := by decide +kernel
def p_t_round : List Cond := o_t_round ++ ((.code yX11_wantRun cX11_wantRun 1 none :: p_t_wantRun) ++ [])
theorem p_t_round_good : p_t_round.all goodWord = true := nb_all2 o_t_round_good (nb_all2 (nb_allc (by decide +kernel) p_t_wantRun_good) rfl)
def w_t_round : List Cond := .code yX11_round cX11_round 4 (some .int) :: (p_t_round ++ fC)
theorem w_t_round_good : w_t_round.all goodWord = true := nb_allc (by decide +kernel) (nb_all2 p_t_round_good fC_good)
theorem gg_t_round_t_wantRun : GoodIn w_t_round w_t_wantRun := goodIn_sub (fun w h => (List.mem_cons.mp h).elim (fun e => (List.mem_cons_of_mem _ (List.mem_append_left _ (List.mem_append_right _ (List.mem_append_left _ (List.mem_cons.mpr (Or.inl e))))))) (fun h => (List.mem_append.mp h).elim (fun h => (List.mem_cons_of_mem _ (List.mem_append_left _ (List.mem_append_right _ (List.mem_append_left _ (List.mem_cons_of_mem _ h)))))) (fun h => List.mem_cons_of_mem _ (List.mem_append_right _ h)))) w_t_wantRun_good
theorem g_t_round_175_t_wantRun : GoodIn w_t_round (wsV RX11 175 RX11 yX11_wantRun w_t_wantRun) := goodIn_app (nb_g4 (List.mem_cons_of_mem _ (List.mem_append_left _ (List.mem_append_left _ (List.mem_of_getElem? (i := 0) rfl)))) (List.mem_cons_of_mem _ (List.mem_append_left _ (List.mem_append_left _ (List.mem_of_getElem? (i := 1) rfl)))) (List.mem_cons_of_mem _ (List.mem_append_left _ (List.mem_append_left _ (List.mem_of_getElem? (i := 2) rfl)))) (List.mem_cons_of_mem _ (List.mem_append_left _ (List.mem_append_left _ (List.mem_of_getElem? (i := 3) rfl)))) (by decide +kernel)) gg_t_round_t_wantRun
def v0_t_round (cy : Nat → ClassId) (a : Nat → Nat) : va_W := [((a 0), .inr (10, [.ref (a 1), .ref (a 2), .ref (a 3), .ref (a 4), .ref (a 5), .ref (a 6), .ref (a 7), .ref (a 8), .ref (a 9), .ref (a 10), .int 0, .int 0, .int 0, .int 0, .ref (a 11), .ref (a 12), .ref (a 13), .int 0, .int 0, .int 0]))]
set_option maxHeartbeats 40000000 in
set_option maxRecDepth 100000 in
theorem t_round (l : Launch) (hl0 : l.stackTraces = false) (dC : Nat → ClassId) (dI : Nat → Nat → Nat) (cy : Nat → ClassId) (k : Nat → Nat) (a : Nat → Nat) (sz : Nat) : vx_Met l yX11_round w_t_round ({ frames := 7, cells := 1, slots := 6, locals := 110 }) (va_Pc [.ref (a 0)] (nInF (dC, dI) cy k sz (v0_t_round cy a))) (va_Qi (fun (_ : Int32) (_ : Unit) => False) (fun _ _ => True) (va_A (v0_t_round cy a) sz)) (vx_X (fun _ : Unit => True) (fun E _ _ => E = "java/lang/IllegalStateException") (va_A (v0_t_round cy a) sz)) 1 6 (va_A (v0_t_round cy a) sz) := by
  refine vx_ofW (cc := cX11_round) (maxL := 4) (ret := (some .int)) (by decide) rfl ?_
  intro p e s m args below meth c s₁ B hml hno hv
  obtain ⟨rfl, ⟨⟨hsz, hP, hK, hD0, hG⟩, hE⟩, hT⟩ := hv
  have hx := B.exec
  have hb := B.bytes
  have hr := B.returns
  have hts := atoms_spec (ws := w_t_round) B.pre
  have hown : s.vm.findClass RX11 = some m.cls := findClass_of_methodNamed B.named
  have hlocks := B.notSynchronized
  subst hsz
  have hD := hD0.self (sz := s.heap.size)
  generalize hAe : va_A (v0_t_round cy a) s.heap.size = A at hD hE hT ⊢
  have hA : ∀ q : Nat, s.heap.size ≤ q → A q := fun q h => by rw [← hAe]; exact Or.inr h
  have hS : va_S A s.heap s.heap [] := va_S.rf
  have hP : va_P (dC, dI) nCl (v0_t_round cy a) s.heap := hP
  have hl := lv_entry ([.ref (a 0)]) (n := 4) (Nat.le_of_ble_eq_true rfl)
  rw [lg_entry_eq]
  generalize (lg_sl ([.ref (a 0)]) ++ List.replicate (4 - (lg_sl ([.ref (a 0)])).length) Slot.unset).toArray = ls at hl ⊢
  have hl : lv_has ls 4 [(0, .ref (a 0))] := hl
  have hP : va_P (dC, dI) nCl [((a 0), .inr (10, [.ref (a 1), .ref (a 2), .ref (a 3), .ref (a 4), .ref (a 5), .ref (a 6), .ref (a 7), .ref (a 8), .ref (a 9), .ref (a 10), .int 0, .int 0, .int 0, .int 0, .ref (a 11), .ref (a 12), .ref (a 13), .int 0, .int 0, .int 0]))] s.heap := hP
  have hD : va_D A [((a 0), .inr (10, [.ref (a 1), .ref (a 2), .ref (a 3), .ref (a 4), .ref (a 5), .ref (a 6), .ref (a 7), .ref (a 8), .ref (a 9), .ref (a 10), .int 0, .int 0, .int 0, .int 0, .ref (a 11), .ref (a 12), .ref (a 13), .int 0, .int 0, .int 0]))] := hD
  refine lv_aload_n hx hb dX11_round_0 rfl (lv_at hl 0 rfl) ?_
  have hPc := hP.sub (ws' := [((a 0), .inr (10, [.ref (a 1), .ref (a 2), .ref (a 3), .ref (a 4), .ref (a 5), .ref (a 6), .ref (a 7), .ref (a 8), .ref (a 9), .ref (a 10), .int 0, .int 0, .int 0, .int 0, .ref (a 11), .ref (a 12), .ref (a 13), .int 0, .int 0, .int 0]))]) [0] rfl
  have hPc : va_P (dC, dI) nCl (v0_t_wantRun cy (fun j9 => [(a 0), (a 1), (a 2), (a 3), (a 4), (a 5), (a 6), (a 7), (a 8), (a 9), (a 10), (a 11), (a 12), (a 13)].getD j9 0)) s.heap := hPc
  have hDc := hD.sub (ws' := [((a 0), .inr (10, [.ref (a 1), .ref (a 2), .ref (a 3), .ref (a 4), .ref (a 5), .ref (a 6), .ref (a 7), .ref (a 8), .ref (a 9), .ref (a 10), .int 0, .int 0, .int 0, .int 0, .ref (a 11), .ref (a 12), .ref (a 13), .int 0, .int 0, .int 0]))]) [0] (by decide) rfl
  have hDc : va_D A (v0_t_wantRun cy (fun j9 => [(a 0), (a 1), (a 2), (a 3), (a 4), (a 5), (a 6), (a 7), (a 8), (a 9), (a 10), (a 11), (a 12), (a 13)].getD j9 0)) := hDc
  have hFc := va_free (wc := (v0_t_wantRun cy (fun j9 => [(a 0), (a 1), (a 2), (a 3), (a 4), (a 5), (a 6), (a 7), (a 8), (a 9), (a 10), (a 11), (a 12), (a 13)].getD j9 0))) hD hS hA [0] rfl
  exact vx_callv (vx_runV (As := []) (rest := []) ⟨hx, hb, hml, hown, hts⟩ (t_wantRun l hl0 dC dI cy k (fun j9 => [(a 0), (a 1), (a 2), (a 3), (a 4), (a 5), (a 6), (a 7), (a 8), (a 9), (a 10), (a 11), (a 12), (a 13)].getD j9 0) s.heap.size) (cwV 0 hts g_t_round_175_t_wantRun rfl rfl rfl (by decide +kernel) ⟨Nat.le_of_ble_eq_true rfl, Nat.le_of_ble_eq_true rfl⟩) ⟨nb_blindF, va_recv hK hPc (ci := 10) (q0 := 0) rfl rfl, fun U hU hW => ⟨rfl, ⟨⟨by rw [hU], by rw [hU]; exact hPc, va_K.moved hW.alike hK, hDc.weaken (fun _ _ _ _ => trivial), hG.warm hW⟩, nE.to hE hS hW hU hFc⟩, nT.to hT hS hW hU hFc⟩⟩ rfl rfl hl.1 rfl (lv_room (Nat.le_of_ble_eq_true rfl)) dX11_round_1 ⟨Nat.le_of_ble_eq_true rfl, Nat.le_of_ble_eq_true rfl⟩) hS (fun q _ h => hFc q h) hFc (fun q _ h => hFc q h) (fun E ce q9 u t H1 locs ht hvm hp hB hz1 hk1 hS hce hcv hcl => vx_out (fun x h => (hno x h).elim) hlocks hce hcv hcl (fun t2 ht2 hv2 => ⟨(), trivial, hB, hS.F ht2⟩) hS.2.2 (Nat.le_of_ble_eq_true rfl) (Nat.le_of_ble_eq_true rfl)) (fun u t H1 locs ht hvm hp hB hz1 hk1 hS => hp.elim)
def o_t_out : List Cond := [.fieldLink RX11 156 "SetHouse" "hasRun" "Z", .classLink RX11 194 "java/lang/IndexOutOfBoundsException", .initialized "java/lang/IndexOutOfBoundsException"]
theorem o_t_out_good : o_t_out.all goodWord = true := by decide +kernel
def p_t_out : List Cond := o_t_out ++ (((vx_at0 RX11 196 "java/lang/IndexOutOfBoundsException" ["java/lang/RuntimeException", "java/lang/Exception"]).filter goodWord) ++ [])
theorem p_t_out_good : p_t_out.all goodWord = true := nb_all2 o_t_out_good (nb_all2 (nb_fg _) rfl)
def w_t_out : List Cond := .code yX11_out cX11_out 2 (some .int) :: (p_t_out ++ fC)
theorem w_t_out_good : w_t_out.all goodWord = true := nb_allc (by decide +kernel) (nb_all2 p_t_out_good fC_good)
theorem in_t_out_X11 : ∀ w ∈ wsX110, w ∈ w_t_out := fun _ h => List.mem_cons_of_mem _ (List.mem_append_right _ (List.mem_append_right _ (List.mem_append_right _ (List.mem_append_right _ (List.mem_append_right _ (List.mem_append_right _ (List.mem_append_right _ (List.mem_append_right _ (List.mem_append_right _ (List.mem_append_right _ (List.mem_append_right _ h)))))))))))
def v0_t_out (cy : Nat → ClassId) (a : Nat → Nat) (n9 : Int32) : va_W := [((a 0), .inr (10, [.ref (a 1), .ref (a 2), .ref (a 3), .ref (a 4), .ref (a 5), .ref (a 6), .ref (a 7), .ref (a 8), .ref (a 9), .ref (a 10), .int 0, .int 0, .int 0, .int 0, .ref (a 11), .ref (a 12), .ref (a 13), .int 0, .int 0, .int 0]))]
set_option maxHeartbeats 40000000 in
set_option maxRecDepth 100000 in
theorem t_out (l : Launch) (hl0 : l.stackTraces = false) (dC : Nat → ClassId) (dI : Nat → Nat → Nat) (cy : Nat → ClassId) (k : Nat → Nat) (a : Nat → Nat) (n9 : Int32) (sz : Nat) : vx_Met l yX11_out w_t_out ({ frames := 6, cells := 1, slots := 6, locals := 90 }) (va_Pc [.ref (a 0), .int n9] (nInF (dC, dI) cy k sz (v0_t_out cy a n9))) (va_Qi (fun (_ : Int32) (_ : Unit) => False) (fun _ _ => True) (va_A (v0_t_out cy a n9) sz)) (vx_X (fun _ : Unit => True) (fun E _ _ => E = "java/lang/IndexOutOfBoundsException") (va_A (v0_t_out cy a n9) sz)) 1 6 (va_A (v0_t_out cy a n9) sz) := by
  refine vx_ofW (cc := cX11_out) (maxL := 2) (ret := (some .int)) (by decide) rfl ?_
  intro p e s m args below meth c s₁ B hml hno hv
  obtain ⟨rfl, ⟨⟨hsz, hP, hK, hD0, hG⟩, hE⟩, hT⟩ := hv
  have hx := B.exec
  have hb := B.bytes
  have hr := B.returns
  have hts := atoms_spec (ws := w_t_out) B.pre
  have hown : s.vm.findClass RX11 = some m.cls := findClass_of_methodNamed B.named
  have hlocks := B.notSynchronized
  subst hsz
  have hD := hD0.self (sz := s.heap.size)
  generalize hAe : va_A (v0_t_out cy a n9) s.heap.size = A at hD hE hT ⊢
  have hA : ∀ q : Nat, s.heap.size ≤ q → A q := fun q h => by rw [← hAe]; exact Or.inr h
  have hS : va_S A s.heap s.heap [] := va_S.rf
  have hP : va_P (dC, dI) nCl (v0_t_out cy a n9) s.heap := hP
  have hl := lv_entry ([.ref (a 0), .int n9]) (n := 2) (Nat.le_of_ble_eq_true rfl)
  rw [lg_entry_eq]
  generalize (lg_sl ([.ref (a 0), .int n9]) ++ List.replicate (2 - (lg_sl ([.ref (a 0), .int n9])).length) Slot.unset).toArray = ls at hl ⊢
  have hl : lv_has ls 2 [(0, .ref (a 0)), (1, .int n9)] := hl
  have hP : va_P (dC, dI) nCl [((a 0), .inr (10, [.ref (a 1), .ref (a 2), .ref (a 3), .ref (a 4), .ref (a 5), .ref (a 6), .ref (a 7), .ref (a 8), .ref (a 9), .ref (a 10), .int 0, .int 0, .int 0, .int 0, .ref (a 11), .ref (a 12), .ref (a 13), .int 0, .int 0, .int 0]))] s.heap := hP
  have hD : va_D A [((a 0), .inr (10, [.ref (a 1), .ref (a 2), .ref (a 3), .ref (a 4), .ref (a 5), .ref (a 6), .ref (a 7), .ref (a 8), .ref (a 9), .ref (a 10), .int 0, .int 0, .int 0, .int 0, .ref (a 11), .ref (a 12), .ref (a 13), .int 0, .int 0, .int 0]))] := hD
  refine lv_aload_n hx hb dX11_out_0 rfl (lv_at hl 0 rfl) ?_
  refine va_get (D := (dC, dI)) (ci := 10) (v := .int 0) (C := RX11) (T := TX11) (N := 20) hx hb hts in_t_out_X11 hown hK hP 0 rfl rfl 11 (by decide) (hts _ (List.mem_cons_of_mem _ (List.mem_append_left _ (List.mem_append_left _ (List.mem_of_getElem? (i := 0) rfl))))) (fun _ h9 => h9) rfl dX11_out_1 ?_
  refine lv_if_eq (tgt := 43) hx hb dX11_out_4 (by decide) (fun _ => ?_) (fun c1 => False.elim (by revert c1; decide))
  refine vx_throw0 (cls := "java/lang/IndexOutOfBoundsException") (names := ["java/lang/RuntimeException", "java/lang/Exception"]) (mc := 1) (ms := 6) hx hb hl0 hown (by decide) (by decide) (hts _ (List.mem_cons_of_mem _ (List.mem_append_left _ (List.mem_append_left _ (List.mem_of_getElem? (i := 1) rfl))))) (hts _ (List.mem_cons_of_mem _ (List.mem_append_left _ (List.mem_append_left _ (List.mem_of_getElem? (i := 2) rfl))))) (vx_hat (B := [.castable "java/lang/IndexOutOfBoundsException" "java/lang/IndexOutOfBoundsException", .declares (Bundle.init0 "java/lang/RuntimeException"), .declares (Bundle.init0 "java/lang/Exception"), .declares (Bundle.init0 Bundle.tN)]) (fun w h => hts w (List.mem_cons_of_mem _ (List.mem_append_left _ (List.mem_append_right _ (List.mem_append_left _ h))))) (by decide +kernel) (vx_c (va_Nw.use (by decide +kernel) (hT.2.2.1 _ (List.mem_of_getElem? (i := 2) rfl))) (vx_c (va_Nw.use (by decide +kernel) (hT.2.2.1 _ (List.mem_of_getElem? (i := 4) rfl))) (vx_c (va_Nw.use (by decide +kernel) (hT.2.2.1 _ (List.mem_of_getElem? (i := 5) rfl))) (vx_c (va_Nw.use (by decide +kernel) (hT.2.2.1 _ (List.mem_of_getElem? (i := 6) rfl))) vx_n))))) (fun w h => List.all_eq_true.mp (by decide +kernel : (Cond.classLink RX11 194 "java/lang/IndexOutOfBoundsException" :: Cond.initialized "java/lang/IndexOutOfBoundsException" :: (vx_at0 RX11 196 "java/lang/IndexOutOfBoundsException" ["java/lang/RuntimeException", "java/lang/Exception"])).all vx_ot = true) w h) hT.1 hT.2.1 hS (hl.1.trans hml.symm) dX11_out_43 dX11_out_46 dX11_out_47 dX11_out_50 (fun x h => (hno x h).elim) (Nat.le_of_ble_eq_true rfl) (Nat.le_of_ble_eq_true rfl) (Nat.le_of_ble_eq_true rfl) (Nat.le_of_ble_eq_true rfl) hlocks (fun t _ hz hk => ⟨(), trivial, rfl, Nat.le_trans hS.1 hz, fun q hq hn => (hk q (Nat.lt_of_lt_of_le hq hS.1)).trans (hS.2.1 q hq hn)⟩) hS.2.2 (Nat.le_of_ble_eq_true rfl) (Nat.le_of_ble_eq_true rfl)
def o_t_end_n : List Cond := [.classLink RX11 127 "java/lang/IllegalArgumentException", .initialized "java/lang/IllegalArgumentException"]
theorem o_t_end_n_good : o_t_end_n.all goodWord = true := by decide +kernel
def p_t_end_n : List Cond := o_t_end_n ++ (((vx_at0 RX11 129 "java/lang/IllegalArgumentException" ["java/lang/RuntimeException", "java/lang/Exception"]).filter goodWord) ++ [])
theorem p_t_end_n_good : p_t_end_n.all goodWord = true := nb_all2 o_t_end_n_good (nb_all2 (nb_fg _) rfl)
def w_t_end_n : List Cond := .code yX11_end cX11_end 2 none :: (p_t_end_n ++ fC)
theorem w_t_end_n_good : w_t_end_n.all goodWord = true := nb_allc (by decide +kernel) (nb_all2 p_t_end_n_good fC_good)
def v0_t_end_n (cy : Nat → ClassId) (a : Nat → Nat) (n9 : Int32) : va_W := [((a 0), .inr (10, [.ref (a 1), .ref (a 2), .ref (a 3), .ref (a 4), .ref (a 5), .ref (a 6), .ref (a 7), .ref (a 8), .ref (a 9), .ref (a 10), .int 0, .int 0, .int 0, .int 0, .ref (a 11), .ref (a 12), .ref (a 13), .int 0, .int 0, .int 0]))]
set_option maxHeartbeats 40000000 in
set_option maxRecDepth 100000 in
theorem t_end_n (l : Launch) (hl0 : l.stackTraces = false) (dC : Nat → ClassId) (dI : Nat → Nat → Nat) (cy : Nat → ClassId) (k : Nat → Nat) (a : Nat → Nat) (n9 : Int32) (h1 : n9 < 0) (sz : Nat) : vx_Met l yX11_end w_t_end_n ({ frames := 6, cells := 1, slots := 6, locals := 90 }) (va_Pc [.ref (a 0), .int n9] (nInF (dC, dI) cy k sz (v0_t_end_n cy a n9))) (va_Qv (fun _ : Unit => False) (fun _ _ => True) (va_A (v0_t_end_n cy a n9) sz)) (vx_X (fun _ : Unit => True) (fun E _ _ => E = "java/lang/IllegalArgumentException") (va_A (v0_t_end_n cy a n9) sz)) 1 6 (va_A (v0_t_end_n cy a n9) sz) := by
  refine vx_ofW (cc := cX11_end) (maxL := 2) (ret := none) (by decide) rfl ?_
  intro p e s m args below meth c s₁ B hml hno hv
  obtain ⟨rfl, ⟨⟨hsz, hP, hK, hD0, hG⟩, hE⟩, hT⟩ := hv
  have hx := B.exec
  have hb := B.bytes
  have hr := B.returns
  have hts := atoms_spec (ws := w_t_end_n) B.pre
  have hown : s.vm.findClass RX11 = some m.cls := findClass_of_methodNamed B.named
  have hlocks := B.notSynchronized
  subst hsz
  have hD := hD0.self (sz := s.heap.size)
  generalize hAe : va_A (v0_t_end_n cy a n9) s.heap.size = A at hD hE hT ⊢
  have hA : ∀ q : Nat, s.heap.size ≤ q → A q := fun q h => by rw [← hAe]; exact Or.inr h
  have hS : va_S A s.heap s.heap [] := va_S.rf
  have hP : va_P (dC, dI) nCl (v0_t_end_n cy a n9) s.heap := hP
  have hl := lv_entry ([.ref (a 0), .int n9]) (n := 2) (Nat.le_of_ble_eq_true rfl)
  rw [lg_entry_eq]
  generalize (lg_sl ([.ref (a 0), .int n9]) ++ List.replicate (2 - (lg_sl ([.ref (a 0), .int n9])).length) Slot.unset).toArray = ls at hl ⊢
  have hl : lv_has ls 2 [(0, .ref (a 0)), (1, .int n9)] := hl
  have hP : va_P (dC, dI) nCl [((a 0), .inr (10, [.ref (a 1), .ref (a 2), .ref (a 3), .ref (a 4), .ref (a 5), .ref (a 6), .ref (a 7), .ref (a 8), .ref (a 9), .ref (a 10), .int 0, .int 0, .int 0, .int 0, .ref (a 11), .ref (a 12), .ref (a 13), .int 0, .int 0, .int 0]))] s.heap := hP
  have hD : va_D A [((a 0), .inr (10, [.ref (a 1), .ref (a 2), .ref (a 3), .ref (a 4), .ref (a 5), .ref (a 6), .ref (a 7), .ref (a 8), .ref (a 9), .ref (a 10), .int 0, .int 0, .int 0, .int 0, .ref (a 11), .ref (a 12), .ref (a 13), .int 0, .int 0, .int 0]))] := hD
  refine lv_iload_n hx hb dX11_end_0 rfl (lv_at hl 1 rfl) ?_
  refine lv_if_lt (tgt := 15) hx hb dX11_end_1 (by decide) (fun _ => ?_) (fun c1 => absurd h1 c1)
  refine vx_throw0 (cls := "java/lang/IllegalArgumentException") (names := ["java/lang/RuntimeException", "java/lang/Exception"]) (mc := 1) (ms := 6) hx hb hl0 hown (by decide) (by decide) (hts _ (List.mem_cons_of_mem _ (List.mem_append_left _ (List.mem_append_left _ (List.mem_of_getElem? (i := 0) rfl))))) (hts _ (List.mem_cons_of_mem _ (List.mem_append_left _ (List.mem_append_left _ (List.mem_of_getElem? (i := 1) rfl))))) (vx_hat (B := [.castable "java/lang/IllegalArgumentException" "java/lang/IllegalArgumentException", .declares (Bundle.init0 "java/lang/RuntimeException"), .declares (Bundle.init0 "java/lang/Exception"), .declares (Bundle.init0 Bundle.tN)]) (fun w h => hts w (List.mem_cons_of_mem _ (List.mem_append_left _ (List.mem_append_right _ (List.mem_append_left _ h))))) (by decide +kernel) (vx_c (va_Nw.use (by decide +kernel) (hT.2.2.1 _ (List.mem_of_getElem? (i := 1) rfl))) (vx_c (va_Nw.use (by decide +kernel) (hT.2.2.1 _ (List.mem_of_getElem? (i := 4) rfl))) (vx_c (va_Nw.use (by decide +kernel) (hT.2.2.1 _ (List.mem_of_getElem? (i := 5) rfl))) (vx_c (va_Nw.use (by decide +kernel) (hT.2.2.1 _ (List.mem_of_getElem? (i := 6) rfl))) vx_n))))) (fun w h => List.all_eq_true.mp (by decide +kernel : (Cond.classLink RX11 127 "java/lang/IllegalArgumentException" :: Cond.initialized "java/lang/IllegalArgumentException" :: (vx_at0 RX11 129 "java/lang/IllegalArgumentException" ["java/lang/RuntimeException", "java/lang/Exception"])).all vx_ot = true) w h) hT.1 hT.2.1 hS (hl.1.trans hml.symm) dX11_end_15 dX11_end_18 dX11_end_19 dX11_end_22 (fun x h => (hno x h).elim) (Nat.le_of_ble_eq_true rfl) (Nat.le_of_ble_eq_true rfl) (Nat.le_of_ble_eq_true rfl) (Nat.le_of_ble_eq_true rfl) hlocks (fun t _ hz hk => ⟨(), trivial, rfl, Nat.le_trans hS.1 hz, fun q hq hn => (hk q (Nat.lt_of_lt_of_le hq hS.1)).trans (hS.2.1 q hq hn)⟩) hS.2.2 (Nat.le_of_ble_eq_true rfl) (Nat.le_of_ble_eq_true rfl)
def o_t_end_p : List Cond := [.fieldLink RX11 72 "SetHouse" "lex" "LSetHouse$Lexer;", .classLink RX11 127 "java/lang/IllegalArgumentException", .initialized "java/lang/IllegalArgumentException"]
theorem o_t_end_p_good : o_t_end_p.all goodWord = true := by decide +kernel
def p_t_end_p : List Cond := o_t_end_p ++ (((vx_at0 RX11 129 "java/lang/IllegalArgumentException" ["java/lang/RuntimeException", "java/lang/Exception"]).filter goodWord) ++ [])
theorem p_t_end_p_good : p_t_end_p.all goodWord = true := nb_all2 o_t_end_p_good (nb_all2 (nb_fg _) rfl)
def w_t_end_p : List Cond := .code yX11_end cX11_end 2 none :: (p_t_end_p ++ fC)
theorem w_t_end_p_good : w_t_end_p.all goodWord = true := nb_allc (by decide +kernel) (nb_all2 p_t_end_p_good fC_good)
theorem in_t_end_p_X2 : ∀ w ∈ wsX20, w ∈ w_t_end_p := fun _ h => List.mem_cons_of_mem _ (List.mem_append_right _ (List.mem_append_right _ (List.mem_append_right _ (List.mem_append_left _ h))))
theorem in_t_end_p_X11 : ∀ w ∈ wsX110, w ∈ w_t_end_p := fun _ h => List.mem_cons_of_mem _ (List.mem_append_right _ (List.mem_append_right _ (List.mem_append_right _ (List.mem_append_right _ (List.mem_append_right _ (List.mem_append_right _ (List.mem_append_right _ (List.mem_append_right _ (List.mem_append_right _ (List.mem_append_right _ (List.mem_append_right _ h)))))))))))
def v0_t_end_p (cy : Nat → ClassId) (a : Nat → Nat) (n9 : Int32) : va_W := [((a 0), .inr (10, [.ref (a 2), .ref (a 3), .ref (a 4), .ref (a 5), .ref (a 6), .ref (a 7), .ref (a 1), .ref (a 8), .ref (a 9), .ref (a 10), .int 0, .int 0, .int 0, .int 0, .ref (a 11), .ref (a 12), .ref (a 13), .int 0, .int 0, .int 0])), ((a 1), .inr (2, [.ref (a 14), .int 0, .int 0, .int 0, .int 0, .long 0, .long 0, .ref (a 15)]))]
set_option maxHeartbeats 40000000 in
set_option maxRecDepth 100000 in
theorem t_end_p (l : Launch) (hl0 : l.stackTraces = false) (dC : Nat → ClassId) (dI : Nat → Nat → Nat) (cy : Nat → ClassId) (k : Nat → Nat) (a : Nat → Nat) (n9 : Int32) (h1 : ¬ n9 < 0) (h2 : ¬ n9 ≤ 0) (sz : Nat) : vx_Met l yX11_end w_t_end_p ({ frames := 6, cells := 1, slots := 6, locals := 90 }) (va_Pc [.ref (a 0), .int n9] (nInF (dC, dI) cy k sz (v0_t_end_p cy a n9))) (va_Qv (fun _ : Unit => False) (fun _ _ => True) (va_A (v0_t_end_p cy a n9) sz)) (vx_X (fun _ : Unit => True) (fun E _ _ => E = "java/lang/IllegalArgumentException") (va_A (v0_t_end_p cy a n9) sz)) 1 6 (va_A (v0_t_end_p cy a n9) sz) := by
  refine vx_ofW (cc := cX11_end) (maxL := 2) (ret := none) (by decide) rfl ?_
  intro p e s m args below meth c s₁ B hml hno hv
  obtain ⟨rfl, ⟨⟨hsz, hP, hK, hD0, hG⟩, hE⟩, hT⟩ := hv
  have hx := B.exec
  have hb := B.bytes
  have hr := B.returns
  have hts := atoms_spec (ws := w_t_end_p) B.pre
  have hown : s.vm.findClass RX11 = some m.cls := findClass_of_methodNamed B.named
  have hlocks := B.notSynchronized
  subst hsz
  have hD := hD0.self (sz := s.heap.size)
  generalize hAe : va_A (v0_t_end_p cy a n9) s.heap.size = A at hD hE hT ⊢
  have hA : ∀ q : Nat, s.heap.size ≤ q → A q := fun q h => by rw [← hAe]; exact Or.inr h
  have hS : va_S A s.heap s.heap [] := va_S.rf
  have hP : va_P (dC, dI) nCl (v0_t_end_p cy a n9) s.heap := hP
  have hl := lv_entry ([.ref (a 0), .int n9]) (n := 2) (Nat.le_of_ble_eq_true rfl)
  rw [lg_entry_eq]
  generalize (lg_sl ([.ref (a 0), .int n9]) ++ List.replicate (2 - (lg_sl ([.ref (a 0), .int n9])).length) Slot.unset).toArray = ls at hl ⊢
  have hl : lv_has ls 2 [(0, .ref (a 0)), (1, .int n9)] := hl
  have hP : va_P (dC, dI) nCl [((a 0), .inr (10, [.ref (a 2), .ref (a 3), .ref (a 4), .ref (a 5), .ref (a 6), .ref (a 7), .ref (a 1), .ref (a 8), .ref (a 9), .ref (a 10), .int 0, .int 0, .int 0, .int 0, .ref (a 11), .ref (a 12), .ref (a 13), .int 0, .int 0, .int 0])), ((a 1), .inr (2, [.ref (a 14), .int 0, .int 0, .int 0, .int 0, .long 0, .long 0, .ref (a 15)]))] s.heap := hP
  have hD : va_D A [((a 0), .inr (10, [.ref (a 2), .ref (a 3), .ref (a 4), .ref (a 5), .ref (a 6), .ref (a 7), .ref (a 1), .ref (a 8), .ref (a 9), .ref (a 10), .int 0, .int 0, .int 0, .int 0, .ref (a 11), .ref (a 12), .ref (a 13), .int 0, .int 0, .int 0])), ((a 1), .inr (2, [.ref (a 14), .int 0, .int 0, .int 0, .int 0, .long 0, .long 0, .ref (a 15)]))] := hD
  refine lv_iload_n hx hb dX11_end_0 rfl (lv_at hl 1 rfl) ?_
  refine lv_if_lt (tgt := 15) hx hb dX11_end_1 (by decide) (fun c1 => absurd c1 h1) (fun _ => ?_)
  refine lv_iload_n hx hb dX11_end_4 rfl (lv_at hl 1 rfl) ?_
  refine lv_aload_n hx hb dX11_end_5 rfl (lv_at hl 0 rfl) ?_
  refine va_get (D := (dC, dI)) (ci := 10) (v := .ref (a 1)) (C := RX11) (T := TX11) (N := 20) hx hb hts in_t_end_p_X11 hown hK hP 0 rfl rfl 6 (by decide) (hts _ (List.mem_cons_of_mem _ (List.mem_append_left _ (List.mem_append_left _ (List.mem_of_getElem? (i := 0) rfl))))) (fun _ h9 => h9) rfl dX11_end_6 ?_
  refine va_getN (D := (dC, dI)) (ci := 2) (v := .int 0) (C := RX2) (T := TX2) (N := 8) hx hb hts in_t_end_p_X2 hown hK hP 1 rfl rfl 1 (by decide) (va_Nw.use rfl (hG.1 _ (List.mem_of_getElem? (i := 51) rfl))) (fun _ h9 => h9) rfl dX11_end_9 ?_
  refine lv_icmp_le (tgt := 23) hx hb dX11_end_12 (by decide) (fun c1 => absurd c1 h2) (fun _ => ?_)
  refine vx_throw0 (cls := "java/lang/IllegalArgumentException") (names := ["java/lang/RuntimeException", "java/lang/Exception"]) (mc := 1) (ms := 6) hx hb hl0 hown (by decide) (by decide) (hts _ (List.mem_cons_of_mem _ (List.mem_append_left _ (List.mem_append_left _ (List.mem_of_getElem? (i := 1) rfl))))) (hts _ (List.mem_cons_of_mem _ (List.mem_append_left _ (List.mem_append_left _ (List.mem_of_getElem? (i := 2) rfl))))) (vx_hat (B := [.castable "java/lang/IllegalArgumentException" "java/lang/IllegalArgumentException", .declares (Bundle.init0 "java/lang/RuntimeException"), .declares (Bundle.init0 "java/lang/Exception"), .declares (Bundle.init0 Bundle.tN)]) (fun w h => hts w (List.mem_cons_of_mem _ (List.mem_append_left _ (List.mem_append_right _ (List.mem_append_left _ h))))) (by decide +kernel) (vx_c (va_Nw.use (by decide +kernel) (hT.2.2.1 _ (List.mem_of_getElem? (i := 1) rfl))) (vx_c (va_Nw.use (by decide +kernel) (hT.2.2.1 _ (List.mem_of_getElem? (i := 4) rfl))) (vx_c (va_Nw.use (by decide +kernel) (hT.2.2.1 _ (List.mem_of_getElem? (i := 5) rfl))) (vx_c (va_Nw.use (by decide +kernel) (hT.2.2.1 _ (List.mem_of_getElem? (i := 6) rfl))) vx_n))))) (fun w h => List.all_eq_true.mp (by decide +kernel : (Cond.classLink RX11 127 "java/lang/IllegalArgumentException" :: Cond.initialized "java/lang/IllegalArgumentException" :: (vx_at0 RX11 129 "java/lang/IllegalArgumentException" ["java/lang/RuntimeException", "java/lang/Exception"])).all vx_ot = true) w h) hT.1 hT.2.1 hS (hl.1.trans hml.symm) dX11_end_15 dX11_end_18 dX11_end_19 dX11_end_22 (fun x h => (hno x h).elim) (Nat.le_of_ble_eq_true rfl) (Nat.le_of_ble_eq_true rfl) (Nat.le_of_ble_eq_true rfl) (Nat.le_of_ble_eq_true rfl) hlocks (fun t _ hz hk => ⟨(), trivial, rfl, Nat.le_trans hS.1 hz, fun q hq hn => (hk q (Nat.lt_of_lt_of_le hq hS.1)).trans (hS.2.1 q hq hn)⟩) hS.2.2 (Nat.le_of_ble_eq_true rfl) (Nat.le_of_ble_eq_true rfl)
def o_t_state_n : List Cond := [.classLink RX11 194 "java/lang/IndexOutOfBoundsException", .initialized "java/lang/IndexOutOfBoundsException"]
theorem o_t_state_n_good : o_t_state_n.all goodWord = true := by decide +kernel
def p_t_state_n : List Cond := o_t_state_n ++ (((vx_at0 RX11 196 "java/lang/IndexOutOfBoundsException" ["java/lang/RuntimeException", "java/lang/Exception"]).filter goodWord) ++ [])
theorem p_t_state_n_good : p_t_state_n.all goodWord = true := nb_all2 o_t_state_n_good (nb_all2 (nb_fg _) rfl)
def w_t_state_n : List Cond := .code yX11_state cX11_state 3 (some .int) :: (p_t_state_n ++ fC)
theorem w_t_state_n_good : w_t_state_n.all goodWord = true := nb_allc (by decide +kernel) (nb_all2 p_t_state_n_good fC_good)
def v0_t_state_n (cy : Nat → ClassId) (a : Nat → Nat) (n9 : Int32) : va_W := [((a 0), .inr (10, [.ref (a 1), .ref (a 2), .ref (a 3), .ref (a 4), .ref (a 5), .ref (a 6), .ref (a 7), .ref (a 8), .ref (a 9), .ref (a 10), .int 0, .int 0, .int 0, .int 0, .ref (a 11), .ref (a 12), .ref (a 13), .int 0, .int 0, .int 0]))]
set_option maxHeartbeats 40000000 in
set_option maxRecDepth 100000 in
theorem t_state_n (l : Launch) (hl0 : l.stackTraces = false) (dC : Nat → ClassId) (dI : Nat → Nat → Nat) (cy : Nat → ClassId) (k : Nat → Nat) (a : Nat → Nat) (n9 : Int32) (h1 : n9 < 0) (sz : Nat) : vx_Met l yX11_state w_t_state_n ({ frames := 6, cells := 1, slots := 6, locals := 90 }) (va_Pc [.ref (a 0), .int n9] (nInF (dC, dI) cy k sz (v0_t_state_n cy a n9))) (va_Qi (fun (_ : Int32) (_ : Unit) => False) (fun _ _ => True) (va_A (v0_t_state_n cy a n9) sz)) (vx_X (fun _ : Unit => True) (fun E _ _ => E = "java/lang/IndexOutOfBoundsException") (va_A (v0_t_state_n cy a n9) sz)) 1 6 (va_A (v0_t_state_n cy a n9) sz) := by
  refine vx_ofW (cc := cX11_state) (maxL := 3) (ret := (some .int)) (by decide) rfl ?_
  intro p e s m args below meth c s₁ B hml hno hv
  obtain ⟨rfl, ⟨⟨hsz, hP, hK, hD0, hG⟩, hE⟩, hT⟩ := hv
  have hx := B.exec
  have hb := B.bytes
  have hr := B.returns
  have hts := atoms_spec (ws := w_t_state_n) B.pre
  have hown : s.vm.findClass RX11 = some m.cls := findClass_of_methodNamed B.named
  have hlocks := B.notSynchronized
  subst hsz
  have hD := hD0.self (sz := s.heap.size)
  generalize hAe : va_A (v0_t_state_n cy a n9) s.heap.size = A at hD hE hT ⊢
  have hA : ∀ q : Nat, s.heap.size ≤ q → A q := fun q h => by rw [← hAe]; exact Or.inr h
  have hS : va_S A s.heap s.heap [] := va_S.rf
  have hP : va_P (dC, dI) nCl (v0_t_state_n cy a n9) s.heap := hP
  have hl := lv_entry ([.ref (a 0), .int n9]) (n := 3) (Nat.le_of_ble_eq_true rfl)
  rw [lg_entry_eq]
  generalize (lg_sl ([.ref (a 0), .int n9]) ++ List.replicate (3 - (lg_sl ([.ref (a 0), .int n9])).length) Slot.unset).toArray = ls at hl ⊢
  have hl : lv_has ls 3 [(0, .ref (a 0)), (1, .int n9)] := hl
  have hP : va_P (dC, dI) nCl [((a 0), .inr (10, [.ref (a 1), .ref (a 2), .ref (a 3), .ref (a 4), .ref (a 5), .ref (a 6), .ref (a 7), .ref (a 8), .ref (a 9), .ref (a 10), .int 0, .int 0, .int 0, .int 0, .ref (a 11), .ref (a 12), .ref (a 13), .int 0, .int 0, .int 0]))] s.heap := hP
  have hD : va_D A [((a 0), .inr (10, [.ref (a 1), .ref (a 2), .ref (a 3), .ref (a 4), .ref (a 5), .ref (a 6), .ref (a 7), .ref (a 8), .ref (a 9), .ref (a 10), .int 0, .int 0, .int 0, .int 0, .ref (a 11), .ref (a 12), .ref (a 13), .int 0, .int 0, .int 0]))] := hD
  refine lv_iload_n hx hb dX11_state_0 rfl (lv_at hl 1 rfl) ?_
  refine lv_if_lt (tgt := 10) hx hb dX11_state_1 (by decide) (fun _ => ?_) (fun c1 => absurd h1 c1)
  refine vx_throw0 (cls := "java/lang/IndexOutOfBoundsException") (names := ["java/lang/RuntimeException", "java/lang/Exception"]) (mc := 1) (ms := 6) hx hb hl0 hown (by decide) (by decide) (hts _ (List.mem_cons_of_mem _ (List.mem_append_left _ (List.mem_append_left _ (List.mem_of_getElem? (i := 0) rfl))))) (hts _ (List.mem_cons_of_mem _ (List.mem_append_left _ (List.mem_append_left _ (List.mem_of_getElem? (i := 1) rfl))))) (vx_hat (B := [.castable "java/lang/IndexOutOfBoundsException" "java/lang/IndexOutOfBoundsException", .declares (Bundle.init0 "java/lang/RuntimeException"), .declares (Bundle.init0 "java/lang/Exception"), .declares (Bundle.init0 Bundle.tN)]) (fun w h => hts w (List.mem_cons_of_mem _ (List.mem_append_left _ (List.mem_append_right _ (List.mem_append_left _ h))))) (by decide +kernel) (vx_c (va_Nw.use (by decide +kernel) (hT.2.2.1 _ (List.mem_of_getElem? (i := 2) rfl))) (vx_c (va_Nw.use (by decide +kernel) (hT.2.2.1 _ (List.mem_of_getElem? (i := 4) rfl))) (vx_c (va_Nw.use (by decide +kernel) (hT.2.2.1 _ (List.mem_of_getElem? (i := 5) rfl))) (vx_c (va_Nw.use (by decide +kernel) (hT.2.2.1 _ (List.mem_of_getElem? (i := 6) rfl))) vx_n))))) (fun w h => List.all_eq_true.mp (by decide +kernel : (Cond.classLink RX11 194 "java/lang/IndexOutOfBoundsException" :: Cond.initialized "java/lang/IndexOutOfBoundsException" :: (vx_at0 RX11 196 "java/lang/IndexOutOfBoundsException" ["java/lang/RuntimeException", "java/lang/Exception"])).all vx_ot = true) w h) hT.1 hT.2.1 hS (hl.1.trans hml.symm) dX11_state_10 dX11_state_13 dX11_state_14 dX11_state_17 (fun x h => (hno x h).elim) (Nat.le_of_ble_eq_true rfl) (Nat.le_of_ble_eq_true rfl) (Nat.le_of_ble_eq_true rfl) (Nat.le_of_ble_eq_true rfl) hlocks (fun t _ hz hk => ⟨(), trivial, rfl, Nat.le_trans hS.1 hz, fun q hq hn => (hk q (Nat.lt_of_lt_of_le hq hS.1)).trans (hS.2.1 q hq hn)⟩) hS.2.2 (Nat.le_of_ble_eq_true rfl) (Nat.le_of_ble_eq_true rfl)
def o_t_state_p : List Cond := [.classLink RX11 194 "java/lang/IndexOutOfBoundsException", .initialized "java/lang/IndexOutOfBoundsException"]
theorem o_t_state_p_good : o_t_state_p.all goodWord = true := by decide +kernel
def p_t_state_p : List Cond := o_t_state_p ++ (((vx_at0 RX11 196 "java/lang/IndexOutOfBoundsException" ["java/lang/RuntimeException", "java/lang/Exception"]).filter goodWord) ++ [])
theorem p_t_state_p_good : p_t_state_p.all goodWord = true := nb_all2 o_t_state_p_good (nb_all2 (nb_fg _) rfl)
def w_t_state_p : List Cond := .code yX11_state cX11_state 3 (some .int) :: (p_t_state_p ++ fC)
theorem w_t_state_p_good : w_t_state_p.all goodWord = true := nb_allc (by decide +kernel) (nb_all2 p_t_state_p_good fC_good)
def v0_t_state_p (cy : Nat → ClassId) (a : Nat → Nat) (n9 : Int32) : va_W := [((a 0), .inr (10, [.ref (a 1), .ref (a 2), .ref (a 3), .ref (a 4), .ref (a 5), .ref (a 6), .ref (a 7), .ref (a 8), .ref (a 9), .ref (a 10), .int 0, .int 0, .int 0, .int 0, .ref (a 11), .ref (a 12), .ref (a 13), .int 0, .int 0, .int 0]))]
set_option maxHeartbeats 40000000 in
set_option maxRecDepth 100000 in
theorem t_state_p (l : Launch) (hl0 : l.stackTraces = false) (dC : Nat → ClassId) (dI : Nat → Nat → Nat) (cy : Nat → ClassId) (k : Nat → Nat) (a : Nat → Nat) (n9 : Int32) (h1 : ¬ n9 < 0) (h2 : ¬ n9 ≤ 9) (sz : Nat) : vx_Met l yX11_state w_t_state_p ({ frames := 6, cells := 1, slots := 6, locals := 90 }) (va_Pc [.ref (a 0), .int n9] (nInF (dC, dI) cy k sz (v0_t_state_p cy a n9))) (va_Qi (fun (_ : Int32) (_ : Unit) => False) (fun _ _ => True) (va_A (v0_t_state_p cy a n9) sz)) (vx_X (fun _ : Unit => True) (fun E _ _ => E = "java/lang/IndexOutOfBoundsException") (va_A (v0_t_state_p cy a n9) sz)) 1 6 (va_A (v0_t_state_p cy a n9) sz) := by
  refine vx_ofW (cc := cX11_state) (maxL := 3) (ret := (some .int)) (by decide) rfl ?_
  intro p e s m args below meth c s₁ B hml hno hv
  obtain ⟨rfl, ⟨⟨hsz, hP, hK, hD0, hG⟩, hE⟩, hT⟩ := hv
  have hx := B.exec
  have hb := B.bytes
  have hr := B.returns
  have hts := atoms_spec (ws := w_t_state_p) B.pre
  have hown : s.vm.findClass RX11 = some m.cls := findClass_of_methodNamed B.named
  have hlocks := B.notSynchronized
  subst hsz
  have hD := hD0.self (sz := s.heap.size)
  generalize hAe : va_A (v0_t_state_p cy a n9) s.heap.size = A at hD hE hT ⊢
  have hA : ∀ q : Nat, s.heap.size ≤ q → A q := fun q h => by rw [← hAe]; exact Or.inr h
  have hS : va_S A s.heap s.heap [] := va_S.rf
  have hP : va_P (dC, dI) nCl (v0_t_state_p cy a n9) s.heap := hP
  have hl := lv_entry ([.ref (a 0), .int n9]) (n := 3) (Nat.le_of_ble_eq_true rfl)
  rw [lg_entry_eq]
  generalize (lg_sl ([.ref (a 0), .int n9]) ++ List.replicate (3 - (lg_sl ([.ref (a 0), .int n9])).length) Slot.unset).toArray = ls at hl ⊢
  have hl : lv_has ls 3 [(0, .ref (a 0)), (1, .int n9)] := hl
  have hP : va_P (dC, dI) nCl [((a 0), .inr (10, [.ref (a 1), .ref (a 2), .ref (a 3), .ref (a 4), .ref (a 5), .ref (a 6), .ref (a 7), .ref (a 8), .ref (a 9), .ref (a 10), .int 0, .int 0, .int 0, .int 0, .ref (a 11), .ref (a 12), .ref (a 13), .int 0, .int 0, .int 0]))] s.heap := hP
  have hD : va_D A [((a 0), .inr (10, [.ref (a 1), .ref (a 2), .ref (a 3), .ref (a 4), .ref (a 5), .ref (a 6), .ref (a 7), .ref (a 8), .ref (a 9), .ref (a 10), .int 0, .int 0, .int 0, .int 0, .ref (a 11), .ref (a 12), .ref (a 13), .int 0, .int 0, .int 0]))] := hD
  refine lv_iload_n hx hb dX11_state_0 rfl (lv_at hl 1 rfl) ?_
  refine lv_if_lt (tgt := 10) hx hb dX11_state_1 (by decide) (fun c1 => absurd c1 h1) (fun _ => ?_)
  refine lv_iload_n hx hb dX11_state_4 rfl (lv_at hl 1 rfl) ?_
  refine lv_bipush (v := 9) hx hb dX11_state_5 (by decide) ?_
  refine lv_icmp_le (tgt := 18) hx hb dX11_state_7 (by decide) (fun c1 => absurd c1 h2) (fun _ => ?_)
  refine vx_throw0 (cls := "java/lang/IndexOutOfBoundsException") (names := ["java/lang/RuntimeException", "java/lang/Exception"]) (mc := 1) (ms := 6) hx hb hl0 hown (by decide) (by decide) (hts _ (List.mem_cons_of_mem _ (List.mem_append_left _ (List.mem_append_left _ (List.mem_of_getElem? (i := 0) rfl))))) (hts _ (List.mem_cons_of_mem _ (List.mem_append_left _ (List.mem_append_left _ (List.mem_of_getElem? (i := 1) rfl))))) (vx_hat (B := [.castable "java/lang/IndexOutOfBoundsException" "java/lang/IndexOutOfBoundsException", .declares (Bundle.init0 "java/lang/RuntimeException"), .declares (Bundle.init0 "java/lang/Exception"), .declares (Bundle.init0 Bundle.tN)]) (fun w h => hts w (List.mem_cons_of_mem _ (List.mem_append_left _ (List.mem_append_right _ (List.mem_append_left _ h))))) (by decide +kernel) (vx_c (va_Nw.use (by decide +kernel) (hT.2.2.1 _ (List.mem_of_getElem? (i := 2) rfl))) (vx_c (va_Nw.use (by decide +kernel) (hT.2.2.1 _ (List.mem_of_getElem? (i := 4) rfl))) (vx_c (va_Nw.use (by decide +kernel) (hT.2.2.1 _ (List.mem_of_getElem? (i := 5) rfl))) (vx_c (va_Nw.use (by decide +kernel) (hT.2.2.1 _ (List.mem_of_getElem? (i := 6) rfl))) vx_n))))) (fun w h => List.all_eq_true.mp (by decide +kernel : (Cond.classLink RX11 194 "java/lang/IndexOutOfBoundsException" :: Cond.initialized "java/lang/IndexOutOfBoundsException" :: (vx_at0 RX11 196 "java/lang/IndexOutOfBoundsException" ["java/lang/RuntimeException", "java/lang/Exception"])).all vx_ot = true) w h) hT.1 hT.2.1 hS (hl.1.trans hml.symm) dX11_state_10 dX11_state_13 dX11_state_14 dX11_state_17 (fun x h => (hno x h).elim) (Nat.le_of_ble_eq_true rfl) (Nat.le_of_ble_eq_true rfl) (Nat.le_of_ble_eq_true rfl) (Nat.le_of_ble_eq_true rfl) hlocks (fun t _ hz hk => ⟨(), trivial, rfl, Nat.le_trans hS.1 hz, fun q hq hn => (hk q (Nat.lt_of_lt_of_le hq hS.1)).trans (hS.2.1 q hq hn)⟩) hS.2.2 (Nat.le_of_ble_eq_true rfl) (Nat.le_of_ble_eq_true rfl)
def o_t_state_i : List Cond := [.methodLink RX11 175 yX11_wantRun, .instanceMethod yX11_wantRun, .selects RX11 yX11_wantRun yX11_wantRun, .initialized RX11]
theorem o_t_state_i_good : o_t_state_i.all goodWord = true := by decide +kernel
def p_t_state_i : List Cond := o_t_state_i ++ ((.code yX11_wantRun cX11_wantRun 1 none :: p_t_wantRun) ++ [])
theorem p_t_state_i_good : p_t_state_i.all goodWord = true := nb_all2 o_t_state_i_good (nb_all2 (nb_allc (by decide +kernel) p_t_wantRun_good) rfl)
def w_t_state_i : List Cond := .code yX11_state cX11_state 3 (some .int) :: (p_t_state_i ++ fC)
theorem w_t_state_i_good : w_t_state_i.all goodWord = true := nb_allc (by decide +kernel) (nb_all2 p_t_state_i_good fC_good)
theorem gg_t_state_i_t_wantRun : GoodIn w_t_state_i w_t_wantRun := goodIn_sub (fun w h => (List.mem_cons.mp h).elim (fun e => (List.mem_cons_of_mem _ (List.mem_append_left _ (List.mem_append_right _ (List.mem_append_left _ (List.mem_cons.mpr (Or.inl e))))))) (fun h => (List.mem_append.mp h).elim (fun h => (List.mem_cons_of_mem _ (List.mem_append_left _ (List.mem_append_right _ (List.mem_append_left _ (List.mem_cons_of_mem _ h)))))) (fun h => List.mem_cons_of_mem _ (List.mem_append_right _ h)))) w_t_wantRun_good
theorem g_t_state_i_175_t_wantRun : GoodIn w_t_state_i (wsV RX11 175 RX11 yX11_wantRun w_t_wantRun) := goodIn_app (nb_g4 (List.mem_cons_of_mem _ (List.mem_append_left _ (List.mem_append_left _ (List.mem_of_getElem? (i := 0) rfl)))) (List.mem_cons_of_mem _ (List.mem_append_left _ (List.mem_append_left _ (List.mem_of_getElem? (i := 1) rfl)))) (List.mem_cons_of_mem _ (List.mem_append_left _ (List.mem_append_left _ (List.mem_of_getElem? (i := 2) rfl)))) (List.mem_cons_of_mem _ (List.mem_append_left _ (List.mem_append_left _ (List.mem_of_getElem? (i := 3) rfl)))) (by decide +kernel)) gg_t_state_i_t_wantRun
def v0_t_state_i (cy : Nat → ClassId) (a : Nat → Nat) (n9 : Int32) : va_W := [((a 0), .inr (10, [.ref (a 1), .ref (a 2), .ref (a 3), .ref (a 4), .ref (a 5), .ref (a 6), .ref (a 7), .ref (a 8), .ref (a 9), .ref (a 10), .int 0, .int 0, .int 0, .int 0, .ref (a 11), .ref (a 12), .ref (a 13), .int 0, .int 0, .int 0]))]
set_option maxHeartbeats 40000000 in
set_option maxRecDepth 100000 in
theorem t_state_i (l : Launch) (hl0 : l.stackTraces = false) (dC : Nat → ClassId) (dI : Nat → Nat → Nat) (cy : Nat → ClassId) (k : Nat → Nat) (a : Nat → Nat) (n9 : Int32) (h1 : ¬ n9 < 0) (h2 : n9 ≤ 9) (sz : Nat) : vx_Met l yX11_state w_t_state_i ({ frames := 7, cells := 1, slots := 6, locals := 110 }) (va_Pc [.ref (a 0), .int n9] (nInF (dC, dI) cy k sz (v0_t_state_i cy a n9))) (va_Qi (fun (_ : Int32) (_ : Unit) => False) (fun _ _ => True) (va_A (v0_t_state_i cy a n9) sz)) (vx_X (fun _ : Unit => True) (fun E _ _ => E = "java/lang/IllegalStateException") (va_A (v0_t_state_i cy a n9) sz)) 1 6 (va_A (v0_t_state_i cy a n9) sz) := by
  refine vx_ofW (cc := cX11_state) (maxL := 3) (ret := (some .int)) (by decide) rfl ?_
  intro p e s m args below meth c s₁ B hml hno hv
  obtain ⟨rfl, ⟨⟨hsz, hP, hK, hD0, hG⟩, hE⟩, hT⟩ := hv
  have hx := B.exec
  have hb := B.bytes
  have hr := B.returns
  have hts := atoms_spec (ws := w_t_state_i) B.pre
  have hown : s.vm.findClass RX11 = some m.cls := findClass_of_methodNamed B.named
  have hlocks := B.notSynchronized
  subst hsz
  have hD := hD0.self (sz := s.heap.size)
  generalize hAe : va_A (v0_t_state_i cy a n9) s.heap.size = A at hD hE hT ⊢
  have hA : ∀ q : Nat, s.heap.size ≤ q → A q := fun q h => by rw [← hAe]; exact Or.inr h
  have hS : va_S A s.heap s.heap [] := va_S.rf
  have hP : va_P (dC, dI) nCl (v0_t_state_i cy a n9) s.heap := hP
  have hl := lv_entry ([.ref (a 0), .int n9]) (n := 3) (Nat.le_of_ble_eq_true rfl)
  rw [lg_entry_eq]
  generalize (lg_sl ([.ref (a 0), .int n9]) ++ List.replicate (3 - (lg_sl ([.ref (a 0), .int n9])).length) Slot.unset).toArray = ls at hl ⊢
  have hl : lv_has ls 3 [(0, .ref (a 0)), (1, .int n9)] := hl
  have hP : va_P (dC, dI) nCl [((a 0), .inr (10, [.ref (a 1), .ref (a 2), .ref (a 3), .ref (a 4), .ref (a 5), .ref (a 6), .ref (a 7), .ref (a 8), .ref (a 9), .ref (a 10), .int 0, .int 0, .int 0, .int 0, .ref (a 11), .ref (a 12), .ref (a 13), .int 0, .int 0, .int 0]))] s.heap := hP
  have hD : va_D A [((a 0), .inr (10, [.ref (a 1), .ref (a 2), .ref (a 3), .ref (a 4), .ref (a 5), .ref (a 6), .ref (a 7), .ref (a 8), .ref (a 9), .ref (a 10), .int 0, .int 0, .int 0, .int 0, .ref (a 11), .ref (a 12), .ref (a 13), .int 0, .int 0, .int 0]))] := hD
  refine lv_iload_n hx hb dX11_state_0 rfl (lv_at hl 1 rfl) ?_
  refine lv_if_lt (tgt := 10) hx hb dX11_state_1 (by decide) (fun c1 => absurd c1 h1) (fun _ => ?_)
  refine lv_iload_n hx hb dX11_state_4 rfl (lv_at hl 1 rfl) ?_
  refine lv_bipush (v := 9) hx hb dX11_state_5 (by decide) ?_
  refine lv_icmp_le (tgt := 18) hx hb dX11_state_7 (by decide) (fun _ => ?_) (fun c1 => absurd h2 c1)
  refine lv_aload_n hx hb dX11_state_18 rfl (lv_at hl 0 rfl) ?_
  have hPc := hP.sub (ws' := [((a 0), .inr (10, [.ref (a 1), .ref (a 2), .ref (a 3), .ref (a 4), .ref (a 5), .ref (a 6), .ref (a 7), .ref (a 8), .ref (a 9), .ref (a 10), .int 0, .int 0, .int 0, .int 0, .ref (a 11), .ref (a 12), .ref (a 13), .int 0, .int 0, .int 0]))]) [0] rfl
  have hPc : va_P (dC, dI) nCl (v0_t_wantRun cy (fun j9 => [(a 0), (a 1), (a 2), (a 3), (a 4), (a 5), (a 6), (a 7), (a 8), (a 9), (a 10), (a 11), (a 12), (a 13)].getD j9 0)) s.heap := hPc
  have hDc := hD.sub (ws' := [((a 0), .inr (10, [.ref (a 1), .ref (a 2), .ref (a 3), .ref (a 4), .ref (a 5), .ref (a 6), .ref (a 7), .ref (a 8), .ref (a 9), .ref (a 10), .int 0, .int 0, .int 0, .int 0, .ref (a 11), .ref (a 12), .ref (a 13), .int 0, .int 0, .int 0]))]) [0] (by decide) rfl
  have hDc : va_D A (v0_t_wantRun cy (fun j9 => [(a 0), (a 1), (a 2), (a 3), (a 4), (a 5), (a 6), (a 7), (a 8), (a 9), (a 10), (a 11), (a 12), (a 13)].getD j9 0)) := hDc
  have hFc := va_free (wc := (v0_t_wantRun cy (fun j9 => [(a 0), (a 1), (a 2), (a 3), (a 4), (a 5), (a 6), (a 7), (a 8), (a 9), (a 10), (a 11), (a 12), (a 13)].getD j9 0))) hD hS hA [0] rfl
  exact vx_callv (vx_runV (As := []) (rest := []) ⟨hx, hb, hml, hown, hts⟩ (t_wantRun l hl0 dC dI cy k (fun j9 => [(a 0), (a 1), (a 2), (a 3), (a 4), (a 5), (a 6), (a 7), (a 8), (a 9), (a 10), (a 11), (a 12), (a 13)].getD j9 0) s.heap.size) (cwV 0 hts g_t_state_i_175_t_wantRun rfl rfl rfl (by decide +kernel) ⟨Nat.le_of_ble_eq_true rfl, Nat.le_of_ble_eq_true rfl⟩) ⟨nb_blindF, va_recv hK hPc (ci := 10) (q0 := 0) rfl rfl, fun U hU hW => ⟨rfl, ⟨⟨by rw [hU], by rw [hU]; exact hPc, va_K.moved hW.alike hK, hDc.weaken (fun _ _ _ _ => trivial), hG.warm hW⟩, nE.to hE hS hW hU hFc⟩, nT.to hT hS hW hU hFc⟩⟩ rfl rfl hl.1 rfl (lv_room (Nat.le_of_ble_eq_true rfl)) dX11_state_19 ⟨Nat.le_of_ble_eq_true rfl, Nat.le_of_ble_eq_true rfl⟩) hS (fun q _ h => hFc q h) hFc (fun q _ h => hFc q h) (fun E ce q9 u t H1 locs ht hvm hp hB hz1 hk1 hS hce hcv hcl => vx_out (fun x h => (hno x h).elim) hlocks hce hcv hcl (fun t2 ht2 hv2 => ⟨(), trivial, hB, hS.F ht2⟩) hS.2.2 (Nat.le_of_ble_eq_true rfl) (Nat.le_of_ble_eq_true rfl)) (fun u t H1 locs ht hvm hp hB hz1 hk1 hS => hp.elim)
def o_t_seen_n : List Cond := [.classLink RX11 194 "java/lang/IndexOutOfBoundsException", .initialized "java/lang/IndexOutOfBoundsException"]
theorem o_t_seen_n_good : o_t_seen_n.all goodWord = true := by decide +kernel
def p_t_seen_n : List Cond := o_t_seen_n ++ (((vx_at0 RX11 196 "java/lang/IndexOutOfBoundsException" ["java/lang/RuntimeException", "java/lang/Exception"]).filter goodWord) ++ [])
theorem p_t_seen_n_good : p_t_seen_n.all goodWord = true := nb_all2 o_t_seen_n_good (nb_all2 (nb_fg _) rfl)
def w_t_seen_n : List Cond := .code yX11_seen cX11_seen 3 (some .int) :: (p_t_seen_n ++ fC)
theorem w_t_seen_n_good : w_t_seen_n.all goodWord = true := nb_allc (by decide +kernel) (nb_all2 p_t_seen_n_good fC_good)
def v0_t_seen_n (cy : Nat → ClassId) (a : Nat → Nat) (n9 : Int32) (v9 : Int32) : va_W := [((a 0), .inr (10, [.ref (a 1), .ref (a 2), .ref (a 3), .ref (a 4), .ref (a 5), .ref (a 6), .ref (a 7), .ref (a 8), .ref (a 9), .ref (a 10), .int 0, .int 0, .int 0, .int 0, .ref (a 11), .ref (a 12), .ref (a 13), .int 0, .int 0, .int 0]))]
set_option maxHeartbeats 40000000 in
set_option maxRecDepth 100000 in
theorem t_seen_n (l : Launch) (hl0 : l.stackTraces = false) (dC : Nat → ClassId) (dI : Nat → Nat → Nat) (cy : Nat → ClassId) (k : Nat → Nat) (a : Nat → Nat) (n9 : Int32) (v9 : Int32) (h1 : n9 < 0) (sz : Nat) : vx_Met l yX11_seen w_t_seen_n ({ frames := 6, cells := 1, slots := 6, locals := 90 }) (va_Pc [.ref (a 0), .int n9, .int v9] (nInF (dC, dI) cy k sz (v0_t_seen_n cy a n9 v9))) (va_Qi (fun (_ : Int32) (_ : Unit) => False) (fun _ _ => True) (va_A (v0_t_seen_n cy a n9 v9) sz)) (vx_X (fun _ : Unit => True) (fun E _ _ => E = "java/lang/IndexOutOfBoundsException") (va_A (v0_t_seen_n cy a n9 v9) sz)) 1 6 (va_A (v0_t_seen_n cy a n9 v9) sz) := by
  refine vx_ofW (cc := cX11_seen) (maxL := 3) (ret := (some .int)) (by decide) rfl ?_
  intro p e s m args below meth c s₁ B hml hno hv
  obtain ⟨rfl, ⟨⟨hsz, hP, hK, hD0, hG⟩, hE⟩, hT⟩ := hv
  have hx := B.exec
  have hb := B.bytes
  have hr := B.returns
  have hts := atoms_spec (ws := w_t_seen_n) B.pre
  have hown : s.vm.findClass RX11 = some m.cls := findClass_of_methodNamed B.named
  have hlocks := B.notSynchronized
  subst hsz
  have hD := hD0.self (sz := s.heap.size)
  generalize hAe : va_A (v0_t_seen_n cy a n9 v9) s.heap.size = A at hD hE hT ⊢
  have hA : ∀ q : Nat, s.heap.size ≤ q → A q := fun q h => by rw [← hAe]; exact Or.inr h
  have hS : va_S A s.heap s.heap [] := va_S.rf
  have hP : va_P (dC, dI) nCl (v0_t_seen_n cy a n9 v9) s.heap := hP
  have hl := lv_entry ([.ref (a 0), .int n9, .int v9]) (n := 3) (Nat.le_of_ble_eq_true rfl)
  rw [lg_entry_eq]
  generalize (lg_sl ([.ref (a 0), .int n9, .int v9]) ++ List.replicate (3 - (lg_sl ([.ref (a 0), .int n9, .int v9])).length) Slot.unset).toArray = ls at hl ⊢
  have hl : lv_has ls 3 [(0, .ref (a 0)), (1, .int n9), (2, .int v9)] := hl
  have hP : va_P (dC, dI) nCl [((a 0), .inr (10, [.ref (a 1), .ref (a 2), .ref (a 3), .ref (a 4), .ref (a 5), .ref (a 6), .ref (a 7), .ref (a 8), .ref (a 9), .ref (a 10), .int 0, .int 0, .int 0, .int 0, .ref (a 11), .ref (a 12), .ref (a 13), .int 0, .int 0, .int 0]))] s.heap := hP
  have hD : va_D A [((a 0), .inr (10, [.ref (a 1), .ref (a 2), .ref (a 3), .ref (a 4), .ref (a 5), .ref (a 6), .ref (a 7), .ref (a 8), .ref (a 9), .ref (a 10), .int 0, .int 0, .int 0, .int 0, .ref (a 11), .ref (a 12), .ref (a 13), .int 0, .int 0, .int 0]))] := hD
  refine lv_iload_n hx hb dX11_seen_0 rfl (lv_at hl 1 rfl) ?_
  refine lv_if_lt (tgt := 21) hx hb dX11_seen_1 (by decide) (fun _ => ?_) (fun c1 => absurd h1 c1)
  refine vx_throw0 (cls := "java/lang/IndexOutOfBoundsException") (names := ["java/lang/RuntimeException", "java/lang/Exception"]) (mc := 1) (ms := 6) hx hb hl0 hown (by decide) (by decide) (hts _ (List.mem_cons_of_mem _ (List.mem_append_left _ (List.mem_append_left _ (List.mem_of_getElem? (i := 0) rfl))))) (hts _ (List.mem_cons_of_mem _ (List.mem_append_left _ (List.mem_append_left _ (List.mem_of_getElem? (i := 1) rfl))))) (vx_hat (B := [.castable "java/lang/IndexOutOfBoundsException" "java/lang/IndexOutOfBoundsException", .declares (Bundle.init0 "java/lang/RuntimeException"), .declares (Bundle.init0 "java/lang/Exception"), .declares (Bundle.init0 Bundle.tN)]) (fun w h => hts w (List.mem_cons_of_mem _ (List.mem_append_left _ (List.mem_append_right _ (List.mem_append_left _ h))))) (by decide +kernel) (vx_c (va_Nw.use (by decide +kernel) (hT.2.2.1 _ (List.mem_of_getElem? (i := 2) rfl))) (vx_c (va_Nw.use (by decide +kernel) (hT.2.2.1 _ (List.mem_of_getElem? (i := 4) rfl))) (vx_c (va_Nw.use (by decide +kernel) (hT.2.2.1 _ (List.mem_of_getElem? (i := 5) rfl))) (vx_c (va_Nw.use (by decide +kernel) (hT.2.2.1 _ (List.mem_of_getElem? (i := 6) rfl))) vx_n))))) (fun w h => List.all_eq_true.mp (by decide +kernel : (Cond.classLink RX11 194 "java/lang/IndexOutOfBoundsException" :: Cond.initialized "java/lang/IndexOutOfBoundsException" :: (vx_at0 RX11 196 "java/lang/IndexOutOfBoundsException" ["java/lang/RuntimeException", "java/lang/Exception"])).all vx_ot = true) w h) hT.1 hT.2.1 hS (hl.1.trans hml.symm) dX11_seen_21 dX11_seen_24 dX11_seen_25 dX11_seen_28 (fun x h => (hno x h).elim) (Nat.le_of_ble_eq_true rfl) (Nat.le_of_ble_eq_true rfl) (Nat.le_of_ble_eq_true rfl) (Nat.le_of_ble_eq_true rfl) hlocks (fun t _ hz hk => ⟨(), trivial, rfl, Nat.le_trans hS.1 hz, fun q hq hn => (hk q (Nat.lt_of_lt_of_le hq hS.1)).trans (hS.2.1 q hq hn)⟩) hS.2.2 (Nat.le_of_ble_eq_true rfl) (Nat.le_of_ble_eq_true rfl)
def o_t_seen_p : List Cond := [.fieldLink RX11 159 "SetHouse" "views" "I", .classLink RX11 194 "java/lang/IndexOutOfBoundsException", .initialized "java/lang/IndexOutOfBoundsException"]
theorem o_t_seen_p_good : o_t_seen_p.all goodWord = true := by decide +kernel
def p_t_seen_p : List Cond := o_t_seen_p ++ (((vx_at0 RX11 196 "java/lang/IndexOutOfBoundsException" ["java/lang/RuntimeException", "java/lang/Exception"]).filter goodWord) ++ [])
theorem p_t_seen_p_good : p_t_seen_p.all goodWord = true := nb_all2 o_t_seen_p_good (nb_all2 (nb_fg _) rfl)
def w_t_seen_p : List Cond := .code yX11_seen cX11_seen 3 (some .int) :: (p_t_seen_p ++ fC)
theorem w_t_seen_p_good : w_t_seen_p.all goodWord = true := nb_allc (by decide +kernel) (nb_all2 p_t_seen_p_good fC_good)
theorem in_t_seen_p_X11 : ∀ w ∈ wsX110, w ∈ w_t_seen_p := fun _ h => List.mem_cons_of_mem _ (List.mem_append_right _ (List.mem_append_right _ (List.mem_append_right _ (List.mem_append_right _ (List.mem_append_right _ (List.mem_append_right _ (List.mem_append_right _ (List.mem_append_right _ (List.mem_append_right _ (List.mem_append_right _ (List.mem_append_right _ h)))))))))))
def v0_t_seen_p (cy : Nat → ClassId) (a : Nat → Nat) (n9 : Int32) (v9 : Int32) : va_W := [((a 0), .inr (10, [.ref (a 1), .ref (a 2), .ref (a 3), .ref (a 4), .ref (a 5), .ref (a 6), .ref (a 7), .ref (a 8), .ref (a 9), .ref (a 10), .int 0, .int 0, .int 0, .int 0, .ref (a 11), .ref (a 12), .ref (a 13), .int 0, .int 0, .int 0]))]
set_option maxHeartbeats 40000000 in
set_option maxRecDepth 100000 in
theorem t_seen_p (l : Launch) (hl0 : l.stackTraces = false) (dC : Nat → ClassId) (dI : Nat → Nat → Nat) (cy : Nat → ClassId) (k : Nat → Nat) (a : Nat → Nat) (n9 : Int32) (v9 : Int32) (h1 : ¬ n9 < 0) (h2 : 0 ≤ n9) (sz : Nat) : vx_Met l yX11_seen w_t_seen_p ({ frames := 6, cells := 1, slots := 6, locals := 90 }) (va_Pc [.ref (a 0), .int n9, .int v9] (nInF (dC, dI) cy k sz (v0_t_seen_p cy a n9 v9))) (va_Qi (fun (_ : Int32) (_ : Unit) => False) (fun _ _ => True) (va_A (v0_t_seen_p cy a n9 v9) sz)) (vx_X (fun _ : Unit => True) (fun E _ _ => E = "java/lang/IndexOutOfBoundsException") (va_A (v0_t_seen_p cy a n9 v9) sz)) 1 6 (va_A (v0_t_seen_p cy a n9 v9) sz) := by
  refine vx_ofW (cc := cX11_seen) (maxL := 3) (ret := (some .int)) (by decide) rfl ?_
  intro p e s m args below meth c s₁ B hml hno hv
  obtain ⟨rfl, ⟨⟨hsz, hP, hK, hD0, hG⟩, hE⟩, hT⟩ := hv
  have hx := B.exec
  have hb := B.bytes
  have hr := B.returns
  have hts := atoms_spec (ws := w_t_seen_p) B.pre
  have hown : s.vm.findClass RX11 = some m.cls := findClass_of_methodNamed B.named
  have hlocks := B.notSynchronized
  subst hsz
  have hD := hD0.self (sz := s.heap.size)
  generalize hAe : va_A (v0_t_seen_p cy a n9 v9) s.heap.size = A at hD hE hT ⊢
  have hA : ∀ q : Nat, s.heap.size ≤ q → A q := fun q h => by rw [← hAe]; exact Or.inr h
  have hS : va_S A s.heap s.heap [] := va_S.rf
  have hP : va_P (dC, dI) nCl (v0_t_seen_p cy a n9 v9) s.heap := hP
  have hl := lv_entry ([.ref (a 0), .int n9, .int v9]) (n := 3) (Nat.le_of_ble_eq_true rfl)
  rw [lg_entry_eq]
  generalize (lg_sl ([.ref (a 0), .int n9, .int v9]) ++ List.replicate (3 - (lg_sl ([.ref (a 0), .int n9, .int v9])).length) Slot.unset).toArray = ls at hl ⊢
  have hl : lv_has ls 3 [(0, .ref (a 0)), (1, .int n9), (2, .int v9)] := hl
  have hP : va_P (dC, dI) nCl [((a 0), .inr (10, [.ref (a 1), .ref (a 2), .ref (a 3), .ref (a 4), .ref (a 5), .ref (a 6), .ref (a 7), .ref (a 8), .ref (a 9), .ref (a 10), .int 0, .int 0, .int 0, .int 0, .ref (a 11), .ref (a 12), .ref (a 13), .int 0, .int 0, .int 0]))] s.heap := hP
  have hD : va_D A [((a 0), .inr (10, [.ref (a 1), .ref (a 2), .ref (a 3), .ref (a 4), .ref (a 5), .ref (a 6), .ref (a 7), .ref (a 8), .ref (a 9), .ref (a 10), .int 0, .int 0, .int 0, .int 0, .ref (a 11), .ref (a 12), .ref (a 13), .int 0, .int 0, .int 0]))] := hD
  refine lv_iload_n hx hb dX11_seen_0 rfl (lv_at hl 1 rfl) ?_
  refine lv_if_lt (tgt := 21) hx hb dX11_seen_1 (by decide) (fun c1 => absurd c1 h1) (fun _ => ?_)
  refine lv_iload_n hx hb dX11_seen_4 rfl (lv_at hl 1 rfl) ?_
  refine lv_aload_n hx hb dX11_seen_5 rfl (lv_at hl 0 rfl) ?_
  refine va_get (D := (dC, dI)) (ci := 10) (v := .int 0) (C := RX11) (T := TX11) (N := 20) hx hb hts in_t_seen_p_X11 hown hK hP 0 rfl rfl 13 (by decide) (hts _ (List.mem_cons_of_mem _ (List.mem_append_left _ (List.mem_append_left _ (List.mem_of_getElem? (i := 0) rfl))))) (fun _ h9 => h9) rfl dX11_seen_6 ?_
  refine lv_icmp_ge (tgt := 21) hx hb dX11_seen_9 (by decide) (fun _ => ?_) (fun c1 => absurd h2 c1)
  refine vx_throw0 (cls := "java/lang/IndexOutOfBoundsException") (names := ["java/lang/RuntimeException", "java/lang/Exception"]) (mc := 1) (ms := 6) hx hb hl0 hown (by decide) (by decide) (hts _ (List.mem_cons_of_mem _ (List.mem_append_left _ (List.mem_append_left _ (List.mem_of_getElem? (i := 1) rfl))))) (hts _ (List.mem_cons_of_mem _ (List.mem_append_left _ (List.mem_append_left _ (List.mem_of_getElem? (i := 2) rfl))))) (vx_hat (B := [.castable "java/lang/IndexOutOfBoundsException" "java/lang/IndexOutOfBoundsException", .declares (Bundle.init0 "java/lang/RuntimeException"), .declares (Bundle.init0 "java/lang/Exception"), .declares (Bundle.init0 Bundle.tN)]) (fun w h => hts w (List.mem_cons_of_mem _ (List.mem_append_left _ (List.mem_append_right _ (List.mem_append_left _ h))))) (by decide +kernel) (vx_c (va_Nw.use (by decide +kernel) (hT.2.2.1 _ (List.mem_of_getElem? (i := 2) rfl))) (vx_c (va_Nw.use (by decide +kernel) (hT.2.2.1 _ (List.mem_of_getElem? (i := 4) rfl))) (vx_c (va_Nw.use (by decide +kernel) (hT.2.2.1 _ (List.mem_of_getElem? (i := 5) rfl))) (vx_c (va_Nw.use (by decide +kernel) (hT.2.2.1 _ (List.mem_of_getElem? (i := 6) rfl))) vx_n))))) (fun w h => List.all_eq_true.mp (by decide +kernel : (Cond.classLink RX11 194 "java/lang/IndexOutOfBoundsException" :: Cond.initialized "java/lang/IndexOutOfBoundsException" :: (vx_at0 RX11 196 "java/lang/IndexOutOfBoundsException" ["java/lang/RuntimeException", "java/lang/Exception"])).all vx_ot = true) w h) hT.1 hT.2.1 hS (hl.1.trans hml.symm) dX11_seen_21 dX11_seen_24 dX11_seen_25 dX11_seen_28 (fun x h => (hno x h).elim) (Nat.le_of_ble_eq_true rfl) (Nat.le_of_ble_eq_true rfl) (Nat.le_of_ble_eq_true rfl) (Nat.le_of_ble_eq_true rfl) hlocks (fun t _ hz hk => ⟨(), trivial, rfl, Nat.le_trans hS.1 hz, fun q hq hn => (hk q (Nat.lt_of_lt_of_le hq hS.1)).trans (hS.2.1 q hq hn)⟩) hS.2.2 (Nat.le_of_ble_eq_true rfl) (Nat.le_of_ble_eq_true rfl)
def o_t_shown_n : List Cond := [.classLink RX11 194 "java/lang/IndexOutOfBoundsException", .initialized "java/lang/IndexOutOfBoundsException"]
theorem o_t_shown_n_good : o_t_shown_n.all goodWord = true := by decide +kernel
def p_t_shown_n : List Cond := o_t_shown_n ++ (((vx_at0 RX11 196 "java/lang/IndexOutOfBoundsException" ["java/lang/RuntimeException", "java/lang/Exception"]).filter goodWord) ++ [])
theorem p_t_shown_n_good : p_t_shown_n.all goodWord = true := nb_all2 o_t_shown_n_good (nb_all2 (nb_fg _) rfl)
def w_t_shown_n : List Cond := .code yX11_shown cX11_shown 2 (some .int) :: (p_t_shown_n ++ fC)
theorem w_t_shown_n_good : w_t_shown_n.all goodWord = true := nb_allc (by decide +kernel) (nb_all2 p_t_shown_n_good fC_good)
def v0_t_shown_n (cy : Nat → ClassId) (a : Nat → Nat) (n9 : Int32) : va_W := [((a 0), .inr (10, [.ref (a 1), .ref (a 2), .ref (a 3), .ref (a 4), .ref (a 5), .ref (a 6), .ref (a 7), .ref (a 8), .ref (a 9), .ref (a 10), .int 0, .int 0, .int 0, .int 0, .ref (a 11), .ref (a 12), .ref (a 13), .int 0, .int 0, .int 0]))]
set_option maxHeartbeats 40000000 in
set_option maxRecDepth 100000 in
theorem t_shown_n (l : Launch) (hl0 : l.stackTraces = false) (dC : Nat → ClassId) (dI : Nat → Nat → Nat) (cy : Nat → ClassId) (k : Nat → Nat) (a : Nat → Nat) (n9 : Int32) (h1 : n9 < 0) (sz : Nat) : vx_Met l yX11_shown w_t_shown_n ({ frames := 6, cells := 1, slots := 6, locals := 90 }) (va_Pc [.ref (a 0), .int n9] (nInF (dC, dI) cy k sz (v0_t_shown_n cy a n9))) (va_Qi (fun (_ : Int32) (_ : Unit) => False) (fun _ _ => True) (va_A (v0_t_shown_n cy a n9) sz)) (vx_X (fun _ : Unit => True) (fun E _ _ => E = "java/lang/IndexOutOfBoundsException") (va_A (v0_t_shown_n cy a n9) sz)) 1 6 (va_A (v0_t_shown_n cy a n9) sz) := by
  refine vx_ofW (cc := cX11_shown) (maxL := 2) (ret := (some .int)) (by decide) rfl ?_
  intro p e s m args below meth c s₁ B hml hno hv
  obtain ⟨rfl, ⟨⟨hsz, hP, hK, hD0, hG⟩, hE⟩, hT⟩ := hv
  have hx := B.exec
  have hb := B.bytes
  have hr := B.returns
  have hts := atoms_spec (ws := w_t_shown_n) B.pre
  have hown : s.vm.findClass RX11 = some m.cls := findClass_of_methodNamed B.named
  have hlocks := B.notSynchronized
  subst hsz
  have hD := hD0.self (sz := s.heap.size)
  generalize hAe : va_A (v0_t_shown_n cy a n9) s.heap.size = A at hD hE hT ⊢
  have hA : ∀ q : Nat, s.heap.size ≤ q → A q := fun q h => by rw [← hAe]; exact Or.inr h
  have hS : va_S A s.heap s.heap [] := va_S.rf
  have hP : va_P (dC, dI) nCl (v0_t_shown_n cy a n9) s.heap := hP
  have hl := lv_entry ([.ref (a 0), .int n9]) (n := 2) (Nat.le_of_ble_eq_true rfl)
  rw [lg_entry_eq]
  generalize (lg_sl ([.ref (a 0), .int n9]) ++ List.replicate (2 - (lg_sl ([.ref (a 0), .int n9])).length) Slot.unset).toArray = ls at hl ⊢
  have hl : lv_has ls 2 [(0, .ref (a 0)), (1, .int n9)] := hl
  have hP : va_P (dC, dI) nCl [((a 0), .inr (10, [.ref (a 1), .ref (a 2), .ref (a 3), .ref (a 4), .ref (a 5), .ref (a 6), .ref (a 7), .ref (a 8), .ref (a 9), .ref (a 10), .int 0, .int 0, .int 0, .int 0, .ref (a 11), .ref (a 12), .ref (a 13), .int 0, .int 0, .int 0]))] s.heap := hP
  have hD : va_D A [((a 0), .inr (10, [.ref (a 1), .ref (a 2), .ref (a 3), .ref (a 4), .ref (a 5), .ref (a 6), .ref (a 7), .ref (a 8), .ref (a 9), .ref (a 10), .int 0, .int 0, .int 0, .int 0, .ref (a 11), .ref (a 12), .ref (a 13), .int 0, .int 0, .int 0]))] := hD
  refine lv_iload_n hx hb dX11_shown_0 rfl (lv_at hl 1 rfl) ?_
  refine lv_if_lt (tgt := 12) hx hb dX11_shown_1 (by decide) (fun _ => ?_) (fun c1 => absurd h1 c1)
  refine vx_throw0 (cls := "java/lang/IndexOutOfBoundsException") (names := ["java/lang/RuntimeException", "java/lang/Exception"]) (mc := 1) (ms := 6) hx hb hl0 hown (by decide) (by decide) (hts _ (List.mem_cons_of_mem _ (List.mem_append_left _ (List.mem_append_left _ (List.mem_of_getElem? (i := 0) rfl))))) (hts _ (List.mem_cons_of_mem _ (List.mem_append_left _ (List.mem_append_left _ (List.mem_of_getElem? (i := 1) rfl))))) (vx_hat (B := [.castable "java/lang/IndexOutOfBoundsException" "java/lang/IndexOutOfBoundsException", .declares (Bundle.init0 "java/lang/RuntimeException"), .declares (Bundle.init0 "java/lang/Exception"), .declares (Bundle.init0 Bundle.tN)]) (fun w h => hts w (List.mem_cons_of_mem _ (List.mem_append_left _ (List.mem_append_right _ (List.mem_append_left _ h))))) (by decide +kernel) (vx_c (va_Nw.use (by decide +kernel) (hT.2.2.1 _ (List.mem_of_getElem? (i := 2) rfl))) (vx_c (va_Nw.use (by decide +kernel) (hT.2.2.1 _ (List.mem_of_getElem? (i := 4) rfl))) (vx_c (va_Nw.use (by decide +kernel) (hT.2.2.1 _ (List.mem_of_getElem? (i := 5) rfl))) (vx_c (va_Nw.use (by decide +kernel) (hT.2.2.1 _ (List.mem_of_getElem? (i := 6) rfl))) vx_n))))) (fun w h => List.all_eq_true.mp (by decide +kernel : (Cond.classLink RX11 194 "java/lang/IndexOutOfBoundsException" :: Cond.initialized "java/lang/IndexOutOfBoundsException" :: (vx_at0 RX11 196 "java/lang/IndexOutOfBoundsException" ["java/lang/RuntimeException", "java/lang/Exception"])).all vx_ot = true) w h) hT.1 hT.2.1 hS (hl.1.trans hml.symm) dX11_shown_12 dX11_shown_15 dX11_shown_16 dX11_shown_19 (fun x h => (hno x h).elim) (Nat.le_of_ble_eq_true rfl) (Nat.le_of_ble_eq_true rfl) (Nat.le_of_ble_eq_true rfl) (Nat.le_of_ble_eq_true rfl) hlocks (fun t _ hz hk => ⟨(), trivial, rfl, Nat.le_trans hS.1 hz, fun q hq hn => (hk q (Nat.lt_of_lt_of_le hq hS.1)).trans (hS.2.1 q hq hn)⟩) hS.2.2 (Nat.le_of_ble_eq_true rfl) (Nat.le_of_ble_eq_true rfl)
def o_t_shown_p : List Cond := [.fieldLink RX11 241 "SetHouse" "shownLength" "I", .classLink RX11 194 "java/lang/IndexOutOfBoundsException", .initialized "java/lang/IndexOutOfBoundsException"]
theorem o_t_shown_p_good : o_t_shown_p.all goodWord = true := by decide +kernel
def p_t_shown_p : List Cond := o_t_shown_p ++ (((vx_at0 RX11 196 "java/lang/IndexOutOfBoundsException" ["java/lang/RuntimeException", "java/lang/Exception"]).filter goodWord) ++ [])
theorem p_t_shown_p_good : p_t_shown_p.all goodWord = true := nb_all2 o_t_shown_p_good (nb_all2 (nb_fg _) rfl)
def w_t_shown_p : List Cond := .code yX11_shown cX11_shown 2 (some .int) :: (p_t_shown_p ++ fC)
theorem w_t_shown_p_good : w_t_shown_p.all goodWord = true := nb_allc (by decide +kernel) (nb_all2 p_t_shown_p_good fC_good)
theorem in_t_shown_p_X11 : ∀ w ∈ wsX110, w ∈ w_t_shown_p := fun _ h => List.mem_cons_of_mem _ (List.mem_append_right _ (List.mem_append_right _ (List.mem_append_right _ (List.mem_append_right _ (List.mem_append_right _ (List.mem_append_right _ (List.mem_append_right _ (List.mem_append_right _ (List.mem_append_right _ (List.mem_append_right _ (List.mem_append_right _ h)))))))))))
def v0_t_shown_p (cy : Nat → ClassId) (a : Nat → Nat) (n9 : Int32) : va_W := [((a 0), .inr (10, [.ref (a 1), .ref (a 2), .ref (a 3), .ref (a 4), .ref (a 5), .ref (a 6), .ref (a 7), .ref (a 8), .ref (a 9), .ref (a 10), .int 0, .int 0, .int 0, .int 0, .ref (a 11), .ref (a 12), .ref (a 13), .int 0, .int 0, .int 0]))]
set_option maxHeartbeats 40000000 in
set_option maxRecDepth 100000 in
theorem t_shown_p (l : Launch) (hl0 : l.stackTraces = false) (dC : Nat → ClassId) (dI : Nat → Nat → Nat) (cy : Nat → ClassId) (k : Nat → Nat) (a : Nat → Nat) (n9 : Int32) (h1 : ¬ n9 < 0) (sz : Nat) : vx_Met l yX11_shown w_t_shown_p ({ frames := 6, cells := 1, slots := 6, locals := 90 }) (va_Pc [.ref (a 0), .int n9] (nInF (dC, dI) cy k sz (v0_t_shown_p cy a n9))) (va_Qi (fun (_ : Int32) (_ : Unit) => False) (fun _ _ => True) (va_A (v0_t_shown_p cy a n9) sz)) (vx_X (fun _ : Unit => True) (fun E _ _ => E = "java/lang/IndexOutOfBoundsException") (va_A (v0_t_shown_p cy a n9) sz)) 1 6 (va_A (v0_t_shown_p cy a n9) sz) := by
  refine vx_ofW (cc := cX11_shown) (maxL := 2) (ret := (some .int)) (by decide) rfl ?_
  intro p e s m args below meth c s₁ B hml hno hv
  obtain ⟨rfl, ⟨⟨hsz, hP, hK, hD0, hG⟩, hE⟩, hT⟩ := hv
  have hx := B.exec
  have hb := B.bytes
  have hr := B.returns
  have hts := atoms_spec (ws := w_t_shown_p) B.pre
  have hown : s.vm.findClass RX11 = some m.cls := findClass_of_methodNamed B.named
  have hlocks := B.notSynchronized
  subst hsz
  have hD := hD0.self (sz := s.heap.size)
  generalize hAe : va_A (v0_t_shown_p cy a n9) s.heap.size = A at hD hE hT ⊢
  have hA : ∀ q : Nat, s.heap.size ≤ q → A q := fun q h => by rw [← hAe]; exact Or.inr h
  have hS : va_S A s.heap s.heap [] := va_S.rf
  have hP : va_P (dC, dI) nCl (v0_t_shown_p cy a n9) s.heap := hP
  have hl := lv_entry ([.ref (a 0), .int n9]) (n := 2) (Nat.le_of_ble_eq_true rfl)
  rw [lg_entry_eq]
  generalize (lg_sl ([.ref (a 0), .int n9]) ++ List.replicate (2 - (lg_sl ([.ref (a 0), .int n9])).length) Slot.unset).toArray = ls at hl ⊢
  have hl : lv_has ls 2 [(0, .ref (a 0)), (1, .int n9)] := hl
  have hP : va_P (dC, dI) nCl [((a 0), .inr (10, [.ref (a 1), .ref (a 2), .ref (a 3), .ref (a 4), .ref (a 5), .ref (a 6), .ref (a 7), .ref (a 8), .ref (a 9), .ref (a 10), .int 0, .int 0, .int 0, .int 0, .ref (a 11), .ref (a 12), .ref (a 13), .int 0, .int 0, .int 0]))] s.heap := hP
  have hD : va_D A [((a 0), .inr (10, [.ref (a 1), .ref (a 2), .ref (a 3), .ref (a 4), .ref (a 5), .ref (a 6), .ref (a 7), .ref (a 8), .ref (a 9), .ref (a 10), .int 0, .int 0, .int 0, .int 0, .ref (a 11), .ref (a 12), .ref (a 13), .int 0, .int 0, .int 0]))] := hD
  refine lv_iload_n hx hb dX11_shown_0 rfl (lv_at hl 1 rfl) ?_
  refine lv_if_lt (tgt := 12) hx hb dX11_shown_1 (by decide) (fun c1 => absurd c1 h1) (fun _ => ?_)
  refine lv_iload_n hx hb dX11_shown_4 rfl (lv_at hl 1 rfl) ?_
  refine lv_aload_n hx hb dX11_shown_5 rfl (lv_at hl 0 rfl) ?_
  refine va_get (D := (dC, dI)) (ci := 10) (v := .int 0) (C := RX11) (T := TX11) (N := 20) hx hb hts in_t_shown_p_X11 hown hK hP 0 rfl rfl 17 (by decide) (hts _ (List.mem_cons_of_mem _ (List.mem_append_left _ (List.mem_append_left _ (List.mem_of_getElem? (i := 0) rfl))))) (fun _ h9 => h9) rfl dX11_shown_6 ?_
  refine lv_icmp_lt (tgt := 20) hx hb dX11_shown_9 (by decide) (fun c1 => absurd c1 h1) (fun _ => ?_)
  refine vx_throw0 (cls := "java/lang/IndexOutOfBoundsException") (names := ["java/lang/RuntimeException", "java/lang/Exception"]) (mc := 1) (ms := 6) hx hb hl0 hown (by decide) (by decide) (hts _ (List.mem_cons_of_mem _ (List.mem_append_left _ (List.mem_append_left _ (List.mem_of_getElem? (i := 1) rfl))))) (hts _ (List.mem_cons_of_mem _ (List.mem_append_left _ (List.mem_append_left _ (List.mem_of_getElem? (i := 2) rfl))))) (vx_hat (B := [.castable "java/lang/IndexOutOfBoundsException" "java/lang/IndexOutOfBoundsException", .declares (Bundle.init0 "java/lang/RuntimeException"), .declares (Bundle.init0 "java/lang/Exception"), .declares (Bundle.init0 Bundle.tN)]) (fun w h => hts w (List.mem_cons_of_mem _ (List.mem_append_left _ (List.mem_append_right _ (List.mem_append_left _ h))))) (by decide +kernel) (vx_c (va_Nw.use (by decide +kernel) (hT.2.2.1 _ (List.mem_of_getElem? (i := 2) rfl))) (vx_c (va_Nw.use (by decide +kernel) (hT.2.2.1 _ (List.mem_of_getElem? (i := 4) rfl))) (vx_c (va_Nw.use (by decide +kernel) (hT.2.2.1 _ (List.mem_of_getElem? (i := 5) rfl))) (vx_c (va_Nw.use (by decide +kernel) (hT.2.2.1 _ (List.mem_of_getElem? (i := 6) rfl))) vx_n))))) (fun w h => List.all_eq_true.mp (by decide +kernel : (Cond.classLink RX11 194 "java/lang/IndexOutOfBoundsException" :: Cond.initialized "java/lang/IndexOutOfBoundsException" :: (vx_at0 RX11 196 "java/lang/IndexOutOfBoundsException" ["java/lang/RuntimeException", "java/lang/Exception"])).all vx_ot = true) w h) hT.1 hT.2.1 hS (hl.1.trans hml.symm) dX11_shown_12 dX11_shown_15 dX11_shown_16 dX11_shown_19 (fun x h => (hno x h).elim) (Nat.le_of_ble_eq_true rfl) (Nat.le_of_ble_eq_true rfl) (Nat.le_of_ble_eq_true rfl) (Nat.le_of_ble_eq_true rfl) hlocks (fun t _ hz hk => ⟨(), trivial, rfl, Nat.le_trans hS.1 hz, fun q hq hn => (hk q (Nat.lt_of_lt_of_le hq hS.1)).trans (hS.2.1 q hq hn)⟩) hS.2.2 (Nat.le_of_ble_eq_true rfl) (Nat.le_of_ble_eq_true rfl)
def o_t_shape_n : List Cond := [.classLink RX11 194 "java/lang/IndexOutOfBoundsException", .initialized "java/lang/IndexOutOfBoundsException"]
theorem o_t_shape_n_good : o_t_shape_n.all goodWord = true := by decide +kernel
def p_t_shape_n : List Cond := o_t_shape_n ++ (((vx_at0 RX11 196 "java/lang/IndexOutOfBoundsException" ["java/lang/RuntimeException", "java/lang/Exception"]).filter goodWord) ++ [])
theorem p_t_shape_n_good : p_t_shape_n.all goodWord = true := nb_all2 o_t_shape_n_good (nb_all2 (nb_fg _) rfl)
def w_t_shape_n : List Cond := .code yX11_shape cX11_shape 4 (some .int) :: (p_t_shape_n ++ fC)
theorem w_t_shape_n_good : w_t_shape_n.all goodWord = true := nb_allc (by decide +kernel) (nb_all2 p_t_shape_n_good fC_good)
def v0_t_shape_n (cy : Nat → ClassId) (a : Nat → Nat) (n9 : Int32) : va_W := [((a 0), .inr (10, [.ref (a 1), .ref (a 2), .ref (a 3), .ref (a 4), .ref (a 5), .ref (a 6), .ref (a 7), .ref (a 8), .ref (a 9), .ref (a 10), .int 0, .int 0, .int 0, .int 0, .ref (a 11), .ref (a 12), .ref (a 13), .int 0, .int 0, .int 0]))]
set_option maxHeartbeats 40000000 in
set_option maxRecDepth 100000 in
theorem t_shape_n (l : Launch) (hl0 : l.stackTraces = false) (dC : Nat → ClassId) (dI : Nat → Nat → Nat) (cy : Nat → ClassId) (k : Nat → Nat) (a : Nat → Nat) (n9 : Int32) (h1 : n9 < 0) (sz : Nat) : vx_Met l yX11_shape w_t_shape_n ({ frames := 6, cells := 1, slots := 6, locals := 90 }) (va_Pc [.ref (a 0), .int n9] (nInF (dC, dI) cy k sz (v0_t_shape_n cy a n9))) (va_Qi (fun (_ : Int32) (_ : Unit) => False) (fun _ _ => True) (va_A (v0_t_shape_n cy a n9) sz)) (vx_X (fun _ : Unit => True) (fun E _ _ => E = "java/lang/IndexOutOfBoundsException") (va_A (v0_t_shape_n cy a n9) sz)) 1 6 (va_A (v0_t_shape_n cy a n9) sz) := by
  refine vx_ofW (cc := cX11_shape) (maxL := 4) (ret := (some .int)) (by decide) rfl ?_
  intro p e s m args below meth c s₁ B hml hno hv
  obtain ⟨rfl, ⟨⟨hsz, hP, hK, hD0, hG⟩, hE⟩, hT⟩ := hv
  have hx := B.exec
  have hb := B.bytes
  have hr := B.returns
  have hts := atoms_spec (ws := w_t_shape_n) B.pre
  have hown : s.vm.findClass RX11 = some m.cls := findClass_of_methodNamed B.named
  have hlocks := B.notSynchronized
  subst hsz
  have hD := hD0.self (sz := s.heap.size)
  generalize hAe : va_A (v0_t_shape_n cy a n9) s.heap.size = A at hD hE hT ⊢
  have hA : ∀ q : Nat, s.heap.size ≤ q → A q := fun q h => by rw [← hAe]; exact Or.inr h
  have hS : va_S A s.heap s.heap [] := va_S.rf
  have hP : va_P (dC, dI) nCl (v0_t_shape_n cy a n9) s.heap := hP
  have hl := lv_entry ([.ref (a 0), .int n9]) (n := 4) (Nat.le_of_ble_eq_true rfl)
  rw [lg_entry_eq]
  generalize (lg_sl ([.ref (a 0), .int n9]) ++ List.replicate (4 - (lg_sl ([.ref (a 0), .int n9])).length) Slot.unset).toArray = ls at hl ⊢
  have hl : lv_has ls 4 [(0, .ref (a 0)), (1, .int n9)] := hl
  have hP : va_P (dC, dI) nCl [((a 0), .inr (10, [.ref (a 1), .ref (a 2), .ref (a 3), .ref (a 4), .ref (a 5), .ref (a 6), .ref (a 7), .ref (a 8), .ref (a 9), .ref (a 10), .int 0, .int 0, .int 0, .int 0, .ref (a 11), .ref (a 12), .ref (a 13), .int 0, .int 0, .int 0]))] s.heap := hP
  have hD : va_D A [((a 0), .inr (10, [.ref (a 1), .ref (a 2), .ref (a 3), .ref (a 4), .ref (a 5), .ref (a 6), .ref (a 7), .ref (a 8), .ref (a 9), .ref (a 10), .int 0, .int 0, .int 0, .int 0, .ref (a 11), .ref (a 12), .ref (a 13), .int 0, .int 0, .int 0]))] := hD
  refine lv_iload_n hx hb dX11_shape_0 rfl (lv_at hl 1 rfl) ?_
  refine lv_if_lt (tgt := 9) hx hb dX11_shape_1 (by decide) (fun _ => ?_) (fun c1 => absurd h1 c1)
  refine vx_throw0 (cls := "java/lang/IndexOutOfBoundsException") (names := ["java/lang/RuntimeException", "java/lang/Exception"]) (mc := 1) (ms := 6) hx hb hl0 hown (by decide) (by decide) (hts _ (List.mem_cons_of_mem _ (List.mem_append_left _ (List.mem_append_left _ (List.mem_of_getElem? (i := 0) rfl))))) (hts _ (List.mem_cons_of_mem _ (List.mem_append_left _ (List.mem_append_left _ (List.mem_of_getElem? (i := 1) rfl))))) (vx_hat (B := [.castable "java/lang/IndexOutOfBoundsException" "java/lang/IndexOutOfBoundsException", .declares (Bundle.init0 "java/lang/RuntimeException"), .declares (Bundle.init0 "java/lang/Exception"), .declares (Bundle.init0 Bundle.tN)]) (fun w h => hts w (List.mem_cons_of_mem _ (List.mem_append_left _ (List.mem_append_right _ (List.mem_append_left _ h))))) (by decide +kernel) (vx_c (va_Nw.use (by decide +kernel) (hT.2.2.1 _ (List.mem_of_getElem? (i := 2) rfl))) (vx_c (va_Nw.use (by decide +kernel) (hT.2.2.1 _ (List.mem_of_getElem? (i := 4) rfl))) (vx_c (va_Nw.use (by decide +kernel) (hT.2.2.1 _ (List.mem_of_getElem? (i := 5) rfl))) (vx_c (va_Nw.use (by decide +kernel) (hT.2.2.1 _ (List.mem_of_getElem? (i := 6) rfl))) vx_n))))) (fun w h => List.all_eq_true.mp (by decide +kernel : (Cond.classLink RX11 194 "java/lang/IndexOutOfBoundsException" :: Cond.initialized "java/lang/IndexOutOfBoundsException" :: (vx_at0 RX11 196 "java/lang/IndexOutOfBoundsException" ["java/lang/RuntimeException", "java/lang/Exception"])).all vx_ot = true) w h) hT.1 hT.2.1 hS (hl.1.trans hml.symm) dX11_shape_9 dX11_shape_12 dX11_shape_13 dX11_shape_16 (fun x h => (hno x h).elim) (Nat.le_of_ble_eq_true rfl) (Nat.le_of_ble_eq_true rfl) (Nat.le_of_ble_eq_true rfl) (Nat.le_of_ble_eq_true rfl) hlocks (fun t _ hz hk => ⟨(), trivial, rfl, Nat.le_trans hS.1 hz, fun q hq hn => (hk q (Nat.lt_of_lt_of_le hq hS.1)).trans (hS.2.1 q hq hn)⟩) hS.2.2 (Nat.le_of_ble_eq_true rfl) (Nat.le_of_ble_eq_true rfl)
def o_t_shape_p : List Cond := [.classLink RX11 194 "java/lang/IndexOutOfBoundsException", .initialized "java/lang/IndexOutOfBoundsException"]
theorem o_t_shape_p_good : o_t_shape_p.all goodWord = true := by decide +kernel
def p_t_shape_p : List Cond := o_t_shape_p ++ (((vx_at0 RX11 196 "java/lang/IndexOutOfBoundsException" ["java/lang/RuntimeException", "java/lang/Exception"]).filter goodWord) ++ [])
theorem p_t_shape_p_good : p_t_shape_p.all goodWord = true := nb_all2 o_t_shape_p_good (nb_all2 (nb_fg _) rfl)
def w_t_shape_p : List Cond := .code yX11_shape cX11_shape 4 (some .int) :: (p_t_shape_p ++ fC)
theorem w_t_shape_p_good : w_t_shape_p.all goodWord = true := nb_allc (by decide +kernel) (nb_all2 p_t_shape_p_good fC_good)
def v0_t_shape_p (cy : Nat → ClassId) (a : Nat → Nat) (n9 : Int32) : va_W := [((a 0), .inr (10, [.ref (a 1), .ref (a 2), .ref (a 3), .ref (a 4), .ref (a 5), .ref (a 6), .ref (a 7), .ref (a 8), .ref (a 9), .ref (a 10), .int 0, .int 0, .int 0, .int 0, .ref (a 11), .ref (a 12), .ref (a 13), .int 0, .int 0, .int 0]))]
set_option maxHeartbeats 40000000 in
set_option maxRecDepth 100000 in
theorem t_shape_p (l : Launch) (hl0 : l.stackTraces = false) (dC : Nat → ClassId) (dI : Nat → Nat → Nat) (cy : Nat → ClassId) (k : Nat → Nat) (a : Nat → Nat) (n9 : Int32) (h1 : ¬ n9 < 0) (h2 : ¬ n9 ≤ 3) (sz : Nat) : vx_Met l yX11_shape w_t_shape_p ({ frames := 6, cells := 1, slots := 6, locals := 90 }) (va_Pc [.ref (a 0), .int n9] (nInF (dC, dI) cy k sz (v0_t_shape_p cy a n9))) (va_Qi (fun (_ : Int32) (_ : Unit) => False) (fun _ _ => True) (va_A (v0_t_shape_p cy a n9) sz)) (vx_X (fun _ : Unit => True) (fun E _ _ => E = "java/lang/IndexOutOfBoundsException") (va_A (v0_t_shape_p cy a n9) sz)) 1 6 (va_A (v0_t_shape_p cy a n9) sz) := by
  refine vx_ofW (cc := cX11_shape) (maxL := 4) (ret := (some .int)) (by decide) rfl ?_
  intro p e s m args below meth c s₁ B hml hno hv
  obtain ⟨rfl, ⟨⟨hsz, hP, hK, hD0, hG⟩, hE⟩, hT⟩ := hv
  have hx := B.exec
  have hb := B.bytes
  have hr := B.returns
  have hts := atoms_spec (ws := w_t_shape_p) B.pre
  have hown : s.vm.findClass RX11 = some m.cls := findClass_of_methodNamed B.named
  have hlocks := B.notSynchronized
  subst hsz
  have hD := hD0.self (sz := s.heap.size)
  generalize hAe : va_A (v0_t_shape_p cy a n9) s.heap.size = A at hD hE hT ⊢
  have hA : ∀ q : Nat, s.heap.size ≤ q → A q := fun q h => by rw [← hAe]; exact Or.inr h
  have hS : va_S A s.heap s.heap [] := va_S.rf
  have hP : va_P (dC, dI) nCl (v0_t_shape_p cy a n9) s.heap := hP
  have hl := lv_entry ([.ref (a 0), .int n9]) (n := 4) (Nat.le_of_ble_eq_true rfl)
  rw [lg_entry_eq]
  generalize (lg_sl ([.ref (a 0), .int n9]) ++ List.replicate (4 - (lg_sl ([.ref (a 0), .int n9])).length) Slot.unset).toArray = ls at hl ⊢
  have hl : lv_has ls 4 [(0, .ref (a 0)), (1, .int n9)] := hl
  have hP : va_P (dC, dI) nCl [((a 0), .inr (10, [.ref (a 1), .ref (a 2), .ref (a 3), .ref (a 4), .ref (a 5), .ref (a 6), .ref (a 7), .ref (a 8), .ref (a 9), .ref (a 10), .int 0, .int 0, .int 0, .int 0, .ref (a 11), .ref (a 12), .ref (a 13), .int 0, .int 0, .int 0]))] s.heap := hP
  have hD : va_D A [((a 0), .inr (10, [.ref (a 1), .ref (a 2), .ref (a 3), .ref (a 4), .ref (a 5), .ref (a 6), .ref (a 7), .ref (a 8), .ref (a 9), .ref (a 10), .int 0, .int 0, .int 0, .int 0, .ref (a 11), .ref (a 12), .ref (a 13), .int 0, .int 0, .int 0]))] := hD
  refine lv_iload_n hx hb dX11_shape_0 rfl (lv_at hl 1 rfl) ?_
  refine lv_if_lt (tgt := 9) hx hb dX11_shape_1 (by decide) (fun c1 => absurd c1 h1) (fun _ => ?_)
  refine lv_iload_n hx hb dX11_shape_4 rfl (lv_at hl 1 rfl) ?_
  refine lv_iconst (v := 3) hx hb dX11_shape_5 (by decide) ?_
  refine lv_icmp_le (tgt := 17) hx hb dX11_shape_6 (by decide) (fun c1 => absurd c1 h2) (fun _ => ?_)
  refine vx_throw0 (cls := "java/lang/IndexOutOfBoundsException") (names := ["java/lang/RuntimeException", "java/lang/Exception"]) (mc := 1) (ms := 6) hx hb hl0 hown (by decide) (by decide) (hts _ (List.mem_cons_of_mem _ (List.mem_append_left _ (List.mem_append_left _ (List.mem_of_getElem? (i := 0) rfl))))) (hts _ (List.mem_cons_of_mem _ (List.mem_append_left _ (List.mem_append_left _ (List.mem_of_getElem? (i := 1) rfl))))) (vx_hat (B := [.castable "java/lang/IndexOutOfBoundsException" "java/lang/IndexOutOfBoundsException", .declares (Bundle.init0 "java/lang/RuntimeException"), .declares (Bundle.init0 "java/lang/Exception"), .declares (Bundle.init0 Bundle.tN)]) (fun w h => hts w (List.mem_cons_of_mem _ (List.mem_append_left _ (List.mem_append_right _ (List.mem_append_left _ h))))) (by decide +kernel) (vx_c (va_Nw.use (by decide +kernel) (hT.2.2.1 _ (List.mem_of_getElem? (i := 2) rfl))) (vx_c (va_Nw.use (by decide +kernel) (hT.2.2.1 _ (List.mem_of_getElem? (i := 4) rfl))) (vx_c (va_Nw.use (by decide +kernel) (hT.2.2.1 _ (List.mem_of_getElem? (i := 5) rfl))) (vx_c (va_Nw.use (by decide +kernel) (hT.2.2.1 _ (List.mem_of_getElem? (i := 6) rfl))) vx_n))))) (fun w h => List.all_eq_true.mp (by decide +kernel : (Cond.classLink RX11 194 "java/lang/IndexOutOfBoundsException" :: Cond.initialized "java/lang/IndexOutOfBoundsException" :: (vx_at0 RX11 196 "java/lang/IndexOutOfBoundsException" ["java/lang/RuntimeException", "java/lang/Exception"])).all vx_ot = true) w h) hT.1 hT.2.1 hS (hl.1.trans hml.symm) dX11_shape_9 dX11_shape_12 dX11_shape_13 dX11_shape_16 (fun x h => (hno x h).elim) (Nat.le_of_ble_eq_true rfl) (Nat.le_of_ble_eq_true rfl) (Nat.le_of_ble_eq_true rfl) (Nat.le_of_ble_eq_true rfl) hlocks (fun t _ hz hk => ⟨(), trivial, rfl, Nat.le_trans hS.1 hz, fun q hq hn => (hk q (Nat.lt_of_lt_of_le hq hS.1)).trans (hS.2.1 q hq hn)⟩) hS.2.2 (Nat.le_of_ble_eq_true rfl) (Nat.le_of_ble_eq_true rfl)
def o_t_count_n : List Cond := [.classLink RX11 194 "java/lang/IndexOutOfBoundsException", .initialized "java/lang/IndexOutOfBoundsException"]
theorem o_t_count_n_good : o_t_count_n.all goodWord = true := by decide +kernel
def p_t_count_n : List Cond := o_t_count_n ++ (((vx_at0 RX11 196 "java/lang/IndexOutOfBoundsException" ["java/lang/RuntimeException", "java/lang/Exception"]).filter goodWord) ++ [])
theorem p_t_count_n_good : p_t_count_n.all goodWord = true := nb_all2 o_t_count_n_good (nb_all2 (nb_fg _) rfl)
def w_t_count_n : List Cond := .code yX11_count cX11_count 2 (some .int) :: (p_t_count_n ++ fC)
theorem w_t_count_n_good : w_t_count_n.all goodWord = true := nb_allc (by decide +kernel) (nb_all2 p_t_count_n_good fC_good)
def v0_t_count_n (cy : Nat → ClassId) (a : Nat → Nat) (n9 : Int32) : va_W := [((a 0), .inr (10, [.ref (a 1), .ref (a 2), .ref (a 3), .ref (a 4), .ref (a 5), .ref (a 6), .ref (a 7), .ref (a 8), .ref (a 9), .ref (a 10), .int 0, .int 0, .int 0, .int 0, .ref (a 11), .ref (a 12), .ref (a 13), .int 0, .int 0, .int 0]))]
set_option maxHeartbeats 40000000 in
set_option maxRecDepth 100000 in
theorem t_count_n (l : Launch) (hl0 : l.stackTraces = false) (dC : Nat → ClassId) (dI : Nat → Nat → Nat) (cy : Nat → ClassId) (k : Nat → Nat) (a : Nat → Nat) (n9 : Int32) (h1 : n9.toInt < 0) (sz : Nat) : vx_Met l yX11_count w_t_count_n ({ frames := 6, cells := 1, slots := 6, locals := 90 }) (va_Pc [.ref (a 0), .int n9] (nInF (dC, dI) cy k sz (v0_t_count_n cy a n9))) (va_Qi (fun (_ : Int32) (_ : Unit) => False) (fun _ _ => True) (va_A (v0_t_count_n cy a n9) sz)) (vx_X (fun _ : Unit => True) (fun E _ _ => E = "java/lang/IndexOutOfBoundsException") (va_A (v0_t_count_n cy a n9) sz)) 1 6 (va_A (v0_t_count_n cy a n9) sz) := by
  refine vx_ofW (cc := cX11_count) (maxL := 2) (ret := (some .int)) (by decide) rfl ?_
  intro p e s m args below meth c s₁ B hml hno hv
  obtain ⟨rfl, ⟨⟨hsz, hP, hK, hD0, hG⟩, hE⟩, hT⟩ := hv
  have hx := B.exec
  have hb := B.bytes
  have hr := B.returns
  have hts := atoms_spec (ws := w_t_count_n) B.pre
  have hown : s.vm.findClass RX11 = some m.cls := findClass_of_methodNamed B.named
  have hlocks := B.notSynchronized
  subst hsz
  have hD := hD0.self (sz := s.heap.size)
  generalize hAe : va_A (v0_t_count_n cy a n9) s.heap.size = A at hD hE hT ⊢
  have hA : ∀ q : Nat, s.heap.size ≤ q → A q := fun q h => by rw [← hAe]; exact Or.inr h
  have hS : va_S A s.heap s.heap [] := va_S.rf
  have hP : va_P (dC, dI) nCl (v0_t_count_n cy a n9) s.heap := hP
  have hl := lv_entry ([.ref (a 0), .int n9]) (n := 2) (Nat.le_of_ble_eq_true rfl)
  rw [lg_entry_eq]
  generalize (lg_sl ([.ref (a 0), .int n9]) ++ List.replicate (2 - (lg_sl ([.ref (a 0), .int n9])).length) Slot.unset).toArray = ls at hl ⊢
  have hl : lv_has ls 2 [(0, .ref (a 0)), (1, .int n9)] := hl
  have hP : va_P (dC, dI) nCl [((a 0), .inr (10, [.ref (a 1), .ref (a 2), .ref (a 3), .ref (a 4), .ref (a 5), .ref (a 6), .ref (a 7), .ref (a 8), .ref (a 9), .ref (a 10), .int 0, .int 0, .int 0, .int 0, .ref (a 11), .ref (a 12), .ref (a 13), .int 0, .int 0, .int 0]))] s.heap := hP
  have hD : va_D A [((a 0), .inr (10, [.ref (a 1), .ref (a 2), .ref (a 3), .ref (a 4), .ref (a 5), .ref (a 6), .ref (a 7), .ref (a 8), .ref (a 9), .ref (a 10), .int 0, .int 0, .int 0, .int 0, .ref (a 11), .ref (a 12), .ref (a 13), .int 0, .int 0, .int 0]))] := hD
  refine lv_iload_n hx hb dX11_count_0 rfl (lv_at hl 1 rfl) ?_
  refine lv_tableOut (tgt := 75) hx hb dX11_count_1 (Or.inl h1) (by decide) ?_
  refine vx_throw0 (cls := "java/lang/IndexOutOfBoundsException") (names := ["java/lang/RuntimeException", "java/lang/Exception"]) (mc := 1) (ms := 6) hx hb hl0 hown (by decide) (by decide) (hts _ (List.mem_cons_of_mem _ (List.mem_append_left _ (List.mem_append_left _ (List.mem_of_getElem? (i := 0) rfl))))) (hts _ (List.mem_cons_of_mem _ (List.mem_append_left _ (List.mem_append_left _ (List.mem_of_getElem? (i := 1) rfl))))) (vx_hat (B := [.castable "java/lang/IndexOutOfBoundsException" "java/lang/IndexOutOfBoundsException", .declares (Bundle.init0 "java/lang/RuntimeException"), .declares (Bundle.init0 "java/lang/Exception"), .declares (Bundle.init0 Bundle.tN)]) (fun w h => hts w (List.mem_cons_of_mem _ (List.mem_append_left _ (List.mem_append_right _ (List.mem_append_left _ h))))) (by decide +kernel) (vx_c (va_Nw.use (by decide +kernel) (hT.2.2.1 _ (List.mem_of_getElem? (i := 2) rfl))) (vx_c (va_Nw.use (by decide +kernel) (hT.2.2.1 _ (List.mem_of_getElem? (i := 4) rfl))) (vx_c (va_Nw.use (by decide +kernel) (hT.2.2.1 _ (List.mem_of_getElem? (i := 5) rfl))) (vx_c (va_Nw.use (by decide +kernel) (hT.2.2.1 _ (List.mem_of_getElem? (i := 6) rfl))) vx_n))))) (fun w h => List.all_eq_true.mp (by decide +kernel : (Cond.classLink RX11 194 "java/lang/IndexOutOfBoundsException" :: Cond.initialized "java/lang/IndexOutOfBoundsException" :: (vx_at0 RX11 196 "java/lang/IndexOutOfBoundsException" ["java/lang/RuntimeException", "java/lang/Exception"])).all vx_ot = true) w h) hT.1 hT.2.1 hS (hl.1.trans hml.symm) dX11_count_75 dX11_count_78 dX11_count_79 dX11_count_82 (fun x h => (hno x h).elim) (Nat.le_of_ble_eq_true rfl) (Nat.le_of_ble_eq_true rfl) (Nat.le_of_ble_eq_true rfl) (Nat.le_of_ble_eq_true rfl) hlocks (fun t _ hz hk => ⟨(), trivial, rfl, Nat.le_trans hS.1 hz, fun q hq hn => (hk q (Nat.lt_of_lt_of_le hq hS.1)).trans (hS.2.1 q hq hn)⟩) hS.2.2 (Nat.le_of_ble_eq_true rfl) (Nat.le_of_ble_eq_true rfl)
def o_t_count_p : List Cond := [.classLink RX11 194 "java/lang/IndexOutOfBoundsException", .initialized "java/lang/IndexOutOfBoundsException"]
theorem o_t_count_p_good : o_t_count_p.all goodWord = true := by decide +kernel
def p_t_count_p : List Cond := o_t_count_p ++ (((vx_at0 RX11 196 "java/lang/IndexOutOfBoundsException" ["java/lang/RuntimeException", "java/lang/Exception"]).filter goodWord) ++ [])
theorem p_t_count_p_good : p_t_count_p.all goodWord = true := nb_all2 o_t_count_p_good (nb_all2 (nb_fg _) rfl)
def w_t_count_p : List Cond := .code yX11_count cX11_count 2 (some .int) :: (p_t_count_p ++ fC)
theorem w_t_count_p_good : w_t_count_p.all goodWord = true := nb_allc (by decide +kernel) (nb_all2 p_t_count_p_good fC_good)
def v0_t_count_p (cy : Nat → ClassId) (a : Nat → Nat) (n9 : Int32) : va_W := [((a 0), .inr (10, [.ref (a 1), .ref (a 2), .ref (a 3), .ref (a 4), .ref (a 5), .ref (a 6), .ref (a 7), .ref (a 8), .ref (a 9), .ref (a 10), .int 0, .int 0, .int 0, .int 0, .ref (a 11), .ref (a 12), .ref (a 13), .int 0, .int 0, .int 0]))]
set_option maxHeartbeats 40000000 in
set_option maxRecDepth 100000 in
theorem t_count_p (l : Launch) (hl0 : l.stackTraces = false) (dC : Nat → ClassId) (dI : Nat → Nat → Nat) (cy : Nat → ClassId) (k : Nat → Nat) (a : Nat → Nat) (n9 : Int32) (h1 : 4 < n9.toInt) (sz : Nat) : vx_Met l yX11_count w_t_count_p ({ frames := 6, cells := 1, slots := 6, locals := 90 }) (va_Pc [.ref (a 0), .int n9] (nInF (dC, dI) cy k sz (v0_t_count_p cy a n9))) (va_Qi (fun (_ : Int32) (_ : Unit) => False) (fun _ _ => True) (va_A (v0_t_count_p cy a n9) sz)) (vx_X (fun _ : Unit => True) (fun E _ _ => E = "java/lang/IndexOutOfBoundsException") (va_A (v0_t_count_p cy a n9) sz)) 1 6 (va_A (v0_t_count_p cy a n9) sz) := by
  refine vx_ofW (cc := cX11_count) (maxL := 2) (ret := (some .int)) (by decide) rfl ?_
  intro p e s m args below meth c s₁ B hml hno hv
  obtain ⟨rfl, ⟨⟨hsz, hP, hK, hD0, hG⟩, hE⟩, hT⟩ := hv
  have hx := B.exec
  have hb := B.bytes
  have hr := B.returns
  have hts := atoms_spec (ws := w_t_count_p) B.pre
  have hown : s.vm.findClass RX11 = some m.cls := findClass_of_methodNamed B.named
  have hlocks := B.notSynchronized
  subst hsz
  have hD := hD0.self (sz := s.heap.size)
  generalize hAe : va_A (v0_t_count_p cy a n9) s.heap.size = A at hD hE hT ⊢
  have hA : ∀ q : Nat, s.heap.size ≤ q → A q := fun q h => by rw [← hAe]; exact Or.inr h
  have hS : va_S A s.heap s.heap [] := va_S.rf
  have hP : va_P (dC, dI) nCl (v0_t_count_p cy a n9) s.heap := hP
  have hl := lv_entry ([.ref (a 0), .int n9]) (n := 2) (Nat.le_of_ble_eq_true rfl)
  rw [lg_entry_eq]
  generalize (lg_sl ([.ref (a 0), .int n9]) ++ List.replicate (2 - (lg_sl ([.ref (a 0), .int n9])).length) Slot.unset).toArray = ls at hl ⊢
  have hl : lv_has ls 2 [(0, .ref (a 0)), (1, .int n9)] := hl
  have hP : va_P (dC, dI) nCl [((a 0), .inr (10, [.ref (a 1), .ref (a 2), .ref (a 3), .ref (a 4), .ref (a 5), .ref (a 6), .ref (a 7), .ref (a 8), .ref (a 9), .ref (a 10), .int 0, .int 0, .int 0, .int 0, .ref (a 11), .ref (a 12), .ref (a 13), .int 0, .int 0, .int 0]))] s.heap := hP
  have hD : va_D A [((a 0), .inr (10, [.ref (a 1), .ref (a 2), .ref (a 3), .ref (a 4), .ref (a 5), .ref (a 6), .ref (a 7), .ref (a 8), .ref (a 9), .ref (a 10), .int 0, .int 0, .int 0, .int 0, .ref (a 11), .ref (a 12), .ref (a 13), .int 0, .int 0, .int 0]))] := hD
  refine lv_iload_n hx hb dX11_count_0 rfl (lv_at hl 1 rfl) ?_
  refine lv_tableOut (tgt := 75) hx hb dX11_count_1 (Or.inr h1) (by decide) ?_
  refine vx_throw0 (cls := "java/lang/IndexOutOfBoundsException") (names := ["java/lang/RuntimeException", "java/lang/Exception"]) (mc := 1) (ms := 6) hx hb hl0 hown (by decide) (by decide) (hts _ (List.mem_cons_of_mem _ (List.mem_append_left _ (List.mem_append_left _ (List.mem_of_getElem? (i := 0) rfl))))) (hts _ (List.mem_cons_of_mem _ (List.mem_append_left _ (List.mem_append_left _ (List.mem_of_getElem? (i := 1) rfl))))) (vx_hat (B := [.castable "java/lang/IndexOutOfBoundsException" "java/lang/IndexOutOfBoundsException", .declares (Bundle.init0 "java/lang/RuntimeException"), .declares (Bundle.init0 "java/lang/Exception"), .declares (Bundle.init0 Bundle.tN)]) (fun w h => hts w (List.mem_cons_of_mem _ (List.mem_append_left _ (List.mem_append_right _ (List.mem_append_left _ h))))) (by decide +kernel) (vx_c (va_Nw.use (by decide +kernel) (hT.2.2.1 _ (List.mem_of_getElem? (i := 2) rfl))) (vx_c (va_Nw.use (by decide +kernel) (hT.2.2.1 _ (List.mem_of_getElem? (i := 4) rfl))) (vx_c (va_Nw.use (by decide +kernel) (hT.2.2.1 _ (List.mem_of_getElem? (i := 5) rfl))) (vx_c (va_Nw.use (by decide +kernel) (hT.2.2.1 _ (List.mem_of_getElem? (i := 6) rfl))) vx_n))))) (fun w h => List.all_eq_true.mp (by decide +kernel : (Cond.classLink RX11 194 "java/lang/IndexOutOfBoundsException" :: Cond.initialized "java/lang/IndexOutOfBoundsException" :: (vx_at0 RX11 196 "java/lang/IndexOutOfBoundsException" ["java/lang/RuntimeException", "java/lang/Exception"])).all vx_ot = true) w h) hT.1 hT.2.1 hS (hl.1.trans hml.symm) dX11_count_75 dX11_count_78 dX11_count_79 dX11_count_82 (fun x h => (hno x h).elim) (Nat.le_of_ble_eq_true rfl) (Nat.le_of_ble_eq_true rfl) (Nat.le_of_ble_eq_true rfl) (Nat.le_of_ble_eq_true rfl) hlocks (fun t _ hz hk => ⟨(), trivial, rfl, Nat.le_trans hS.1 hz, fun q hq hn => (hk q (Nat.lt_of_lt_of_le hq hS.1)).trans (hS.2.1 q hq hn)⟩) hS.2.2 (Nat.le_of_ble_eq_true rfl) (Nat.le_of_ble_eq_true rfl)

/-! The law's wrappers: an answer into out, or the number of what was thrown. -/
def vW (cy : Nat → ClassId) (a z : Nat → Nat) (σ : CS) (q0 : Nat) (w : Nat → Int64) : va_W := (q0, .inl (cy 2, 1, .inr (.inl w))) :: vC cy a z σ
def nX (U : State) : Prop := va_Nc "java/lang/IllegalArgumentException" "java/lang/IllegalStateException" U ∧ va_Nc "java/lang/UnsupportedOperationException" "java/lang/IllegalStateException" U
theorem nX.moved {u U : State} (h : nX u) (e : u.vm.Alike U.vm) : nX U := ⟨h.1.moved e, h.2.moved e⟩
abbrev nInX (D : va_G) (cy : Nat → ClassId) (k : Nat → Nat) (sz : Nat) (ws : va_W) : State → Prop := fun U => nInF D cy k sz ws U ∧ nX U
theorem nb_blindX {D : va_G} {cy : Nat → ClassId} {k : Nat → Nat} {sz : Nat} {ws : va_W} {av : List Value} : FrameBlind (va_Pc av (nInX D cy k sz ws)) := fun a U g mk q => by
  obtain ⟨q0, ⟨⟨⟨q1, qP, qK, qD, qG⟩, qE⟩, qT⟩, qX⟩ := q
  exact ⟨q0, ⟨⟨⟨q1, qP, va_K.moved (u := U) (U := U.calling g mk a) (Vm.Alike.refl U.vm) qK, qD, nG.same (U := U.calling g mk a) qG rfl⟩, nE.same (U := U.calling g mk a) qE rfl rfl⟩, nT.same (U := U.calling g mk a) qT rfl rfl⟩, qX.moved (U := U.calling g mk a) (Vm.Alike.refl U.vm)⟩
def wv (n1 : Nat) (c1 c2 : Int32) (n : Nat) : Int32 := if n = 0 then 0 else if n = n1 then c1 else c2
def wo (w : Nat → Int64) (n : Nat) (x : Int32) : Nat → Int64 := if n = 0 then vp_updL w 0 x.toInt64 else w
/-- as Met.ofW, for a method with a table of its own -/
theorem nb_ofWH {l : Launch} {y : MethodName} {ws ws' : List Cond} {rm : Room} {Pc : Array Value → State → Prop} {Qc : Array Value → State → Outcome → State → Prop} {mc ms : Nat} {free : Addr → Prop} {cc : ByteArray} {maxL : Nat} {ret : Option FieldType} {hh : List (Nat × Nat × Nat × Nat)} (hy : plainName y.cls = true) (hw : ws = Cond.codeWith y cc maxL ret hh :: ws') (body : ∀ p e s m args below meth c s₁, BodyLoose p l y (headSpec ws rm) cc maxL ret e s m args below meth c s₁ → c.maxLocals = maxL → Pc args s → W p l e (headSpec ws rm).room s m args below meth c s.heap [] 0 0 (MQ below Qc args s mc ms free) (entryFrame m args maxL)) : Met l y ws rm Pc Qc mc ms free := by
  refine MetFree.of_bodyS (code := cc) (maxLocals := maxL) (ret := ret) hy ?_ ?_
  · intro args s m h hn
    obtain ⟨m9, meth, c, hn9, h1, h2, h3, h4, -, h5, h6, -⟩ := Cond.codeWith_spec (atoms_spec (ws := ws) h _ (by rw [hw]; exact List.mem_cons_self))
    cases hn.symm.trans hn9
    exact ⟨meth, c, h1, h2, h3, h4, h5, h6⟩
  · intro p e s m args below meth c s₁ B hml hP _
    have hh0 : s₁.heap = s.heap := by rw [B.state]; rfl
    obtain ⟨t, a1, o, b1, b2, b3⟩ := body p e s m args below meth c s₁ B hml hP s₁ hh0 (Stand.of_body B)
    exact ⟨t, o, a1, b1, b2, b3⟩
/-! feed -/
def o_w_feed : List Cond := [.methodLink RL 7 yX11_feed, .instanceMethod yX11_feed, .selects RX11 yX11_feed yX11_feed, .initialized RX11, .classLink RL 13 "java/lang/UnsupportedOperationException"]
theorem o_w_feed_good : o_w_feed.all goodWord = true := by decide +kernel
def p_w_feed : List Cond := o_w_feed ++ ((.code yX11_feed cX11_feed 6 (some .int) :: p_f_X11_feed) ++ [])
theorem p_w_feed_good : p_w_feed.all goodWord = true := nb_all2 o_w_feed_good (nb_all2 (nb_allc (by decide +kernel) p_f_X11_feed_good) rfl)
def w_w_feed : List Cond := .codeWith yL_feed cL_feed 8 (some .int) [(0, 16, 19, 13)] :: (p_w_feed ++ fC)
theorem w_w_feed_good : w_w_feed.all goodWord = true := nb_allc (by decide +kernel) (nb_all2 p_w_feed_good fC_good)
theorem gg_w_feed : GoodIn w_w_feed w_f_X11_feed := goodIn_sub (fun w h => (List.mem_cons.mp h).elim (fun e => (List.mem_cons_of_mem _ (List.mem_append_left _ (List.mem_append_right _ (List.mem_append_left _ (List.mem_cons.mpr (Or.inl e))))))) (fun h => (List.mem_append.mp h).elim (fun h => (List.mem_cons_of_mem _ (List.mem_append_left _ (List.mem_append_right _ (List.mem_append_left _ (List.mem_cons_of_mem _ h)))))) (fun h => List.mem_cons_of_mem _ (List.mem_append_right _ h)))) w_f_X11_feed_good
theorem g_w_feed : GoodIn w_w_feed (wsV RL 7 RX11 yX11_feed w_f_X11_feed) := goodIn_app (nb_g4 (List.mem_cons_of_mem _ (List.mem_append_left _ (List.mem_append_left _ (List.mem_of_getElem? (i := 0) rfl)))) (List.mem_cons_of_mem _ (List.mem_append_left _ (List.mem_append_left _ (List.mem_of_getElem? (i := 1) rfl)))) (List.mem_cons_of_mem _ (List.mem_append_left _ (List.mem_append_left _ (List.mem_of_getElem? (i := 2) rfl)))) (List.mem_cons_of_mem _ (List.mem_append_left _ (List.mem_append_left _ (List.mem_of_getElem? (i := 3) rfl)))) (by decide +kernel)) gg_w_feed
set_option maxHeartbeats 40000000 in
set_option maxRecDepth 100000 in
theorem c_w_feed (l : Launch) (hl0 : l.stackTraces = false) (dC : Nat → ClassId) (dI : Nat → Nat → Nat) (cy : Nat → ClassId) (ek a : Nat → Nat) (k0 : Nat) (v1 : Int32) (v2 : Int32) (v3 : Int32) (v4 : Int32) (v5 : Int32) (σ : CS) (q0 : Nat) (w : Nat → Int64) (r : RS) (h0 : f_X11_feed k0 0 (lI (lI (lI (lI (lI lZ 1 v1) 2 v2) 3 v3) 4 v4) 5 v5) σ = some r) (hcode : r.1.1 = 0 ∨ r.1.1 = 4) (z : Nat → Nat) (sz : Nat) : Met l yL_feed w_w_feed ({ frames := 7, cells := r.2.2.1, slots := r.2.2.2, locals := 182 }) (va_Pc [.ref (a 75), .int v1, .int v2, .int v3, .int v4, .int v5, .ref q0] (nInX (dC, dI) cy ek sz (vW cy a z σ q0 w))) (va_Qi (fun (x : Int32) (u : Nat → Nat) => x = wv 4 1 1 r.1.1 ∧ zk [38] z u) (fun u t => nOut (dC, dI) cy (va_A (vW cy a z σ q0 w) sz) (vW cy a u r.2.1 q0 (wo w r.1.1 r.1.2)) t) (va_A (vW cy a z σ q0 w) sz)) r.2.2.1 r.2.2.2 (va_A (vW cy a z σ q0 w) sz) := by
  refine nb_ofWH (cc := cL_feed) (maxL := 8) (ret := (some .int)) (by decide) rfl ?_
  intro p e s m args below meth c s₁ B hml hv
  obtain ⟨rfl, ⟨⟨⟨hsz, hP, hK, hD0, hG⟩, hE⟩, hT⟩, hX⟩ := hv
  have hx := B.exec
  have hb := B.bytes
  have hr := B.returns
  have hts := atoms_spec (ws := w_w_feed) B.pre
  have hown : s.vm.findClass RL = some m.cls := findClass_of_methodNamed B.named
  have hTb : c.exceptionTable.toList = tableOf [(0, 16, 19, 13)] := vx_table (x := yL_feed) B (hts _ List.mem_cons_self)
  have hlocks := B.notSynchronized
  subst hsz
  have hD := hD0.self (sz := s.heap.size)
  generalize hAe : va_A (vW cy a z σ q0 w) s.heap.size = A at hD hE hT ⊢
  have hA : ∀ q : Nat, s.heap.size ≤ q → A q := fun q h => by rw [← hAe]; exact Or.inr h
  have hS : va_S A s.heap s.heap [] := va_S.rf
  have hl := lv_entry ([.ref (a 75), .int v1, .int v2, .int v3, .int v4, .int v5, .ref q0]) (n := 8) (Nat.le_of_ble_eq_true rfl)
  rw [lg_entry_eq]
  generalize (lg_sl ([.ref (a 75), .int v1, .int v2, .int v3, .int v4, .int v5, .ref q0]) ++ List.replicate (8 - (lg_sl ([.ref (a 75), .int v1, .int v2, .int v3, .int v4, .int v5, .ref q0])).length) Slot.unset).toArray = ls at hl ⊢
  have hl : lv_has ls 8 [(0, .ref (a 75)), (1, .int v1), (2, .int v2), (3, .int v3), (4, .int v4), (5, .int v5), (6, .ref q0)] := hl
  refine lv_aload hx hb dL_feed_0 (lv_at hl 6 rfl) ?_
  refine lv_iconst (v := 0) hx hb dL_feed_2 (by decide) ?_
  refine lv_aload_n hx hb dL_feed_3 rfl (lv_at hl 0 rfl) ?_
  refine lv_iload_n hx hb dL_feed_4 rfl (lv_at hl 1 rfl) ?_
  refine lv_iload_n hx hb dL_feed_5 rfl (lv_at hl 2 rfl) ?_
  refine lv_iload_n hx hb dL_feed_6 rfl (lv_at hl 3 rfl) ?_
  refine lv_iload hx hb dL_feed_7 (lv_at hl 4 rfl) ?_
  refine lv_iload hx hb dL_feed_9 (lv_at hl 5 rfl) ?_
  have hPc := hP.sub (ws' := vC cy a z σ) [1, 2, 3, 4, 5, 6, 7, 8, 9, 10, 11, 12, 13, 14, 15, 16, 17, 18, 19, 20, 21, 22, 23, 24, 25, 26, 27, 28, 29, 30, 31, 32, 33, 34, 35, 36, 37, 38, 39, 40, 41, 42, 43, 44, 45, 46, 47, 48, 49, 50, 51, 52, 53, 54, 55, 56, 57, 58, 59, 60, 61, 62, 63, 64, 65, 66, 67, 68, 69, 70, 71, 72, 73, 74, 75, 76] rfl
  have hDc := hD.sub (ws' := vC cy a z σ) [1, 2, 3, 4, 5, 6, 7, 8, 9, 10, 11, 12, 13, 14, 15, 16, 17, 18, 19, 20, 21, 22, 23, 24, 25, 26, 27, 28, 29, 30, 31, 32, 33, 34, 35, 36, 37, 38, 39, 40, 41, 42, 43, 44, 45, 46, 47, 48, 49, 50, 51, 52, 53, 54, 55, 56, 57, 58, 59, 60, 61, 62, 63, 64, 65, 66, 67, 68, 69, 70, 71, 72, 73, 74, 75, 76] (by decide) rfl
  have hFc := va_free (wc := vC cy a z σ) hD hS hA [1, 2, 3, 4, 5, 6, 7, 8, 9, 10, 11, 12, 13, 14, 15, 16, 17, 18, 19, 20, 21, 22, 23, 24, 25, 26, 27, 28, 29, 30, 31, 32, 33, 34, 35, 36, 37, 38, 39, 40, 41, 42, 43, 44, 45, 46, 47, 48, 49, 50, 51, 52, 53, 54, 55, 56, 57, 58, 59, 60, 61, 62, 63, 64, 65, 66, 67, 68, 69, 70, 71, 72, 73, 74, 75, 76] rfl
  refine vx_calli (vx_runV (As := [.int v1, .int v2, .int v3, .int v4, .int v5]) (rest := [.int 0, .ref q0]) ⟨hx, hb, hml, hown, hts⟩ (c_f_X11_feed l hl0 dC dI cy ek a k0 (lI (lI (lI (lI (lI lZ 1 v1) 2 v2) 3 v3) 4 v4) 5 v5) σ r h0 z s.heap.size) (cwV 5 hts g_w_feed rfl rfl rfl hd_f_X11_feed ⟨Nat.le_of_ble_eq_true rfl, Nat.le_of_ble_eq_true rfl⟩) ⟨nb_blindF, va_recv hK hPc (ci := 10) (q0 := 75) rfl rfl, fun U hU hW => ⟨rfl, ⟨⟨by rw [hU], by rw [hU]; exact hPc, va_K.moved hW.alike hK, hDc.weaken (fun _ _ _ _ => trivial), hG.warm hW⟩, nE.to hE hS hW hU hFc⟩, nT.to hT hS hW hU hFc⟩⟩ rfl rfl hl.1 rfl (lv_room (Nat.le_of_ble_eq_true rfl)) dL_feed_11 ⟨Nat.le_of_eq (Nat.zero_add _), Nat.le_of_eq (Nat.zero_add _)⟩) hS (fun q _ h => hFc q h) hFc (fun q _ h => hFc q h) (fun E ce q9 u t H1 locs1 ht hvm hp hB hz1 hk1 hS hce hcv hcl => ?_) (fun x u t H1 locs1 ht hvm hw hB hz1 hk1 hS => ?_)
  · obtain ⟨hne, hz⟩ := hp
    obtain ⟨hE0, hP1, hK1, hD1⟩ := hB
    subst hE0
    rw [ht] at hP1
    obtain ⟨hP, hD⟩ := va_join (wr := [(q0, .inl (cy 2, 1, .inr (.inl w)))]) (w1 := vC cy a u r.2.1) hP hD [1, 2, 3, 4, 5, 6, 7, 8, 9, 10, 11, 12, 13, 14, 15, 16, 17, 18, 19, 20, 21, 22, 23, 24, 25, 26, 27, 28, 29, 30, 31, 32, 33, 34, 35, 36, 37, 38, 39, 40, 41, 42, 43, 44, 45, 46, 47, 48, 49, 50, 51, 52, 53, 54, 55, 56, 57, 58, 59, 60, 61, 62, 63, 64, 65, 66, 67, 68, 69, 70, 71, 72, 73, 74, 75, 76] [0] rfl rfl (by decide) (by decide) hk1 hFc hP1 hD1
    refine vx_widen (k := r.2.2.1) (n := r.2.2.2) (Nat.le_of_eq (Nat.zero_add _)) (Nat.le_of_eq (Nat.zero_add _)) ?_
    rcases hcode with h00 | h01
    · exact absurd h00 hne
    · rw [h01] at hcl
      refine vx_catch (E := "java/lang/UnsupportedOperationException") (name := "java/lang/UnsupportedOperationException") hown [] (⟨0, 16, 19, 13⟩ : ExceptionTableEntry) [] (by rw [hTb]; rfl) (fun z h => absurd h List.not_mem_nil) (by decide) (by decide) (hts _ (List.mem_cons_of_mem _ (List.mem_append_left _ (List.mem_append_left _ (List.mem_of_getElem? (i := 4) rfl))))) (va_Nw.use (by decide +kernel) (hT.2.2.1 _ (List.mem_of_getElem? (i := 3) rfl))) hce hcv hcl ?_
      refine lv_astore (lv' := [(7, .ref q9), (0, .ref (a 75)), (1, .int v1), (2, .int v2), (3, .int v3), (4, .int v4), (5, .int v5), (6, .ref q0)]) hx hb dL_feed_19 hl (by decide) rfl (fun ls hl => ?_)
      refine lv_iconst (v := 1) hx hb dL_feed_21 (by decide) ?_
      have hP : va_P (dC, dI) nCl (vW cy a u r.2.1 q0 (wo w r.1.1 r.1.2)) H1 := by rw [show wo w r.1.1 r.1.2 = w from if_neg hne]; exact hP
      have hD : va_D A (vW cy a u r.2.1 q0 (wo w r.1.1 r.1.2)) := by rw [show wo w r.1.1 r.1.2 = w from if_neg hne]; exact hD
      exact W.iret (v := 1) hx hb hr (fun t ht hW => ⟨⟨1, u, rfl, ⟨by rw [h01]; decide, hz⟩, by rw [ht]; exact hP, va_K.moved hW.alike hK, hD⟩, hS.F ht⟩) hS.2.2 dL_feed_22
  · obtain ⟨⟨h00, hxx⟩, hz⟩ := hw
    subst hxx
    obtain ⟨hP1, hK1, hD1⟩ := hB
    rw [ht] at hP1
    obtain ⟨hP, hD⟩ := va_join (wr := [(q0, .inl (cy 2, 1, .inr (.inl w)))]) (w1 := vC cy a u r.2.1) hP hD [1, 2, 3, 4, 5, 6, 7, 8, 9, 10, 11, 12, 13, 14, 15, 16, 17, 18, 19, 20, 21, 22, 23, 24, 25, 26, 27, 28, 29, 30, 31, 32, 33, 34, 35, 36, 37, 38, 39, 40, 41, 42, 43, 44, 45, 46, 47, 48, 49, 50, 51, 52, 53, 54, 55, 56, 57, 58, 59, 60, 61, 62, 63, 64, 65, 66, 67, 68, 69, 70, 71, 72, 73, 74, 75, 76] [0] rfl rfl (by decide) (by decide) hk1 hFc hP1 hD1
    refine W.widen (k := r.2.2.1) (n := r.2.2.2) (Nat.le_of_eq (Nat.zero_add _)) (Nat.le_of_eq (Nat.zero_add _)) ?_
    refine lv_i2l (v := r.1.2.toInt64) hx hb dL_feed_14 rfl ?_
    refine va_last hx hb hK hP hD hS 0 2 rfl rfl (nb_in (by decide)) dL_feed_15 (fun H locs hP hD hS => ?_)
    have hP : va_P (dC, dI) nCl (vW cy a u r.2.1 q0 (wo w r.1.1 r.1.2)) H := by rw [show wo w r.1.1 r.1.2 = vp_updL w 0 r.1.2.toInt64 from if_pos h00]; exact hP
    have hD : va_D A (vW cy a u r.2.1 q0 (wo w r.1.1 r.1.2)) := by rw [show wo w r.1.1 r.1.2 = vp_updL w 0 r.1.2.toInt64 from if_pos h00]; exact hD
    refine lv_goto (tgt := 23) hx hb dL_feed_16 (by decide) ?_
    refine lv_iconst (v := 0) hx hb dL_feed_23 (by decide) ?_
    exact W.iret (v := 0) hx hb hr (fun t ht hW => ⟨⟨0, u, rfl, ⟨by rw [h00]; decide, hz⟩, by rw [ht]; exact hP, va_K.moved hW.alike hK, hD⟩, hS.F ht⟩) hS.2.2 dL_feed_24
/-! end -/
def o_w_end : List Cond := [.methodLink RL 15 yX11_end, .instanceMethod yX11_end, .selects RX11 yX11_end yX11_end, .initialized RX11, .classLink RL 19 "java/lang/IllegalArgumentException"]
theorem o_w_end_good : o_w_end.all goodWord = true := by decide +kernel
def p_w_end : List Cond := o_w_end ++ ((.code yX11_end cX11_end 2 none :: p_f_X11_end) ++ [])
theorem p_w_end_good : p_w_end.all goodWord = true := nb_all2 o_w_end_good (nb_all2 (nb_allc (by decide +kernel) p_f_X11_end_good) rfl)
def w_w_end : List Cond := .codeWith yL_end cL_end 3 (some .int) [(0, 5, 8, 19)] :: (p_w_end ++ fC)
theorem w_w_end_good : w_w_end.all goodWord = true := nb_allc (by decide +kernel) (nb_all2 p_w_end_good fC_good)
theorem gg_w_end : GoodIn w_w_end w_f_X11_end := goodIn_sub (fun w h => (List.mem_cons.mp h).elim (fun e => (List.mem_cons_of_mem _ (List.mem_append_left _ (List.mem_append_right _ (List.mem_append_left _ (List.mem_cons.mpr (Or.inl e))))))) (fun h => (List.mem_append.mp h).elim (fun h => (List.mem_cons_of_mem _ (List.mem_append_left _ (List.mem_append_right _ (List.mem_append_left _ (List.mem_cons_of_mem _ h)))))) (fun h => List.mem_cons_of_mem _ (List.mem_append_right _ h)))) w_f_X11_end_good
theorem g_w_end : GoodIn w_w_end (wsV RL 15 RX11 yX11_end w_f_X11_end) := goodIn_app (nb_g4 (List.mem_cons_of_mem _ (List.mem_append_left _ (List.mem_append_left _ (List.mem_of_getElem? (i := 0) rfl)))) (List.mem_cons_of_mem _ (List.mem_append_left _ (List.mem_append_left _ (List.mem_of_getElem? (i := 1) rfl)))) (List.mem_cons_of_mem _ (List.mem_append_left _ (List.mem_append_left _ (List.mem_of_getElem? (i := 2) rfl)))) (List.mem_cons_of_mem _ (List.mem_append_left _ (List.mem_append_left _ (List.mem_of_getElem? (i := 3) rfl)))) (by decide +kernel)) gg_w_end
set_option maxHeartbeats 40000000 in
set_option maxRecDepth 100000 in
theorem c_w_end (l : Launch) (hl0 : l.stackTraces = false) (dC : Nat → ClassId) (dI : Nat → Nat → Nat) (cy : Nat → ClassId) (ek a : Nat → Nat) (k0 : Nat) (v1 : Int32) (σ : CS) (r : RS) (h0 : f_X11_end k0 0 (lI lZ 1 v1) σ = some r) (hcode : r.1.1 = 0 ∨ r.1.1 = 1) (z : Nat → Nat) (sz : Nat) : Met l yL_end w_w_end ({ frames := 7, cells := r.2.2.1, slots := r.2.2.2, locals := 121 }) (va_Pc [.ref (a 75), .int v1] (nInX (dC, dI) cy ek sz (vC cy a z σ))) (va_Qi (fun (x : Int32) (u : Nat → Nat) => x = wv 1 1 1 r.1.1 ∧ zk [] z u) (fun u t => nOut (dC, dI) cy (va_A (vC cy a z σ) sz) (vC cy a u r.2.1) t) (va_A (vC cy a z σ) sz)) r.2.2.1 r.2.2.2 (va_A (vC cy a z σ) sz) := by
  refine nb_ofWH (cc := cL_end) (maxL := 3) (ret := (some .int)) (by decide) rfl ?_
  intro p e s m args below meth c s₁ B hml hv
  obtain ⟨rfl, ⟨⟨⟨hsz, hP, hK, hD0, hG⟩, hE⟩, hT⟩, hX⟩ := hv
  have hx := B.exec
  have hb := B.bytes
  have hr := B.returns
  have hts := atoms_spec (ws := w_w_end) B.pre
  have hown : s.vm.findClass RL = some m.cls := findClass_of_methodNamed B.named
  have hTb : c.exceptionTable.toList = tableOf [(0, 5, 8, 19)] := vx_table (x := yL_end) B (hts _ List.mem_cons_self)
  have hlocks := B.notSynchronized
  subst hsz
  have hD := hD0.self (sz := s.heap.size)
  generalize hAe : va_A (vC cy a z σ) s.heap.size = A at hD hE hT ⊢
  have hA : ∀ q : Nat, s.heap.size ≤ q → A q := fun q h => by rw [← hAe]; exact Or.inr h
  have hS : va_S A s.heap s.heap [] := va_S.rf
  have hl := lv_entry ([.ref (a 75), .int v1]) (n := 3) (Nat.le_of_ble_eq_true rfl)
  rw [lg_entry_eq]
  generalize (lg_sl ([.ref (a 75), .int v1]) ++ List.replicate (3 - (lg_sl ([.ref (a 75), .int v1])).length) Slot.unset).toArray = ls at hl ⊢
  have hl : lv_has ls 3 [(0, .ref (a 75)), (1, .int v1)] := hl
  refine lv_aload_n hx hb dL_end_0 rfl (lv_at hl 0 rfl) ?_
  refine lv_iload_n hx hb dL_end_1 rfl (lv_at hl 1 rfl) ?_
  have hPc := hP.sub (ws' := vC cy a z σ) [0, 1, 2, 3, 4, 5, 6, 7, 8, 9, 10, 11, 12, 13, 14, 15, 16, 17, 18, 19, 20, 21, 22, 23, 24, 25, 26, 27, 28, 29, 30, 31, 32, 33, 34, 35, 36, 37, 38, 39, 40, 41, 42, 43, 44, 45, 46, 47, 48, 49, 50, 51, 52, 53, 54, 55, 56, 57, 58, 59, 60, 61, 62, 63, 64, 65, 66, 67, 68, 69, 70, 71, 72, 73, 74, 75] rfl
  have hDc := hD.sub (ws' := vC cy a z σ) [0, 1, 2, 3, 4, 5, 6, 7, 8, 9, 10, 11, 12, 13, 14, 15, 16, 17, 18, 19, 20, 21, 22, 23, 24, 25, 26, 27, 28, 29, 30, 31, 32, 33, 34, 35, 36, 37, 38, 39, 40, 41, 42, 43, 44, 45, 46, 47, 48, 49, 50, 51, 52, 53, 54, 55, 56, 57, 58, 59, 60, 61, 62, 63, 64, 65, 66, 67, 68, 69, 70, 71, 72, 73, 74, 75] (by decide) rfl
  have hFc := va_free (wc := vC cy a z σ) hD hS hA [0, 1, 2, 3, 4, 5, 6, 7, 8, 9, 10, 11, 12, 13, 14, 15, 16, 17, 18, 19, 20, 21, 22, 23, 24, 25, 26, 27, 28, 29, 30, 31, 32, 33, 34, 35, 36, 37, 38, 39, 40, 41, 42, 43, 44, 45, 46, 47, 48, 49, 50, 51, 52, 53, 54, 55, 56, 57, 58, 59, 60, 61, 62, 63, 64, 65, 66, 67, 68, 69, 70, 71, 72, 73, 74, 75] rfl
  refine vx_callv (vx_runV (As := [.int v1]) (rest := []) ⟨hx, hb, hml, hown, hts⟩ (c_f_X11_end l hl0 dC dI cy ek a k0 (lI lZ 1 v1) σ r h0 z s.heap.size) (cwV 1 hts g_w_end rfl rfl rfl hd_f_X11_end ⟨Nat.le_of_ble_eq_true rfl, Nat.le_of_ble_eq_true rfl⟩) ⟨nb_blindF, va_recv hK hPc (ci := 10) (q0 := 75) rfl rfl, fun U hU hW => ⟨rfl, ⟨⟨by rw [hU], by rw [hU]; exact hPc, va_K.moved hW.alike hK, hDc.weaken (fun _ _ _ _ => trivial), hG.warm hW⟩, nE.to hE hS hW hU hFc⟩, nT.to hT hS hW hU hFc⟩⟩ rfl rfl hl.1 rfl (lv_room (Nat.le_of_ble_eq_true rfl)) dL_end_2 ⟨Nat.le_of_eq (Nat.zero_add _), Nat.le_of_eq (Nat.zero_add _)⟩) hS (fun q _ h => hFc q h) hFc (fun q _ h => hFc q h) (fun E ce q9 u t H1 locs1 ht hvm hp hB hz1 hk1 hS hce hcv hcl => ?_) (fun u t H1 locs1 ht hvm hw hB hz1 hk1 hS => ?_)
  · obtain ⟨hne, hz⟩ := hp
    obtain ⟨hE0, hP1, hK1, hD1⟩ := hB
    subst hE0
    rw [ht] at hP1
    obtain ⟨hP, hD⟩ := va_join (wr := []) (w1 := vC cy a u r.2.1) hP hD [0, 1, 2, 3, 4, 5, 6, 7, 8, 9, 10, 11, 12, 13, 14, 15, 16, 17, 18, 19, 20, 21, 22, 23, 24, 25, 26, 27, 28, 29, 30, 31, 32, 33, 34, 35, 36, 37, 38, 39, 40, 41, 42, 43, 44, 45, 46, 47, 48, 49, 50, 51, 52, 53, 54, 55, 56, 57, 58, 59, 60, 61, 62, 63, 64, 65, 66, 67, 68, 69, 70, 71, 72, 73, 74, 75] [] rfl rfl (by decide) (by decide) hk1 hFc hP1 hD1
    refine vx_widen (k := r.2.2.1) (n := r.2.2.2) (Nat.le_of_eq (Nat.zero_add _)) (Nat.le_of_eq (Nat.zero_add _)) ?_
    rcases hcode with h00 | h01
    · exact absurd h00 hne
    · rw [h01] at hcl
      refine vx_catch (E := "java/lang/IllegalArgumentException") (name := "java/lang/IllegalArgumentException") hown [] (⟨0, 5, 8, 19⟩ : ExceptionTableEntry) [] (by rw [hTb]; rfl) (fun z h => absurd h List.not_mem_nil) (by decide) (by decide) (hts _ (List.mem_cons_of_mem _ (List.mem_append_left _ (List.mem_append_left _ (List.mem_of_getElem? (i := 4) rfl))))) (va_Nw.use (by decide +kernel) (hT.2.2.1 _ (List.mem_of_getElem? (i := 1) rfl))) hce hcv hcl ?_
      refine lv_astore_n (lv' := [(2, .ref q9), (0, .ref (a 75)), (1, .int v1)]) hx hb dL_end_8 rfl hl (by decide) rfl (fun ls hl => ?_)
      refine lv_iconst (v := 1) hx hb dL_end_9 (by decide) ?_
      exact W.iret (v := 1) hx hb hr (fun t ht hW => ⟨⟨1, u, rfl, ⟨by rw [h01]; decide, hz⟩, by rw [ht]; exact hP, va_K.moved hW.alike hK, hD⟩, hS.F ht⟩) hS.2.2 dL_end_10
  · obtain ⟨h00, hz⟩ := hw
    obtain ⟨hP1, hK1, hD1⟩ := hB
    rw [ht] at hP1
    obtain ⟨hP, hD⟩ := va_join (wr := []) (w1 := vC cy a u r.2.1) hP hD [0, 1, 2, 3, 4, 5, 6, 7, 8, 9, 10, 11, 12, 13, 14, 15, 16, 17, 18, 19, 20, 21, 22, 23, 24, 25, 26, 27, 28, 29, 30, 31, 32, 33, 34, 35, 36, 37, 38, 39, 40, 41, 42, 43, 44, 45, 46, 47, 48, 49, 50, 51, 52, 53, 54, 55, 56, 57, 58, 59, 60, 61, 62, 63, 64, 65, 66, 67, 68, 69, 70, 71, 72, 73, 74, 75] [] rfl rfl (by decide) (by decide) hk1 hFc hP1 hD1
    refine W.widen (k := r.2.2.1) (n := r.2.2.2) (Nat.le_of_eq (Nat.zero_add _)) (Nat.le_of_eq (Nat.zero_add _)) ?_
    refine lv_goto (tgt := 11) hx hb dL_end_5 (by decide) ?_
    refine lv_iconst (v := 0) hx hb dL_end_11 (by decide) ?_
    exact W.iret (v := 0) hx hb hr (fun t ht hW => ⟨⟨0, u, rfl, ⟨by rw [h00]; decide, hz⟩, by rw [ht]; exact hP, va_K.moved hW.alike hK, hD⟩, hS.F ht⟩) hS.2.2 dL_end_12
/-! start -/
def o_w_start : List Cond := [.methodLink RL 21 yX11_start, .instanceMethod yX11_start, .selects RX11 yX11_start yX11_start, .initialized RX11, .classLink RL 25 "java/lang/IllegalStateException"]
theorem o_w_start_good : o_w_start.all goodWord = true := by decide +kernel
def p_w_start : List Cond := o_w_start ++ ((.code yX11_start cX11_start 3 none :: p_f_X11_start) ++ [])
theorem p_w_start_good : p_w_start.all goodWord = true := nb_all2 o_w_start_good (nb_all2 (nb_allc (by decide +kernel) p_f_X11_start_good) rfl)
def w_w_start : List Cond := .codeWith yL_start cL_start 4 (some .int) [(0, 5, 8, 25)] :: (p_w_start ++ fC)
theorem w_w_start_good : w_w_start.all goodWord = true := nb_allc (by decide +kernel) (nb_all2 p_w_start_good fC_good)
theorem gg_w_start : GoodIn w_w_start w_f_X11_start := goodIn_sub (fun w h => (List.mem_cons.mp h).elim (fun e => (List.mem_cons_of_mem _ (List.mem_append_left _ (List.mem_append_right _ (List.mem_append_left _ (List.mem_cons.mpr (Or.inl e))))))) (fun h => (List.mem_append.mp h).elim (fun h => (List.mem_cons_of_mem _ (List.mem_append_left _ (List.mem_append_right _ (List.mem_append_left _ (List.mem_cons_of_mem _ h)))))) (fun h => List.mem_cons_of_mem _ (List.mem_append_right _ h)))) w_f_X11_start_good
theorem g_w_start : GoodIn w_w_start (wsV RL 21 RX11 yX11_start w_f_X11_start) := goodIn_app (nb_g4 (List.mem_cons_of_mem _ (List.mem_append_left _ (List.mem_append_left _ (List.mem_of_getElem? (i := 0) rfl)))) (List.mem_cons_of_mem _ (List.mem_append_left _ (List.mem_append_left _ (List.mem_of_getElem? (i := 1) rfl)))) (List.mem_cons_of_mem _ (List.mem_append_left _ (List.mem_append_left _ (List.mem_of_getElem? (i := 2) rfl)))) (List.mem_cons_of_mem _ (List.mem_append_left _ (List.mem_append_left _ (List.mem_of_getElem? (i := 3) rfl)))) (by decide +kernel)) gg_w_start
set_option maxHeartbeats 40000000 in
set_option maxRecDepth 100000 in
theorem c_w_start (l : Launch) (hl0 : l.stackTraces = false) (dC : Nat → ClassId) (dI : Nat → Nat → Nat) (cy : Nat → ClassId) (ek a : Nat → Nat) (k0 : Nat) (v1 : Int64) (σ : CS) (r : RS) (h0 : f_X11_start k0 0 (lJ lZ 1 v1) σ = some r) (hcode : r.1.1 = 0 ∨ r.1.1 = 2) (z : Nat → Nat) (sz : Nat) : Met l yL_start w_w_start ({ frames := 91, cells := r.2.2.1, slots := r.2.2.2, locals := 2244 }) (va_Pc [.ref (a 75), .long v1] (nInX (dC, dI) cy ek sz (vC cy a z σ))) (va_Qi (fun (x : Int32) (u : Nat → Nat) => x = wv 2 1 1 r.1.1 ∧ zk [1, 2, 3, 20, 21, 22, 26] z u) (fun u t => nOut (dC, dI) cy (va_A (vC cy a z σ) sz) (vC cy a u r.2.1) t) (va_A (vC cy a z σ) sz)) r.2.2.1 r.2.2.2 (va_A (vC cy a z σ) sz) := by
  refine nb_ofWH (cc := cL_start) (maxL := 4) (ret := (some .int)) (by decide) rfl ?_
  intro p e s m args below meth c s₁ B hml hv
  obtain ⟨rfl, ⟨⟨⟨hsz, hP, hK, hD0, hG⟩, hE⟩, hT⟩, hX⟩ := hv
  have hx := B.exec
  have hb := B.bytes
  have hr := B.returns
  have hts := atoms_spec (ws := w_w_start) B.pre
  have hown : s.vm.findClass RL = some m.cls := findClass_of_methodNamed B.named
  have hTb : c.exceptionTable.toList = tableOf [(0, 5, 8, 25)] := vx_table (x := yL_start) B (hts _ List.mem_cons_self)
  have hlocks := B.notSynchronized
  subst hsz
  have hD := hD0.self (sz := s.heap.size)
  generalize hAe : va_A (vC cy a z σ) s.heap.size = A at hD hE hT ⊢
  have hA : ∀ q : Nat, s.heap.size ≤ q → A q := fun q h => by rw [← hAe]; exact Or.inr h
  have hS : va_S A s.heap s.heap [] := va_S.rf
  have hl := lv_entry ([.ref (a 75), .long v1]) (n := 4) (Nat.le_of_ble_eq_true rfl)
  rw [lg_entry_eq]
  generalize (lg_sl ([.ref (a 75), .long v1]) ++ List.replicate (4 - (lg_sl ([.ref (a 75), .long v1])).length) Slot.unset).toArray = ls at hl ⊢
  have hl : lv_has ls 4 [(0, .ref (a 75)), (1, .long v1)] := hl
  refine lv_aload_n hx hb dL_start_0 rfl (lv_at hl 0 rfl) ?_
  refine lv_lload_n hx hb dL_start_1 rfl (lv_at hl 1 rfl) ?_
  have hPc := hP.sub (ws' := vC cy a z σ) [0, 1, 2, 3, 4, 5, 6, 7, 8, 9, 10, 11, 12, 13, 14, 15, 16, 17, 18, 19, 20, 21, 22, 23, 24, 25, 26, 27, 28, 29, 30, 31, 32, 33, 34, 35, 36, 37, 38, 39, 40, 41, 42, 43, 44, 45, 46, 47, 48, 49, 50, 51, 52, 53, 54, 55, 56, 57, 58, 59, 60, 61, 62, 63, 64, 65, 66, 67, 68, 69, 70, 71, 72, 73, 74, 75] rfl
  have hDc := hD.sub (ws' := vC cy a z σ) [0, 1, 2, 3, 4, 5, 6, 7, 8, 9, 10, 11, 12, 13, 14, 15, 16, 17, 18, 19, 20, 21, 22, 23, 24, 25, 26, 27, 28, 29, 30, 31, 32, 33, 34, 35, 36, 37, 38, 39, 40, 41, 42, 43, 44, 45, 46, 47, 48, 49, 50, 51, 52, 53, 54, 55, 56, 57, 58, 59, 60, 61, 62, 63, 64, 65, 66, 67, 68, 69, 70, 71, 72, 73, 74, 75] (by decide) rfl
  have hFc := va_free (wc := vC cy a z σ) hD hS hA [0, 1, 2, 3, 4, 5, 6, 7, 8, 9, 10, 11, 12, 13, 14, 15, 16, 17, 18, 19, 20, 21, 22, 23, 24, 25, 26, 27, 28, 29, 30, 31, 32, 33, 34, 35, 36, 37, 38, 39, 40, 41, 42, 43, 44, 45, 46, 47, 48, 49, 50, 51, 52, 53, 54, 55, 56, 57, 58, 59, 60, 61, 62, 63, 64, 65, 66, 67, 68, 69, 70, 71, 72, 73, 74, 75] rfl
  refine vx_callv (vx_runV (As := [.long v1]) (rest := []) ⟨hx, hb, hml, hown, hts⟩ (c_f_X11_start l hl0 dC dI cy ek a k0 (lJ lZ 1 v1) σ r h0 z s.heap.size) (cwV 1 hts g_w_start rfl rfl rfl hd_f_X11_start ⟨Nat.le_of_ble_eq_true rfl, Nat.le_of_ble_eq_true rfl⟩) ⟨nb_blindF, va_recv hK hPc (ci := 10) (q0 := 75) rfl rfl, fun U hU hW => ⟨rfl, ⟨⟨by rw [hU], by rw [hU]; exact hPc, va_K.moved hW.alike hK, hDc.weaken (fun _ _ _ _ => trivial), hG.warm hW⟩, nE.to hE hS hW hU hFc⟩, nT.to hT hS hW hU hFc⟩⟩ rfl rfl hl.1 rfl (lv_room (Nat.le_of_ble_eq_true rfl)) dL_start_2 ⟨Nat.le_of_eq (Nat.zero_add _), Nat.le_of_eq (Nat.zero_add _)⟩) hS (fun q _ h => hFc q h) hFc (fun q _ h => hFc q h) (fun E ce q9 u t H1 locs1 ht hvm hp hB hz1 hk1 hS hce hcv hcl => ?_) (fun u t H1 locs1 ht hvm hw hB hz1 hk1 hS => ?_)
  · obtain ⟨hne, hz⟩ := hp
    obtain ⟨hE0, hP1, hK1, hD1⟩ := hB
    subst hE0
    rw [ht] at hP1
    obtain ⟨hP, hD⟩ := va_join (wr := []) (w1 := vC cy a u r.2.1) hP hD [0, 1, 2, 3, 4, 5, 6, 7, 8, 9, 10, 11, 12, 13, 14, 15, 16, 17, 18, 19, 20, 21, 22, 23, 24, 25, 26, 27, 28, 29, 30, 31, 32, 33, 34, 35, 36, 37, 38, 39, 40, 41, 42, 43, 44, 45, 46, 47, 48, 49, 50, 51, 52, 53, 54, 55, 56, 57, 58, 59, 60, 61, 62, 63, 64, 65, 66, 67, 68, 69, 70, 71, 72, 73, 74, 75] [] rfl rfl (by decide) (by decide) hk1 hFc hP1 hD1
    refine vx_widen (k := r.2.2.1) (n := r.2.2.2) (Nat.le_of_eq (Nat.zero_add _)) (Nat.le_of_eq (Nat.zero_add _)) ?_
    rcases hcode with h00 | h01
    · exact absurd h00 hne
    · rw [h01] at hcl
      refine vx_catch (E := "java/lang/IllegalStateException") (name := "java/lang/IllegalStateException") hown [] (⟨0, 5, 8, 25⟩ : ExceptionTableEntry) [] (by rw [hTb]; rfl) (fun z h => absurd h List.not_mem_nil) (by decide) (by decide) (hts _ (List.mem_cons_of_mem _ (List.mem_append_left _ (List.mem_append_left _ (List.mem_of_getElem? (i := 4) rfl))))) (va_Nw.use (by decide +kernel) (hT.2.2.1 _ (List.mem_of_getElem? (i := 0) rfl))) hce hcv hcl ?_
      refine lv_astore_n (lv' := [(3, .ref q9), (0, .ref (a 75)), (1, .long v1)]) hx hb dL_start_8 rfl hl (by decide) rfl (fun ls hl => ?_)
      refine lv_iconst (v := 1) hx hb dL_start_9 (by decide) ?_
      exact W.iret (v := 1) hx hb hr (fun t ht hW => ⟨⟨1, u, rfl, ⟨by rw [h01]; decide, hz⟩, by rw [ht]; exact hP, va_K.moved hW.alike hK, hD⟩, hS.F ht⟩) hS.2.2 dL_start_10
  · obtain ⟨h00, hz⟩ := hw
    obtain ⟨hP1, hK1, hD1⟩ := hB
    rw [ht] at hP1
    obtain ⟨hP, hD⟩ := va_join (wr := []) (w1 := vC cy a u r.2.1) hP hD [0, 1, 2, 3, 4, 5, 6, 7, 8, 9, 10, 11, 12, 13, 14, 15, 16, 17, 18, 19, 20, 21, 22, 23, 24, 25, 26, 27, 28, 29, 30, 31, 32, 33, 34, 35, 36, 37, 38, 39, 40, 41, 42, 43, 44, 45, 46, 47, 48, 49, 50, 51, 52, 53, 54, 55, 56, 57, 58, 59, 60, 61, 62, 63, 64, 65, 66, 67, 68, 69, 70, 71, 72, 73, 74, 75] [] rfl rfl (by decide) (by decide) hk1 hFc hP1 hD1
    refine W.widen (k := r.2.2.1) (n := r.2.2.2) (Nat.le_of_eq (Nat.zero_add _)) (Nat.le_of_eq (Nat.zero_add _)) ?_
    refine lv_goto (tgt := 11) hx hb dL_start_5 (by decide) ?_
    refine lv_iconst (v := 0) hx hb dL_start_11 (by decide) ?_
    exact W.iret (v := 0) hx hb hr (fun t ht hW => ⟨⟨0, u, rfl, ⟨by rw [h00]; decide, hz⟩, by rw [ht]; exact hP, va_K.moved hW.alike hK, hD⟩, hS.F ht⟩) hS.2.2 dL_start_12
/-! step -/
def o_w_step : List Cond := [.methodLink RL 27 yX11_step, .instanceMethod yX11_step, .selects RX11 yX11_step yX11_step, .initialized RX11, .classLink RL 25 "java/lang/IllegalStateException", .classLink RL 19 "java/lang/IllegalArgumentException"]
theorem o_w_step_good : o_w_step.all goodWord = true := by decide +kernel
def p_w_step : List Cond := o_w_step ++ ((.code yX11_step cX11_step 2 (some .int) :: p_f_X11_step) ++ [])
theorem p_w_step_good : p_w_step.all goodWord = true := nb_all2 o_w_step_good (nb_all2 (nb_allc (by decide +kernel) p_f_X11_step_good) rfl)
def w_w_step : List Cond := .codeWith yL_step cL_step 4 (some .int) [(0, 9, 12, 25), (0, 9, 15, 19)] :: (p_w_step ++ fC)
theorem w_w_step_good : w_w_step.all goodWord = true := nb_allc (by decide +kernel) (nb_all2 p_w_step_good fC_good)
theorem gg_w_step : GoodIn w_w_step w_f_X11_step := goodIn_sub (fun w h => (List.mem_cons.mp h).elim (fun e => (List.mem_cons_of_mem _ (List.mem_append_left _ (List.mem_append_right _ (List.mem_append_left _ (List.mem_cons.mpr (Or.inl e))))))) (fun h => (List.mem_append.mp h).elim (fun h => (List.mem_cons_of_mem _ (List.mem_append_left _ (List.mem_append_right _ (List.mem_append_left _ (List.mem_cons_of_mem _ h)))))) (fun h => List.mem_cons_of_mem _ (List.mem_append_right _ h)))) w_f_X11_step_good
theorem g_w_step : GoodIn w_w_step (wsV RL 27 RX11 yX11_step w_f_X11_step) := goodIn_app (nb_g4 (List.mem_cons_of_mem _ (List.mem_append_left _ (List.mem_append_left _ (List.mem_of_getElem? (i := 0) rfl)))) (List.mem_cons_of_mem _ (List.mem_append_left _ (List.mem_append_left _ (List.mem_of_getElem? (i := 1) rfl)))) (List.mem_cons_of_mem _ (List.mem_append_left _ (List.mem_append_left _ (List.mem_of_getElem? (i := 2) rfl)))) (List.mem_cons_of_mem _ (List.mem_append_left _ (List.mem_append_left _ (List.mem_of_getElem? (i := 3) rfl)))) (by decide +kernel)) gg_w_step
set_option maxHeartbeats 40000000 in
set_option maxRecDepth 100000 in
theorem c_w_step (l : Launch) (hl0 : l.stackTraces = false) (dC : Nat → ClassId) (dI : Nat → Nat → Nat) (cy : Nat → ClassId) (ek a : Nat → Nat) (k0 : Nat) (v1 : Int32) (σ : CS) (q0 : Nat) (w : Nat → Int64) (r : RS) (h0 : f_X11_step k0 0 (lI lZ 1 v1) σ = some r) (hcode : r.1.1 = 0 ∨ r.1.1 = 2 ∨ r.1.1 = 1) (z : Nat → Nat) (sz : Nat) : Met l yL_step w_w_step ({ frames := 91, cells := r.2.2.1, slots := r.2.2.2, locals := 2243 }) (va_Pc [.ref (a 75), .int v1, .ref q0] (nInX (dC, dI) cy ek sz (vW cy a z σ q0 w))) (va_Qi (fun (x : Int32) (u : Nat → Nat) => x = wv 2 1 2 r.1.1 ∧ zk [1, 2, 3, 20, 21, 22, 26] z u) (fun u t => nOut (dC, dI) cy (va_A (vW cy a z σ q0 w) sz) (vW cy a u r.2.1 q0 (wo w r.1.1 r.1.2)) t) (va_A (vW cy a z σ q0 w) sz)) r.2.2.1 r.2.2.2 (va_A (vW cy a z σ q0 w) sz) := by
  refine nb_ofWH (cc := cL_step) (maxL := 4) (ret := (some .int)) (by decide) rfl ?_
  intro p e s m args below meth c s₁ B hml hv
  obtain ⟨rfl, ⟨⟨⟨hsz, hP, hK, hD0, hG⟩, hE⟩, hT⟩, hX⟩ := hv
  have hx := B.exec
  have hb := B.bytes
  have hr := B.returns
  have hts := atoms_spec (ws := w_w_step) B.pre
  have hown : s.vm.findClass RL = some m.cls := findClass_of_methodNamed B.named
  have hTb : c.exceptionTable.toList = tableOf [(0, 9, 12, 25), (0, 9, 15, 19)] := vx_table (x := yL_step) B (hts _ List.mem_cons_self)
  have hlocks := B.notSynchronized
  subst hsz
  have hD := hD0.self (sz := s.heap.size)
  generalize hAe : va_A (vW cy a z σ q0 w) s.heap.size = A at hD hE hT ⊢
  have hA : ∀ q : Nat, s.heap.size ≤ q → A q := fun q h => by rw [← hAe]; exact Or.inr h
  have hS : va_S A s.heap s.heap [] := va_S.rf
  have hl := lv_entry ([.ref (a 75), .int v1, .ref q0]) (n := 4) (Nat.le_of_ble_eq_true rfl)
  rw [lg_entry_eq]
  generalize (lg_sl ([.ref (a 75), .int v1, .ref q0]) ++ List.replicate (4 - (lg_sl ([.ref (a 75), .int v1, .ref q0])).length) Slot.unset).toArray = ls at hl ⊢
  have hl : lv_has ls 4 [(0, .ref (a 75)), (1, .int v1), (2, .ref q0)] := hl
  refine lv_aload_n hx hb dL_step_0 rfl (lv_at hl 2 rfl) ?_
  refine lv_iconst (v := 0) hx hb dL_step_1 (by decide) ?_
  refine lv_aload_n hx hb dL_step_2 rfl (lv_at hl 0 rfl) ?_
  refine lv_iload_n hx hb dL_step_3 rfl (lv_at hl 1 rfl) ?_
  have hPc := hP.sub (ws' := vC cy a z σ) [1, 2, 3, 4, 5, 6, 7, 8, 9, 10, 11, 12, 13, 14, 15, 16, 17, 18, 19, 20, 21, 22, 23, 24, 25, 26, 27, 28, 29, 30, 31, 32, 33, 34, 35, 36, 37, 38, 39, 40, 41, 42, 43, 44, 45, 46, 47, 48, 49, 50, 51, 52, 53, 54, 55, 56, 57, 58, 59, 60, 61, 62, 63, 64, 65, 66, 67, 68, 69, 70, 71, 72, 73, 74, 75, 76] rfl
  have hDc := hD.sub (ws' := vC cy a z σ) [1, 2, 3, 4, 5, 6, 7, 8, 9, 10, 11, 12, 13, 14, 15, 16, 17, 18, 19, 20, 21, 22, 23, 24, 25, 26, 27, 28, 29, 30, 31, 32, 33, 34, 35, 36, 37, 38, 39, 40, 41, 42, 43, 44, 45, 46, 47, 48, 49, 50, 51, 52, 53, 54, 55, 56, 57, 58, 59, 60, 61, 62, 63, 64, 65, 66, 67, 68, 69, 70, 71, 72, 73, 74, 75, 76] (by decide) rfl
  have hFc := va_free (wc := vC cy a z σ) hD hS hA [1, 2, 3, 4, 5, 6, 7, 8, 9, 10, 11, 12, 13, 14, 15, 16, 17, 18, 19, 20, 21, 22, 23, 24, 25, 26, 27, 28, 29, 30, 31, 32, 33, 34, 35, 36, 37, 38, 39, 40, 41, 42, 43, 44, 45, 46, 47, 48, 49, 50, 51, 52, 53, 54, 55, 56, 57, 58, 59, 60, 61, 62, 63, 64, 65, 66, 67, 68, 69, 70, 71, 72, 73, 74, 75, 76] rfl
  refine vx_calli (vx_runV (As := [.int v1]) (rest := [.int 0, .ref q0]) ⟨hx, hb, hml, hown, hts⟩ (c_f_X11_step l hl0 dC dI cy ek a k0 (lI lZ 1 v1) σ r h0 z s.heap.size) (cwV 1 hts g_w_step rfl rfl rfl hd_f_X11_step ⟨Nat.le_of_ble_eq_true rfl, Nat.le_of_ble_eq_true rfl⟩) ⟨nb_blindF, va_recv hK hPc (ci := 10) (q0 := 75) rfl rfl, fun U hU hW => ⟨rfl, ⟨⟨by rw [hU], by rw [hU]; exact hPc, va_K.moved hW.alike hK, hDc.weaken (fun _ _ _ _ => trivial), hG.warm hW⟩, nE.to hE hS hW hU hFc⟩, nT.to hT hS hW hU hFc⟩⟩ rfl rfl hl.1 rfl (lv_room (Nat.le_of_ble_eq_true rfl)) dL_step_4 ⟨Nat.le_of_eq (Nat.zero_add _), Nat.le_of_eq (Nat.zero_add _)⟩) hS (fun q _ h => hFc q h) hFc (fun q _ h => hFc q h) (fun E ce q9 u t H1 locs1 ht hvm hp hB hz1 hk1 hS hce hcv hcl => ?_) (fun x u t H1 locs1 ht hvm hw hB hz1 hk1 hS => ?_)
  · obtain ⟨hne, hz⟩ := hp
    obtain ⟨hE0, hP1, hK1, hD1⟩ := hB
    subst hE0
    rw [ht] at hP1
    obtain ⟨hP, hD⟩ := va_join (wr := [(q0, .inl (cy 2, 1, .inr (.inl w)))]) (w1 := vC cy a u r.2.1) hP hD [1, 2, 3, 4, 5, 6, 7, 8, 9, 10, 11, 12, 13, 14, 15, 16, 17, 18, 19, 20, 21, 22, 23, 24, 25, 26, 27, 28, 29, 30, 31, 32, 33, 34, 35, 36, 37, 38, 39, 40, 41, 42, 43, 44, 45, 46, 47, 48, 49, 50, 51, 52, 53, 54, 55, 56, 57, 58, 59, 60, 61, 62, 63, 64, 65, 66, 67, 68, 69, 70, 71, 72, 73, 74, 75, 76] [0] rfl rfl (by decide) (by decide) hk1 hFc hP1 hD1
    refine vx_widen (k := r.2.2.1) (n := r.2.2.2) (Nat.le_of_eq (Nat.zero_add _)) (Nat.le_of_eq (Nat.zero_add _)) ?_
    rcases hcode with h00 | h01 | h02
    · exact absurd h00 hne
    · rw [h01] at hcl
      refine vx_catch (E := "java/lang/IllegalStateException") (name := "java/lang/IllegalStateException") hown [] (⟨0, 9, 12, 25⟩ : ExceptionTableEntry) [(⟨0, 9, 15, 19⟩ : ExceptionTableEntry)] (by rw [hTb]; rfl) (fun z h => absurd h List.not_mem_nil) (by decide) (by decide) (hts _ (List.mem_cons_of_mem _ (List.mem_append_left _ (List.mem_append_left _ (List.mem_of_getElem? (i := 4) rfl))))) (va_Nw.use (by decide +kernel) (hT.2.2.1 _ (List.mem_of_getElem? (i := 0) rfl))) hce hcv hcl ?_
      refine lv_astore_n (lv' := [(3, .ref q9), (0, .ref (a 75)), (1, .int v1), (2, .ref q0)]) hx hb dL_step_12 rfl hl (by decide) rfl (fun ls hl => ?_)
      refine lv_iconst (v := 1) hx hb dL_step_13 (by decide) ?_
      have hP : va_P (dC, dI) nCl (vW cy a u r.2.1 q0 (wo w r.1.1 r.1.2)) H1 := by rw [show wo w r.1.1 r.1.2 = w from if_neg hne]; exact hP
      have hD : va_D A (vW cy a u r.2.1 q0 (wo w r.1.1 r.1.2)) := by rw [show wo w r.1.1 r.1.2 = w from if_neg hne]; exact hD
      exact W.iret (v := 1) hx hb hr (fun t ht hW => ⟨⟨1, u, rfl, ⟨by rw [h01]; decide, hz⟩, by rw [ht]; exact hP, va_K.moved hW.alike hK, hD⟩, hS.F ht⟩) hS.2.2 dL_step_14
    · rw [h02] at hcl
      refine vx_catch (E := "java/lang/IllegalArgumentException") (name := "java/lang/IllegalArgumentException") hown [(⟨0, 9, 12, 25⟩ : ExceptionTableEntry)] (⟨0, 9, 15, 19⟩ : ExceptionTableEntry) [] (by rw [hTb]; rfl) (fun z h => by rw [List.mem_singleton] at h; subst h; exact Or.inr ⟨by decide, "java/lang/IllegalStateException", (hts _ (List.mem_cons_of_mem _ (List.mem_append_left _ (List.mem_append_left _ (List.mem_of_getElem? (i := 4) rfl))))), hX.1⟩) (by decide) (by decide) (hts _ (List.mem_cons_of_mem _ (List.mem_append_left _ (List.mem_append_left _ (List.mem_of_getElem? (i := 5) rfl))))) (va_Nw.use (by decide +kernel) (hT.2.2.1 _ (List.mem_of_getElem? (i := 1) rfl))) hce hcv hcl ?_
      refine lv_astore_n (lv' := [(3, .ref q9), (0, .ref (a 75)), (1, .int v1), (2, .ref q0)]) hx hb dL_step_15 rfl hl (by decide) rfl (fun ls hl => ?_)
      refine lv_iconst (v := 2) hx hb dL_step_16 (by decide) ?_
      have hP : va_P (dC, dI) nCl (vW cy a u r.2.1 q0 (wo w r.1.1 r.1.2)) H1 := by rw [show wo w r.1.1 r.1.2 = w from if_neg hne]; exact hP
      have hD : va_D A (vW cy a u r.2.1 q0 (wo w r.1.1 r.1.2)) := by rw [show wo w r.1.1 r.1.2 = w from if_neg hne]; exact hD
      exact W.iret (v := 2) hx hb hr (fun t ht hW => ⟨⟨2, u, rfl, ⟨by rw [h02]; decide, hz⟩, by rw [ht]; exact hP, va_K.moved hW.alike hK, hD⟩, hS.F ht⟩) hS.2.2 dL_step_17
  · obtain ⟨⟨h00, hxx⟩, hz⟩ := hw
    subst hxx
    obtain ⟨hP1, hK1, hD1⟩ := hB
    rw [ht] at hP1
    obtain ⟨hP, hD⟩ := va_join (wr := [(q0, .inl (cy 2, 1, .inr (.inl w)))]) (w1 := vC cy a u r.2.1) hP hD [1, 2, 3, 4, 5, 6, 7, 8, 9, 10, 11, 12, 13, 14, 15, 16, 17, 18, 19, 20, 21, 22, 23, 24, 25, 26, 27, 28, 29, 30, 31, 32, 33, 34, 35, 36, 37, 38, 39, 40, 41, 42, 43, 44, 45, 46, 47, 48, 49, 50, 51, 52, 53, 54, 55, 56, 57, 58, 59, 60, 61, 62, 63, 64, 65, 66, 67, 68, 69, 70, 71, 72, 73, 74, 75, 76] [0] rfl rfl (by decide) (by decide) hk1 hFc hP1 hD1
    refine W.widen (k := r.2.2.1) (n := r.2.2.2) (Nat.le_of_eq (Nat.zero_add _)) (Nat.le_of_eq (Nat.zero_add _)) ?_
    refine lv_i2l (v := r.1.2.toInt64) hx hb dL_step_7 rfl ?_
    refine va_last hx hb hK hP hD hS 0 2 rfl rfl (nb_in (by decide)) dL_step_8 (fun H locs hP hD hS => ?_)
    have hP : va_P (dC, dI) nCl (vW cy a u r.2.1 q0 (wo w r.1.1 r.1.2)) H := by rw [show wo w r.1.1 r.1.2 = vp_updL w 0 r.1.2.toInt64 from if_pos h00]; exact hP
    have hD : va_D A (vW cy a u r.2.1 q0 (wo w r.1.1 r.1.2)) := by rw [show wo w r.1.1 r.1.2 = vp_updL w 0 r.1.2.toInt64 from if_pos h00]; exact hD
    refine lv_goto (tgt := 18) hx hb dL_step_9 (by decide) ?_
    refine lv_iconst (v := 0) hx hb dL_step_18 (by decide) ?_
    exact W.iret (v := 0) hx hb hr (fun t ht hW => ⟨⟨0, u, rfl, ⟨by rw [h00]; decide, hz⟩, by rw [ht]; exact hP, va_K.moved hW.alike hK, hD⟩, hS.F ht⟩) hS.2.2 dL_step_19
/-! back -/
def o_w_back : List Cond := [.methodLink RL 31 yX11_back, .instanceMethod yX11_back, .selects RX11 yX11_back yX11_back, .initialized RX11, .classLink RL 25 "java/lang/IllegalStateException", .classLink RL 19 "java/lang/IllegalArgumentException"]
theorem o_w_back_good : o_w_back.all goodWord = true := by decide +kernel
def p_w_back : List Cond := o_w_back ++ ((.code yX11_back cX11_back 2 (some .int) :: p_f_X11_back) ++ [])
theorem p_w_back_good : p_w_back.all goodWord = true := nb_all2 o_w_back_good (nb_all2 (nb_allc (by decide +kernel) p_f_X11_back_good) rfl)
def w_w_back : List Cond := .codeWith yL_back cL_back 4 (some .int) [(0, 9, 12, 25), (0, 9, 15, 19)] :: (p_w_back ++ fC)
theorem w_w_back_good : w_w_back.all goodWord = true := nb_allc (by decide +kernel) (nb_all2 p_w_back_good fC_good)
theorem gg_w_back : GoodIn w_w_back w_f_X11_back := goodIn_sub (fun w h => (List.mem_cons.mp h).elim (fun e => (List.mem_cons_of_mem _ (List.mem_append_left _ (List.mem_append_right _ (List.mem_append_left _ (List.mem_cons.mpr (Or.inl e))))))) (fun h => (List.mem_append.mp h).elim (fun h => (List.mem_cons_of_mem _ (List.mem_append_left _ (List.mem_append_right _ (List.mem_append_left _ (List.mem_cons_of_mem _ h)))))) (fun h => List.mem_cons_of_mem _ (List.mem_append_right _ h)))) w_f_X11_back_good
theorem g_w_back : GoodIn w_w_back (wsV RL 31 RX11 yX11_back w_f_X11_back) := goodIn_app (nb_g4 (List.mem_cons_of_mem _ (List.mem_append_left _ (List.mem_append_left _ (List.mem_of_getElem? (i := 0) rfl)))) (List.mem_cons_of_mem _ (List.mem_append_left _ (List.mem_append_left _ (List.mem_of_getElem? (i := 1) rfl)))) (List.mem_cons_of_mem _ (List.mem_append_left _ (List.mem_append_left _ (List.mem_of_getElem? (i := 2) rfl)))) (List.mem_cons_of_mem _ (List.mem_append_left _ (List.mem_append_left _ (List.mem_of_getElem? (i := 3) rfl)))) (by decide +kernel)) gg_w_back
set_option maxHeartbeats 40000000 in
set_option maxRecDepth 100000 in
theorem c_w_back (l : Launch) (hl0 : l.stackTraces = false) (dC : Nat → ClassId) (dI : Nat → Nat → Nat) (cy : Nat → ClassId) (ek a : Nat → Nat) (k0 : Nat) (v1 : Int32) (σ : CS) (q0 : Nat) (w : Nat → Int64) (r : RS) (h0 : f_X11_back k0 0 (lI lZ 1 v1) σ = some r) (hcode : r.1.1 = 0 ∨ r.1.1 = 2 ∨ r.1.1 = 1) (z : Nat → Nat) (sz : Nat) : Met l yL_back w_w_back ({ frames := 91, cells := r.2.2.1, slots := r.2.2.2, locals := 2243 }) (va_Pc [.ref (a 75), .int v1, .ref q0] (nInX (dC, dI) cy ek sz (vW cy a z σ q0 w))) (va_Qi (fun (x : Int32) (u : Nat → Nat) => x = wv 2 1 2 r.1.1 ∧ zk [1, 2, 3, 20, 21, 22, 26] z u) (fun u t => nOut (dC, dI) cy (va_A (vW cy a z σ q0 w) sz) (vW cy a u r.2.1 q0 (wo w r.1.1 r.1.2)) t) (va_A (vW cy a z σ q0 w) sz)) r.2.2.1 r.2.2.2 (va_A (vW cy a z σ q0 w) sz) := by
  refine nb_ofWH (cc := cL_back) (maxL := 4) (ret := (some .int)) (by decide) rfl ?_
  intro p e s m args below meth c s₁ B hml hv
  obtain ⟨rfl, ⟨⟨⟨hsz, hP, hK, hD0, hG⟩, hE⟩, hT⟩, hX⟩ := hv
  have hx := B.exec
  have hb := B.bytes
  have hr := B.returns
  have hts := atoms_spec (ws := w_w_back) B.pre
  have hown : s.vm.findClass RL = some m.cls := findClass_of_methodNamed B.named
  have hTb : c.exceptionTable.toList = tableOf [(0, 9, 12, 25), (0, 9, 15, 19)] := vx_table (x := yL_back) B (hts _ List.mem_cons_self)
  have hlocks := B.notSynchronized
  subst hsz
  have hD := hD0.self (sz := s.heap.size)
  generalize hAe : va_A (vW cy a z σ q0 w) s.heap.size = A at hD hE hT ⊢
  have hA : ∀ q : Nat, s.heap.size ≤ q → A q := fun q h => by rw [← hAe]; exact Or.inr h
  have hS : va_S A s.heap s.heap [] := va_S.rf
  have hl := lv_entry ([.ref (a 75), .int v1, .ref q0]) (n := 4) (Nat.le_of_ble_eq_true rfl)
  rw [lg_entry_eq]
  generalize (lg_sl ([.ref (a 75), .int v1, .ref q0]) ++ List.replicate (4 - (lg_sl ([.ref (a 75), .int v1, .ref q0])).length) Slot.unset).toArray = ls at hl ⊢
  have hl : lv_has ls 4 [(0, .ref (a 75)), (1, .int v1), (2, .ref q0)] := hl
  refine lv_aload_n hx hb dL_back_0 rfl (lv_at hl 2 rfl) ?_
  refine lv_iconst (v := 0) hx hb dL_back_1 (by decide) ?_
  refine lv_aload_n hx hb dL_back_2 rfl (lv_at hl 0 rfl) ?_
  refine lv_iload_n hx hb dL_back_3 rfl (lv_at hl 1 rfl) ?_
  have hPc := hP.sub (ws' := vC cy a z σ) [1, 2, 3, 4, 5, 6, 7, 8, 9, 10, 11, 12, 13, 14, 15, 16, 17, 18, 19, 20, 21, 22, 23, 24, 25, 26, 27, 28, 29, 30, 31, 32, 33, 34, 35, 36, 37, 38, 39, 40, 41, 42, 43, 44, 45, 46, 47, 48, 49, 50, 51, 52, 53, 54, 55, 56, 57, 58, 59, 60, 61, 62, 63, 64, 65, 66, 67, 68, 69, 70, 71, 72, 73, 74, 75, 76] rfl
  have hDc := hD.sub (ws' := vC cy a z σ) [1, 2, 3, 4, 5, 6, 7, 8, 9, 10, 11, 12, 13, 14, 15, 16, 17, 18, 19, 20, 21, 22, 23, 24, 25, 26, 27, 28, 29, 30, 31, 32, 33, 34, 35, 36, 37, 38, 39, 40, 41, 42, 43, 44, 45, 46, 47, 48, 49, 50, 51, 52, 53, 54, 55, 56, 57, 58, 59, 60, 61, 62, 63, 64, 65, 66, 67, 68, 69, 70, 71, 72, 73, 74, 75, 76] (by decide) rfl
  have hFc := va_free (wc := vC cy a z σ) hD hS hA [1, 2, 3, 4, 5, 6, 7, 8, 9, 10, 11, 12, 13, 14, 15, 16, 17, 18, 19, 20, 21, 22, 23, 24, 25, 26, 27, 28, 29, 30, 31, 32, 33, 34, 35, 36, 37, 38, 39, 40, 41, 42, 43, 44, 45, 46, 47, 48, 49, 50, 51, 52, 53, 54, 55, 56, 57, 58, 59, 60, 61, 62, 63, 64, 65, 66, 67, 68, 69, 70, 71, 72, 73, 74, 75, 76] rfl
  refine vx_calli (vx_runV (As := [.int v1]) (rest := [.int 0, .ref q0]) ⟨hx, hb, hml, hown, hts⟩ (c_f_X11_back l hl0 dC dI cy ek a k0 (lI lZ 1 v1) σ r h0 z s.heap.size) (cwV 1 hts g_w_back rfl rfl rfl hd_f_X11_back ⟨Nat.le_of_ble_eq_true rfl, Nat.le_of_ble_eq_true rfl⟩) ⟨nb_blindF, va_recv hK hPc (ci := 10) (q0 := 75) rfl rfl, fun U hU hW => ⟨rfl, ⟨⟨by rw [hU], by rw [hU]; exact hPc, va_K.moved hW.alike hK, hDc.weaken (fun _ _ _ _ => trivial), hG.warm hW⟩, nE.to hE hS hW hU hFc⟩, nT.to hT hS hW hU hFc⟩⟩ rfl rfl hl.1 rfl (lv_room (Nat.le_of_ble_eq_true rfl)) dL_back_4 ⟨Nat.le_of_eq (Nat.zero_add _), Nat.le_of_eq (Nat.zero_add _)⟩) hS (fun q _ h => hFc q h) hFc (fun q _ h => hFc q h) (fun E ce q9 u t H1 locs1 ht hvm hp hB hz1 hk1 hS hce hcv hcl => ?_) (fun x u t H1 locs1 ht hvm hw hB hz1 hk1 hS => ?_)
  · obtain ⟨hne, hz⟩ := hp
    obtain ⟨hE0, hP1, hK1, hD1⟩ := hB
    subst hE0
    rw [ht] at hP1
    obtain ⟨hP, hD⟩ := va_join (wr := [(q0, .inl (cy 2, 1, .inr (.inl w)))]) (w1 := vC cy a u r.2.1) hP hD [1, 2, 3, 4, 5, 6, 7, 8, 9, 10, 11, 12, 13, 14, 15, 16, 17, 18, 19, 20, 21, 22, 23, 24, 25, 26, 27, 28, 29, 30, 31, 32, 33, 34, 35, 36, 37, 38, 39, 40, 41, 42, 43, 44, 45, 46, 47, 48, 49, 50, 51, 52, 53, 54, 55, 56, 57, 58, 59, 60, 61, 62, 63, 64, 65, 66, 67, 68, 69, 70, 71, 72, 73, 74, 75, 76] [0] rfl rfl (by decide) (by decide) hk1 hFc hP1 hD1
    refine vx_widen (k := r.2.2.1) (n := r.2.2.2) (Nat.le_of_eq (Nat.zero_add _)) (Nat.le_of_eq (Nat.zero_add _)) ?_
    rcases hcode with h00 | h01 | h02
    · exact absurd h00 hne
    · rw [h01] at hcl
      refine vx_catch (E := "java/lang/IllegalStateException") (name := "java/lang/IllegalStateException") hown [] (⟨0, 9, 12, 25⟩ : ExceptionTableEntry) [(⟨0, 9, 15, 19⟩ : ExceptionTableEntry)] (by rw [hTb]; rfl) (fun z h => absurd h List.not_mem_nil) (by decide) (by decide) (hts _ (List.mem_cons_of_mem _ (List.mem_append_left _ (List.mem_append_left _ (List.mem_of_getElem? (i := 4) rfl))))) (va_Nw.use (by decide +kernel) (hT.2.2.1 _ (List.mem_of_getElem? (i := 0) rfl))) hce hcv hcl ?_
      refine lv_astore_n (lv' := [(3, .ref q9), (0, .ref (a 75)), (1, .int v1), (2, .ref q0)]) hx hb dL_back_12 rfl hl (by decide) rfl (fun ls hl => ?_)
      refine lv_iconst (v := 1) hx hb dL_back_13 (by decide) ?_
      have hP : va_P (dC, dI) nCl (vW cy a u r.2.1 q0 (wo w r.1.1 r.1.2)) H1 := by rw [show wo w r.1.1 r.1.2 = w from if_neg hne]; exact hP
      have hD : va_D A (vW cy a u r.2.1 q0 (wo w r.1.1 r.1.2)) := by rw [show wo w r.1.1 r.1.2 = w from if_neg hne]; exact hD
      exact W.iret (v := 1) hx hb hr (fun t ht hW => ⟨⟨1, u, rfl, ⟨by rw [h01]; decide, hz⟩, by rw [ht]; exact hP, va_K.moved hW.alike hK, hD⟩, hS.F ht⟩) hS.2.2 dL_back_14
    · rw [h02] at hcl
      refine vx_catch (E := "java/lang/IllegalArgumentException") (name := "java/lang/IllegalArgumentException") hown [(⟨0, 9, 12, 25⟩ : ExceptionTableEntry)] (⟨0, 9, 15, 19⟩ : ExceptionTableEntry) [] (by rw [hTb]; rfl) (fun z h => by rw [List.mem_singleton] at h; subst h; exact Or.inr ⟨by decide, "java/lang/IllegalStateException", (hts _ (List.mem_cons_of_mem _ (List.mem_append_left _ (List.mem_append_left _ (List.mem_of_getElem? (i := 4) rfl))))), hX.1⟩) (by decide) (by decide) (hts _ (List.mem_cons_of_mem _ (List.mem_append_left _ (List.mem_append_left _ (List.mem_of_getElem? (i := 5) rfl))))) (va_Nw.use (by decide +kernel) (hT.2.2.1 _ (List.mem_of_getElem? (i := 1) rfl))) hce hcv hcl ?_
      refine lv_astore_n (lv' := [(3, .ref q9), (0, .ref (a 75)), (1, .int v1), (2, .ref q0)]) hx hb dL_back_15 rfl hl (by decide) rfl (fun ls hl => ?_)
      refine lv_iconst (v := 2) hx hb dL_back_16 (by decide) ?_
      have hP : va_P (dC, dI) nCl (vW cy a u r.2.1 q0 (wo w r.1.1 r.1.2)) H1 := by rw [show wo w r.1.1 r.1.2 = w from if_neg hne]; exact hP
      have hD : va_D A (vW cy a u r.2.1 q0 (wo w r.1.1 r.1.2)) := by rw [show wo w r.1.1 r.1.2 = w from if_neg hne]; exact hD
      exact W.iret (v := 2) hx hb hr (fun t ht hW => ⟨⟨2, u, rfl, ⟨by rw [h02]; decide, hz⟩, by rw [ht]; exact hP, va_K.moved hW.alike hK, hD⟩, hS.F ht⟩) hS.2.2 dL_back_17
  · obtain ⟨⟨h00, hxx⟩, hz⟩ := hw
    subst hxx
    obtain ⟨hP1, hK1, hD1⟩ := hB
    rw [ht] at hP1
    obtain ⟨hP, hD⟩ := va_join (wr := [(q0, .inl (cy 2, 1, .inr (.inl w)))]) (w1 := vC cy a u r.2.1) hP hD [1, 2, 3, 4, 5, 6, 7, 8, 9, 10, 11, 12, 13, 14, 15, 16, 17, 18, 19, 20, 21, 22, 23, 24, 25, 26, 27, 28, 29, 30, 31, 32, 33, 34, 35, 36, 37, 38, 39, 40, 41, 42, 43, 44, 45, 46, 47, 48, 49, 50, 51, 52, 53, 54, 55, 56, 57, 58, 59, 60, 61, 62, 63, 64, 65, 66, 67, 68, 69, 70, 71, 72, 73, 74, 75, 76] [0] rfl rfl (by decide) (by decide) hk1 hFc hP1 hD1
    refine W.widen (k := r.2.2.1) (n := r.2.2.2) (Nat.le_of_eq (Nat.zero_add _)) (Nat.le_of_eq (Nat.zero_add _)) ?_
    refine lv_i2l (v := r.1.2.toInt64) hx hb dL_back_7 rfl ?_
    refine va_last hx hb hK hP hD hS 0 2 rfl rfl (nb_in (by decide)) dL_back_8 (fun H locs hP hD hS => ?_)
    have hP : va_P (dC, dI) nCl (vW cy a u r.2.1 q0 (wo w r.1.1 r.1.2)) H := by rw [show wo w r.1.1 r.1.2 = vp_updL w 0 r.1.2.toInt64 from if_pos h00]; exact hP
    have hD : va_D A (vW cy a u r.2.1 q0 (wo w r.1.1 r.1.2)) := by rw [show wo w r.1.1 r.1.2 = vp_updL w 0 r.1.2.toInt64 from if_pos h00]; exact hD
    refine lv_goto (tgt := 18) hx hb dL_back_9 (by decide) ?_
    refine lv_iconst (v := 0) hx hb dL_back_18 (by decide) ?_
    exact W.iret (v := 0) hx hb hr (fun t ht hW => ⟨⟨0, u, rfl, ⟨by rw [h00]; decide, hz⟩, by rw [ht]; exact hP, va_K.moved hW.alike hK, hD⟩, hS.F ht⟩) hS.2.2 dL_back_19
/-! state -/
def o_w_state : List Cond := [.methodLink RL 34 yX11_state, .instanceMethod yX11_state, .selects RX11 yX11_state yX11_state, .initialized RX11, .classLink RL 37 "java/lang/IndexOutOfBoundsException", .classLink RL 25 "java/lang/IllegalStateException"]
theorem o_w_state_good : o_w_state.all goodWord = true := by decide +kernel
def p_w_state : List Cond := o_w_state ++ ((.code yX11_state cX11_state 3 (some .int) :: p_f_X11_state) ++ [])
theorem p_w_state_good : p_w_state.all goodWord = true := nb_all2 o_w_state_good (nb_all2 (nb_allc (by decide +kernel) p_f_X11_state_good) rfl)
def w_w_state : List Cond := .codeWith yL_state cL_state 4 (some .int) [(0, 9, 12, 37), (0, 9, 15, 25)] :: (p_w_state ++ fC)
theorem w_w_state_good : w_w_state.all goodWord = true := nb_allc (by decide +kernel) (nb_all2 p_w_state_good fC_good)
theorem gg_w_state : GoodIn w_w_state w_f_X11_state := goodIn_sub (fun w h => (List.mem_cons.mp h).elim (fun e => (List.mem_cons_of_mem _ (List.mem_append_left _ (List.mem_append_right _ (List.mem_append_left _ (List.mem_cons.mpr (Or.inl e))))))) (fun h => (List.mem_append.mp h).elim (fun h => (List.mem_cons_of_mem _ (List.mem_append_left _ (List.mem_append_right _ (List.mem_append_left _ (List.mem_cons_of_mem _ h)))))) (fun h => List.mem_cons_of_mem _ (List.mem_append_right _ h)))) w_f_X11_state_good
theorem g_w_state : GoodIn w_w_state (wsV RL 34 RX11 yX11_state w_f_X11_state) := goodIn_app (nb_g4 (List.mem_cons_of_mem _ (List.mem_append_left _ (List.mem_append_left _ (List.mem_of_getElem? (i := 0) rfl)))) (List.mem_cons_of_mem _ (List.mem_append_left _ (List.mem_append_left _ (List.mem_of_getElem? (i := 1) rfl)))) (List.mem_cons_of_mem _ (List.mem_append_left _ (List.mem_append_left _ (List.mem_of_getElem? (i := 2) rfl)))) (List.mem_cons_of_mem _ (List.mem_append_left _ (List.mem_append_left _ (List.mem_of_getElem? (i := 3) rfl)))) (by decide +kernel)) gg_w_state
set_option maxHeartbeats 40000000 in
set_option maxRecDepth 100000 in
theorem c_w_state (l : Launch) (hl0 : l.stackTraces = false) (dC : Nat → ClassId) (dI : Nat → Nat → Nat) (cy : Nat → ClassId) (ek a : Nat → Nat) (k0 : Nat) (v1 : Int32) (σ : CS) (q0 : Nat) (w : Nat → Int64) (r : RS) (h0 : f_X11_state k0 0 (lI lZ 1 v1) σ = some r) (hcode : r.1.1 = 0 ∨ r.1.1 = 3 ∨ r.1.1 = 2) (z : Nat → Nat) (sz : Nat) : Met l yL_state w_w_state ({ frames := 8, cells := r.2.2.1, slots := r.2.2.2, locals := 142 }) (va_Pc [.ref (a 75), .int v1, .ref q0] (nInX (dC, dI) cy ek sz (vW cy a z σ q0 w))) (va_Qi (fun (x : Int32) (u : Nat → Nat) => x = wv 3 1 2 r.1.1 ∧ zk [] z u) (fun u t => nOut (dC, dI) cy (va_A (vW cy a z σ q0 w) sz) (vW cy a u r.2.1 q0 (wo w r.1.1 r.1.2)) t) (va_A (vW cy a z σ q0 w) sz)) r.2.2.1 r.2.2.2 (va_A (vW cy a z σ q0 w) sz) := by
  refine nb_ofWH (cc := cL_state) (maxL := 4) (ret := (some .int)) (by decide) rfl ?_
  intro p e s m args below meth c s₁ B hml hv
  obtain ⟨rfl, ⟨⟨⟨hsz, hP, hK, hD0, hG⟩, hE⟩, hT⟩, hX⟩ := hv
  have hx := B.exec
  have hb := B.bytes
  have hr := B.returns
  have hts := atoms_spec (ws := w_w_state) B.pre
  have hown : s.vm.findClass RL = some m.cls := findClass_of_methodNamed B.named
  have hTb : c.exceptionTable.toList = tableOf [(0, 9, 12, 37), (0, 9, 15, 25)] := vx_table (x := yL_state) B (hts _ List.mem_cons_self)
  have hlocks := B.notSynchronized
  subst hsz
  have hD := hD0.self (sz := s.heap.size)
  generalize hAe : va_A (vW cy a z σ q0 w) s.heap.size = A at hD hE hT ⊢
  have hA : ∀ q : Nat, s.heap.size ≤ q → A q := fun q h => by rw [← hAe]; exact Or.inr h
  have hS : va_S A s.heap s.heap [] := va_S.rf
  have hl := lv_entry ([.ref (a 75), .int v1, .ref q0]) (n := 4) (Nat.le_of_ble_eq_true rfl)
  rw [lg_entry_eq]
  generalize (lg_sl ([.ref (a 75), .int v1, .ref q0]) ++ List.replicate (4 - (lg_sl ([.ref (a 75), .int v1, .ref q0])).length) Slot.unset).toArray = ls at hl ⊢
  have hl : lv_has ls 4 [(0, .ref (a 75)), (1, .int v1), (2, .ref q0)] := hl
  refine lv_aload_n hx hb dL_state_0 rfl (lv_at hl 2 rfl) ?_
  refine lv_iconst (v := 0) hx hb dL_state_1 (by decide) ?_
  refine lv_aload_n hx hb dL_state_2 rfl (lv_at hl 0 rfl) ?_
  refine lv_iload_n hx hb dL_state_3 rfl (lv_at hl 1 rfl) ?_
  have hPc := hP.sub (ws' := vC cy a z σ) [1, 2, 3, 4, 5, 6, 7, 8, 9, 10, 11, 12, 13, 14, 15, 16, 17, 18, 19, 20, 21, 22, 23, 24, 25, 26, 27, 28, 29, 30, 31, 32, 33, 34, 35, 36, 37, 38, 39, 40, 41, 42, 43, 44, 45, 46, 47, 48, 49, 50, 51, 52, 53, 54, 55, 56, 57, 58, 59, 60, 61, 62, 63, 64, 65, 66, 67, 68, 69, 70, 71, 72, 73, 74, 75, 76] rfl
  have hDc := hD.sub (ws' := vC cy a z σ) [1, 2, 3, 4, 5, 6, 7, 8, 9, 10, 11, 12, 13, 14, 15, 16, 17, 18, 19, 20, 21, 22, 23, 24, 25, 26, 27, 28, 29, 30, 31, 32, 33, 34, 35, 36, 37, 38, 39, 40, 41, 42, 43, 44, 45, 46, 47, 48, 49, 50, 51, 52, 53, 54, 55, 56, 57, 58, 59, 60, 61, 62, 63, 64, 65, 66, 67, 68, 69, 70, 71, 72, 73, 74, 75, 76] (by decide) rfl
  have hFc := va_free (wc := vC cy a z σ) hD hS hA [1, 2, 3, 4, 5, 6, 7, 8, 9, 10, 11, 12, 13, 14, 15, 16, 17, 18, 19, 20, 21, 22, 23, 24, 25, 26, 27, 28, 29, 30, 31, 32, 33, 34, 35, 36, 37, 38, 39, 40, 41, 42, 43, 44, 45, 46, 47, 48, 49, 50, 51, 52, 53, 54, 55, 56, 57, 58, 59, 60, 61, 62, 63, 64, 65, 66, 67, 68, 69, 70, 71, 72, 73, 74, 75, 76] rfl
  refine vx_calli (vx_runV (As := [.int v1]) (rest := [.int 0, .ref q0]) ⟨hx, hb, hml, hown, hts⟩ (c_f_X11_state l hl0 dC dI cy ek a k0 (lI lZ 1 v1) σ r h0 z s.heap.size) (cwV 1 hts g_w_state rfl rfl rfl hd_f_X11_state ⟨Nat.le_of_ble_eq_true rfl, Nat.le_of_ble_eq_true rfl⟩) ⟨nb_blindF, va_recv hK hPc (ci := 10) (q0 := 75) rfl rfl, fun U hU hW => ⟨rfl, ⟨⟨by rw [hU], by rw [hU]; exact hPc, va_K.moved hW.alike hK, hDc.weaken (fun _ _ _ _ => trivial), hG.warm hW⟩, nE.to hE hS hW hU hFc⟩, nT.to hT hS hW hU hFc⟩⟩ rfl rfl hl.1 rfl (lv_room (Nat.le_of_ble_eq_true rfl)) dL_state_4 ⟨Nat.le_of_eq (Nat.zero_add _), Nat.le_of_eq (Nat.zero_add _)⟩) hS (fun q _ h => hFc q h) hFc (fun q _ h => hFc q h) (fun E ce q9 u t H1 locs1 ht hvm hp hB hz1 hk1 hS hce hcv hcl => ?_) (fun x u t H1 locs1 ht hvm hw hB hz1 hk1 hS => ?_)
  · obtain ⟨hne, hz⟩ := hp
    obtain ⟨hE0, hP1, hK1, hD1⟩ := hB
    subst hE0
    rw [ht] at hP1
    obtain ⟨hP, hD⟩ := va_join (wr := [(q0, .inl (cy 2, 1, .inr (.inl w)))]) (w1 := vC cy a u r.2.1) hP hD [1, 2, 3, 4, 5, 6, 7, 8, 9, 10, 11, 12, 13, 14, 15, 16, 17, 18, 19, 20, 21, 22, 23, 24, 25, 26, 27, 28, 29, 30, 31, 32, 33, 34, 35, 36, 37, 38, 39, 40, 41, 42, 43, 44, 45, 46, 47, 48, 49, 50, 51, 52, 53, 54, 55, 56, 57, 58, 59, 60, 61, 62, 63, 64, 65, 66, 67, 68, 69, 70, 71, 72, 73, 74, 75, 76] [0] rfl rfl (by decide) (by decide) hk1 hFc hP1 hD1
    refine vx_widen (k := r.2.2.1) (n := r.2.2.2) (Nat.le_of_eq (Nat.zero_add _)) (Nat.le_of_eq (Nat.zero_add _)) ?_
    rcases hcode with h00 | h01 | h02
    · exact absurd h00 hne
    · rw [h01] at hcl
      refine vx_catch (E := "java/lang/IndexOutOfBoundsException") (name := "java/lang/IndexOutOfBoundsException") hown [] (⟨0, 9, 12, 37⟩ : ExceptionTableEntry) [(⟨0, 9, 15, 25⟩ : ExceptionTableEntry)] (by rw [hTb]; rfl) (fun z h => absurd h List.not_mem_nil) (by decide) (by decide) (hts _ (List.mem_cons_of_mem _ (List.mem_append_left _ (List.mem_append_left _ (List.mem_of_getElem? (i := 4) rfl))))) (va_Nw.use (by decide +kernel) (hT.2.2.1 _ (List.mem_of_getElem? (i := 2) rfl))) hce hcv hcl ?_
      refine lv_astore_n (lv' := [(3, .ref q9), (0, .ref (a 75)), (1, .int v1), (2, .ref q0)]) hx hb dL_state_12 rfl hl (by decide) rfl (fun ls hl => ?_)
      refine lv_iconst (v := 1) hx hb dL_state_13 (by decide) ?_
      have hP : va_P (dC, dI) nCl (vW cy a u r.2.1 q0 (wo w r.1.1 r.1.2)) H1 := by rw [show wo w r.1.1 r.1.2 = w from if_neg hne]; exact hP
      have hD : va_D A (vW cy a u r.2.1 q0 (wo w r.1.1 r.1.2)) := by rw [show wo w r.1.1 r.1.2 = w from if_neg hne]; exact hD
      exact W.iret (v := 1) hx hb hr (fun t ht hW => ⟨⟨1, u, rfl, ⟨by rw [h01]; decide, hz⟩, by rw [ht]; exact hP, va_K.moved hW.alike hK, hD⟩, hS.F ht⟩) hS.2.2 dL_state_14
    · rw [h02] at hcl
      refine vx_catch (E := "java/lang/IllegalStateException") (name := "java/lang/IllegalStateException") hown [(⟨0, 9, 12, 37⟩ : ExceptionTableEntry)] (⟨0, 9, 15, 25⟩ : ExceptionTableEntry) [] (by rw [hTb]; rfl) (fun z h => by rw [List.mem_singleton] at h; subst h; exact Or.inr ⟨by decide, "java/lang/IndexOutOfBoundsException", (hts _ (List.mem_cons_of_mem _ (List.mem_append_left _ (List.mem_append_left _ (List.mem_of_getElem? (i := 4) rfl))))), hT.2.2.2⟩) (by decide) (by decide) (hts _ (List.mem_cons_of_mem _ (List.mem_append_left _ (List.mem_append_left _ (List.mem_of_getElem? (i := 5) rfl))))) (va_Nw.use (by decide +kernel) (hT.2.2.1 _ (List.mem_of_getElem? (i := 0) rfl))) hce hcv hcl ?_
      refine lv_astore_n (lv' := [(3, .ref q9), (0, .ref (a 75)), (1, .int v1), (2, .ref q0)]) hx hb dL_state_15 rfl hl (by decide) rfl (fun ls hl => ?_)
      refine lv_iconst (v := 2) hx hb dL_state_16 (by decide) ?_
      have hP : va_P (dC, dI) nCl (vW cy a u r.2.1 q0 (wo w r.1.1 r.1.2)) H1 := by rw [show wo w r.1.1 r.1.2 = w from if_neg hne]; exact hP
      have hD : va_D A (vW cy a u r.2.1 q0 (wo w r.1.1 r.1.2)) := by rw [show wo w r.1.1 r.1.2 = w from if_neg hne]; exact hD
      exact W.iret (v := 2) hx hb hr (fun t ht hW => ⟨⟨2, u, rfl, ⟨by rw [h02]; decide, hz⟩, by rw [ht]; exact hP, va_K.moved hW.alike hK, hD⟩, hS.F ht⟩) hS.2.2 dL_state_17
  · obtain ⟨⟨h00, hxx⟩, hz⟩ := hw
    subst hxx
    obtain ⟨hP1, hK1, hD1⟩ := hB
    rw [ht] at hP1
    obtain ⟨hP, hD⟩ := va_join (wr := [(q0, .inl (cy 2, 1, .inr (.inl w)))]) (w1 := vC cy a u r.2.1) hP hD [1, 2, 3, 4, 5, 6, 7, 8, 9, 10, 11, 12, 13, 14, 15, 16, 17, 18, 19, 20, 21, 22, 23, 24, 25, 26, 27, 28, 29, 30, 31, 32, 33, 34, 35, 36, 37, 38, 39, 40, 41, 42, 43, 44, 45, 46, 47, 48, 49, 50, 51, 52, 53, 54, 55, 56, 57, 58, 59, 60, 61, 62, 63, 64, 65, 66, 67, 68, 69, 70, 71, 72, 73, 74, 75, 76] [0] rfl rfl (by decide) (by decide) hk1 hFc hP1 hD1
    refine W.widen (k := r.2.2.1) (n := r.2.2.2) (Nat.le_of_eq (Nat.zero_add _)) (Nat.le_of_eq (Nat.zero_add _)) ?_
    refine lv_i2l (v := r.1.2.toInt64) hx hb dL_state_7 rfl ?_
    refine va_last hx hb hK hP hD hS 0 2 rfl rfl (nb_in (by decide)) dL_state_8 (fun H locs hP hD hS => ?_)
    have hP : va_P (dC, dI) nCl (vW cy a u r.2.1 q0 (wo w r.1.1 r.1.2)) H := by rw [show wo w r.1.1 r.1.2 = vp_updL w 0 r.1.2.toInt64 from if_pos h00]; exact hP
    have hD : va_D A (vW cy a u r.2.1 q0 (wo w r.1.1 r.1.2)) := by rw [show wo w r.1.1 r.1.2 = vp_updL w 0 r.1.2.toInt64 from if_pos h00]; exact hD
    refine lv_goto (tgt := 18) hx hb dL_state_9 (by decide) ?_
    refine lv_iconst (v := 0) hx hb dL_state_18 (by decide) ?_
    exact W.iret (v := 0) hx hb hr (fun t ht hW => ⟨⟨0, u, rfl, ⟨by rw [h00]; decide, hz⟩, by rw [ht]; exact hP, va_K.moved hW.alike hK, hD⟩, hS.F ht⟩) hS.2.2 dL_state_19
/-! out -/
def o_w_out : List Cond := [.methodLink RL 39 yX11_out, .instanceMethod yX11_out, .selects RX11 yX11_out yX11_out, .initialized RX11, .classLink RL 37 "java/lang/IndexOutOfBoundsException"]
theorem o_w_out_good : o_w_out.all goodWord = true := by decide +kernel
def p_w_out : List Cond := o_w_out ++ ((.code yX11_out cX11_out 2 (some .int) :: p_f_X11_out) ++ [])
theorem p_w_out_good : p_w_out.all goodWord = true := nb_all2 o_w_out_good (nb_all2 (nb_allc (by decide +kernel) p_f_X11_out_good) rfl)
def w_w_out : List Cond := .codeWith yL_out cL_out 4 (some .int) [(0, 9, 12, 37)] :: (p_w_out ++ fC)
theorem w_w_out_good : w_w_out.all goodWord = true := nb_allc (by decide +kernel) (nb_all2 p_w_out_good fC_good)
theorem gg_w_out : GoodIn w_w_out w_f_X11_out := goodIn_sub (fun w h => (List.mem_cons.mp h).elim (fun e => (List.mem_cons_of_mem _ (List.mem_append_left _ (List.mem_append_right _ (List.mem_append_left _ (List.mem_cons.mpr (Or.inl e))))))) (fun h => (List.mem_append.mp h).elim (fun h => (List.mem_cons_of_mem _ (List.mem_append_left _ (List.mem_append_right _ (List.mem_append_left _ (List.mem_cons_of_mem _ h)))))) (fun h => List.mem_cons_of_mem _ (List.mem_append_right _ h)))) w_f_X11_out_good
theorem g_w_out : GoodIn w_w_out (wsV RL 39 RX11 yX11_out w_f_X11_out) := goodIn_app (nb_g4 (List.mem_cons_of_mem _ (List.mem_append_left _ (List.mem_append_left _ (List.mem_of_getElem? (i := 0) rfl)))) (List.mem_cons_of_mem _ (List.mem_append_left _ (List.mem_append_left _ (List.mem_of_getElem? (i := 1) rfl)))) (List.mem_cons_of_mem _ (List.mem_append_left _ (List.mem_append_left _ (List.mem_of_getElem? (i := 2) rfl)))) (List.mem_cons_of_mem _ (List.mem_append_left _ (List.mem_append_left _ (List.mem_of_getElem? (i := 3) rfl)))) (by decide +kernel)) gg_w_out
set_option maxHeartbeats 40000000 in
set_option maxRecDepth 100000 in
theorem c_w_out (l : Launch) (hl0 : l.stackTraces = false) (dC : Nat → ClassId) (dI : Nat → Nat → Nat) (cy : Nat → ClassId) (ek a : Nat → Nat) (k0 : Nat) (v1 : Int32) (σ : CS) (q0 : Nat) (w : Nat → Int64) (r : RS) (h0 : f_X11_out k0 0 (lI lZ 1 v1) σ = some r) (hcode : r.1.1 = 0 ∨ r.1.1 = 3) (z : Nat → Nat) (sz : Nat) : Met l yL_out w_w_out ({ frames := 7, cells := r.2.2.1, slots := r.2.2.2, locals := 121 }) (va_Pc [.ref (a 75), .int v1, .ref q0] (nInX (dC, dI) cy ek sz (vW cy a z σ q0 w))) (va_Qi (fun (x : Int32) (u : Nat → Nat) => x = wv 3 1 1 r.1.1 ∧ zk [] z u) (fun u t => nOut (dC, dI) cy (va_A (vW cy a z σ q0 w) sz) (vW cy a u r.2.1 q0 (wo w r.1.1 r.1.2)) t) (va_A (vW cy a z σ q0 w) sz)) r.2.2.1 r.2.2.2 (va_A (vW cy a z σ q0 w) sz) := by
  refine nb_ofWH (cc := cL_out) (maxL := 4) (ret := (some .int)) (by decide) rfl ?_
  intro p e s m args below meth c s₁ B hml hv
  obtain ⟨rfl, ⟨⟨⟨hsz, hP, hK, hD0, hG⟩, hE⟩, hT⟩, hX⟩ := hv
  have hx := B.exec
  have hb := B.bytes
  have hr := B.returns
  have hts := atoms_spec (ws := w_w_out) B.pre
  have hown : s.vm.findClass RL = some m.cls := findClass_of_methodNamed B.named
  have hTb : c.exceptionTable.toList = tableOf [(0, 9, 12, 37)] := vx_table (x := yL_out) B (hts _ List.mem_cons_self)
  have hlocks := B.notSynchronized
  subst hsz
  have hD := hD0.self (sz := s.heap.size)
  generalize hAe : va_A (vW cy a z σ q0 w) s.heap.size = A at hD hE hT ⊢
  have hA : ∀ q : Nat, s.heap.size ≤ q → A q := fun q h => by rw [← hAe]; exact Or.inr h
  have hS : va_S A s.heap s.heap [] := va_S.rf
  have hl := lv_entry ([.ref (a 75), .int v1, .ref q0]) (n := 4) (Nat.le_of_ble_eq_true rfl)
  rw [lg_entry_eq]
  generalize (lg_sl ([.ref (a 75), .int v1, .ref q0]) ++ List.replicate (4 - (lg_sl ([.ref (a 75), .int v1, .ref q0])).length) Slot.unset).toArray = ls at hl ⊢
  have hl : lv_has ls 4 [(0, .ref (a 75)), (1, .int v1), (2, .ref q0)] := hl
  refine lv_aload_n hx hb dL_out_0 rfl (lv_at hl 2 rfl) ?_
  refine lv_iconst (v := 0) hx hb dL_out_1 (by decide) ?_
  refine lv_aload_n hx hb dL_out_2 rfl (lv_at hl 0 rfl) ?_
  refine lv_iload_n hx hb dL_out_3 rfl (lv_at hl 1 rfl) ?_
  have hPc := hP.sub (ws' := vC cy a z σ) [1, 2, 3, 4, 5, 6, 7, 8, 9, 10, 11, 12, 13, 14, 15, 16, 17, 18, 19, 20, 21, 22, 23, 24, 25, 26, 27, 28, 29, 30, 31, 32, 33, 34, 35, 36, 37, 38, 39, 40, 41, 42, 43, 44, 45, 46, 47, 48, 49, 50, 51, 52, 53, 54, 55, 56, 57, 58, 59, 60, 61, 62, 63, 64, 65, 66, 67, 68, 69, 70, 71, 72, 73, 74, 75, 76] rfl
  have hDc := hD.sub (ws' := vC cy a z σ) [1, 2, 3, 4, 5, 6, 7, 8, 9, 10, 11, 12, 13, 14, 15, 16, 17, 18, 19, 20, 21, 22, 23, 24, 25, 26, 27, 28, 29, 30, 31, 32, 33, 34, 35, 36, 37, 38, 39, 40, 41, 42, 43, 44, 45, 46, 47, 48, 49, 50, 51, 52, 53, 54, 55, 56, 57, 58, 59, 60, 61, 62, 63, 64, 65, 66, 67, 68, 69, 70, 71, 72, 73, 74, 75, 76] (by decide) rfl
  have hFc := va_free (wc := vC cy a z σ) hD hS hA [1, 2, 3, 4, 5, 6, 7, 8, 9, 10, 11, 12, 13, 14, 15, 16, 17, 18, 19, 20, 21, 22, 23, 24, 25, 26, 27, 28, 29, 30, 31, 32, 33, 34, 35, 36, 37, 38, 39, 40, 41, 42, 43, 44, 45, 46, 47, 48, 49, 50, 51, 52, 53, 54, 55, 56, 57, 58, 59, 60, 61, 62, 63, 64, 65, 66, 67, 68, 69, 70, 71, 72, 73, 74, 75, 76] rfl
  refine vx_calli (vx_runV (As := [.int v1]) (rest := [.int 0, .ref q0]) ⟨hx, hb, hml, hown, hts⟩ (c_f_X11_out l hl0 dC dI cy ek a k0 (lI lZ 1 v1) σ r h0 z s.heap.size) (cwV 1 hts g_w_out rfl rfl rfl hd_f_X11_out ⟨Nat.le_of_ble_eq_true rfl, Nat.le_of_ble_eq_true rfl⟩) ⟨nb_blindF, va_recv hK hPc (ci := 10) (q0 := 75) rfl rfl, fun U hU hW => ⟨rfl, ⟨⟨by rw [hU], by rw [hU]; exact hPc, va_K.moved hW.alike hK, hDc.weaken (fun _ _ _ _ => trivial), hG.warm hW⟩, nE.to hE hS hW hU hFc⟩, nT.to hT hS hW hU hFc⟩⟩ rfl rfl hl.1 rfl (lv_room (Nat.le_of_ble_eq_true rfl)) dL_out_4 ⟨Nat.le_of_eq (Nat.zero_add _), Nat.le_of_eq (Nat.zero_add _)⟩) hS (fun q _ h => hFc q h) hFc (fun q _ h => hFc q h) (fun E ce q9 u t H1 locs1 ht hvm hp hB hz1 hk1 hS hce hcv hcl => ?_) (fun x u t H1 locs1 ht hvm hw hB hz1 hk1 hS => ?_)
  · obtain ⟨hne, hz⟩ := hp
    obtain ⟨hE0, hP1, hK1, hD1⟩ := hB
    subst hE0
    rw [ht] at hP1
    obtain ⟨hP, hD⟩ := va_join (wr := [(q0, .inl (cy 2, 1, .inr (.inl w)))]) (w1 := vC cy a u r.2.1) hP hD [1, 2, 3, 4, 5, 6, 7, 8, 9, 10, 11, 12, 13, 14, 15, 16, 17, 18, 19, 20, 21, 22, 23, 24, 25, 26, 27, 28, 29, 30, 31, 32, 33, 34, 35, 36, 37, 38, 39, 40, 41, 42, 43, 44, 45, 46, 47, 48, 49, 50, 51, 52, 53, 54, 55, 56, 57, 58, 59, 60, 61, 62, 63, 64, 65, 66, 67, 68, 69, 70, 71, 72, 73, 74, 75, 76] [0] rfl rfl (by decide) (by decide) hk1 hFc hP1 hD1
    refine vx_widen (k := r.2.2.1) (n := r.2.2.2) (Nat.le_of_eq (Nat.zero_add _)) (Nat.le_of_eq (Nat.zero_add _)) ?_
    rcases hcode with h00 | h01
    · exact absurd h00 hne
    · rw [h01] at hcl
      refine vx_catch (E := "java/lang/IndexOutOfBoundsException") (name := "java/lang/IndexOutOfBoundsException") hown [] (⟨0, 9, 12, 37⟩ : ExceptionTableEntry) [] (by rw [hTb]; rfl) (fun z h => absurd h List.not_mem_nil) (by decide) (by decide) (hts _ (List.mem_cons_of_mem _ (List.mem_append_left _ (List.mem_append_left _ (List.mem_of_getElem? (i := 4) rfl))))) (va_Nw.use (by decide +kernel) (hT.2.2.1 _ (List.mem_of_getElem? (i := 2) rfl))) hce hcv hcl ?_
      refine lv_astore_n (lv' := [(3, .ref q9), (0, .ref (a 75)), (1, .int v1), (2, .ref q0)]) hx hb dL_out_12 rfl hl (by decide) rfl (fun ls hl => ?_)
      refine lv_iconst (v := 1) hx hb dL_out_13 (by decide) ?_
      have hP : va_P (dC, dI) nCl (vW cy a u r.2.1 q0 (wo w r.1.1 r.1.2)) H1 := by rw [show wo w r.1.1 r.1.2 = w from if_neg hne]; exact hP
      have hD : va_D A (vW cy a u r.2.1 q0 (wo w r.1.1 r.1.2)) := by rw [show wo w r.1.1 r.1.2 = w from if_neg hne]; exact hD
      exact W.iret (v := 1) hx hb hr (fun t ht hW => ⟨⟨1, u, rfl, ⟨by rw [h01]; decide, hz⟩, by rw [ht]; exact hP, va_K.moved hW.alike hK, hD⟩, hS.F ht⟩) hS.2.2 dL_out_14
  · obtain ⟨⟨h00, hxx⟩, hz⟩ := hw
    subst hxx
    obtain ⟨hP1, hK1, hD1⟩ := hB
    rw [ht] at hP1
    obtain ⟨hP, hD⟩ := va_join (wr := [(q0, .inl (cy 2, 1, .inr (.inl w)))]) (w1 := vC cy a u r.2.1) hP hD [1, 2, 3, 4, 5, 6, 7, 8, 9, 10, 11, 12, 13, 14, 15, 16, 17, 18, 19, 20, 21, 22, 23, 24, 25, 26, 27, 28, 29, 30, 31, 32, 33, 34, 35, 36, 37, 38, 39, 40, 41, 42, 43, 44, 45, 46, 47, 48, 49, 50, 51, 52, 53, 54, 55, 56, 57, 58, 59, 60, 61, 62, 63, 64, 65, 66, 67, 68, 69, 70, 71, 72, 73, 74, 75, 76] [0] rfl rfl (by decide) (by decide) hk1 hFc hP1 hD1
    refine W.widen (k := r.2.2.1) (n := r.2.2.2) (Nat.le_of_eq (Nat.zero_add _)) (Nat.le_of_eq (Nat.zero_add _)) ?_
    refine lv_i2l (v := r.1.2.toInt64) hx hb dL_out_7 rfl ?_
    refine va_last hx hb hK hP hD hS 0 2 rfl rfl (nb_in (by decide)) dL_out_8 (fun H locs hP hD hS => ?_)
    have hP : va_P (dC, dI) nCl (vW cy a u r.2.1 q0 (wo w r.1.1 r.1.2)) H := by rw [show wo w r.1.1 r.1.2 = vp_updL w 0 r.1.2.toInt64 from if_pos h00]; exact hP
    have hD : va_D A (vW cy a u r.2.1 q0 (wo w r.1.1 r.1.2)) := by rw [show wo w r.1.1 r.1.2 = vp_updL w 0 r.1.2.toInt64 from if_pos h00]; exact hD
    refine lv_goto (tgt := 15) hx hb dL_out_9 (by decide) ?_
    refine lv_iconst (v := 0) hx hb dL_out_15 (by decide) ?_
    exact W.iret (v := 0) hx hb hr (fun t ht hW => ⟨⟨0, u, rfl, ⟨by rw [h00]; decide, hz⟩, by rw [ht]; exact hP, va_K.moved hW.alike hK, hD⟩, hS.F ht⟩) hS.2.2 dL_out_16
/-! value -/
def o_w_value : List Cond := [.methodLink RL 42 yX11_value, .instanceMethod yX11_value, .selects RX11 yX11_value yX11_value, .initialized RX11, .classLink RL 25 "java/lang/IllegalStateException", .classLink RL 19 "java/lang/IllegalArgumentException"]
theorem o_w_value_good : o_w_value.all goodWord = true := by decide +kernel
def p_w_value : List Cond := o_w_value ++ ((.code yX11_value cX11_value 3 (some .int) :: p_f_X11_value) ++ [])
theorem p_w_value_good : p_w_value.all goodWord = true := nb_all2 o_w_value_good (nb_all2 (nb_allc (by decide +kernel) p_f_X11_value_good) rfl)
def w_w_value : List Cond := .codeWith yL_value cL_value 3 (some .int) [(0, 8, 11, 25), (0, 8, 14, 19)] :: (p_w_value ++ fC)
theorem w_w_value_good : w_w_value.all goodWord = true := nb_allc (by decide +kernel) (nb_all2 p_w_value_good fC_good)
theorem gg_w_value : GoodIn w_w_value w_f_X11_value := goodIn_sub (fun w h => (List.mem_cons.mp h).elim (fun e => (List.mem_cons_of_mem _ (List.mem_append_left _ (List.mem_append_right _ (List.mem_append_left _ (List.mem_cons.mpr (Or.inl e))))))) (fun h => (List.mem_append.mp h).elim (fun h => (List.mem_cons_of_mem _ (List.mem_append_left _ (List.mem_append_right _ (List.mem_append_left _ (List.mem_cons_of_mem _ h)))))) (fun h => List.mem_cons_of_mem _ (List.mem_append_right _ h)))) w_f_X11_value_good
theorem g_w_value : GoodIn w_w_value (wsV RL 42 RX11 yX11_value w_f_X11_value) := goodIn_app (nb_g4 (List.mem_cons_of_mem _ (List.mem_append_left _ (List.mem_append_left _ (List.mem_of_getElem? (i := 0) rfl)))) (List.mem_cons_of_mem _ (List.mem_append_left _ (List.mem_append_left _ (List.mem_of_getElem? (i := 1) rfl)))) (List.mem_cons_of_mem _ (List.mem_append_left _ (List.mem_append_left _ (List.mem_of_getElem? (i := 2) rfl)))) (List.mem_cons_of_mem _ (List.mem_append_left _ (List.mem_append_left _ (List.mem_of_getElem? (i := 3) rfl)))) (by decide +kernel)) gg_w_value
set_option maxHeartbeats 40000000 in
set_option maxRecDepth 100000 in
theorem c_w_value (l : Launch) (hl0 : l.stackTraces = false) (dC : Nat → ClassId) (dI : Nat → Nat → Nat) (cy : Nat → ClassId) (ek a : Nat → Nat) (k0 : Nat)  (σ : CS) (q0 : Nat) (w : Nat → Int64) (r : RS) (h0 : f_X11_value k0 0 lZ σ = some r) (hcode : r.1.1 = 0 ∨ r.1.1 = 2 ∨ r.1.1 = 1) (z : Nat → Nat) (sz : Nat) : Met l yL_value w_w_value ({ frames := 89, cells := r.2.2.1, slots := r.2.2.2, locals := 2195 }) (va_Pc [.ref (a 75), .ref q0] (nInX (dC, dI) cy ek sz (vW cy a z σ q0 w))) (va_Qi (fun (x : Int32) (u : Nat → Nat) => x = wv 2 1 2 r.1.1 ∧ zk [38, 66] z u) (fun u t => nOut (dC, dI) cy (va_A (vW cy a z σ q0 w) sz) (vW cy a u r.2.1 q0 (wo w r.1.1 r.1.2)) t) (va_A (vW cy a z σ q0 w) sz)) r.2.2.1 r.2.2.2 (va_A (vW cy a z σ q0 w) sz) := by
  refine nb_ofWH (cc := cL_value) (maxL := 3) (ret := (some .int)) (by decide) rfl ?_
  intro p e s m args below meth c s₁ B hml hv
  obtain ⟨rfl, ⟨⟨⟨hsz, hP, hK, hD0, hG⟩, hE⟩, hT⟩, hX⟩ := hv
  have hx := B.exec
  have hb := B.bytes
  have hr := B.returns
  have hts := atoms_spec (ws := w_w_value) B.pre
  have hown : s.vm.findClass RL = some m.cls := findClass_of_methodNamed B.named
  have hTb : c.exceptionTable.toList = tableOf [(0, 8, 11, 25), (0, 8, 14, 19)] := vx_table (x := yL_value) B (hts _ List.mem_cons_self)
  have hlocks := B.notSynchronized
  subst hsz
  have hD := hD0.self (sz := s.heap.size)
  generalize hAe : va_A (vW cy a z σ q0 w) s.heap.size = A at hD hE hT ⊢
  have hA : ∀ q : Nat, s.heap.size ≤ q → A q := fun q h => by rw [← hAe]; exact Or.inr h
  have hS : va_S A s.heap s.heap [] := va_S.rf
  have hl := lv_entry ([.ref (a 75), .ref q0]) (n := 3) (Nat.le_of_ble_eq_true rfl)
  rw [lg_entry_eq]
  generalize (lg_sl ([.ref (a 75), .ref q0]) ++ List.replicate (3 - (lg_sl ([.ref (a 75), .ref q0])).length) Slot.unset).toArray = ls at hl ⊢
  have hl : lv_has ls 3 [(0, .ref (a 75)), (1, .ref q0)] := hl
  refine lv_aload_n hx hb dL_value_0 rfl (lv_at hl 1 rfl) ?_
  refine lv_iconst (v := 0) hx hb dL_value_1 (by decide) ?_
  refine lv_aload_n hx hb dL_value_2 rfl (lv_at hl 0 rfl) ?_
  have hPc := hP.sub (ws' := vC cy a z σ) [1, 2, 3, 4, 5, 6, 7, 8, 9, 10, 11, 12, 13, 14, 15, 16, 17, 18, 19, 20, 21, 22, 23, 24, 25, 26, 27, 28, 29, 30, 31, 32, 33, 34, 35, 36, 37, 38, 39, 40, 41, 42, 43, 44, 45, 46, 47, 48, 49, 50, 51, 52, 53, 54, 55, 56, 57, 58, 59, 60, 61, 62, 63, 64, 65, 66, 67, 68, 69, 70, 71, 72, 73, 74, 75, 76] rfl
  have hDc := hD.sub (ws' := vC cy a z σ) [1, 2, 3, 4, 5, 6, 7, 8, 9, 10, 11, 12, 13, 14, 15, 16, 17, 18, 19, 20, 21, 22, 23, 24, 25, 26, 27, 28, 29, 30, 31, 32, 33, 34, 35, 36, 37, 38, 39, 40, 41, 42, 43, 44, 45, 46, 47, 48, 49, 50, 51, 52, 53, 54, 55, 56, 57, 58, 59, 60, 61, 62, 63, 64, 65, 66, 67, 68, 69, 70, 71, 72, 73, 74, 75, 76] (by decide) rfl
  have hFc := va_free (wc := vC cy a z σ) hD hS hA [1, 2, 3, 4, 5, 6, 7, 8, 9, 10, 11, 12, 13, 14, 15, 16, 17, 18, 19, 20, 21, 22, 23, 24, 25, 26, 27, 28, 29, 30, 31, 32, 33, 34, 35, 36, 37, 38, 39, 40, 41, 42, 43, 44, 45, 46, 47, 48, 49, 50, 51, 52, 53, 54, 55, 56, 57, 58, 59, 60, 61, 62, 63, 64, 65, 66, 67, 68, 69, 70, 71, 72, 73, 74, 75, 76] rfl
  refine vx_calli (vx_runV (As := []) (rest := [.int 0, .ref q0]) ⟨hx, hb, hml, hown, hts⟩ (c_f_X11_value l hl0 dC dI cy ek a k0 lZ σ r h0 z s.heap.size) (cwV 0 hts g_w_value rfl rfl rfl hd_f_X11_value ⟨Nat.le_of_ble_eq_true rfl, Nat.le_of_ble_eq_true rfl⟩) ⟨nb_blindF, va_recv hK hPc (ci := 10) (q0 := 75) rfl rfl, fun U hU hW => ⟨rfl, ⟨⟨by rw [hU], by rw [hU]; exact hPc, va_K.moved hW.alike hK, hDc.weaken (fun _ _ _ _ => trivial), hG.warm hW⟩, nE.to hE hS hW hU hFc⟩, nT.to hT hS hW hU hFc⟩⟩ rfl rfl hl.1 rfl (lv_room (Nat.le_of_ble_eq_true rfl)) dL_value_3 ⟨Nat.le_of_eq (Nat.zero_add _), Nat.le_of_eq (Nat.zero_add _)⟩) hS (fun q _ h => hFc q h) hFc (fun q _ h => hFc q h) (fun E ce q9 u t H1 locs1 ht hvm hp hB hz1 hk1 hS hce hcv hcl => ?_) (fun x u t H1 locs1 ht hvm hw hB hz1 hk1 hS => ?_)
  · obtain ⟨hne, hz⟩ := hp
    obtain ⟨hE0, hP1, hK1, hD1⟩ := hB
    subst hE0
    rw [ht] at hP1
    obtain ⟨hP, hD⟩ := va_join (wr := [(q0, .inl (cy 2, 1, .inr (.inl w)))]) (w1 := vC cy a u r.2.1) hP hD [1, 2, 3, 4, 5, 6, 7, 8, 9, 10, 11, 12, 13, 14, 15, 16, 17, 18, 19, 20, 21, 22, 23, 24, 25, 26, 27, 28, 29, 30, 31, 32, 33, 34, 35, 36, 37, 38, 39, 40, 41, 42, 43, 44, 45, 46, 47, 48, 49, 50, 51, 52, 53, 54, 55, 56, 57, 58, 59, 60, 61, 62, 63, 64, 65, 66, 67, 68, 69, 70, 71, 72, 73, 74, 75, 76] [0] rfl rfl (by decide) (by decide) hk1 hFc hP1 hD1
    refine vx_widen (k := r.2.2.1) (n := r.2.2.2) (Nat.le_of_eq (Nat.zero_add _)) (Nat.le_of_eq (Nat.zero_add _)) ?_
    rcases hcode with h00 | h01 | h02
    · exact absurd h00 hne
    · rw [h01] at hcl
      refine vx_catch (E := "java/lang/IllegalStateException") (name := "java/lang/IllegalStateException") hown [] (⟨0, 8, 11, 25⟩ : ExceptionTableEntry) [(⟨0, 8, 14, 19⟩ : ExceptionTableEntry)] (by rw [hTb]; rfl) (fun z h => absurd h List.not_mem_nil) (by decide) (by decide) (hts _ (List.mem_cons_of_mem _ (List.mem_append_left _ (List.mem_append_left _ (List.mem_of_getElem? (i := 4) rfl))))) (va_Nw.use (by decide +kernel) (hT.2.2.1 _ (List.mem_of_getElem? (i := 0) rfl))) hce hcv hcl ?_
      refine lv_astore_n (lv' := [(2, .ref q9), (0, .ref (a 75)), (1, .ref q0)]) hx hb dL_value_11 rfl hl (by decide) rfl (fun ls hl => ?_)
      refine lv_iconst (v := 1) hx hb dL_value_12 (by decide) ?_
      have hP : va_P (dC, dI) nCl (vW cy a u r.2.1 q0 (wo w r.1.1 r.1.2)) H1 := by rw [show wo w r.1.1 r.1.2 = w from if_neg hne]; exact hP
      have hD : va_D A (vW cy a u r.2.1 q0 (wo w r.1.1 r.1.2)) := by rw [show wo w r.1.1 r.1.2 = w from if_neg hne]; exact hD
      exact W.iret (v := 1) hx hb hr (fun t ht hW => ⟨⟨1, u, rfl, ⟨by rw [h01]; decide, hz⟩, by rw [ht]; exact hP, va_K.moved hW.alike hK, hD⟩, hS.F ht⟩) hS.2.2 dL_value_13
    · rw [h02] at hcl
      refine vx_catch (E := "java/lang/IllegalArgumentException") (name := "java/lang/IllegalArgumentException") hown [(⟨0, 8, 11, 25⟩ : ExceptionTableEntry)] (⟨0, 8, 14, 19⟩ : ExceptionTableEntry) [] (by rw [hTb]; rfl) (fun z h => by rw [List.mem_singleton] at h; subst h; exact Or.inr ⟨by decide, "java/lang/IllegalStateException", (hts _ (List.mem_cons_of_mem _ (List.mem_append_left _ (List.mem_append_left _ (List.mem_of_getElem? (i := 4) rfl))))), hX.1⟩) (by decide) (by decide) (hts _ (List.mem_cons_of_mem _ (List.mem_append_left _ (List.mem_append_left _ (List.mem_of_getElem? (i := 5) rfl))))) (va_Nw.use (by decide +kernel) (hT.2.2.1 _ (List.mem_of_getElem? (i := 1) rfl))) hce hcv hcl ?_
      refine lv_astore_n (lv' := [(2, .ref q9), (0, .ref (a 75)), (1, .ref q0)]) hx hb dL_value_14 rfl hl (by decide) rfl (fun ls hl => ?_)
      refine lv_iconst (v := 2) hx hb dL_value_15 (by decide) ?_
      have hP : va_P (dC, dI) nCl (vW cy a u r.2.1 q0 (wo w r.1.1 r.1.2)) H1 := by rw [show wo w r.1.1 r.1.2 = w from if_neg hne]; exact hP
      have hD : va_D A (vW cy a u r.2.1 q0 (wo w r.1.1 r.1.2)) := by rw [show wo w r.1.1 r.1.2 = w from if_neg hne]; exact hD
      exact W.iret (v := 2) hx hb hr (fun t ht hW => ⟨⟨2, u, rfl, ⟨by rw [h02]; decide, hz⟩, by rw [ht]; exact hP, va_K.moved hW.alike hK, hD⟩, hS.F ht⟩) hS.2.2 dL_value_16
  · obtain ⟨⟨h00, hxx⟩, hz⟩ := hw
    subst hxx
    obtain ⟨hP1, hK1, hD1⟩ := hB
    rw [ht] at hP1
    obtain ⟨hP, hD⟩ := va_join (wr := [(q0, .inl (cy 2, 1, .inr (.inl w)))]) (w1 := vC cy a u r.2.1) hP hD [1, 2, 3, 4, 5, 6, 7, 8, 9, 10, 11, 12, 13, 14, 15, 16, 17, 18, 19, 20, 21, 22, 23, 24, 25, 26, 27, 28, 29, 30, 31, 32, 33, 34, 35, 36, 37, 38, 39, 40, 41, 42, 43, 44, 45, 46, 47, 48, 49, 50, 51, 52, 53, 54, 55, 56, 57, 58, 59, 60, 61, 62, 63, 64, 65, 66, 67, 68, 69, 70, 71, 72, 73, 74, 75, 76] [0] rfl rfl (by decide) (by decide) hk1 hFc hP1 hD1
    refine W.widen (k := r.2.2.1) (n := r.2.2.2) (Nat.le_of_eq (Nat.zero_add _)) (Nat.le_of_eq (Nat.zero_add _)) ?_
    refine lv_i2l (v := r.1.2.toInt64) hx hb dL_value_6 rfl ?_
    refine va_last hx hb hK hP hD hS 0 2 rfl rfl (nb_in (by decide)) dL_value_7 (fun H locs hP hD hS => ?_)
    have hP : va_P (dC, dI) nCl (vW cy a u r.2.1 q0 (wo w r.1.1 r.1.2)) H := by rw [show wo w r.1.1 r.1.2 = vp_updL w 0 r.1.2.toInt64 from if_pos h00]; exact hP
    have hD : va_D A (vW cy a u r.2.1 q0 (wo w r.1.1 r.1.2)) := by rw [show wo w r.1.1 r.1.2 = vp_updL w 0 r.1.2.toInt64 from if_pos h00]; exact hD
    refine lv_goto (tgt := 17) hx hb dL_value_8 (by decide) ?_
    refine lv_iconst (v := 0) hx hb dL_value_17 (by decide) ?_
    exact W.iret (v := 0) hx hb hr (fun t ht hW => ⟨⟨0, u, rfl, ⟨by rw [h00]; decide, hz⟩, by rw [ht]; exact hP, va_K.moved hW.alike hK, hD⟩, hS.F ht⟩) hS.2.2 dL_value_18
/-! work -/
def o_w_work : List Cond := [.methodLink RL 46 yX11_work, .instanceMethod yX11_work, .selects RX11 yX11_work yX11_work, .initialized RX11, .classLink RL 25 "java/lang/IllegalStateException"]
theorem o_w_work_good : o_w_work.all goodWord = true := by decide +kernel
def p_w_work : List Cond := o_w_work ++ ((.code yX11_work cX11_work 4 (some .int) :: p_f_X11_work) ++ [])
theorem p_w_work_good : p_w_work.all goodWord = true := nb_all2 o_w_work_good (nb_all2 (nb_allc (by decide +kernel) p_f_X11_work_good) rfl)
def w_w_work : List Cond := .codeWith yL_work cL_work 3 (some .int) [(0, 8, 11, 25)] :: (p_w_work ++ fC)
theorem w_w_work_good : w_w_work.all goodWord = true := nb_allc (by decide +kernel) (nb_all2 p_w_work_good fC_good)
theorem gg_w_work : GoodIn w_w_work w_f_X11_work := goodIn_sub (fun w h => (List.mem_cons.mp h).elim (fun e => (List.mem_cons_of_mem _ (List.mem_append_left _ (List.mem_append_right _ (List.mem_append_left _ (List.mem_cons.mpr (Or.inl e))))))) (fun h => (List.mem_append.mp h).elim (fun h => (List.mem_cons_of_mem _ (List.mem_append_left _ (List.mem_append_right _ (List.mem_append_left _ (List.mem_cons_of_mem _ h)))))) (fun h => List.mem_cons_of_mem _ (List.mem_append_right _ h)))) w_f_X11_work_good
theorem g_w_work : GoodIn w_w_work (wsV RL 46 RX11 yX11_work w_f_X11_work) := goodIn_app (nb_g4 (List.mem_cons_of_mem _ (List.mem_append_left _ (List.mem_append_left _ (List.mem_of_getElem? (i := 0) rfl)))) (List.mem_cons_of_mem _ (List.mem_append_left _ (List.mem_append_left _ (List.mem_of_getElem? (i := 1) rfl)))) (List.mem_cons_of_mem _ (List.mem_append_left _ (List.mem_append_left _ (List.mem_of_getElem? (i := 2) rfl)))) (List.mem_cons_of_mem _ (List.mem_append_left _ (List.mem_append_left _ (List.mem_of_getElem? (i := 3) rfl)))) (by decide +kernel)) gg_w_work
set_option maxHeartbeats 40000000 in
set_option maxRecDepth 100000 in
theorem c_w_work (l : Launch) (hl0 : l.stackTraces = false) (dC : Nat → ClassId) (dI : Nat → Nat → Nat) (cy : Nat → ClassId) (ek a : Nat → Nat) (k0 : Nat)  (σ : CS) (q0 : Nat) (w : Nat → Int64) (r : RS) (h0 : f_X11_work k0 0 lZ σ = some r) (hcode : r.1.1 = 0 ∨ r.1.1 = 2) (z : Nat → Nat) (sz : Nat) : Met l yL_work w_w_work ({ frames := 412, cells := r.2.2.1, slots := r.2.2.2, locals := 13448 }) (va_Pc [.ref (a 75), .ref q0] (nInX (dC, dI) cy ek sz (vW cy a z σ q0 w))) (va_Qi (fun (x : Int32) (u : Nat → Nat) => x = wv 2 1 1 r.1.1 ∧ zk [1, 2, 3, 20, 21, 22, 26, 38, 41, 43, 51, 66] z u) (fun u t => nOut (dC, dI) cy (va_A (vW cy a z σ q0 w) sz) (vW cy a u r.2.1 q0 (wo w r.1.1 r.1.2)) t) (va_A (vW cy a z σ q0 w) sz)) r.2.2.1 r.2.2.2 (va_A (vW cy a z σ q0 w) sz) := by
  refine nb_ofWH (cc := cL_work) (maxL := 3) (ret := (some .int)) (by decide) rfl ?_
  intro p e s m args below meth c s₁ B hml hv
  obtain ⟨rfl, ⟨⟨⟨hsz, hP, hK, hD0, hG⟩, hE⟩, hT⟩, hX⟩ := hv
  have hx := B.exec
  have hb := B.bytes
  have hr := B.returns
  have hts := atoms_spec (ws := w_w_work) B.pre
  have hown : s.vm.findClass RL = some m.cls := findClass_of_methodNamed B.named
  have hTb : c.exceptionTable.toList = tableOf [(0, 8, 11, 25)] := vx_table (x := yL_work) B (hts _ List.mem_cons_self)
  have hlocks := B.notSynchronized
  subst hsz
  have hD := hD0.self (sz := s.heap.size)
  generalize hAe : va_A (vW cy a z σ q0 w) s.heap.size = A at hD hE hT ⊢
  have hA : ∀ q : Nat, s.heap.size ≤ q → A q := fun q h => by rw [← hAe]; exact Or.inr h
  have hS : va_S A s.heap s.heap [] := va_S.rf
  have hl := lv_entry ([.ref (a 75), .ref q0]) (n := 3) (Nat.le_of_ble_eq_true rfl)
  rw [lg_entry_eq]
  generalize (lg_sl ([.ref (a 75), .ref q0]) ++ List.replicate (3 - (lg_sl ([.ref (a 75), .ref q0])).length) Slot.unset).toArray = ls at hl ⊢
  have hl : lv_has ls 3 [(0, .ref (a 75)), (1, .ref q0)] := hl
  refine lv_aload_n hx hb dL_work_0 rfl (lv_at hl 1 rfl) ?_
  refine lv_iconst (v := 0) hx hb dL_work_1 (by decide) ?_
  refine lv_aload_n hx hb dL_work_2 rfl (lv_at hl 0 rfl) ?_
  have hPc := hP.sub (ws' := vC cy a z σ) [1, 2, 3, 4, 5, 6, 7, 8, 9, 10, 11, 12, 13, 14, 15, 16, 17, 18, 19, 20, 21, 22, 23, 24, 25, 26, 27, 28, 29, 30, 31, 32, 33, 34, 35, 36, 37, 38, 39, 40, 41, 42, 43, 44, 45, 46, 47, 48, 49, 50, 51, 52, 53, 54, 55, 56, 57, 58, 59, 60, 61, 62, 63, 64, 65, 66, 67, 68, 69, 70, 71, 72, 73, 74, 75, 76] rfl
  have hDc := hD.sub (ws' := vC cy a z σ) [1, 2, 3, 4, 5, 6, 7, 8, 9, 10, 11, 12, 13, 14, 15, 16, 17, 18, 19, 20, 21, 22, 23, 24, 25, 26, 27, 28, 29, 30, 31, 32, 33, 34, 35, 36, 37, 38, 39, 40, 41, 42, 43, 44, 45, 46, 47, 48, 49, 50, 51, 52, 53, 54, 55, 56, 57, 58, 59, 60, 61, 62, 63, 64, 65, 66, 67, 68, 69, 70, 71, 72, 73, 74, 75, 76] (by decide) rfl
  have hFc := va_free (wc := vC cy a z σ) hD hS hA [1, 2, 3, 4, 5, 6, 7, 8, 9, 10, 11, 12, 13, 14, 15, 16, 17, 18, 19, 20, 21, 22, 23, 24, 25, 26, 27, 28, 29, 30, 31, 32, 33, 34, 35, 36, 37, 38, 39, 40, 41, 42, 43, 44, 45, 46, 47, 48, 49, 50, 51, 52, 53, 54, 55, 56, 57, 58, 59, 60, 61, 62, 63, 64, 65, 66, 67, 68, 69, 70, 71, 72, 73, 74, 75, 76] rfl
  refine vx_calli (vx_runV (As := []) (rest := [.int 0, .ref q0]) ⟨hx, hb, hml, hown, hts⟩ (c_f_X11_work l hl0 dC dI cy ek a k0 lZ σ r h0 z s.heap.size) (cwV 0 hts g_w_work rfl rfl rfl hd_f_X11_work ⟨Nat.le_of_ble_eq_true rfl, Nat.le_of_ble_eq_true rfl⟩) ⟨nb_blindF, va_recv hK hPc (ci := 10) (q0 := 75) rfl rfl, fun U hU hW => ⟨rfl, ⟨⟨by rw [hU], by rw [hU]; exact hPc, va_K.moved hW.alike hK, hDc.weaken (fun _ _ _ _ => trivial), hG.warm hW⟩, nE.to hE hS hW hU hFc⟩, nT.to hT hS hW hU hFc⟩⟩ rfl rfl hl.1 rfl (lv_room (Nat.le_of_ble_eq_true rfl)) dL_work_3 ⟨Nat.le_of_eq (Nat.zero_add _), Nat.le_of_eq (Nat.zero_add _)⟩) hS (fun q _ h => hFc q h) hFc (fun q _ h => hFc q h) (fun E ce q9 u t H1 locs1 ht hvm hp hB hz1 hk1 hS hce hcv hcl => ?_) (fun x u t H1 locs1 ht hvm hw hB hz1 hk1 hS => ?_)
  · obtain ⟨hne, hz⟩ := hp
    obtain ⟨hE0, hP1, hK1, hD1⟩ := hB
    subst hE0
    rw [ht] at hP1
    obtain ⟨hP, hD⟩ := va_join (wr := [(q0, .inl (cy 2, 1, .inr (.inl w)))]) (w1 := vC cy a u r.2.1) hP hD [1, 2, 3, 4, 5, 6, 7, 8, 9, 10, 11, 12, 13, 14, 15, 16, 17, 18, 19, 20, 21, 22, 23, 24, 25, 26, 27, 28, 29, 30, 31, 32, 33, 34, 35, 36, 37, 38, 39, 40, 41, 42, 43, 44, 45, 46, 47, 48, 49, 50, 51, 52, 53, 54, 55, 56, 57, 58, 59, 60, 61, 62, 63, 64, 65, 66, 67, 68, 69, 70, 71, 72, 73, 74, 75, 76] [0] rfl rfl (by decide) (by decide) hk1 hFc hP1 hD1
    refine vx_widen (k := r.2.2.1) (n := r.2.2.2) (Nat.le_of_eq (Nat.zero_add _)) (Nat.le_of_eq (Nat.zero_add _)) ?_
    rcases hcode with h00 | h01
    · exact absurd h00 hne
    · rw [h01] at hcl
      refine vx_catch (E := "java/lang/IllegalStateException") (name := "java/lang/IllegalStateException") hown [] (⟨0, 8, 11, 25⟩ : ExceptionTableEntry) [] (by rw [hTb]; rfl) (fun z h => absurd h List.not_mem_nil) (by decide) (by decide) (hts _ (List.mem_cons_of_mem _ (List.mem_append_left _ (List.mem_append_left _ (List.mem_of_getElem? (i := 4) rfl))))) (va_Nw.use (by decide +kernel) (hT.2.2.1 _ (List.mem_of_getElem? (i := 0) rfl))) hce hcv hcl ?_
      refine lv_astore_n (lv' := [(2, .ref q9), (0, .ref (a 75)), (1, .ref q0)]) hx hb dL_work_11 rfl hl (by decide) rfl (fun ls hl => ?_)
      refine lv_iconst (v := 1) hx hb dL_work_12 (by decide) ?_
      have hP : va_P (dC, dI) nCl (vW cy a u r.2.1 q0 (wo w r.1.1 r.1.2)) H1 := by rw [show wo w r.1.1 r.1.2 = w from if_neg hne]; exact hP
      have hD : va_D A (vW cy a u r.2.1 q0 (wo w r.1.1 r.1.2)) := by rw [show wo w r.1.1 r.1.2 = w from if_neg hne]; exact hD
      exact W.iret (v := 1) hx hb hr (fun t ht hW => ⟨⟨1, u, rfl, ⟨by rw [h01]; decide, hz⟩, by rw [ht]; exact hP, va_K.moved hW.alike hK, hD⟩, hS.F ht⟩) hS.2.2 dL_work_13
  · obtain ⟨⟨h00, hxx⟩, hz⟩ := hw
    subst hxx
    obtain ⟨hP1, hK1, hD1⟩ := hB
    rw [ht] at hP1
    obtain ⟨hP, hD⟩ := va_join (wr := [(q0, .inl (cy 2, 1, .inr (.inl w)))]) (w1 := vC cy a u r.2.1) hP hD [1, 2, 3, 4, 5, 6, 7, 8, 9, 10, 11, 12, 13, 14, 15, 16, 17, 18, 19, 20, 21, 22, 23, 24, 25, 26, 27, 28, 29, 30, 31, 32, 33, 34, 35, 36, 37, 38, 39, 40, 41, 42, 43, 44, 45, 46, 47, 48, 49, 50, 51, 52, 53, 54, 55, 56, 57, 58, 59, 60, 61, 62, 63, 64, 65, 66, 67, 68, 69, 70, 71, 72, 73, 74, 75, 76] [0] rfl rfl (by decide) (by decide) hk1 hFc hP1 hD1
    refine W.widen (k := r.2.2.1) (n := r.2.2.2) (Nat.le_of_eq (Nat.zero_add _)) (Nat.le_of_eq (Nat.zero_add _)) ?_
    refine lv_i2l (v := r.1.2.toInt64) hx hb dL_work_6 rfl ?_
    refine va_last hx hb hK hP hD hS 0 2 rfl rfl (nb_in (by decide)) dL_work_7 (fun H locs hP hD hS => ?_)
    have hP : va_P (dC, dI) nCl (vW cy a u r.2.1 q0 (wo w r.1.1 r.1.2)) H := by rw [show wo w r.1.1 r.1.2 = vp_updL w 0 r.1.2.toInt64 from if_pos h00]; exact hP
    have hD : va_D A (vW cy a u r.2.1 q0 (wo w r.1.1 r.1.2)) := by rw [show wo w r.1.1 r.1.2 = vp_updL w 0 r.1.2.toInt64 from if_pos h00]; exact hD
    refine lv_goto (tgt := 14) hx hb dL_work_8 (by decide) ?_
    refine lv_iconst (v := 0) hx hb dL_work_14 (by decide) ?_
    exact W.iret (v := 0) hx hb hr (fun t ht hW => ⟨⟨0, u, rfl, ⟨by rw [h00]; decide, hz⟩, by rw [ht]; exact hP, va_K.moved hW.alike hK, hD⟩, hS.F ht⟩) hS.2.2 dL_work_15
/-! view -/
def o_w_view : List Cond := [.methodLink RL 49 yX11_view, .instanceMethod yX11_view, .selects RX11 yX11_view yX11_view, .initialized RX11, .classLink RL 25 "java/lang/IllegalStateException", .classLink RL 13 "java/lang/UnsupportedOperationException"]
theorem o_w_view_good : o_w_view.all goodWord = true := by decide +kernel
def p_w_view : List Cond := o_w_view ++ ((.code yX11_view cX11_view 4 (some .int) :: p_f_X11_view) ++ [])
theorem p_w_view_good : p_w_view.all goodWord = true := nb_all2 o_w_view_good (nb_all2 (nb_allc (by decide +kernel) p_f_X11_view_good) rfl)
def w_w_view : List Cond := .codeWith yL_view cL_view 3 (some .int) [(0, 8, 11, 25), (0, 8, 14, 13)] :: (p_w_view ++ fC)
theorem w_w_view_good : w_w_view.all goodWord = true := nb_allc (by decide +kernel) (nb_all2 p_w_view_good fC_good)
theorem gg_w_view : GoodIn w_w_view w_f_X11_view := goodIn_sub (fun w h => (List.mem_cons.mp h).elim (fun e => (List.mem_cons_of_mem _ (List.mem_append_left _ (List.mem_append_right _ (List.mem_append_left _ (List.mem_cons.mpr (Or.inl e))))))) (fun h => (List.mem_append.mp h).elim (fun h => (List.mem_cons_of_mem _ (List.mem_append_left _ (List.mem_append_right _ (List.mem_append_left _ (List.mem_cons_of_mem _ h)))))) (fun h => List.mem_cons_of_mem _ (List.mem_append_right _ h)))) w_f_X11_view_good
theorem g_w_view : GoodIn w_w_view (wsV RL 49 RX11 yX11_view w_f_X11_view) := goodIn_app (nb_g4 (List.mem_cons_of_mem _ (List.mem_append_left _ (List.mem_append_left _ (List.mem_of_getElem? (i := 0) rfl)))) (List.mem_cons_of_mem _ (List.mem_append_left _ (List.mem_append_left _ (List.mem_of_getElem? (i := 1) rfl)))) (List.mem_cons_of_mem _ (List.mem_append_left _ (List.mem_append_left _ (List.mem_of_getElem? (i := 2) rfl)))) (List.mem_cons_of_mem _ (List.mem_append_left _ (List.mem_append_left _ (List.mem_of_getElem? (i := 3) rfl)))) (by decide +kernel)) gg_w_view
set_option maxHeartbeats 40000000 in
set_option maxRecDepth 100000 in
theorem c_w_view (l : Launch) (hl0 : l.stackTraces = false) (dC : Nat → ClassId) (dI : Nat → Nat → Nat) (cy : Nat → ClassId) (ek a : Nat → Nat) (k0 : Nat)  (σ : CS) (q0 : Nat) (w : Nat → Int64) (r : RS) (h0 : f_X11_view k0 0 lZ σ = some r) (hcode : r.1.1 = 0 ∨ r.1.1 = 2 ∨ r.1.1 = 4) (z : Nat → Nat) (sz : Nat) : Met l yL_view w_w_view ({ frames := 412, cells := r.2.2.1, slots := r.2.2.2, locals := 13448 }) (va_Pc [.ref (a 75), .ref q0] (nInX (dC, dI) cy ek sz (vW cy a z σ q0 w))) (va_Qi (fun (x : Int32) (u : Nat → Nat) => x = wv 2 1 2 r.1.1 ∧ zk [38, 41, 43, 51] z u) (fun u t => nOut (dC, dI) cy (va_A (vW cy a z σ q0 w) sz) (vW cy a u r.2.1 q0 (wo w r.1.1 r.1.2)) t) (va_A (vW cy a z σ q0 w) sz)) r.2.2.1 r.2.2.2 (va_A (vW cy a z σ q0 w) sz) := by
  refine nb_ofWH (cc := cL_view) (maxL := 3) (ret := (some .int)) (by decide) rfl ?_
  intro p e s m args below meth c s₁ B hml hv
  obtain ⟨rfl, ⟨⟨⟨hsz, hP, hK, hD0, hG⟩, hE⟩, hT⟩, hX⟩ := hv
  have hx := B.exec
  have hb := B.bytes
  have hr := B.returns
  have hts := atoms_spec (ws := w_w_view) B.pre
  have hown : s.vm.findClass RL = some m.cls := findClass_of_methodNamed B.named
  have hTb : c.exceptionTable.toList = tableOf [(0, 8, 11, 25), (0, 8, 14, 13)] := vx_table (x := yL_view) B (hts _ List.mem_cons_self)
  have hlocks := B.notSynchronized
  subst hsz
  have hD := hD0.self (sz := s.heap.size)
  generalize hAe : va_A (vW cy a z σ q0 w) s.heap.size = A at hD hE hT ⊢
  have hA : ∀ q : Nat, s.heap.size ≤ q → A q := fun q h => by rw [← hAe]; exact Or.inr h
  have hS : va_S A s.heap s.heap [] := va_S.rf
  have hl := lv_entry ([.ref (a 75), .ref q0]) (n := 3) (Nat.le_of_ble_eq_true rfl)
  rw [lg_entry_eq]
  generalize (lg_sl ([.ref (a 75), .ref q0]) ++ List.replicate (3 - (lg_sl ([.ref (a 75), .ref q0])).length) Slot.unset).toArray = ls at hl ⊢
  have hl : lv_has ls 3 [(0, .ref (a 75)), (1, .ref q0)] := hl
  refine lv_aload_n hx hb dL_view_0 rfl (lv_at hl 1 rfl) ?_
  refine lv_iconst (v := 0) hx hb dL_view_1 (by decide) ?_
  refine lv_aload_n hx hb dL_view_2 rfl (lv_at hl 0 rfl) ?_
  have hPc := hP.sub (ws' := vC cy a z σ) [1, 2, 3, 4, 5, 6, 7, 8, 9, 10, 11, 12, 13, 14, 15, 16, 17, 18, 19, 20, 21, 22, 23, 24, 25, 26, 27, 28, 29, 30, 31, 32, 33, 34, 35, 36, 37, 38, 39, 40, 41, 42, 43, 44, 45, 46, 47, 48, 49, 50, 51, 52, 53, 54, 55, 56, 57, 58, 59, 60, 61, 62, 63, 64, 65, 66, 67, 68, 69, 70, 71, 72, 73, 74, 75, 76] rfl
  have hDc := hD.sub (ws' := vC cy a z σ) [1, 2, 3, 4, 5, 6, 7, 8, 9, 10, 11, 12, 13, 14, 15, 16, 17, 18, 19, 20, 21, 22, 23, 24, 25, 26, 27, 28, 29, 30, 31, 32, 33, 34, 35, 36, 37, 38, 39, 40, 41, 42, 43, 44, 45, 46, 47, 48, 49, 50, 51, 52, 53, 54, 55, 56, 57, 58, 59, 60, 61, 62, 63, 64, 65, 66, 67, 68, 69, 70, 71, 72, 73, 74, 75, 76] (by decide) rfl
  have hFc := va_free (wc := vC cy a z σ) hD hS hA [1, 2, 3, 4, 5, 6, 7, 8, 9, 10, 11, 12, 13, 14, 15, 16, 17, 18, 19, 20, 21, 22, 23, 24, 25, 26, 27, 28, 29, 30, 31, 32, 33, 34, 35, 36, 37, 38, 39, 40, 41, 42, 43, 44, 45, 46, 47, 48, 49, 50, 51, 52, 53, 54, 55, 56, 57, 58, 59, 60, 61, 62, 63, 64, 65, 66, 67, 68, 69, 70, 71, 72, 73, 74, 75, 76] rfl
  refine vx_calli (vx_runV (As := []) (rest := [.int 0, .ref q0]) ⟨hx, hb, hml, hown, hts⟩ (c_f_X11_view l hl0 dC dI cy ek a k0 lZ σ r h0 z s.heap.size) (cwV 0 hts g_w_view rfl rfl rfl hd_f_X11_view ⟨Nat.le_of_ble_eq_true rfl, Nat.le_of_ble_eq_true rfl⟩) ⟨nb_blindF, va_recv hK hPc (ci := 10) (q0 := 75) rfl rfl, fun U hU hW => ⟨rfl, ⟨⟨by rw [hU], by rw [hU]; exact hPc, va_K.moved hW.alike hK, hDc.weaken (fun _ _ _ _ => trivial), hG.warm hW⟩, nE.to hE hS hW hU hFc⟩, nT.to hT hS hW hU hFc⟩⟩ rfl rfl hl.1 rfl (lv_room (Nat.le_of_ble_eq_true rfl)) dL_view_3 ⟨Nat.le_of_eq (Nat.zero_add _), Nat.le_of_eq (Nat.zero_add _)⟩) hS (fun q _ h => hFc q h) hFc (fun q _ h => hFc q h) (fun E ce q9 u t H1 locs1 ht hvm hp hB hz1 hk1 hS hce hcv hcl => ?_) (fun x u t H1 locs1 ht hvm hw hB hz1 hk1 hS => ?_)
  · obtain ⟨hne, hz⟩ := hp
    obtain ⟨hE0, hP1, hK1, hD1⟩ := hB
    subst hE0
    rw [ht] at hP1
    obtain ⟨hP, hD⟩ := va_join (wr := [(q0, .inl (cy 2, 1, .inr (.inl w)))]) (w1 := vC cy a u r.2.1) hP hD [1, 2, 3, 4, 5, 6, 7, 8, 9, 10, 11, 12, 13, 14, 15, 16, 17, 18, 19, 20, 21, 22, 23, 24, 25, 26, 27, 28, 29, 30, 31, 32, 33, 34, 35, 36, 37, 38, 39, 40, 41, 42, 43, 44, 45, 46, 47, 48, 49, 50, 51, 52, 53, 54, 55, 56, 57, 58, 59, 60, 61, 62, 63, 64, 65, 66, 67, 68, 69, 70, 71, 72, 73, 74, 75, 76] [0] rfl rfl (by decide) (by decide) hk1 hFc hP1 hD1
    refine vx_widen (k := r.2.2.1) (n := r.2.2.2) (Nat.le_of_eq (Nat.zero_add _)) (Nat.le_of_eq (Nat.zero_add _)) ?_
    rcases hcode with h00 | h01 | h02
    · exact absurd h00 hne
    · rw [h01] at hcl
      refine vx_catch (E := "java/lang/IllegalStateException") (name := "java/lang/IllegalStateException") hown [] (⟨0, 8, 11, 25⟩ : ExceptionTableEntry) [(⟨0, 8, 14, 13⟩ : ExceptionTableEntry)] (by rw [hTb]; rfl) (fun z h => absurd h List.not_mem_nil) (by decide) (by decide) (hts _ (List.mem_cons_of_mem _ (List.mem_append_left _ (List.mem_append_left _ (List.mem_of_getElem? (i := 4) rfl))))) (va_Nw.use (by decide +kernel) (hT.2.2.1 _ (List.mem_of_getElem? (i := 0) rfl))) hce hcv hcl ?_
      refine lv_astore_n (lv' := [(2, .ref q9), (0, .ref (a 75)), (1, .ref q0)]) hx hb dL_view_11 rfl hl (by decide) rfl (fun ls hl => ?_)
      refine lv_iconst (v := 1) hx hb dL_view_12 (by decide) ?_
      have hP : va_P (dC, dI) nCl (vW cy a u r.2.1 q0 (wo w r.1.1 r.1.2)) H1 := by rw [show wo w r.1.1 r.1.2 = w from if_neg hne]; exact hP
      have hD : va_D A (vW cy a u r.2.1 q0 (wo w r.1.1 r.1.2)) := by rw [show wo w r.1.1 r.1.2 = w from if_neg hne]; exact hD
      exact W.iret (v := 1) hx hb hr (fun t ht hW => ⟨⟨1, u, rfl, ⟨by rw [h01]; decide, hz⟩, by rw [ht]; exact hP, va_K.moved hW.alike hK, hD⟩, hS.F ht⟩) hS.2.2 dL_view_13
    · rw [h02] at hcl
      refine vx_catch (E := "java/lang/UnsupportedOperationException") (name := "java/lang/UnsupportedOperationException") hown [(⟨0, 8, 11, 25⟩ : ExceptionTableEntry)] (⟨0, 8, 14, 13⟩ : ExceptionTableEntry) [] (by rw [hTb]; rfl) (fun z h => by rw [List.mem_singleton] at h; subst h; exact Or.inr ⟨by decide, "java/lang/IllegalStateException", (hts _ (List.mem_cons_of_mem _ (List.mem_append_left _ (List.mem_append_left _ (List.mem_of_getElem? (i := 4) rfl))))), hX.2⟩) (by decide) (by decide) (hts _ (List.mem_cons_of_mem _ (List.mem_append_left _ (List.mem_append_left _ (List.mem_of_getElem? (i := 5) rfl))))) (va_Nw.use (by decide +kernel) (hT.2.2.1 _ (List.mem_of_getElem? (i := 3) rfl))) hce hcv hcl ?_
      refine lv_astore_n (lv' := [(2, .ref q9), (0, .ref (a 75)), (1, .ref q0)]) hx hb dL_view_14 rfl hl (by decide) rfl (fun ls hl => ?_)
      refine lv_iconst (v := 2) hx hb dL_view_15 (by decide) ?_
      have hP : va_P (dC, dI) nCl (vW cy a u r.2.1 q0 (wo w r.1.1 r.1.2)) H1 := by rw [show wo w r.1.1 r.1.2 = w from if_neg hne]; exact hP
      have hD : va_D A (vW cy a u r.2.1 q0 (wo w r.1.1 r.1.2)) := by rw [show wo w r.1.1 r.1.2 = w from if_neg hne]; exact hD
      exact W.iret (v := 2) hx hb hr (fun t ht hW => ⟨⟨2, u, rfl, ⟨by rw [h02]; decide, hz⟩, by rw [ht]; exact hP, va_K.moved hW.alike hK, hD⟩, hS.F ht⟩) hS.2.2 dL_view_16
  · obtain ⟨⟨h00, hxx⟩, hz⟩ := hw
    subst hxx
    obtain ⟨hP1, hK1, hD1⟩ := hB
    rw [ht] at hP1
    obtain ⟨hP, hD⟩ := va_join (wr := [(q0, .inl (cy 2, 1, .inr (.inl w)))]) (w1 := vC cy a u r.2.1) hP hD [1, 2, 3, 4, 5, 6, 7, 8, 9, 10, 11, 12, 13, 14, 15, 16, 17, 18, 19, 20, 21, 22, 23, 24, 25, 26, 27, 28, 29, 30, 31, 32, 33, 34, 35, 36, 37, 38, 39, 40, 41, 42, 43, 44, 45, 46, 47, 48, 49, 50, 51, 52, 53, 54, 55, 56, 57, 58, 59, 60, 61, 62, 63, 64, 65, 66, 67, 68, 69, 70, 71, 72, 73, 74, 75, 76] [0] rfl rfl (by decide) (by decide) hk1 hFc hP1 hD1
    refine W.widen (k := r.2.2.1) (n := r.2.2.2) (Nat.le_of_eq (Nat.zero_add _)) (Nat.le_of_eq (Nat.zero_add _)) ?_
    refine lv_i2l (v := r.1.2.toInt64) hx hb dL_view_6 rfl ?_
    refine va_last hx hb hK hP hD hS 0 2 rfl rfl (nb_in (by decide)) dL_view_7 (fun H locs hP hD hS => ?_)
    have hP : va_P (dC, dI) nCl (vW cy a u r.2.1 q0 (wo w r.1.1 r.1.2)) H := by rw [show wo w r.1.1 r.1.2 = vp_updL w 0 r.1.2.toInt64 from if_pos h00]; exact hP
    have hD : va_D A (vW cy a u r.2.1 q0 (wo w r.1.1 r.1.2)) := by rw [show wo w r.1.1 r.1.2 = vp_updL w 0 r.1.2.toInt64 from if_pos h00]; exact hD
    refine lv_goto (tgt := 17) hx hb dL_view_8 (by decide) ?_
    refine lv_iconst (v := 0) hx hb dL_view_17 (by decide) ?_
    exact W.iret (v := 0) hx hb hr (fun t ht hW => ⟨⟨0, u, rfl, ⟨by rw [h00]; decide, hz⟩, by rw [ht]; exact hP, va_K.moved hW.alike hK, hD⟩, hS.F ht⟩) hS.2.2 dL_view_18
/-! round -/
def o_w_round : List Cond := [.methodLink RL 52 yX11_round, .instanceMethod yX11_round, .selects RX11 yX11_round yX11_round, .initialized RX11, .classLink RL 25 "java/lang/IllegalStateException"]
theorem o_w_round_good : o_w_round.all goodWord = true := by decide +kernel
def p_w_round : List Cond := o_w_round ++ ((.code yX11_round cX11_round 4 (some .int) :: p_f_X11_round) ++ [])
theorem p_w_round_good : p_w_round.all goodWord = true := nb_all2 o_w_round_good (nb_all2 (nb_allc (by decide +kernel) p_f_X11_round_good) rfl)
def w_w_round : List Cond := .codeWith yL_round cL_round 3 (some .int) [(0, 8, 11, 25)] :: (p_w_round ++ fC)
theorem w_w_round_good : w_w_round.all goodWord = true := nb_allc (by decide +kernel) (nb_all2 p_w_round_good fC_good)
theorem gg_w_round : GoodIn w_w_round w_f_X11_round := goodIn_sub (fun w h => (List.mem_cons.mp h).elim (fun e => (List.mem_cons_of_mem _ (List.mem_append_left _ (List.mem_append_right _ (List.mem_append_left _ (List.mem_cons.mpr (Or.inl e))))))) (fun h => (List.mem_append.mp h).elim (fun h => (List.mem_cons_of_mem _ (List.mem_append_left _ (List.mem_append_right _ (List.mem_append_left _ (List.mem_cons_of_mem _ h)))))) (fun h => List.mem_cons_of_mem _ (List.mem_append_right _ h)))) w_f_X11_round_good
theorem g_w_round : GoodIn w_w_round (wsV RL 52 RX11 yX11_round w_f_X11_round) := goodIn_app (nb_g4 (List.mem_cons_of_mem _ (List.mem_append_left _ (List.mem_append_left _ (List.mem_of_getElem? (i := 0) rfl)))) (List.mem_cons_of_mem _ (List.mem_append_left _ (List.mem_append_left _ (List.mem_of_getElem? (i := 1) rfl)))) (List.mem_cons_of_mem _ (List.mem_append_left _ (List.mem_append_left _ (List.mem_of_getElem? (i := 2) rfl)))) (List.mem_cons_of_mem _ (List.mem_append_left _ (List.mem_append_left _ (List.mem_of_getElem? (i := 3) rfl)))) (by decide +kernel)) gg_w_round
set_option maxHeartbeats 40000000 in
set_option maxRecDepth 100000 in
theorem c_w_round (l : Launch) (hl0 : l.stackTraces = false) (dC : Nat → ClassId) (dI : Nat → Nat → Nat) (cy : Nat → ClassId) (ek a : Nat → Nat) (k0 : Nat)  (σ : CS) (q0 : Nat) (w : Nat → Int64) (r : RS) (h0 : f_X11_round k0 0 lZ σ = some r) (hcode : r.1.1 = 0 ∨ r.1.1 = 2) (z : Nat → Nat) (sz : Nat) : Met l yL_round w_w_round ({ frames := 91, cells := r.2.2.1, slots := r.2.2.2, locals := 2252 }) (va_Pc [.ref (a 75), .ref q0] (nInX (dC, dI) cy ek sz (vW cy a z σ q0 w))) (va_Qi (fun (x : Int32) (u : Nat → Nat) => x = wv 2 1 1 r.1.1 ∧ zk [1, 2, 3, 20, 21, 22, 26] z u) (fun u t => nOut (dC, dI) cy (va_A (vW cy a z σ q0 w) sz) (vW cy a u r.2.1 q0 (wo w r.1.1 r.1.2)) t) (va_A (vW cy a z σ q0 w) sz)) r.2.2.1 r.2.2.2 (va_A (vW cy a z σ q0 w) sz) := by
  refine nb_ofWH (cc := cL_round) (maxL := 3) (ret := (some .int)) (by decide) rfl ?_
  intro p e s m args below meth c s₁ B hml hv
  obtain ⟨rfl, ⟨⟨⟨hsz, hP, hK, hD0, hG⟩, hE⟩, hT⟩, hX⟩ := hv
  have hx := B.exec
  have hb := B.bytes
  have hr := B.returns
  have hts := atoms_spec (ws := w_w_round) B.pre
  have hown : s.vm.findClass RL = some m.cls := findClass_of_methodNamed B.named
  have hTb : c.exceptionTable.toList = tableOf [(0, 8, 11, 25)] := vx_table (x := yL_round) B (hts _ List.mem_cons_self)
  have hlocks := B.notSynchronized
  subst hsz
  have hD := hD0.self (sz := s.heap.size)
  generalize hAe : va_A (vW cy a z σ q0 w) s.heap.size = A at hD hE hT ⊢
  have hA : ∀ q : Nat, s.heap.size ≤ q → A q := fun q h => by rw [← hAe]; exact Or.inr h
  have hS : va_S A s.heap s.heap [] := va_S.rf
  have hl := lv_entry ([.ref (a 75), .ref q0]) (n := 3) (Nat.le_of_ble_eq_true rfl)
  rw [lg_entry_eq]
  generalize (lg_sl ([.ref (a 75), .ref q0]) ++ List.replicate (3 - (lg_sl ([.ref (a 75), .ref q0])).length) Slot.unset).toArray = ls at hl ⊢
  have hl : lv_has ls 3 [(0, .ref (a 75)), (1, .ref q0)] := hl
  refine lv_aload_n hx hb dL_round_0 rfl (lv_at hl 1 rfl) ?_
  refine lv_iconst (v := 0) hx hb dL_round_1 (by decide) ?_
  refine lv_aload_n hx hb dL_round_2 rfl (lv_at hl 0 rfl) ?_
  have hPc := hP.sub (ws' := vC cy a z σ) [1, 2, 3, 4, 5, 6, 7, 8, 9, 10, 11, 12, 13, 14, 15, 16, 17, 18, 19, 20, 21, 22, 23, 24, 25, 26, 27, 28, 29, 30, 31, 32, 33, 34, 35, 36, 37, 38, 39, 40, 41, 42, 43, 44, 45, 46, 47, 48, 49, 50, 51, 52, 53, 54, 55, 56, 57, 58, 59, 60, 61, 62, 63, 64, 65, 66, 67, 68, 69, 70, 71, 72, 73, 74, 75, 76] rfl
  have hDc := hD.sub (ws' := vC cy a z σ) [1, 2, 3, 4, 5, 6, 7, 8, 9, 10, 11, 12, 13, 14, 15, 16, 17, 18, 19, 20, 21, 22, 23, 24, 25, 26, 27, 28, 29, 30, 31, 32, 33, 34, 35, 36, 37, 38, 39, 40, 41, 42, 43, 44, 45, 46, 47, 48, 49, 50, 51, 52, 53, 54, 55, 56, 57, 58, 59, 60, 61, 62, 63, 64, 65, 66, 67, 68, 69, 70, 71, 72, 73, 74, 75, 76] (by decide) rfl
  have hFc := va_free (wc := vC cy a z σ) hD hS hA [1, 2, 3, 4, 5, 6, 7, 8, 9, 10, 11, 12, 13, 14, 15, 16, 17, 18, 19, 20, 21, 22, 23, 24, 25, 26, 27, 28, 29, 30, 31, 32, 33, 34, 35, 36, 37, 38, 39, 40, 41, 42, 43, 44, 45, 46, 47, 48, 49, 50, 51, 52, 53, 54, 55, 56, 57, 58, 59, 60, 61, 62, 63, 64, 65, 66, 67, 68, 69, 70, 71, 72, 73, 74, 75, 76] rfl
  refine vx_calli (vx_runV (As := []) (rest := [.int 0, .ref q0]) ⟨hx, hb, hml, hown, hts⟩ (c_f_X11_round l hl0 dC dI cy ek a k0 lZ σ r h0 z s.heap.size) (cwV 0 hts g_w_round rfl rfl rfl hd_f_X11_round ⟨Nat.le_of_ble_eq_true rfl, Nat.le_of_ble_eq_true rfl⟩) ⟨nb_blindF, va_recv hK hPc (ci := 10) (q0 := 75) rfl rfl, fun U hU hW => ⟨rfl, ⟨⟨by rw [hU], by rw [hU]; exact hPc, va_K.moved hW.alike hK, hDc.weaken (fun _ _ _ _ => trivial), hG.warm hW⟩, nE.to hE hS hW hU hFc⟩, nT.to hT hS hW hU hFc⟩⟩ rfl rfl hl.1 rfl (lv_room (Nat.le_of_ble_eq_true rfl)) dL_round_3 ⟨Nat.le_of_eq (Nat.zero_add _), Nat.le_of_eq (Nat.zero_add _)⟩) hS (fun q _ h => hFc q h) hFc (fun q _ h => hFc q h) (fun E ce q9 u t H1 locs1 ht hvm hp hB hz1 hk1 hS hce hcv hcl => ?_) (fun x u t H1 locs1 ht hvm hw hB hz1 hk1 hS => ?_)
  · obtain ⟨hne, hz⟩ := hp
    obtain ⟨hE0, hP1, hK1, hD1⟩ := hB
    subst hE0
    rw [ht] at hP1
    obtain ⟨hP, hD⟩ := va_join (wr := [(q0, .inl (cy 2, 1, .inr (.inl w)))]) (w1 := vC cy a u r.2.1) hP hD [1, 2, 3, 4, 5, 6, 7, 8, 9, 10, 11, 12, 13, 14, 15, 16, 17, 18, 19, 20, 21, 22, 23, 24, 25, 26, 27, 28, 29, 30, 31, 32, 33, 34, 35, 36, 37, 38, 39, 40, 41, 42, 43, 44, 45, 46, 47, 48, 49, 50, 51, 52, 53, 54, 55, 56, 57, 58, 59, 60, 61, 62, 63, 64, 65, 66, 67, 68, 69, 70, 71, 72, 73, 74, 75, 76] [0] rfl rfl (by decide) (by decide) hk1 hFc hP1 hD1
    refine vx_widen (k := r.2.2.1) (n := r.2.2.2) (Nat.le_of_eq (Nat.zero_add _)) (Nat.le_of_eq (Nat.zero_add _)) ?_
    rcases hcode with h00 | h01
    · exact absurd h00 hne
    · rw [h01] at hcl
      refine vx_catch (E := "java/lang/IllegalStateException") (name := "java/lang/IllegalStateException") hown [] (⟨0, 8, 11, 25⟩ : ExceptionTableEntry) [] (by rw [hTb]; rfl) (fun z h => absurd h List.not_mem_nil) (by decide) (by decide) (hts _ (List.mem_cons_of_mem _ (List.mem_append_left _ (List.mem_append_left _ (List.mem_of_getElem? (i := 4) rfl))))) (va_Nw.use (by decide +kernel) (hT.2.2.1 _ (List.mem_of_getElem? (i := 0) rfl))) hce hcv hcl ?_
      refine lv_astore_n (lv' := [(2, .ref q9), (0, .ref (a 75)), (1, .ref q0)]) hx hb dL_round_11 rfl hl (by decide) rfl (fun ls hl => ?_)
      refine lv_iconst (v := 1) hx hb dL_round_12 (by decide) ?_
      have hP : va_P (dC, dI) nCl (vW cy a u r.2.1 q0 (wo w r.1.1 r.1.2)) H1 := by rw [show wo w r.1.1 r.1.2 = w from if_neg hne]; exact hP
      have hD : va_D A (vW cy a u r.2.1 q0 (wo w r.1.1 r.1.2)) := by rw [show wo w r.1.1 r.1.2 = w from if_neg hne]; exact hD
      exact W.iret (v := 1) hx hb hr (fun t ht hW => ⟨⟨1, u, rfl, ⟨by rw [h01]; decide, hz⟩, by rw [ht]; exact hP, va_K.moved hW.alike hK, hD⟩, hS.F ht⟩) hS.2.2 dL_round_13
  · obtain ⟨⟨h00, hxx⟩, hz⟩ := hw
    subst hxx
    obtain ⟨hP1, hK1, hD1⟩ := hB
    rw [ht] at hP1
    obtain ⟨hP, hD⟩ := va_join (wr := [(q0, .inl (cy 2, 1, .inr (.inl w)))]) (w1 := vC cy a u r.2.1) hP hD [1, 2, 3, 4, 5, 6, 7, 8, 9, 10, 11, 12, 13, 14, 15, 16, 17, 18, 19, 20, 21, 22, 23, 24, 25, 26, 27, 28, 29, 30, 31, 32, 33, 34, 35, 36, 37, 38, 39, 40, 41, 42, 43, 44, 45, 46, 47, 48, 49, 50, 51, 52, 53, 54, 55, 56, 57, 58, 59, 60, 61, 62, 63, 64, 65, 66, 67, 68, 69, 70, 71, 72, 73, 74, 75, 76] [0] rfl rfl (by decide) (by decide) hk1 hFc hP1 hD1
    refine W.widen (k := r.2.2.1) (n := r.2.2.2) (Nat.le_of_eq (Nat.zero_add _)) (Nat.le_of_eq (Nat.zero_add _)) ?_
    refine lv_i2l (v := r.1.2.toInt64) hx hb dL_round_6 rfl ?_
    refine va_last hx hb hK hP hD hS 0 2 rfl rfl (nb_in (by decide)) dL_round_7 (fun H locs hP hD hS => ?_)
    have hP : va_P (dC, dI) nCl (vW cy a u r.2.1 q0 (wo w r.1.1 r.1.2)) H := by rw [show wo w r.1.1 r.1.2 = vp_updL w 0 r.1.2.toInt64 from if_pos h00]; exact hP
    have hD : va_D A (vW cy a u r.2.1 q0 (wo w r.1.1 r.1.2)) := by rw [show wo w r.1.1 r.1.2 = vp_updL w 0 r.1.2.toInt64 from if_pos h00]; exact hD
    refine lv_goto (tgt := 14) hx hb dL_round_8 (by decide) ?_
    refine lv_iconst (v := 0) hx hb dL_round_14 (by decide) ?_
    exact W.iret (v := 0) hx hb hr (fun t ht hW => ⟨⟨0, u, rfl, ⟨by rw [h00]; decide, hz⟩, by rw [ht]; exact hP, va_K.moved hW.alike hK, hD⟩, hS.F ht⟩) hS.2.2 dL_round_15
/-! seen -/
def o_w_seen : List Cond := [.methodLink RL 55 yX11_seen, .instanceMethod yX11_seen, .selects RX11 yX11_seen yX11_seen, .initialized RX11, .classLink RL 37 "java/lang/IndexOutOfBoundsException", .classLink RL 25 "java/lang/IllegalStateException"]
theorem o_w_seen_good : o_w_seen.all goodWord = true := by decide +kernel
def p_w_seen : List Cond := o_w_seen ++ ((.code yX11_seen cX11_seen 3 (some .int) :: p_f_X11_seen) ++ [])
theorem p_w_seen_good : p_w_seen.all goodWord = true := nb_all2 o_w_seen_good (nb_all2 (nb_allc (by decide +kernel) p_f_X11_seen_good) rfl)
def w_w_seen : List Cond := .codeWith yL_seen cL_seen 5 (some .int) [(0, 10, 13, 37), (0, 10, 17, 25)] :: (p_w_seen ++ fC)
theorem w_w_seen_good : w_w_seen.all goodWord = true := nb_allc (by decide +kernel) (nb_all2 p_w_seen_good fC_good)
theorem gg_w_seen : GoodIn w_w_seen w_f_X11_seen := goodIn_sub (fun w h => (List.mem_cons.mp h).elim (fun e => (List.mem_cons_of_mem _ (List.mem_append_left _ (List.mem_append_right _ (List.mem_append_left _ (List.mem_cons.mpr (Or.inl e))))))) (fun h => (List.mem_append.mp h).elim (fun h => (List.mem_cons_of_mem _ (List.mem_append_left _ (List.mem_append_right _ (List.mem_append_left _ (List.mem_cons_of_mem _ h)))))) (fun h => List.mem_cons_of_mem _ (List.mem_append_right _ h)))) w_f_X11_seen_good
theorem g_w_seen : GoodIn w_w_seen (wsV RL 55 RX11 yX11_seen w_f_X11_seen) := goodIn_app (nb_g4 (List.mem_cons_of_mem _ (List.mem_append_left _ (List.mem_append_left _ (List.mem_of_getElem? (i := 0) rfl)))) (List.mem_cons_of_mem _ (List.mem_append_left _ (List.mem_append_left _ (List.mem_of_getElem? (i := 1) rfl)))) (List.mem_cons_of_mem _ (List.mem_append_left _ (List.mem_append_left _ (List.mem_of_getElem? (i := 2) rfl)))) (List.mem_cons_of_mem _ (List.mem_append_left _ (List.mem_append_left _ (List.mem_of_getElem? (i := 3) rfl)))) (by decide +kernel)) gg_w_seen
set_option maxHeartbeats 40000000 in
set_option maxRecDepth 100000 in
theorem c_w_seen (l : Launch) (hl0 : l.stackTraces = false) (dC : Nat → ClassId) (dI : Nat → Nat → Nat) (cy : Nat → ClassId) (ek a : Nat → Nat) (k0 : Nat) (v1 : Int32) (v2 : Int32) (σ : CS) (q0 : Nat) (w : Nat → Int64) (r : RS) (h0 : f_X11_seen k0 0 (lI (lI lZ 1 v1) 2 v2) σ = some r) (hcode : r.1.1 = 0 ∨ r.1.1 = 3 ∨ r.1.1 = 2) (z : Nat → Nat) (sz : Nat) : Met l yL_seen w_w_seen ({ frames := 89, cells := r.2.2.1, slots := r.2.2.2, locals := 2195 }) (va_Pc [.ref (a 75), .int v1, .int v2, .ref q0] (nInX (dC, dI) cy ek sz (vW cy a z σ q0 w))) (va_Qi (fun (x : Int32) (u : Nat → Nat) => x = wv 3 1 2 r.1.1 ∧ zk [66] z u) (fun u t => nOut (dC, dI) cy (va_A (vW cy a z σ q0 w) sz) (vW cy a u r.2.1 q0 (wo w r.1.1 r.1.2)) t) (va_A (vW cy a z σ q0 w) sz)) r.2.2.1 r.2.2.2 (va_A (vW cy a z σ q0 w) sz) := by
  refine nb_ofWH (cc := cL_seen) (maxL := 5) (ret := (some .int)) (by decide) rfl ?_
  intro p e s m args below meth c s₁ B hml hv
  obtain ⟨rfl, ⟨⟨⟨hsz, hP, hK, hD0, hG⟩, hE⟩, hT⟩, hX⟩ := hv
  have hx := B.exec
  have hb := B.bytes
  have hr := B.returns
  have hts := atoms_spec (ws := w_w_seen) B.pre
  have hown : s.vm.findClass RL = some m.cls := findClass_of_methodNamed B.named
  have hTb : c.exceptionTable.toList = tableOf [(0, 10, 13, 37), (0, 10, 17, 25)] := vx_table (x := yL_seen) B (hts _ List.mem_cons_self)
  have hlocks := B.notSynchronized
  subst hsz
  have hD := hD0.self (sz := s.heap.size)
  generalize hAe : va_A (vW cy a z σ q0 w) s.heap.size = A at hD hE hT ⊢
  have hA : ∀ q : Nat, s.heap.size ≤ q → A q := fun q h => by rw [← hAe]; exact Or.inr h
  have hS : va_S A s.heap s.heap [] := va_S.rf
  have hl := lv_entry ([.ref (a 75), .int v1, .int v2, .ref q0]) (n := 5) (Nat.le_of_ble_eq_true rfl)
  rw [lg_entry_eq]
  generalize (lg_sl ([.ref (a 75), .int v1, .int v2, .ref q0]) ++ List.replicate (5 - (lg_sl ([.ref (a 75), .int v1, .int v2, .ref q0])).length) Slot.unset).toArray = ls at hl ⊢
  have hl : lv_has ls 5 [(0, .ref (a 75)), (1, .int v1), (2, .int v2), (3, .ref q0)] := hl
  refine lv_aload_n hx hb dL_seen_0 rfl (lv_at hl 3 rfl) ?_
  refine lv_iconst (v := 0) hx hb dL_seen_1 (by decide) ?_
  refine lv_aload_n hx hb dL_seen_2 rfl (lv_at hl 0 rfl) ?_
  refine lv_iload_n hx hb dL_seen_3 rfl (lv_at hl 1 rfl) ?_
  refine lv_iload_n hx hb dL_seen_4 rfl (lv_at hl 2 rfl) ?_
  have hPc := hP.sub (ws' := vC cy a z σ) [1, 2, 3, 4, 5, 6, 7, 8, 9, 10, 11, 12, 13, 14, 15, 16, 17, 18, 19, 20, 21, 22, 23, 24, 25, 26, 27, 28, 29, 30, 31, 32, 33, 34, 35, 36, 37, 38, 39, 40, 41, 42, 43, 44, 45, 46, 47, 48, 49, 50, 51, 52, 53, 54, 55, 56, 57, 58, 59, 60, 61, 62, 63, 64, 65, 66, 67, 68, 69, 70, 71, 72, 73, 74, 75, 76] rfl
  have hDc := hD.sub (ws' := vC cy a z σ) [1, 2, 3, 4, 5, 6, 7, 8, 9, 10, 11, 12, 13, 14, 15, 16, 17, 18, 19, 20, 21, 22, 23, 24, 25, 26, 27, 28, 29, 30, 31, 32, 33, 34, 35, 36, 37, 38, 39, 40, 41, 42, 43, 44, 45, 46, 47, 48, 49, 50, 51, 52, 53, 54, 55, 56, 57, 58, 59, 60, 61, 62, 63, 64, 65, 66, 67, 68, 69, 70, 71, 72, 73, 74, 75, 76] (by decide) rfl
  have hFc := va_free (wc := vC cy a z σ) hD hS hA [1, 2, 3, 4, 5, 6, 7, 8, 9, 10, 11, 12, 13, 14, 15, 16, 17, 18, 19, 20, 21, 22, 23, 24, 25, 26, 27, 28, 29, 30, 31, 32, 33, 34, 35, 36, 37, 38, 39, 40, 41, 42, 43, 44, 45, 46, 47, 48, 49, 50, 51, 52, 53, 54, 55, 56, 57, 58, 59, 60, 61, 62, 63, 64, 65, 66, 67, 68, 69, 70, 71, 72, 73, 74, 75, 76] rfl
  refine vx_calli (vx_runV (As := [.int v1, .int v2]) (rest := [.int 0, .ref q0]) ⟨hx, hb, hml, hown, hts⟩ (c_f_X11_seen l hl0 dC dI cy ek a k0 (lI (lI lZ 1 v1) 2 v2) σ r h0 z s.heap.size) (cwV 2 hts g_w_seen rfl rfl rfl hd_f_X11_seen ⟨Nat.le_of_ble_eq_true rfl, Nat.le_of_ble_eq_true rfl⟩) ⟨nb_blindF, va_recv hK hPc (ci := 10) (q0 := 75) rfl rfl, fun U hU hW => ⟨rfl, ⟨⟨by rw [hU], by rw [hU]; exact hPc, va_K.moved hW.alike hK, hDc.weaken (fun _ _ _ _ => trivial), hG.warm hW⟩, nE.to hE hS hW hU hFc⟩, nT.to hT hS hW hU hFc⟩⟩ rfl rfl hl.1 rfl (lv_room (Nat.le_of_ble_eq_true rfl)) dL_seen_5 ⟨Nat.le_of_eq (Nat.zero_add _), Nat.le_of_eq (Nat.zero_add _)⟩) hS (fun q _ h => hFc q h) hFc (fun q _ h => hFc q h) (fun E ce q9 u t H1 locs1 ht hvm hp hB hz1 hk1 hS hce hcv hcl => ?_) (fun x u t H1 locs1 ht hvm hw hB hz1 hk1 hS => ?_)
  · obtain ⟨hne, hz⟩ := hp
    obtain ⟨hE0, hP1, hK1, hD1⟩ := hB
    subst hE0
    rw [ht] at hP1
    obtain ⟨hP, hD⟩ := va_join (wr := [(q0, .inl (cy 2, 1, .inr (.inl w)))]) (w1 := vC cy a u r.2.1) hP hD [1, 2, 3, 4, 5, 6, 7, 8, 9, 10, 11, 12, 13, 14, 15, 16, 17, 18, 19, 20, 21, 22, 23, 24, 25, 26, 27, 28, 29, 30, 31, 32, 33, 34, 35, 36, 37, 38, 39, 40, 41, 42, 43, 44, 45, 46, 47, 48, 49, 50, 51, 52, 53, 54, 55, 56, 57, 58, 59, 60, 61, 62, 63, 64, 65, 66, 67, 68, 69, 70, 71, 72, 73, 74, 75, 76] [0] rfl rfl (by decide) (by decide) hk1 hFc hP1 hD1
    refine vx_widen (k := r.2.2.1) (n := r.2.2.2) (Nat.le_of_eq (Nat.zero_add _)) (Nat.le_of_eq (Nat.zero_add _)) ?_
    rcases hcode with h00 | h01 | h02
    · exact absurd h00 hne
    · rw [h01] at hcl
      refine vx_catch (E := "java/lang/IndexOutOfBoundsException") (name := "java/lang/IndexOutOfBoundsException") hown [] (⟨0, 10, 13, 37⟩ : ExceptionTableEntry) [(⟨0, 10, 17, 25⟩ : ExceptionTableEntry)] (by rw [hTb]; rfl) (fun z h => absurd h List.not_mem_nil) (by decide) (by decide) (hts _ (List.mem_cons_of_mem _ (List.mem_append_left _ (List.mem_append_left _ (List.mem_of_getElem? (i := 4) rfl))))) (va_Nw.use (by decide +kernel) (hT.2.2.1 _ (List.mem_of_getElem? (i := 2) rfl))) hce hcv hcl ?_
      refine lv_astore (lv' := [(4, .ref q9), (0, .ref (a 75)), (1, .int v1), (2, .int v2), (3, .ref q0)]) hx hb dL_seen_13 hl (by decide) rfl (fun ls hl => ?_)
      refine lv_iconst (v := 1) hx hb dL_seen_15 (by decide) ?_
      have hP : va_P (dC, dI) nCl (vW cy a u r.2.1 q0 (wo w r.1.1 r.1.2)) H1 := by rw [show wo w r.1.1 r.1.2 = w from if_neg hne]; exact hP
      have hD : va_D A (vW cy a u r.2.1 q0 (wo w r.1.1 r.1.2)) := by rw [show wo w r.1.1 r.1.2 = w from if_neg hne]; exact hD
      exact W.iret (v := 1) hx hb hr (fun t ht hW => ⟨⟨1, u, rfl, ⟨by rw [h01]; decide, hz⟩, by rw [ht]; exact hP, va_K.moved hW.alike hK, hD⟩, hS.F ht⟩) hS.2.2 dL_seen_16
    · rw [h02] at hcl
      refine vx_catch (E := "java/lang/IllegalStateException") (name := "java/lang/IllegalStateException") hown [(⟨0, 10, 13, 37⟩ : ExceptionTableEntry)] (⟨0, 10, 17, 25⟩ : ExceptionTableEntry) [] (by rw [hTb]; rfl) (fun z h => by rw [List.mem_singleton] at h; subst h; exact Or.inr ⟨by decide, "java/lang/IndexOutOfBoundsException", (hts _ (List.mem_cons_of_mem _ (List.mem_append_left _ (List.mem_append_left _ (List.mem_of_getElem? (i := 4) rfl))))), hT.2.2.2⟩) (by decide) (by decide) (hts _ (List.mem_cons_of_mem _ (List.mem_append_left _ (List.mem_append_left _ (List.mem_of_getElem? (i := 5) rfl))))) (va_Nw.use (by decide +kernel) (hT.2.2.1 _ (List.mem_of_getElem? (i := 0) rfl))) hce hcv hcl ?_
      refine lv_astore (lv' := [(4, .ref q9), (0, .ref (a 75)), (1, .int v1), (2, .int v2), (3, .ref q0)]) hx hb dL_seen_17 hl (by decide) rfl (fun ls hl => ?_)
      refine lv_iconst (v := 2) hx hb dL_seen_19 (by decide) ?_
      have hP : va_P (dC, dI) nCl (vW cy a u r.2.1 q0 (wo w r.1.1 r.1.2)) H1 := by rw [show wo w r.1.1 r.1.2 = w from if_neg hne]; exact hP
      have hD : va_D A (vW cy a u r.2.1 q0 (wo w r.1.1 r.1.2)) := by rw [show wo w r.1.1 r.1.2 = w from if_neg hne]; exact hD
      exact W.iret (v := 2) hx hb hr (fun t ht hW => ⟨⟨2, u, rfl, ⟨by rw [h02]; decide, hz⟩, by rw [ht]; exact hP, va_K.moved hW.alike hK, hD⟩, hS.F ht⟩) hS.2.2 dL_seen_20
  · obtain ⟨⟨h00, hxx⟩, hz⟩ := hw
    subst hxx
    obtain ⟨hP1, hK1, hD1⟩ := hB
    rw [ht] at hP1
    obtain ⟨hP, hD⟩ := va_join (wr := [(q0, .inl (cy 2, 1, .inr (.inl w)))]) (w1 := vC cy a u r.2.1) hP hD [1, 2, 3, 4, 5, 6, 7, 8, 9, 10, 11, 12, 13, 14, 15, 16, 17, 18, 19, 20, 21, 22, 23, 24, 25, 26, 27, 28, 29, 30, 31, 32, 33, 34, 35, 36, 37, 38, 39, 40, 41, 42, 43, 44, 45, 46, 47, 48, 49, 50, 51, 52, 53, 54, 55, 56, 57, 58, 59, 60, 61, 62, 63, 64, 65, 66, 67, 68, 69, 70, 71, 72, 73, 74, 75, 76] [0] rfl rfl (by decide) (by decide) hk1 hFc hP1 hD1
    refine W.widen (k := r.2.2.1) (n := r.2.2.2) (Nat.le_of_eq (Nat.zero_add _)) (Nat.le_of_eq (Nat.zero_add _)) ?_
    refine lv_i2l (v := r.1.2.toInt64) hx hb dL_seen_8 rfl ?_
    refine va_last hx hb hK hP hD hS 0 2 rfl rfl (nb_in (by decide)) dL_seen_9 (fun H locs hP hD hS => ?_)
    have hP : va_P (dC, dI) nCl (vW cy a u r.2.1 q0 (wo w r.1.1 r.1.2)) H := by rw [show wo w r.1.1 r.1.2 = vp_updL w 0 r.1.2.toInt64 from if_pos h00]; exact hP
    have hD : va_D A (vW cy a u r.2.1 q0 (wo w r.1.1 r.1.2)) := by rw [show wo w r.1.1 r.1.2 = vp_updL w 0 r.1.2.toInt64 from if_pos h00]; exact hD
    refine lv_goto (tgt := 21) hx hb dL_seen_10 (by decide) ?_
    refine lv_iconst (v := 0) hx hb dL_seen_21 (by decide) ?_
    exact W.iret (v := 0) hx hb hr (fun t ht hW => ⟨⟨0, u, rfl, ⟨by rw [h00]; decide, hz⟩, by rw [ht]; exact hP, va_K.moved hW.alike hK, hD⟩, hS.F ht⟩) hS.2.2 dL_seen_22
/-! shown -/
def o_w_shown : List Cond := [.methodLink RL 59 yX11_shown, .instanceMethod yX11_shown, .selects RX11 yX11_shown yX11_shown, .initialized RX11, .classLink RL 37 "java/lang/IndexOutOfBoundsException"]
theorem o_w_shown_good : o_w_shown.all goodWord = true := by decide +kernel
def p_w_shown : List Cond := o_w_shown ++ ((.code yX11_shown cX11_shown 2 (some .int) :: p_f_X11_shown) ++ [])
theorem p_w_shown_good : p_w_shown.all goodWord = true := nb_all2 o_w_shown_good (nb_all2 (nb_allc (by decide +kernel) p_f_X11_shown_good) rfl)
def w_w_shown : List Cond := .codeWith yL_shown cL_shown 4 (some .int) [(0, 9, 12, 37)] :: (p_w_shown ++ fC)
theorem w_w_shown_good : w_w_shown.all goodWord = true := nb_allc (by decide +kernel) (nb_all2 p_w_shown_good fC_good)
theorem gg_w_shown : GoodIn w_w_shown w_f_X11_shown := goodIn_sub (fun w h => (List.mem_cons.mp h).elim (fun e => (List.mem_cons_of_mem _ (List.mem_append_left _ (List.mem_append_right _ (List.mem_append_left _ (List.mem_cons.mpr (Or.inl e))))))) (fun h => (List.mem_append.mp h).elim (fun h => (List.mem_cons_of_mem _ (List.mem_append_left _ (List.mem_append_right _ (List.mem_append_left _ (List.mem_cons_of_mem _ h)))))) (fun h => List.mem_cons_of_mem _ (List.mem_append_right _ h)))) w_f_X11_shown_good
theorem g_w_shown : GoodIn w_w_shown (wsV RL 59 RX11 yX11_shown w_f_X11_shown) := goodIn_app (nb_g4 (List.mem_cons_of_mem _ (List.mem_append_left _ (List.mem_append_left _ (List.mem_of_getElem? (i := 0) rfl)))) (List.mem_cons_of_mem _ (List.mem_append_left _ (List.mem_append_left _ (List.mem_of_getElem? (i := 1) rfl)))) (List.mem_cons_of_mem _ (List.mem_append_left _ (List.mem_append_left _ (List.mem_of_getElem? (i := 2) rfl)))) (List.mem_cons_of_mem _ (List.mem_append_left _ (List.mem_append_left _ (List.mem_of_getElem? (i := 3) rfl)))) (by decide +kernel)) gg_w_shown
set_option maxHeartbeats 40000000 in
set_option maxRecDepth 100000 in
theorem c_w_shown (l : Launch) (hl0 : l.stackTraces = false) (dC : Nat → ClassId) (dI : Nat → Nat → Nat) (cy : Nat → ClassId) (ek a : Nat → Nat) (k0 : Nat) (v1 : Int32) (σ : CS) (q0 : Nat) (w : Nat → Int64) (r : RS) (h0 : f_X11_shown k0 0 (lI lZ 1 v1) σ = some r) (hcode : r.1.1 = 0 ∨ r.1.1 = 3) (z : Nat → Nat) (sz : Nat) : Met l yL_shown w_w_shown ({ frames := 7, cells := r.2.2.1, slots := r.2.2.2, locals := 121 }) (va_Pc [.ref (a 75), .int v1, .ref q0] (nInX (dC, dI) cy ek sz (vW cy a z σ q0 w))) (va_Qi (fun (x : Int32) (u : Nat → Nat) => x = wv 3 1 1 r.1.1 ∧ zk [] z u) (fun u t => nOut (dC, dI) cy (va_A (vW cy a z σ q0 w) sz) (vW cy a u r.2.1 q0 (wo w r.1.1 r.1.2)) t) (va_A (vW cy a z σ q0 w) sz)) r.2.2.1 r.2.2.2 (va_A (vW cy a z σ q0 w) sz) := by
  refine nb_ofWH (cc := cL_shown) (maxL := 4) (ret := (some .int)) (by decide) rfl ?_
  intro p e s m args below meth c s₁ B hml hv
  obtain ⟨rfl, ⟨⟨⟨hsz, hP, hK, hD0, hG⟩, hE⟩, hT⟩, hX⟩ := hv
  have hx := B.exec
  have hb := B.bytes
  have hr := B.returns
  have hts := atoms_spec (ws := w_w_shown) B.pre
  have hown : s.vm.findClass RL = some m.cls := findClass_of_methodNamed B.named
  have hTb : c.exceptionTable.toList = tableOf [(0, 9, 12, 37)] := vx_table (x := yL_shown) B (hts _ List.mem_cons_self)
  have hlocks := B.notSynchronized
  subst hsz
  have hD := hD0.self (sz := s.heap.size)
  generalize hAe : va_A (vW cy a z σ q0 w) s.heap.size = A at hD hE hT ⊢
  have hA : ∀ q : Nat, s.heap.size ≤ q → A q := fun q h => by rw [← hAe]; exact Or.inr h
  have hS : va_S A s.heap s.heap [] := va_S.rf
  have hl := lv_entry ([.ref (a 75), .int v1, .ref q0]) (n := 4) (Nat.le_of_ble_eq_true rfl)
  rw [lg_entry_eq]
  generalize (lg_sl ([.ref (a 75), .int v1, .ref q0]) ++ List.replicate (4 - (lg_sl ([.ref (a 75), .int v1, .ref q0])).length) Slot.unset).toArray = ls at hl ⊢
  have hl : lv_has ls 4 [(0, .ref (a 75)), (1, .int v1), (2, .ref q0)] := hl
  refine lv_aload_n hx hb dL_shown_0 rfl (lv_at hl 2 rfl) ?_
  refine lv_iconst (v := 0) hx hb dL_shown_1 (by decide) ?_
  refine lv_aload_n hx hb dL_shown_2 rfl (lv_at hl 0 rfl) ?_
  refine lv_iload_n hx hb dL_shown_3 rfl (lv_at hl 1 rfl) ?_
  have hPc := hP.sub (ws' := vC cy a z σ) [1, 2, 3, 4, 5, 6, 7, 8, 9, 10, 11, 12, 13, 14, 15, 16, 17, 18, 19, 20, 21, 22, 23, 24, 25, 26, 27, 28, 29, 30, 31, 32, 33, 34, 35, 36, 37, 38, 39, 40, 41, 42, 43, 44, 45, 46, 47, 48, 49, 50, 51, 52, 53, 54, 55, 56, 57, 58, 59, 60, 61, 62, 63, 64, 65, 66, 67, 68, 69, 70, 71, 72, 73, 74, 75, 76] rfl
  have hDc := hD.sub (ws' := vC cy a z σ) [1, 2, 3, 4, 5, 6, 7, 8, 9, 10, 11, 12, 13, 14, 15, 16, 17, 18, 19, 20, 21, 22, 23, 24, 25, 26, 27, 28, 29, 30, 31, 32, 33, 34, 35, 36, 37, 38, 39, 40, 41, 42, 43, 44, 45, 46, 47, 48, 49, 50, 51, 52, 53, 54, 55, 56, 57, 58, 59, 60, 61, 62, 63, 64, 65, 66, 67, 68, 69, 70, 71, 72, 73, 74, 75, 76] (by decide) rfl
  have hFc := va_free (wc := vC cy a z σ) hD hS hA [1, 2, 3, 4, 5, 6, 7, 8, 9, 10, 11, 12, 13, 14, 15, 16, 17, 18, 19, 20, 21, 22, 23, 24, 25, 26, 27, 28, 29, 30, 31, 32, 33, 34, 35, 36, 37, 38, 39, 40, 41, 42, 43, 44, 45, 46, 47, 48, 49, 50, 51, 52, 53, 54, 55, 56, 57, 58, 59, 60, 61, 62, 63, 64, 65, 66, 67, 68, 69, 70, 71, 72, 73, 74, 75, 76] rfl
  refine vx_calli (vx_runV (As := [.int v1]) (rest := [.int 0, .ref q0]) ⟨hx, hb, hml, hown, hts⟩ (c_f_X11_shown l hl0 dC dI cy ek a k0 (lI lZ 1 v1) σ r h0 z s.heap.size) (cwV 1 hts g_w_shown rfl rfl rfl hd_f_X11_shown ⟨Nat.le_of_ble_eq_true rfl, Nat.le_of_ble_eq_true rfl⟩) ⟨nb_blindF, va_recv hK hPc (ci := 10) (q0 := 75) rfl rfl, fun U hU hW => ⟨rfl, ⟨⟨by rw [hU], by rw [hU]; exact hPc, va_K.moved hW.alike hK, hDc.weaken (fun _ _ _ _ => trivial), hG.warm hW⟩, nE.to hE hS hW hU hFc⟩, nT.to hT hS hW hU hFc⟩⟩ rfl rfl hl.1 rfl (lv_room (Nat.le_of_ble_eq_true rfl)) dL_shown_4 ⟨Nat.le_of_eq (Nat.zero_add _), Nat.le_of_eq (Nat.zero_add _)⟩) hS (fun q _ h => hFc q h) hFc (fun q _ h => hFc q h) (fun E ce q9 u t H1 locs1 ht hvm hp hB hz1 hk1 hS hce hcv hcl => ?_) (fun x u t H1 locs1 ht hvm hw hB hz1 hk1 hS => ?_)
  · obtain ⟨hne, hz⟩ := hp
    obtain ⟨hE0, hP1, hK1, hD1⟩ := hB
    subst hE0
    rw [ht] at hP1
    obtain ⟨hP, hD⟩ := va_join (wr := [(q0, .inl (cy 2, 1, .inr (.inl w)))]) (w1 := vC cy a u r.2.1) hP hD [1, 2, 3, 4, 5, 6, 7, 8, 9, 10, 11, 12, 13, 14, 15, 16, 17, 18, 19, 20, 21, 22, 23, 24, 25, 26, 27, 28, 29, 30, 31, 32, 33, 34, 35, 36, 37, 38, 39, 40, 41, 42, 43, 44, 45, 46, 47, 48, 49, 50, 51, 52, 53, 54, 55, 56, 57, 58, 59, 60, 61, 62, 63, 64, 65, 66, 67, 68, 69, 70, 71, 72, 73, 74, 75, 76] [0] rfl rfl (by decide) (by decide) hk1 hFc hP1 hD1
    refine vx_widen (k := r.2.2.1) (n := r.2.2.2) (Nat.le_of_eq (Nat.zero_add _)) (Nat.le_of_eq (Nat.zero_add _)) ?_
    rcases hcode with h00 | h01
    · exact absurd h00 hne
    · rw [h01] at hcl
      refine vx_catch (E := "java/lang/IndexOutOfBoundsException") (name := "java/lang/IndexOutOfBoundsException") hown [] (⟨0, 9, 12, 37⟩ : ExceptionTableEntry) [] (by rw [hTb]; rfl) (fun z h => absurd h List.not_mem_nil) (by decide) (by decide) (hts _ (List.mem_cons_of_mem _ (List.mem_append_left _ (List.mem_append_left _ (List.mem_of_getElem? (i := 4) rfl))))) (va_Nw.use (by decide +kernel) (hT.2.2.1 _ (List.mem_of_getElem? (i := 2) rfl))) hce hcv hcl ?_
      refine lv_astore_n (lv' := [(3, .ref q9), (0, .ref (a 75)), (1, .int v1), (2, .ref q0)]) hx hb dL_shown_12 rfl hl (by decide) rfl (fun ls hl => ?_)
      refine lv_iconst (v := 1) hx hb dL_shown_13 (by decide) ?_
      have hP : va_P (dC, dI) nCl (vW cy a u r.2.1 q0 (wo w r.1.1 r.1.2)) H1 := by rw [show wo w r.1.1 r.1.2 = w from if_neg hne]; exact hP
      have hD : va_D A (vW cy a u r.2.1 q0 (wo w r.1.1 r.1.2)) := by rw [show wo w r.1.1 r.1.2 = w from if_neg hne]; exact hD
      exact W.iret (v := 1) hx hb hr (fun t ht hW => ⟨⟨1, u, rfl, ⟨by rw [h01]; decide, hz⟩, by rw [ht]; exact hP, va_K.moved hW.alike hK, hD⟩, hS.F ht⟩) hS.2.2 dL_shown_14
  · obtain ⟨⟨h00, hxx⟩, hz⟩ := hw
    subst hxx
    obtain ⟨hP1, hK1, hD1⟩ := hB
    rw [ht] at hP1
    obtain ⟨hP, hD⟩ := va_join (wr := [(q0, .inl (cy 2, 1, .inr (.inl w)))]) (w1 := vC cy a u r.2.1) hP hD [1, 2, 3, 4, 5, 6, 7, 8, 9, 10, 11, 12, 13, 14, 15, 16, 17, 18, 19, 20, 21, 22, 23, 24, 25, 26, 27, 28, 29, 30, 31, 32, 33, 34, 35, 36, 37, 38, 39, 40, 41, 42, 43, 44, 45, 46, 47, 48, 49, 50, 51, 52, 53, 54, 55, 56, 57, 58, 59, 60, 61, 62, 63, 64, 65, 66, 67, 68, 69, 70, 71, 72, 73, 74, 75, 76] [0] rfl rfl (by decide) (by decide) hk1 hFc hP1 hD1
    refine W.widen (k := r.2.2.1) (n := r.2.2.2) (Nat.le_of_eq (Nat.zero_add _)) (Nat.le_of_eq (Nat.zero_add _)) ?_
    refine lv_i2l (v := r.1.2.toInt64) hx hb dL_shown_7 rfl ?_
    refine va_last hx hb hK hP hD hS 0 2 rfl rfl (nb_in (by decide)) dL_shown_8 (fun H locs hP hD hS => ?_)
    have hP : va_P (dC, dI) nCl (vW cy a u r.2.1 q0 (wo w r.1.1 r.1.2)) H := by rw [show wo w r.1.1 r.1.2 = vp_updL w 0 r.1.2.toInt64 from if_pos h00]; exact hP
    have hD : va_D A (vW cy a u r.2.1 q0 (wo w r.1.1 r.1.2)) := by rw [show wo w r.1.1 r.1.2 = vp_updL w 0 r.1.2.toInt64 from if_pos h00]; exact hD
    refine lv_goto (tgt := 15) hx hb dL_shown_9 (by decide) ?_
    refine lv_iconst (v := 0) hx hb dL_shown_15 (by decide) ?_
    exact W.iret (v := 0) hx hb hr (fun t ht hW => ⟨⟨0, u, rfl, ⟨by rw [h00]; decide, hz⟩, by rw [ht]; exact hP, va_K.moved hW.alike hK, hD⟩, hS.F ht⟩) hS.2.2 dL_shown_16
/-! shape -/
def o_w_shape : List Cond := [.methodLink RL 62 yX11_shape, .instanceMethod yX11_shape, .selects RX11 yX11_shape yX11_shape, .initialized RX11, .classLink RL 37 "java/lang/IndexOutOfBoundsException"]
theorem o_w_shape_good : o_w_shape.all goodWord = true := by decide +kernel
def p_w_shape : List Cond := o_w_shape ++ ((.code yX11_shape cX11_shape 4 (some .int) :: p_f_X11_shape) ++ [])
theorem p_w_shape_good : p_w_shape.all goodWord = true := nb_all2 o_w_shape_good (nb_all2 (nb_allc (by decide +kernel) p_f_X11_shape_good) rfl)
def w_w_shape : List Cond := .codeWith yL_shape cL_shape 4 (some .int) [(0, 9, 12, 37)] :: (p_w_shape ++ fC)
theorem w_w_shape_good : w_w_shape.all goodWord = true := nb_allc (by decide +kernel) (nb_all2 p_w_shape_good fC_good)
theorem gg_w_shape : GoodIn w_w_shape w_f_X11_shape := goodIn_sub (fun w h => (List.mem_cons.mp h).elim (fun e => (List.mem_cons_of_mem _ (List.mem_append_left _ (List.mem_append_right _ (List.mem_append_left _ (List.mem_cons.mpr (Or.inl e))))))) (fun h => (List.mem_append.mp h).elim (fun h => (List.mem_cons_of_mem _ (List.mem_append_left _ (List.mem_append_right _ (List.mem_append_left _ (List.mem_cons_of_mem _ h)))))) (fun h => List.mem_cons_of_mem _ (List.mem_append_right _ h)))) w_f_X11_shape_good
theorem g_w_shape : GoodIn w_w_shape (wsV RL 62 RX11 yX11_shape w_f_X11_shape) := goodIn_app (nb_g4 (List.mem_cons_of_mem _ (List.mem_append_left _ (List.mem_append_left _ (List.mem_of_getElem? (i := 0) rfl)))) (List.mem_cons_of_mem _ (List.mem_append_left _ (List.mem_append_left _ (List.mem_of_getElem? (i := 1) rfl)))) (List.mem_cons_of_mem _ (List.mem_append_left _ (List.mem_append_left _ (List.mem_of_getElem? (i := 2) rfl)))) (List.mem_cons_of_mem _ (List.mem_append_left _ (List.mem_append_left _ (List.mem_of_getElem? (i := 3) rfl)))) (by decide +kernel)) gg_w_shape
set_option maxHeartbeats 40000000 in
set_option maxRecDepth 100000 in
theorem c_w_shape (l : Launch) (hl0 : l.stackTraces = false) (dC : Nat → ClassId) (dI : Nat → Nat → Nat) (cy : Nat → ClassId) (ek a : Nat → Nat) (k0 : Nat) (v1 : Int32) (σ : CS) (q0 : Nat) (w : Nat → Int64) (r : RS) (h0 : f_X11_shape k0 0 (lI lZ 1 v1) σ = some r) (hcode : r.1.1 = 0 ∨ r.1.1 = 3) (z : Nat → Nat) (sz : Nat) : Met l yL_shape w_w_shape ({ frames := 7, cells := r.2.2.1, slots := r.2.2.2, locals := 123 }) (va_Pc [.ref (a 75), .int v1, .ref q0] (nInX (dC, dI) cy ek sz (vW cy a z σ q0 w))) (va_Qi (fun (x : Int32) (u : Nat → Nat) => x = wv 3 1 1 r.1.1 ∧ zk [] z u) (fun u t => nOut (dC, dI) cy (va_A (vW cy a z σ q0 w) sz) (vW cy a u r.2.1 q0 (wo w r.1.1 r.1.2)) t) (va_A (vW cy a z σ q0 w) sz)) r.2.2.1 r.2.2.2 (va_A (vW cy a z σ q0 w) sz) := by
  refine nb_ofWH (cc := cL_shape) (maxL := 4) (ret := (some .int)) (by decide) rfl ?_
  intro p e s m args below meth c s₁ B hml hv
  obtain ⟨rfl, ⟨⟨⟨hsz, hP, hK, hD0, hG⟩, hE⟩, hT⟩, hX⟩ := hv
  have hx := B.exec
  have hb := B.bytes
  have hr := B.returns
  have hts := atoms_spec (ws := w_w_shape) B.pre
  have hown : s.vm.findClass RL = some m.cls := findClass_of_methodNamed B.named
  have hTb : c.exceptionTable.toList = tableOf [(0, 9, 12, 37)] := vx_table (x := yL_shape) B (hts _ List.mem_cons_self)
  have hlocks := B.notSynchronized
  subst hsz
  have hD := hD0.self (sz := s.heap.size)
  generalize hAe : va_A (vW cy a z σ q0 w) s.heap.size = A at hD hE hT ⊢
  have hA : ∀ q : Nat, s.heap.size ≤ q → A q := fun q h => by rw [← hAe]; exact Or.inr h
  have hS : va_S A s.heap s.heap [] := va_S.rf
  have hl := lv_entry ([.ref (a 75), .int v1, .ref q0]) (n := 4) (Nat.le_of_ble_eq_true rfl)
  rw [lg_entry_eq]
  generalize (lg_sl ([.ref (a 75), .int v1, .ref q0]) ++ List.replicate (4 - (lg_sl ([.ref (a 75), .int v1, .ref q0])).length) Slot.unset).toArray = ls at hl ⊢
  have hl : lv_has ls 4 [(0, .ref (a 75)), (1, .int v1), (2, .ref q0)] := hl
  refine lv_aload_n hx hb dL_shape_0 rfl (lv_at hl 2 rfl) ?_
  refine lv_iconst (v := 0) hx hb dL_shape_1 (by decide) ?_
  refine lv_aload_n hx hb dL_shape_2 rfl (lv_at hl 0 rfl) ?_
  refine lv_iload_n hx hb dL_shape_3 rfl (lv_at hl 1 rfl) ?_
  have hPc := hP.sub (ws' := vC cy a z σ) [1, 2, 3, 4, 5, 6, 7, 8, 9, 10, 11, 12, 13, 14, 15, 16, 17, 18, 19, 20, 21, 22, 23, 24, 25, 26, 27, 28, 29, 30, 31, 32, 33, 34, 35, 36, 37, 38, 39, 40, 41, 42, 43, 44, 45, 46, 47, 48, 49, 50, 51, 52, 53, 54, 55, 56, 57, 58, 59, 60, 61, 62, 63, 64, 65, 66, 67, 68, 69, 70, 71, 72, 73, 74, 75, 76] rfl
  have hDc := hD.sub (ws' := vC cy a z σ) [1, 2, 3, 4, 5, 6, 7, 8, 9, 10, 11, 12, 13, 14, 15, 16, 17, 18, 19, 20, 21, 22, 23, 24, 25, 26, 27, 28, 29, 30, 31, 32, 33, 34, 35, 36, 37, 38, 39, 40, 41, 42, 43, 44, 45, 46, 47, 48, 49, 50, 51, 52, 53, 54, 55, 56, 57, 58, 59, 60, 61, 62, 63, 64, 65, 66, 67, 68, 69, 70, 71, 72, 73, 74, 75, 76] (by decide) rfl
  have hFc := va_free (wc := vC cy a z σ) hD hS hA [1, 2, 3, 4, 5, 6, 7, 8, 9, 10, 11, 12, 13, 14, 15, 16, 17, 18, 19, 20, 21, 22, 23, 24, 25, 26, 27, 28, 29, 30, 31, 32, 33, 34, 35, 36, 37, 38, 39, 40, 41, 42, 43, 44, 45, 46, 47, 48, 49, 50, 51, 52, 53, 54, 55, 56, 57, 58, 59, 60, 61, 62, 63, 64, 65, 66, 67, 68, 69, 70, 71, 72, 73, 74, 75, 76] rfl
  refine vx_calli (vx_runV (As := [.int v1]) (rest := [.int 0, .ref q0]) ⟨hx, hb, hml, hown, hts⟩ (c_f_X11_shape l hl0 dC dI cy ek a k0 (lI lZ 1 v1) σ r h0 z s.heap.size) (cwV 1 hts g_w_shape rfl rfl rfl hd_f_X11_shape ⟨Nat.le_of_ble_eq_true rfl, Nat.le_of_ble_eq_true rfl⟩) ⟨nb_blindF, va_recv hK hPc (ci := 10) (q0 := 75) rfl rfl, fun U hU hW => ⟨rfl, ⟨⟨by rw [hU], by rw [hU]; exact hPc, va_K.moved hW.alike hK, hDc.weaken (fun _ _ _ _ => trivial), hG.warm hW⟩, nE.to hE hS hW hU hFc⟩, nT.to hT hS hW hU hFc⟩⟩ rfl rfl hl.1 rfl (lv_room (Nat.le_of_ble_eq_true rfl)) dL_shape_4 ⟨Nat.le_of_eq (Nat.zero_add _), Nat.le_of_eq (Nat.zero_add _)⟩) hS (fun q _ h => hFc q h) hFc (fun q _ h => hFc q h) (fun E ce q9 u t H1 locs1 ht hvm hp hB hz1 hk1 hS hce hcv hcl => ?_) (fun x u t H1 locs1 ht hvm hw hB hz1 hk1 hS => ?_)
  · obtain ⟨hne, hz⟩ := hp
    obtain ⟨hE0, hP1, hK1, hD1⟩ := hB
    subst hE0
    rw [ht] at hP1
    obtain ⟨hP, hD⟩ := va_join (wr := [(q0, .inl (cy 2, 1, .inr (.inl w)))]) (w1 := vC cy a u r.2.1) hP hD [1, 2, 3, 4, 5, 6, 7, 8, 9, 10, 11, 12, 13, 14, 15, 16, 17, 18, 19, 20, 21, 22, 23, 24, 25, 26, 27, 28, 29, 30, 31, 32, 33, 34, 35, 36, 37, 38, 39, 40, 41, 42, 43, 44, 45, 46, 47, 48, 49, 50, 51, 52, 53, 54, 55, 56, 57, 58, 59, 60, 61, 62, 63, 64, 65, 66, 67, 68, 69, 70, 71, 72, 73, 74, 75, 76] [0] rfl rfl (by decide) (by decide) hk1 hFc hP1 hD1
    refine vx_widen (k := r.2.2.1) (n := r.2.2.2) (Nat.le_of_eq (Nat.zero_add _)) (Nat.le_of_eq (Nat.zero_add _)) ?_
    rcases hcode with h00 | h01
    · exact absurd h00 hne
    · rw [h01] at hcl
      refine vx_catch (E := "java/lang/IndexOutOfBoundsException") (name := "java/lang/IndexOutOfBoundsException") hown [] (⟨0, 9, 12, 37⟩ : ExceptionTableEntry) [] (by rw [hTb]; rfl) (fun z h => absurd h List.not_mem_nil) (by decide) (by decide) (hts _ (List.mem_cons_of_mem _ (List.mem_append_left _ (List.mem_append_left _ (List.mem_of_getElem? (i := 4) rfl))))) (va_Nw.use (by decide +kernel) (hT.2.2.1 _ (List.mem_of_getElem? (i := 2) rfl))) hce hcv hcl ?_
      refine lv_astore_n (lv' := [(3, .ref q9), (0, .ref (a 75)), (1, .int v1), (2, .ref q0)]) hx hb dL_shape_12 rfl hl (by decide) rfl (fun ls hl => ?_)
      refine lv_iconst (v := 1) hx hb dL_shape_13 (by decide) ?_
      have hP : va_P (dC, dI) nCl (vW cy a u r.2.1 q0 (wo w r.1.1 r.1.2)) H1 := by rw [show wo w r.1.1 r.1.2 = w from if_neg hne]; exact hP
      have hD : va_D A (vW cy a u r.2.1 q0 (wo w r.1.1 r.1.2)) := by rw [show wo w r.1.1 r.1.2 = w from if_neg hne]; exact hD
      exact W.iret (v := 1) hx hb hr (fun t ht hW => ⟨⟨1, u, rfl, ⟨by rw [h01]; decide, hz⟩, by rw [ht]; exact hP, va_K.moved hW.alike hK, hD⟩, hS.F ht⟩) hS.2.2 dL_shape_14
  · obtain ⟨⟨h00, hxx⟩, hz⟩ := hw
    subst hxx
    obtain ⟨hP1, hK1, hD1⟩ := hB
    rw [ht] at hP1
    obtain ⟨hP, hD⟩ := va_join (wr := [(q0, .inl (cy 2, 1, .inr (.inl w)))]) (w1 := vC cy a u r.2.1) hP hD [1, 2, 3, 4, 5, 6, 7, 8, 9, 10, 11, 12, 13, 14, 15, 16, 17, 18, 19, 20, 21, 22, 23, 24, 25, 26, 27, 28, 29, 30, 31, 32, 33, 34, 35, 36, 37, 38, 39, 40, 41, 42, 43, 44, 45, 46, 47, 48, 49, 50, 51, 52, 53, 54, 55, 56, 57, 58, 59, 60, 61, 62, 63, 64, 65, 66, 67, 68, 69, 70, 71, 72, 73, 74, 75, 76] [0] rfl rfl (by decide) (by decide) hk1 hFc hP1 hD1
    refine W.widen (k := r.2.2.1) (n := r.2.2.2) (Nat.le_of_eq (Nat.zero_add _)) (Nat.le_of_eq (Nat.zero_add _)) ?_
    refine lv_i2l (v := r.1.2.toInt64) hx hb dL_shape_7 rfl ?_
    refine va_last hx hb hK hP hD hS 0 2 rfl rfl (nb_in (by decide)) dL_shape_8 (fun H locs hP hD hS => ?_)
    have hP : va_P (dC, dI) nCl (vW cy a u r.2.1 q0 (wo w r.1.1 r.1.2)) H := by rw [show wo w r.1.1 r.1.2 = vp_updL w 0 r.1.2.toInt64 from if_pos h00]; exact hP
    have hD : va_D A (vW cy a u r.2.1 q0 (wo w r.1.1 r.1.2)) := by rw [show wo w r.1.1 r.1.2 = vp_updL w 0 r.1.2.toInt64 from if_pos h00]; exact hD
    refine lv_goto (tgt := 15) hx hb dL_shape_9 (by decide) ?_
    refine lv_iconst (v := 0) hx hb dL_shape_15 (by decide) ?_
    exact W.iret (v := 0) hx hb hr (fun t ht hW => ⟨⟨0, u, rfl, ⟨by rw [h00]; decide, hz⟩, by rw [ht]; exact hP, va_K.moved hW.alike hK, hD⟩, hS.F ht⟩) hS.2.2 dL_shape_16
/-! count -/
def o_w_count : List Cond := [.methodLink RL 65 yX11_count, .instanceMethod yX11_count, .selects RX11 yX11_count yX11_count, .initialized RX11, .classLink RL 37 "java/lang/IndexOutOfBoundsException"]
theorem o_w_count_good : o_w_count.all goodWord = true := by decide +kernel
def p_w_count : List Cond := o_w_count ++ ((.code yX11_count cX11_count 2 (some .int) :: p_f_X11_count) ++ [])
theorem p_w_count_good : p_w_count.all goodWord = true := nb_all2 o_w_count_good (nb_all2 (nb_allc (by decide +kernel) p_f_X11_count_good) rfl)
def w_w_count : List Cond := .codeWith yL_count cL_count 4 (some .int) [(0, 9, 12, 37)] :: (p_w_count ++ fC)
theorem w_w_count_good : w_w_count.all goodWord = true := nb_allc (by decide +kernel) (nb_all2 p_w_count_good fC_good)
theorem gg_w_count : GoodIn w_w_count w_f_X11_count := goodIn_sub (fun w h => (List.mem_cons.mp h).elim (fun e => (List.mem_cons_of_mem _ (List.mem_append_left _ (List.mem_append_right _ (List.mem_append_left _ (List.mem_cons.mpr (Or.inl e))))))) (fun h => (List.mem_append.mp h).elim (fun h => (List.mem_cons_of_mem _ (List.mem_append_left _ (List.mem_append_right _ (List.mem_append_left _ (List.mem_cons_of_mem _ h)))))) (fun h => List.mem_cons_of_mem _ (List.mem_append_right _ h)))) w_f_X11_count_good
theorem g_w_count : GoodIn w_w_count (wsV RL 65 RX11 yX11_count w_f_X11_count) := goodIn_app (nb_g4 (List.mem_cons_of_mem _ (List.mem_append_left _ (List.mem_append_left _ (List.mem_of_getElem? (i := 0) rfl)))) (List.mem_cons_of_mem _ (List.mem_append_left _ (List.mem_append_left _ (List.mem_of_getElem? (i := 1) rfl)))) (List.mem_cons_of_mem _ (List.mem_append_left _ (List.mem_append_left _ (List.mem_of_getElem? (i := 2) rfl)))) (List.mem_cons_of_mem _ (List.mem_append_left _ (List.mem_append_left _ (List.mem_of_getElem? (i := 3) rfl)))) (by decide +kernel)) gg_w_count
set_option maxHeartbeats 40000000 in
set_option maxRecDepth 100000 in
theorem c_w_count (l : Launch) (hl0 : l.stackTraces = false) (dC : Nat → ClassId) (dI : Nat → Nat → Nat) (cy : Nat → ClassId) (ek a : Nat → Nat) (k0 : Nat) (v1 : Int32) (σ : CS) (q0 : Nat) (w : Nat → Int64) (r : RS) (h0 : f_X11_count k0 0 (lI lZ 1 v1) σ = some r) (hcode : r.1.1 = 0 ∨ r.1.1 = 3) (z : Nat → Nat) (sz : Nat) : Met l yL_count w_w_count ({ frames := 7, cells := r.2.2.1, slots := r.2.2.2, locals := 121 }) (va_Pc [.ref (a 75), .int v1, .ref q0] (nInX (dC, dI) cy ek sz (vW cy a z σ q0 w))) (va_Qi (fun (x : Int32) (u : Nat → Nat) => x = wv 3 1 1 r.1.1 ∧ zk [] z u) (fun u t => nOut (dC, dI) cy (va_A (vW cy a z σ q0 w) sz) (vW cy a u r.2.1 q0 (wo w r.1.1 r.1.2)) t) (va_A (vW cy a z σ q0 w) sz)) r.2.2.1 r.2.2.2 (va_A (vW cy a z σ q0 w) sz) := by
  refine nb_ofWH (cc := cL_count) (maxL := 4) (ret := (some .int)) (by decide) rfl ?_
  intro p e s m args below meth c s₁ B hml hv
  obtain ⟨rfl, ⟨⟨⟨hsz, hP, hK, hD0, hG⟩, hE⟩, hT⟩, hX⟩ := hv
  have hx := B.exec
  have hb := B.bytes
  have hr := B.returns
  have hts := atoms_spec (ws := w_w_count) B.pre
  have hown : s.vm.findClass RL = some m.cls := findClass_of_methodNamed B.named
  have hTb : c.exceptionTable.toList = tableOf [(0, 9, 12, 37)] := vx_table (x := yL_count) B (hts _ List.mem_cons_self)
  have hlocks := B.notSynchronized
  subst hsz
  have hD := hD0.self (sz := s.heap.size)
  generalize hAe : va_A (vW cy a z σ q0 w) s.heap.size = A at hD hE hT ⊢
  have hA : ∀ q : Nat, s.heap.size ≤ q → A q := fun q h => by rw [← hAe]; exact Or.inr h
  have hS : va_S A s.heap s.heap [] := va_S.rf
  have hl := lv_entry ([.ref (a 75), .int v1, .ref q0]) (n := 4) (Nat.le_of_ble_eq_true rfl)
  rw [lg_entry_eq]
  generalize (lg_sl ([.ref (a 75), .int v1, .ref q0]) ++ List.replicate (4 - (lg_sl ([.ref (a 75), .int v1, .ref q0])).length) Slot.unset).toArray = ls at hl ⊢
  have hl : lv_has ls 4 [(0, .ref (a 75)), (1, .int v1), (2, .ref q0)] := hl
  refine lv_aload_n hx hb dL_count_0 rfl (lv_at hl 2 rfl) ?_
  refine lv_iconst (v := 0) hx hb dL_count_1 (by decide) ?_
  refine lv_aload_n hx hb dL_count_2 rfl (lv_at hl 0 rfl) ?_
  refine lv_iload_n hx hb dL_count_3 rfl (lv_at hl 1 rfl) ?_
  have hPc := hP.sub (ws' := vC cy a z σ) [1, 2, 3, 4, 5, 6, 7, 8, 9, 10, 11, 12, 13, 14, 15, 16, 17, 18, 19, 20, 21, 22, 23, 24, 25, 26, 27, 28, 29, 30, 31, 32, 33, 34, 35, 36, 37, 38, 39, 40, 41, 42, 43, 44, 45, 46, 47, 48, 49, 50, 51, 52, 53, 54, 55, 56, 57, 58, 59, 60, 61, 62, 63, 64, 65, 66, 67, 68, 69, 70, 71, 72, 73, 74, 75, 76] rfl
  have hDc := hD.sub (ws' := vC cy a z σ) [1, 2, 3, 4, 5, 6, 7, 8, 9, 10, 11, 12, 13, 14, 15, 16, 17, 18, 19, 20, 21, 22, 23, 24, 25, 26, 27, 28, 29, 30, 31, 32, 33, 34, 35, 36, 37, 38, 39, 40, 41, 42, 43, 44, 45, 46, 47, 48, 49, 50, 51, 52, 53, 54, 55, 56, 57, 58, 59, 60, 61, 62, 63, 64, 65, 66, 67, 68, 69, 70, 71, 72, 73, 74, 75, 76] (by decide) rfl
  have hFc := va_free (wc := vC cy a z σ) hD hS hA [1, 2, 3, 4, 5, 6, 7, 8, 9, 10, 11, 12, 13, 14, 15, 16, 17, 18, 19, 20, 21, 22, 23, 24, 25, 26, 27, 28, 29, 30, 31, 32, 33, 34, 35, 36, 37, 38, 39, 40, 41, 42, 43, 44, 45, 46, 47, 48, 49, 50, 51, 52, 53, 54, 55, 56, 57, 58, 59, 60, 61, 62, 63, 64, 65, 66, 67, 68, 69, 70, 71, 72, 73, 74, 75, 76] rfl
  refine vx_calli (vx_runV (As := [.int v1]) (rest := [.int 0, .ref q0]) ⟨hx, hb, hml, hown, hts⟩ (c_f_X11_count l hl0 dC dI cy ek a k0 (lI lZ 1 v1) σ r h0 z s.heap.size) (cwV 1 hts g_w_count rfl rfl rfl hd_f_X11_count ⟨Nat.le_of_ble_eq_true rfl, Nat.le_of_ble_eq_true rfl⟩) ⟨nb_blindF, va_recv hK hPc (ci := 10) (q0 := 75) rfl rfl, fun U hU hW => ⟨rfl, ⟨⟨by rw [hU], by rw [hU]; exact hPc, va_K.moved hW.alike hK, hDc.weaken (fun _ _ _ _ => trivial), hG.warm hW⟩, nE.to hE hS hW hU hFc⟩, nT.to hT hS hW hU hFc⟩⟩ rfl rfl hl.1 rfl (lv_room (Nat.le_of_ble_eq_true rfl)) dL_count_4 ⟨Nat.le_of_eq (Nat.zero_add _), Nat.le_of_eq (Nat.zero_add _)⟩) hS (fun q _ h => hFc q h) hFc (fun q _ h => hFc q h) (fun E ce q9 u t H1 locs1 ht hvm hp hB hz1 hk1 hS hce hcv hcl => ?_) (fun x u t H1 locs1 ht hvm hw hB hz1 hk1 hS => ?_)
  · obtain ⟨hne, hz⟩ := hp
    obtain ⟨hE0, hP1, hK1, hD1⟩ := hB
    subst hE0
    rw [ht] at hP1
    obtain ⟨hP, hD⟩ := va_join (wr := [(q0, .inl (cy 2, 1, .inr (.inl w)))]) (w1 := vC cy a u r.2.1) hP hD [1, 2, 3, 4, 5, 6, 7, 8, 9, 10, 11, 12, 13, 14, 15, 16, 17, 18, 19, 20, 21, 22, 23, 24, 25, 26, 27, 28, 29, 30, 31, 32, 33, 34, 35, 36, 37, 38, 39, 40, 41, 42, 43, 44, 45, 46, 47, 48, 49, 50, 51, 52, 53, 54, 55, 56, 57, 58, 59, 60, 61, 62, 63, 64, 65, 66, 67, 68, 69, 70, 71, 72, 73, 74, 75, 76] [0] rfl rfl (by decide) (by decide) hk1 hFc hP1 hD1
    refine vx_widen (k := r.2.2.1) (n := r.2.2.2) (Nat.le_of_eq (Nat.zero_add _)) (Nat.le_of_eq (Nat.zero_add _)) ?_
    rcases hcode with h00 | h01
    · exact absurd h00 hne
    · rw [h01] at hcl
      refine vx_catch (E := "java/lang/IndexOutOfBoundsException") (name := "java/lang/IndexOutOfBoundsException") hown [] (⟨0, 9, 12, 37⟩ : ExceptionTableEntry) [] (by rw [hTb]; rfl) (fun z h => absurd h List.not_mem_nil) (by decide) (by decide) (hts _ (List.mem_cons_of_mem _ (List.mem_append_left _ (List.mem_append_left _ (List.mem_of_getElem? (i := 4) rfl))))) (va_Nw.use (by decide +kernel) (hT.2.2.1 _ (List.mem_of_getElem? (i := 2) rfl))) hce hcv hcl ?_
      refine lv_astore_n (lv' := [(3, .ref q9), (0, .ref (a 75)), (1, .int v1), (2, .ref q0)]) hx hb dL_count_12 rfl hl (by decide) rfl (fun ls hl => ?_)
      refine lv_iconst (v := 1) hx hb dL_count_13 (by decide) ?_
      have hP : va_P (dC, dI) nCl (vW cy a u r.2.1 q0 (wo w r.1.1 r.1.2)) H1 := by rw [show wo w r.1.1 r.1.2 = w from if_neg hne]; exact hP
      have hD : va_D A (vW cy a u r.2.1 q0 (wo w r.1.1 r.1.2)) := by rw [show wo w r.1.1 r.1.2 = w from if_neg hne]; exact hD
      exact W.iret (v := 1) hx hb hr (fun t ht hW => ⟨⟨1, u, rfl, ⟨by rw [h01]; decide, hz⟩, by rw [ht]; exact hP, va_K.moved hW.alike hK, hD⟩, hS.F ht⟩) hS.2.2 dL_count_14
  · obtain ⟨⟨h00, hxx⟩, hz⟩ := hw
    subst hxx
    obtain ⟨hP1, hK1, hD1⟩ := hB
    rw [ht] at hP1
    obtain ⟨hP, hD⟩ := va_join (wr := [(q0, .inl (cy 2, 1, .inr (.inl w)))]) (w1 := vC cy a u r.2.1) hP hD [1, 2, 3, 4, 5, 6, 7, 8, 9, 10, 11, 12, 13, 14, 15, 16, 17, 18, 19, 20, 21, 22, 23, 24, 25, 26, 27, 28, 29, 30, 31, 32, 33, 34, 35, 36, 37, 38, 39, 40, 41, 42, 43, 44, 45, 46, 47, 48, 49, 50, 51, 52, 53, 54, 55, 56, 57, 58, 59, 60, 61, 62, 63, 64, 65, 66, 67, 68, 69, 70, 71, 72, 73, 74, 75, 76] [0] rfl rfl (by decide) (by decide) hk1 hFc hP1 hD1
    refine W.widen (k := r.2.2.1) (n := r.2.2.2) (Nat.le_of_eq (Nat.zero_add _)) (Nat.le_of_eq (Nat.zero_add _)) ?_
    refine lv_i2l (v := r.1.2.toInt64) hx hb dL_count_7 rfl ?_
    refine va_last hx hb hK hP hD hS 0 2 rfl rfl (nb_in (by decide)) dL_count_8 (fun H locs hP hD hS => ?_)
    have hP : va_P (dC, dI) nCl (vW cy a u r.2.1 q0 (wo w r.1.1 r.1.2)) H := by rw [show wo w r.1.1 r.1.2 = vp_updL w 0 r.1.2.toInt64 from if_pos h00]; exact hP
    have hD : va_D A (vW cy a u r.2.1 q0 (wo w r.1.1 r.1.2)) := by rw [show wo w r.1.1 r.1.2 = vp_updL w 0 r.1.2.toInt64 from if_pos h00]; exact hD
    refine lv_goto (tgt := 15) hx hb dL_count_9 (by decide) ?_
    refine lv_iconst (v := 0) hx hb dL_count_15 (by decide) ?_
    exact W.iret (v := 0) hx hb hr (fun t ht hW => ⟨⟨0, u, rfl, ⟨by rw [h00]; decide, hz⟩, by rw [ht]; exact hP, va_K.moved hW.alike hK, hD⟩, hS.F ht⟩) hS.2.2 dL_count_16
